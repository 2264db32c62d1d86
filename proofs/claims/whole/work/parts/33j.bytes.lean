/-! ===== the tape keeps bytes ===== -/
theorem byT_0 : ByT (fun _ => 0) := fun _ => rfl
theorem byT_upd {b : Nat → Int32} (h : ByT b) (k : Nat) (x : Int32) : ByT (upd b k (vp_nar .byte x.toInt8.toInt32)) := fun i => by
  by_cases e : i = k
  · rw [e, upd_s, show vp_nar .byte x.toInt8.toInt32 = x.toInt8.toInt32.toInt8.toInt32 from rfl]
    simp
  · rw [upd_n e]; exact h i
theorem byT_put {n1 : Int32} : ∀ (m : Nat) (x2 : Int32) (tb b : Nat → Int32) (h h2 : Int32), ByT tb → f_X7_put_3 n1 m x2 tb h = some (b, h2) → ByT b := by
  intro m
  induction m with
  | zero => intro x2 tb b h h2 _ e; rw [f_X7_put_3] at e; cases e
  | succ m ih =>
    intro x2 tb b h h2 hb e
    rw [f_X7_put_3] at e
    by_cases h1 : x2 < 0
    · rw [if_pos h1] at e
      cases e
      exact hb
    · rw [if_neg h1] at e
      by_cases h3 : 600 ≤ h
      · rw [if_pos h3] at e
        cases e
        exact hb
      · rw [if_neg h3] at e
        by_cases h4 : ixb h 600 = true
        · rw [if_pos h4] at e
          exact ih _ _ _ _ _ (byT_upd hb _ _) e
        · rw [if_neg h4] at e
          cases e
theorem byT_feed {tb t2 : Nat → Int32} {h r h2 n1 n2 n3 n4 n5 : Int32} (hb : ByT tb) (e : f_X9_feed tb h n1 n2 n3 n4 n5 = some (r, t2, h2)) : ByT t2 := by
  unfold f_X9_feed f_X7_hasRoom f_X7_put at e
  have key : ∀ {n : Int32} {m : Nat} {x : Int32} {b : Nat → Int32} {g : Int32} {k : (Nat → Int32) → Int32 → Option (Int32 × (Nat → Int32) × Int32)}, ByT b → b2 (f_X7_put_3 n m x b g) k = some (r, t2, h2) → ∃ b' g', ByT b' ∧ k b' g' = some (r, t2, h2) := by
    intro n m x b g k hb e
    cases h9 : f_X7_put_3 n m x b g with
    | none => rw [h9] at e; cases e
    | some p => obtain ⟨b', g'⟩ := p; rw [h9, b2_s] at e; exact ⟨b', g', byT_put _ _ _ _ _ _ hb h9, e⟩
  by_cases h1 : 600 < h + 20
  · rw [if_pos h1, b1_s, if_pos rfl] at e
    cases e
    exact hb
  · rw [if_neg h1, b1_s, if_neg (by decide)] at e
    obtain ⟨b1', g1', hb1, e⟩ := key hb e
    obtain ⟨b2', g2', hb2, e⟩ := key hb1 e
    obtain ⟨b3', g3', hb3, e⟩ := key hb2 e
    obtain ⟨b4', g4', hb4, e⟩ := key hb3 e
    obtain ⟨b5', g5', hb5, e⟩ := key hb4 e
    cases e
    exact hb5

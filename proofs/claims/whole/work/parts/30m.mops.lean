/-- as loopR, where the end too may use what goes along -/
theorem loopQ {A C R : Type} {F : Nat → C → Int32 → Option R} {B : Nat} {step : Nat → A → A} {fin : C → Option R} {Q : Nat → A → C → Prop} (h0 : ∀ n a c, Q B a c → F (n + 1) c (nI B) = fin c) (h1 : ∀ n a c k, k < B → Q k a c → ∃ c', F (n + 1) c (nI k) = F n c' (nI (k + 1)) ∧ Q (k + 1) (step k a) c') : ∀ (d k n : Nat) (a : A) (c : C), k + d = B → d < n → Q k a c → ∃ c', F n c (nI k) = fin c' ∧ Q B (itN step d k a) c' := by
  intro d
  induction d with
  | zero =>
    intro k n a c hk hn hq
    obtain ⟨m, rfl⟩ : ∃ m, n = m + 1 := ⟨n - 1, by omega⟩
    obtain rfl : k = B := by omega
    exact ⟨c, h0 m a c hq, hq⟩
  | succ d ih =>
    intro k n a c hk hn hq
    obtain ⟨m, rfl⟩ : ∃ m, n = m + 1 := ⟨n - 1, by omega⟩
    obtain ⟨c', e1, q1⟩ := h1 m a c k (by omega) hq
    obtain ⟨c2, e2, q2⟩ := ih (k + 1) m _ c' (by omega) (by omega) q1
    exact ⟨c2, e1.trans e2, q2⟩
/-! ===== the model's row: a year goes by ===== -/
section MO
variable {π : Pg} {σ : Sg} {m_s m_bed m_letter m_reader : Nat → Int32} {m_beds m_letters m_readers : Int32}
theorem m_grows {rp : List Nat} {w : Nat} (h1 : m_s 160 = nI rp.length) (h2 : ∀ k, k < rp.length → m_s (100 + k) = nI (rp.getD k 0)) (h3 : rp.length ≤ 60) : ∃ m1, f_X10_grows m_s (nI w) = some m1 ∧ m1 160 = nI (oGrow rp w).length ∧ (∀ k, k < (oGrow rp w).length → m1 (100 + k) = nI ((oGrow rp w).getD k 0)) ∧ ∀ i, (i < 100 ∨ 160 < i) → m1 i = m_s i := by
  have g59 : ∀ (L : List Nat) (m : Nat → Int32), m 160 = nI L.length → (∀ k, k < L.length → m (100 + k) = nI (L.getD k 0)) → L.length < 60 → ∃ m1, f_X10_grows_59 (nI w) m = some m1 ∧ m1 160 = nI (L ++ [w]).length ∧ (∀ k, k < (L ++ [w]).length → m1 (100 + k) = nI ((L ++ [w]).getD k 0)) ∧ ∀ i, (i < 100 ∨ 160 < i) → m1 i = m i := by
    intro L m g1 g2 g3
    unfold f_X10_grows_59
    simp (disch := omega) only [lit, nI_add, ixb_nI, nI_cl, if_true, g1]
    rw [upd_n (show 160 ≠ 100 + L.length by omega), g1]
    simp (disch := omega) only [nI_add]
    refine ⟨_, rfl, by rw [upd_s, List.length_append]; rfl, fun k hk => ?_, fun i hi => ?_⟩
    · rw [List.length_append] at hk
      have hk' : k < L.length + 1 := hk
      rw [upd_n (show 100 + k ≠ 160 by omega)]
      by_cases e : k = L.length
      · subst e; rw [upd_s, getD_la]
      · rw [upd_n (by omega), getD_sn (by omega)]; exact g2 k (by omega)
    · rw [upd_n (by omega), upd_n (by omega)]
  unfold f_X10_grows
  simp (disch := omega) only [lit, ixb_nI, nI_cl, if_true, h1, nI_eqI]
  unfold oGrow
  by_cases h : rp.length = 60
  · rw [if_pos h, if_pos h]
    obtain ⟨m2, e2, q2⟩ := loopR (A := Unit) (C := Nat → Int32) (F := fun n c x => f_X10_grows_15 (nI w) n x c) (B := 60) (step := fun _ _ => ()) (fin := fun c => f_X10_grows_59 (nI w) (upd c 160 (c 160 - 1))) (Q := fun k _ c => 1 ≤ k ∧ ∀ i, c i = if 100 ≤ i ∧ i + 1 < 100 + k then m_s (i + 1) else m_s i) (fun n c => by
        show f_X10_grows_15 (nI w) (n + 1) (nI 60) c = _
        rw [f_X10_grows_15]; rfl) (fun n _ c k hk hq => by
        obtain ⟨k1, hq⟩ := hq
        refine ⟨upd c (100 + k - 1) (c (100 + k)), ?_, by omega, fun i => ?_⟩
        · show f_X10_grows_15 (nI w) (n + 1) (nI k) c = f_X10_grows_15 (nI w) n (nI (k + 1)) _
          rw [f_X10_grows_15]
          simp (disch := omega) only [lit, nI_leJ, nI_add, nI_sub, ixb_nI, nI_cl, if_true]
          rw [if_neg (by omega)]
        · by_cases e : i = 100 + k - 1
          · subst e
            rw [upd_s, hq, if_neg (by omega), if_pos ⟨by omega, by omega⟩]
            congr 1; omega
          · rw [upd_n e, hq]
            by_cases h9 : 100 ≤ i ∧ i + 1 < 100 + k
            · rw [if_pos h9, if_pos ⟨h9.1, by omega⟩]
            · rw [if_neg h9, if_neg (by omega)]) 59 1 FU () m_s (by omega) (FU_gt (by omega)) ⟨Nat.le_refl _, fun i => by rw [if_neg (by omega)]⟩
    obtain ⟨-, q2⟩ := q2
    have hl : (rp.drop 1).length = 59 := by rw [List.length_drop, h]
    have e160 : m2 160 = nI 60 := by rw [q2, if_neg (by omega), h1, h]
    obtain ⟨m1, e1, p1, p2, p3⟩ := g59 (rp.drop 1) (upd m2 160 (m2 160 - 1)) (by rw [upd_s, e160, hl]; decide) (fun k hk => by
      rw [hl] at hk
      rw [upd_n (by omega), q2, if_pos ⟨by omega, by omega⟩, Nat.add_assoc, h2 (k + 1) (by omega), getD_dr]) (by omega)
    refine ⟨m1, e2.trans e1, p1, p2, fun i hi => ?_⟩
    rw [p3 i hi, upd_n (by omega), q2, if_neg (by omega)]
  · rw [if_neg h, if_neg h]
    exact g59 rp m_s h1 h2 (by omega)
end MO

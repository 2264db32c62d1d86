/-! ===== the law's value, as the model finds it ===== -/
theorem m_both {k : Nat} (a b : Int32) (h1 : 2 ≤ k) (h2 : k ≤ 8) : f_X10_both (nI k) a b = some (opV k a b) := by
  have hc : k = 2 ∨ k = 3 ∨ k = 4 ∨ k = 5 ∨ k = 6 ∨ k = 7 ∨ k = 8 := by omega
  rcases hc with rfl | rfl | rfl | rfl | rfl | rfl | rfl
  · rfl
  · rfl
  · rfl
  · show (if b = 0 then some 0 else if b = 0 then none else some (a / b)) = some (if b = 0 then 0 else a / b)
    by_cases h : b = 0
    · rw [if_pos h, if_pos h]
    · rw [if_neg h, if_neg h, if_neg h]
  · show (if b ≤ a then some b else some a) = some (if a < b then a else b)
    by_cases h : a < b
    · rw [if_pos h, if_neg (Int32.not_le.mpr h)]
    · rw [if_neg h, if_pos (Int32.not_lt.mp h)]
  · show (if b ≤ a then some a else some b) = some (if a < b then b else a)
    by_cases h : a < b
    · rw [if_pos h, if_neg (Int32.not_le.mpr h)]
    · rw [if_neg h, if_pos (Int32.not_lt.mp h)]
  · show (if b = 0 then some 0 else if b = 0 then none else some (a - a / b * b)) = some (if b = 0 then 0 else a - a / b * b)
    by_cases h : b = 0
    · rw [if_pos h, if_pos h]
    · rw [if_neg h, if_neg h, if_neg h]
section LM
variable {c : List Tk} {m_code m_ofCode m_stack m_facts : Nat → Int32} {m_codes n1 n2 n3 n4 n5 n6 n7 : Int32} {env : Nat → Int32}
theorem m_valueNow (hlen : m_codes = nI c.length) (hcode : ∀ k, k < c.length → m_code k = nI (c.getD k (0, 0)).1 ∧ m_ofCode k = nI (c.getD k (0, 0)).2) (ok : OkL c) (env7 : ∀ v, v < 7 → m_facts v = env v) : ∃ st, f_X10_valueNow m_code m_ofCode m_stack m_codes m_facts = some (valL env c, st) := by
  obtain ⟨hchk, h150⟩ := ok
  unfold f_X10_valueNow
  obtain ⟨⟨x, st⟩, e, ⟨q1, q2, q3⟩⟩ := loopR (A := List Int32) (C := Int32 × (Nat → Int32)) (F := fun n q y => f_X10_valueNow_4 m_code m_ofCode m_codes m_facts n q.1 y q.2) (B := c.length) (step := fun k S => evT env (c.getD k (0, 0)) S) (fin := fun q => some (q.2 0, q.2)) (Q := fun k S q => chk (c.drop k) S.length ∧ q.1 = nI S.length ∧ Stk S q.2) (fun n q => by
      show f_X10_valueNow_4 m_code m_ofCode m_codes m_facts (n + 1) q.1 (nI c.length) q.2 = _
      rw [f_X10_valueNow_4, hlen, if_pos (Int32.le_refl _)]; rfl) (fun n S q k hk hq => by
      obtain ⟨x, st⟩ := q
      obtain ⟨g1, g2, g3⟩ := hq
      have g2 : x = nI S.length := g2
      have g3 : Stk S st := g3
      have ht := hcode k hk
      rw [List.drop_eq_getElem_cons hk] at g1
      have hgd : c.getD k (0, 0) = c[k] := by rw [List.getD_eq_getElem?_getD, List.getElem?_eq_getElem hk]; rfl
      show ∃ c' : Int32 × (Nat → Int32), f_X10_valueNow_4 m_code m_ofCode m_codes m_facts (n + 1) x (nI k) st = f_X10_valueNow_4 m_code m_ofCode m_codes m_facts n c'.1 (nI (k + 1)) c'.2 ∧ chk (c.drop (k + 1)) (evT env (c.getD k (0, 0)) S).length ∧ c'.1 = nI (evT env (c.getD k (0, 0)) S).length ∧ Stk (evT env (c.getD k (0, 0)) S) c'.2
      rw [hgd] at ht ⊢
      have gN := evT_len (env := env) g1
      generalize c[k] = t at g1 ht gN ⊢
      obtain ⟨ht1, ht2⟩ := ht
      obtain ⟨tk, tv⟩ := t
      have ht1 : m_code k = nI tk := ht1
      have ht2 : m_ofCode k = nI tv := ht2
      unfold chk at g1
      unfold evT at gN ⊢
      rw [f_X10_valueNow_4, hlen]
      by_cases h0 : tk = 0
      · subst h0
        obtain ⟨v999, d32, -⟩ : tv ≤ 999 ∧ S.length < 32 ∧ _ := g1
        simp (disch := omega) only [nI_leJ, nI_ltJ, nI_eqI, ixb_nI, nI_cl, if_true, ht1, ht2, lit, g2, nI_add]
        rw [if_neg (by omega), if_neg (by omega)]
        exact ⟨(_, _), rfl, gN, rfl, g3.push _⟩
      · by_cases h1 : tk = 1
        · subst h1
          obtain ⟨v7, d32, -⟩ : tv < 7 ∧ S.length < 32 ∧ _ := g1
          simp (disch := omega) only [nI_leJ, nI_ltJ, nI_eqI, ixb_nI, nI_cl, if_true, ht1, ht2, lit, g2, nI_add, env7 tv v7]
          rw [if_neg (by omega), if_neg (by omega), if_neg (by omega)]
          exact ⟨(_, _), rfl, gN, rfl, g3.push _⟩
        · have g1 : tk ≤ 8 ∧ 2 ≤ S.length ∧ S.length ≤ 32 ∧ chk (c.drop (k + 1)) (S.length - 1) := by
            have := g1
            rw [if_neg (show ¬ (tk, tv).1 = 0 from h0), if_neg (show ¬ (tk, tv).1 = 1 from h1)] at this
            exact this
          obtain ⟨k8, d2, d32, -⟩ := g1
          match S, d2, d32, gN, g3 with
          | b :: a :: r, d2, d32, gN, g3 =>
            have gN : chk (c.drop (k + 1)) (opV tk a b :: r).length := by
              have := gN
              rw [if_neg (show ¬ (tk, tv).1 = 0 from h0), if_neg (show ¬ (tk, tv).1 = 1 from h1)] at this
              exact this
            rw [if_neg (show ¬ (tk, tv).1 = 0 from h0), if_neg (show ¬ (tk, tv).1 = 1 from h1)]
            show ∃ c' : Int32 × (Nat → Int32), _ = _ ∧ chk (c.drop (k + 1)) (opV tk a b :: r).length ∧ c'.1 = nI (opV tk a b :: r).length ∧ Stk (opV tk a b :: r) c'.2
            obtain ⟨t1, t2⟩ := g3.top2
            have hm1 : x + -1 = nI (r.length + 1) := by
              rw [g2]
              show nI (r.length + 1 + 1) + -1 = _
              rw [← nI_1 (r.length + 1), Int32.add_assoc]
              show nI (r.length + 1) + (1 + -1) = _
              rw [show (1 : Int32) + -1 = 0 by decide, Int32.add_zero]
            rw [List.length_cons, List.length_cons] at d32
            simp only [hm1]
            simp (disch := omega) only [nI_leJ, nI_ltJ, ixb_nI, nI_cl, if_true, ht1, ht2, lit, nI_sub, Nat.add_sub_cancel, t1, t2]
            rw [if_neg (by omega), if_pos (by omega), m_both a b (by omega) k8, b1_s]
            simp (disch := omega) only [nI_add]
            exact ⟨(_, _), rfl, gN, rfl, g3.join⟩)
      c.length 0 FU [] (0, m_stack) (by omega) (FU_gt (by omega)) ⟨hchk, rfl, fun j hj => absurd hj (Nat.not_lt_zero _)⟩
  have e : f_X10_valueNow_4 m_code m_ofCode m_codes m_facts FU 0 0 m_stack = some (st 0, st) := e
  rw [evL_drop c.length 0 [] (by omega)] at q1 q3
  rw [e]
  rw [List.drop_length] at q1
  have q1 : (evL env (c.drop 0) []).length = 1 := q1
  have hv := one_of q1 q3
  have hv : st 0 = valL env c := hv
  rw [hv]
  exact ⟨_, rfl⟩
theorem plain_val : valL env plainL = env 0 / 4 + 1 := rfl
theorem m_runOf (hR : RLm c m_code m_ofCode m_codes) (ok : OkL c) : ∃ st fa, f_X10_runOf m_code m_ofCode m_stack m_codes m_facts n1 n2 n3 n4 n5 n6 n7 = some (nI (runN (envL n1 n2 n3 n4 n5 n6 n7) c), st, fa) := by
  unfold f_X10_runOf
  have env7 := getD_env n1 n2 n3 n4 n5 n6 n7 m_facts
  simp (disch := omega) only [lit, ixb_nI, nI_cl, if_true]
  generalize hV : upd (upd (upd (upd (upd (upd (upd m_facts 0 n1) 1 n2) 2 n3) 3 n4) 4 n5) 5 n6) 6 n7 = V at env7 ⊢
  generalize hE : envL n1 n2 n3 n4 n5 n6 n7 = env at env7 ⊢
  have hfin : ∀ st, f_X10_runNow_24 m_code m_ofCode m_codes V (valL env c) st = some (nI (runN env c), st) := fun st => by
    unfold f_X10_runNow_24
    rw [runN_val]
    by_cases h : valL env c < 0
    · rw [if_pos h, if_neg (Int32.not_le.mpr h)]
    · rw [if_neg h, if_pos (Int32.not_lt.mp h)]
      by_cases h2 : valL env c ≤ 8
      · rw [if_pos h2, if_pos h2]
      · rw [if_neg h2, if_neg h2]
  unfold f_X10_runNow
  rcases hR with ⟨hlen, hpos, hcode⟩ | ⟨h0, hp⟩
  · have h150 := ok.2
    rw [if_neg (by rw [hlen]; exact nI_ne0 hpos (by omega))]
    obtain ⟨st, e⟩ := m_valueNow (m_stack := m_stack) (env := env) (m_facts := V) hlen hcode ok env7
    rw [e, b2_s, hfin, b2_s]
    exact ⟨_, _, rfl⟩
  · rw [if_pos h0]
    simp (disch := omega) only [lit, ixb_nI, nI_cl, if_true]
    have hv : V 0 / nI 4 + nI 1 = valL env c := by rw [hp, plain_val, ← env7 0 (by decide)]; rfl
    rw [hv, hfin, b2_s]
    exact ⟨_, _, rfl⟩
end LM

/-! ===== the law's text: tokens ===== -/
def chT : List Tk → Nat → Nat → Prop
  | [], d, e => d = e
  | t :: c, d, e => if t.1 = 0 then t.2 ≤ 999 ∧ d < 32 ∧ chT c (d + 1) e else if t.1 = 1 then t.2 < 7 ∧ d < 32 ∧ chT c (d + 1) e else t.1 ≤ 8 ∧ 2 ≤ d ∧ d ≤ 32 ∧ chT c (d - 1) e
theorem chT_chk : ∀ (c : List Tk) (d : Nat), chT c d 1 → chk c d := by
  intro c
  induction c with
  | nil => intro d h; exact h
  | cons t c ih =>
    intro d h
    unfold chT at h
    unfold chk
    by_cases h0 : t.1 = 0
    · rw [if_pos h0] at h ⊢
      exact ⟨h.1, h.2.1, ih _ h.2.2⟩
    · rw [if_neg h0] at h ⊢
      by_cases h1 : t.1 = 1
      · rw [if_pos h1] at h ⊢
        exact ⟨h.1, h.2.1, ih _ h.2.2⟩
      · rw [if_neg h1] at h ⊢
        exact ⟨h.1, h.2.1, h.2.2.1, ih _ h.2.2.2⟩
theorem chT_app : ∀ (c1 c2 : List Tk) (d e f : Nat), chT c1 d e → chT c2 e f → chT (c1 ++ c2) d f := by
  intro c1
  induction c1 with
  | nil => intro c2 d e f h h2; have h : d = e := h; rw [h]; exact h2
  | cons t c ih =>
    intro c2 d e f h h2
    unfold chT at h
    show chT (t :: (c ++ c2)) d f
    unfold chT
    by_cases h0 : t.1 = 0
    · rw [if_pos h0] at h ⊢
      exact ⟨h.1, h.2.1, ih c2 _ e f h.2.2 h2⟩
    · rw [if_neg h0] at h ⊢
      by_cases h1 : t.1 = 1
      · rw [if_pos h1] at h ⊢
        exact ⟨h.1, h.2.1, ih c2 _ e f h.2.2 h2⟩
      · rw [if_neg h1] at h ⊢
        exact ⟨h.1, h.2.1, h.2.2.1, ih c2 _ e f h.2.2.2 h2⟩
theorem chT_num {v d : Nat} (hv : v ≤ 999) (hd : d < 32) : chT [(0, v)] d (d + 1) := ⟨hv, hd, rfl⟩
theorem chT_fact {v d : Nat} (hv : v < 7) (hd : d < 32) : chT [(1, v)] d (d + 1) := ⟨hv, hd, rfl⟩
theorem chT_op {k d : Nat} (h2 : 2 ≤ k) (h8 : k ≤ 8) (hd : d + 2 ≤ 32) : chT [(k, 0)] (d + 2) (d + 1) := by
  unfold chT
  rw [if_neg (show ¬ (k, 0).1 = 0 by show ¬ k = 0; omega), if_neg (show ¬ (k, 0).1 = 1 by show ¬ k = 1; omega)]
  exact ⟨h8, by omega, hd, rfl⟩
def RLs (c : List Tk) (code : Nat → Int32) (len : Int32) (nc no : Nat → Int32) (ncs : Int32) : Prop := RLc c code len ∧ ncs = nI c.length ∧ ∀ k, k < c.length → nc k = nI (c.getD k (0, 0)).1 ∧ no k = nI (c.getD k (0, 0)).2
theorem getD_app1 {A : Type} {L : List A} {w z : A} {k : Nat} (h : k < L.length) : (L ++ [w]).getD k z = L.getD k z := by
  rw [List.getD_eq_getElem?_getD, List.getElem?_append_left h, ← List.getD_eq_getElem?_getD]
theorem getD_app2 {A : Type} {L : List A} {w z : A} : (L ++ [w]).getD L.length z = w := by
  rw [List.getD_eq_getElem?_getD, List.getElem?_append_right (Nat.le_refl _), Nat.sub_self]; rfl
section LT
variable {tx : Nat → Nat} {N : Nat} {tb mt code nc no : Nat → Int32} {len ncs ca cs ck cp ma mb mk : Int32} {c : List Tk}
theorem add_len (k : Nat) (hk : k ≤ 150) (e : Int32) : ∃ code' k', f_X1_add code (nI k) e = some (code', nI k') ∧ k' ≤ 150 := by
  unfold f_X1_add
  rw [show (150 : Int32) = nI 150 from rfl, ite_le (by omega) (by omega)]
  by_cases h : 150 ≤ k
  · rw [if_pos h]; exact ⟨code, k, rfl, hk⟩
  · rw [if_neg h, ixb_nI (by omega) (by omega), if_pos rfl, nI_1]; exact ⟨_, k + 1, rfl, by omega⟩
theorem emitF {f : Nat} (hf : f ≤ 600) {n1 n2 : Int32} : f_X10_emit (nI f) nc no ncs n1 n2 = some (nc, no, ncs) := by
  unfold f_X10_emit
  rw [m_fine0 hf, b1_s, if_pos rfl]
theorem RLs_add (h : RLs c code len nc no ncs) (hl : c.length < 150) (t : Tk) : ∃ code' nc' no', f_X1_add code len (encC t) = some (code', nI (c.length + 1)) ∧ f_X10_emit (-1) nc no ncs (nI t.1) (nI t.2) = some (nc', no', nI (c.length + 1)) ∧ RLs (c ++ [t]) code' (nI (c.length + 1)) nc' no' (nI (c.length + 1)) := by
  obtain ⟨⟨rfl, h1⟩, rfl, h2⟩ := h
  refine ⟨upd code c.length (encC t), upd nc c.length (nI t.1), upd no c.length (nI t.2), ?_, ?_, ⟨by rw [List.length_append]; rfl, fun k hk => ?_⟩, by rw [List.length_append]; rfl, fun k hk => ?_⟩
  · unfold f_X1_add
    rw [show (150 : Int32) = nI 150 from rfl, ite_le (by omega) (by omega), if_neg (by omega), ixb_nI (by omega) (by omega), if_pos rfl, nI_1, nI_cl (by omega)]
  · unfold f_X10_emit
    rw [m_fine1, b1_s, if_neg (show ¬ (1 : Int32) = 0 by decide), ixb_nI (by omega) (by omega), if_pos rfl, if_pos rfl, nI_1, nI_cl (by omega)]
  · rw [List.length_append] at hk
    have hk : k < c.length + 1 := hk
    by_cases e : k = c.length
    · rw [e, upd_s, getD_app2]
    · rw [upd_n e, getD_app1 (by omega)]; exact h1 k (by omega)
  · rw [List.length_append] at hk
    have hk : k < c.length + 1 := hk
    by_cases e : k = c.length
    · rw [e, upd_s, upd_s, getD_app2]; exact ⟨rfl, rfl⟩
    · rw [upd_n e, upd_n e, getD_app1 (by omega)]; exact h2 k (by omega)
theorem c_valueF {te : Int32} (hk : ck ≠ 0) : f_X1_readValue code len tb te ca cs ck cp = some (code, len, ca, cs, ck, cp) := by
  unfold f_X1_readValue
  rw [c_takesF (by decide) hk, b3_s, if_pos rfl, c_takesF (by decide) hk, b3_s, if_pos rfl, c_takesF (by decide) hk, b3_s, if_pos rfl, c_takesF (by decide) hk, b3_s, if_pos rfl, c_takesF (by decide) hk, b3_s, if_pos rfl, c_takesF (by decide) hk, b3_s, if_pos rfl, c_takesF (by decide) hk, b3_s, if_pos rfl]
  unfold f_X1_readValue_98 f_X7_blame
  rw [if_pos rfl, if_neg hk]
  rfl
theorem c_unitF {te n1 : Int32} {D : Nat} (hk : ck ≠ 0) : f_X1_readUnit (D + 1) code len tb te ca cs ck cp n1 = some (code, len, ca, cs, ck, cp) := by
  show f_X1_readUnit_b (f_X1_readSum D) (f_X1_readProduct D) (f_X1_readUnit D) (f_X1_readOpen D) code len tb te ca cs ck cp n1 = _
  unfold f_X1_readUnit_b
  rw [c_isAtNumF hk, b3_s, if_pos rfl, c_takesCF hk (by decide), b3_s, if_pos rfl, c_takesF (by decide) hk, b3_s, if_pos rfl, c_takesF (by decide) hk, b3_s, if_pos rfl, c_valueF hk, b6_s]
theorem c_prod8F {te n1 : Int32} {q1 q2 q3 q4} {m : Nat} {x3 : Int32} (hk : ck ≠ 0) : f_X1_readProduct_8 q1 q2 q3 q4 tb te n1 (m + 1) x3 code len ca cs ck cp = some (code, len, ca, cs, ck, cp) := by
  rw [f_X1_readProduct_8, c_takesCF hk (by decide), b3_s, if_pos rfl, c_takesCF hk (by decide), b3_s, if_pos rfl, c_takesCF hk (by decide), b3_s, if_pos rfl]
  unfold f_X1_readProduct_58
  rw [if_pos rfl]
  by_cases h : (150 : Int32) ≤ x3
  · rw [if_pos h]
  · rw [if_neg h]
theorem c_sum8F {te n1 : Int32} {q1 q2 q3 q4} {m : Nat} {x3 : Int32} (hk : ck ≠ 0) : f_X1_readSum_8 q1 q2 q3 q4 tb te n1 (m + 1) x3 code len ca cs ck cp = some (code, len, ca, cs, ck, cp) := by
  rw [f_X1_readSum_8, c_takesCF hk (by decide), b3_s, if_pos rfl, c_takesCF hk (by decide), b3_s, if_pos rfl]
  unfold f_X1_readSum_44
  rw [if_pos rfl]
  by_cases h : (150 : Int32) ≤ x3
  · rw [if_pos h]
  · rw [if_neg h]
theorem c_prodF {te n1 : Int32} {D : Nat} (hk : ck ≠ 0) : f_X1_readProduct (D + 2) code len tb te ca cs ck cp n1 = some (code, len, ca, cs, ck, cp) := by
  show f_X1_readProduct_b (f_X1_readSum (D + 1)) (f_X1_readProduct (D + 1)) (f_X1_readUnit (D + 1)) (f_X1_readOpen (D + 1)) code len tb te ca cs ck cp n1 = _
  unfold f_X1_readProduct_b
  obtain ⟨m, hm⟩ := FU_pos
  rw [c_unitF hk, b6_s, hm, c_prod8F hk]
theorem c_sumF {te n1 : Int32} {D : Nat} (hk : ck ≠ 0) : f_X1_readSum (D + 3) code len tb te ca cs ck cp n1 = some (code, len, ca, cs, ck, cp) := by
  show f_X1_readSum_b (f_X1_readSum (D + 2)) (f_X1_readProduct (D + 2)) (f_X1_readUnit (D + 2)) (f_X1_readOpen (D + 2)) code len tb te ca cs ck cp n1 = _
  unfold f_X1_readSum_b
  obtain ⟨m, hm⟩ := FU_pos
  rw [c_prodF hk, b6_s, hm, c_sum8F hk]
theorem m_unitF {sz op : Int32} {D f : Nat} (hf : f ≤ 600) : f_X10_readUnit (D + 1) sz ma (nI f) mk op mt nc no ncs = some (ma, nI f, mk, op, nc, no, ncs) := by
  show f_X10_readUnit_b (f_X10_readSum D) (f_X10_readProduct D) (f_X10_readUnit D) (f_X10_readTwo D) sz ma (nI f) mk op mt nc no ncs = _
  unfold f_X10_readUnit_b
  rw [m_fine0 hf, b1_s, if_pos rfl]
theorem m_prod4F {sz op : Int32} {q1 q2 q3 q4} {m f : Nat} (hf : f ≤ 600) : f_X10_readProduct_4 q1 q2 q3 q4 sz mt (m + 1) ma (nI f) mk op nc no ncs = some (ma, nI f, mk, op, nc, no, ncs) := by
  rw [f_X10_readProduct_4, m_fine0 hf, b1_s, if_pos rfl]
theorem m_sum4F {sz op : Int32} {q1 q2 q3 q4} {m f : Nat} (hf : f ≤ 600) : f_X10_readSum_4 q1 q2 q3 q4 sz mt (m + 1) ma (nI f) mk op nc no ncs = some (ma, nI f, mk, op, nc, no, ncs) := by
  rw [f_X10_readSum_4, m_fine0 hf, b1_s, if_pos rfl]
theorem m_prodF {sz op : Int32} {D f : Nat} (hf : f ≤ 600) : f_X10_readProduct (D + 2) sz ma (nI f) mk op mt nc no ncs = some (ma, nI f, mk, op, nc, no, ncs) := by
  show f_X10_readProduct_b (f_X10_readSum (D + 1)) (f_X10_readProduct (D + 1)) (f_X10_readUnit (D + 1)) (f_X10_readTwo (D + 1)) sz ma (nI f) mk op mt nc no ncs = _
  unfold f_X10_readProduct_b
  obtain ⟨m, hm⟩ := FU_pos
  rw [m_unitF hf, b7_s, hm, m_prod4F hf]
theorem m_sumF {sz op : Int32} {D f : Nat} (hf : f ≤ 600) : f_X10_readSum (D + 3) sz ma (nI f) mk op mt nc no ncs = some (ma, nI f, mk, op, nc, no, ncs) := by
  show f_X10_readSum_b (f_X10_readSum (D + 2)) (f_X10_readProduct (D + 2)) (f_X10_readUnit (D + 2)) (f_X10_readTwo (D + 2)) sz ma (nI f) mk op mt nc no ncs = _
  unfold f_X10_readSum_b
  obtain ⟨m, hm⟩ := FU_pos
  rw [m_prodF hf, b7_s, hm, m_sum4F hf]
end LT

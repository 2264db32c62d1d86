/-! ===== the law's text: a unit ===== -/
def PYr (tx : Nat → Nat) (N : Nat) (s : Ts) (c : List Tk) (o B : Nat) (X : Option ((Nat → Int32) × Int32 × Int32 × Int32 × Int32 × Int32)) (Y : Option (Int32 × Int32 × Int32 × Int32 × (Nat → Int32) × (Nat → Int32) × Int32)) : Prop := ∃ s' c' code' len' ca' cs' ck' cp' ma' mb' mk' op' nc' no' ncs', X = some (code', len', ca', cs', ck', cp') ∧ Y = some (ma', mb', mk', op', nc', no', ncs') ∧ RT2 tx N s' ca' ck' cp' ma' mb' mk' ∧ adv s s' ∧ (∃ k, k ≤ 150 ∧ len' = nI k) ∧ (∀ r', s' = .inl r' → op' = nI o ∧ RLs c' code' len' nc' no' ncs' ∧ ∃ t, c' = c ++ t ∧ (∀ r, s = .inl r → t.length + r ≤ r') ∧ ∀ d, d + B ≤ 32 → chT t d (d + 1))
def PY (tx : Nat → Nat) (N : Nat) (tb mt : Nat → Int32) (o B : Nat) (qc : (Nat → Int32) → Int32 → (Nat → Int32) → Int32 → Int32 → Int32 → Int32 → Int32 → Int32 → Option ((Nat → Int32) × Int32 × Int32 × Int32 × Int32 × Int32)) (qm : Int32 → Int32 → Int32 → Int32 → Int32 → (Nat → Int32) → (Nat → Int32) → (Nat → Int32) → Int32 → Option (Int32 × Int32 × Int32 × Int32 × (Nat → Int32) × (Nat → Int32) × Int32)) : Prop := ∀ (s : Ts) (c : List Tk) (code nc no : Nat → Int32) (len ncs ca cs ck cp ma mb mk op : Int32), RT2 tx N s ca ck cp ma mb mk → (∃ k, k ≤ 150 ∧ len = nI k) → (∀ r, s = .inl r → op = nI o ∧ RLs c code len nc no ncs ∧ c.length ≤ r) → PYr tx N s c o B (qc code len tb (nI N) ca cs ck cp (nI o)) (qm (nI N) ma mb mk op mt nc no ncs)
theorem chs_law : chs 22 = chs 3 ∧ chs 23 = chs 4 ∧ chs 24 = chs 5 ∧ chs 25 = chs 6 ∧ chs 26 = chs 7 ∧ chs 27 = chs 8 ∧ chs 28 = chs 9 ∧ chs 29 = chs 10 ∧ chs 20 = chs 11 ∧ (chs 3).length = 5 ∧ (chs 4).length = 4 := by decide +kernel
section LU
variable {tx : Nat → Nat} {N : Nat} {tb mt code nc no : Nat → Int32} {len ncs ca cs ck cp ma mb mk : Int32} {c : List Tk}
theorem opens1 {o r b : Nat} (ho : o < 6) : f_X10_opensOne (nI r) (-1) mk (nI o) (nI b) = some (nI (r + b), -1, mk, nI (o + 1)) := by
  unfold f_X10_opensOne f_X10_opensOne_25 f_X10_opensOne_42
  rw [m_fine1, b1_s, if_neg (show ¬ (1 : Int32) = 0 by decide), show (6 : Int32) = nI 6 from rfl, ite_eq (by omega) (by omega), if_neg (by omega), b1_s, if_neg (show ¬ (1 : Int32) = 0 by decide), nI_add, nI_1]
theorem opens6 {r : Nat} {b : Int32} (hr : r ≤ 600) : f_X10_opensOne (nI r) (-1) mk (nI 6) b = some (nI r, nI r, 3, nI 7) := by
  unfold f_X10_opensOne f_X10_opensOne_25 f_X10_opensOne_42
  rw [m_fine1, b1_s, if_neg (show ¬ (1 : Int32) = 0 by decide), if_pos (show nI 6 = 6 from rfl), show f_X10_wrong (-1) mk 3 (nI r) = some (nI r, 3) from rfl, b2_s, m_fine0 hr, b1_s, if_pos rfl]
  rfl
/-- one token more, both sides -/
theorem L_tok (h : RTx tx N tb mt) (hN : N ≤ 150) {s : Ts} {t : Tk} {len : Int32} (hS : RT2 tx N s ca ck cp ma mb mk) (hl : ∃ k, k ≤ 150 ∧ len = nI k) (hR : ∀ r, s = .inl r → RLs c code len nc no ncs ∧ c.length < r) : ∃ code' len' nc' no' ncs', f_X1_add code len (encC t) = some (code', len') ∧ f_X10_emit mb nc no ncs (nI t.1) (nI t.2) = some (nc', no', ncs') ∧ (∃ k, k ≤ 150 ∧ len' = nI k) ∧ ∀ r, s = .inl r → RLs (c ++ [t]) code' len' nc' no' ncs' := by
  have h6 := h.1
  cases s with
  | inl r =>
    obtain ⟨h1, h2⟩ := hR r rfl
    obtain ⟨rfl, rfl, rfl, ⟨p, hp, rfl, rfl⟩, -⟩ := hS
    have hs := sk_le (tx := tx) hp
    obtain ⟨code', nc', no', e1, e2, e3⟩ := RLs_add h1 (by omega) t
    exact ⟨code', _, nc', no', _, e1, e2, ⟨_, by omega, rfl⟩, fun _ _ => e3⟩
  | inr x =>
    obtain ⟨k, hk, rfl⟩ := hl
    obtain ⟨kk, f⟩ := x
    obtain ⟨g1, g3, gf, rfl, rfl, rfl, rfl, -⟩ := hS
    obtain ⟨code', k', e1, e2⟩ := add_len (code := code) k hk (encC t)
    exact ⟨code', _, nc, no, ncs, e1, emitF (by omega), ⟨k', e2, rfl⟩, fun _ hr => by cases hr⟩
theorem L_fact (h : RTx tx N tb mt) (hN : N ≤ 150) {o r i ti : Nat} (ho : o ≤ 6) (hr : r ≤ N) (hi : i < 7) (ht : ti < 35) (hw : wrd tx N r = chs ti) {QQ1 QQ2 QQ3 QQ4} (hR : RLs c code len nc no ncs) (hc : c.length ≤ r) : PYr tx N (.inl r) c o (19 - 3 * o) (f_X1_readValue_98 tb (nI N) (-1 - nI i) code len (nI (r + (chs ti).length)) (nI r) 0 (-1)) (f_X10_readUnit_136 QQ1 QQ2 QQ3 QQ4 (nI N) mt (nI i) (nI r) (-1) mk (nI o) nc no ncs) := by
  have he := wrd_le (tx := tx) hr
  have h1 := (chs_ok ti ht).1
  have hne : ¬ (-1 - nI i) = 0 := (by decide : ∀ i, i < 7 → ¬ (-1 - nI i) = 0) i hi
  have hS := rt_at (tx := tx) (mk := mk) he
  have hge := sk_ge (tx := tx) (N := N) (p := r + (wrd tx N r).length)
  rw [hw] at he hS hge
  have ek : ∃ k, k ≤ 150 ∧ len = nI k := ⟨_, by omega, hR.1.1⟩
  obtain ⟨code', len', nc', no', ncs', e1, e2, e3, e4⟩ := L_tok (t := ((1, i) : Tk)) h hN hS ek (fun r' hr' => by cases hr'; exact ⟨hR, by omega⟩)
  have e1 : f_X1_add code len (-1 - nI i) = some (code', len') := e1
  have e2 : f_X10_emit (-1) nc no ncs 1 (nI i) = some (nc', no', ncs') := e2
  refine ⟨.inl (sk tx N (r + (chs ti).length)), c ++ [(1, i)], code', len', nI (r + (chs ti).length), nI r, 0, -1, nI (r + (chs ti).length), -1, mk, nI o, nc', no', ncs', ?_, ?_, hS, adv_r (by omega), e3, fun r' hr' => ⟨rfl, e4 _ rfl, [(1, i)], rfl, fun r2 hr2 => ?_, fun d hd => chT_fact hi (by omega)⟩⟩
  · unfold f_X1_readValue_98
    rw [if_neg hne, e1, b2_s]
  · unfold f_X10_readUnit_136
    rw [m_fine1, b1_s, if_neg (show ¬ (1 : Int32) = 0 by decide), m_pass h hr, b1_s, hw, e2, b3_s]
  · cases hr2
    cases hr'
    show 1 + r ≤ _
    omega
theorem L_value (h : RTx tx N tb mt) (hN : N ≤ 150) {o r : Nat} (ho : o ≤ 6) (hr : r ≤ N) (er : sk tx N r = r) {QQ1 QQ2 QQ3 QQ4} (hR : RLs c code len nc no ncs) (hc : c.length ≤ r) : PYr tx N (.inl r) c o (19 - 3 * o) (f_X1_readValue code len tb (nI N) (nI r) cs 0 (-1)) (b2 (f_X10_factHere (nI N) (nI r) mt) (fun v18 c19 => if v18 = (-1) then b2 (f_X10_wrong (-1) mk 1 c19) (fun c20 c21 => f_X10_readUnit_136 QQ1 QQ2 QQ3 QQ4 (nI N) mt v18 c19 c20 c21 (nI o) nc no ncs) else f_X10_readUnit_136 QQ1 QQ2 QQ3 QQ4 (nI N) mt v18 c19 (-1) mk (nI o) nc no ncs)) := by
  have h6 := h.1
  obtain ⟨-, -, d0, d1, d2, d3, d4, d5, d6, -, -⟩ := chs_law
  have hW := wrd_ok tx N r
  have hT : ∀ (ti : Nat) (st : Int32), ti < 35 → f_X7_takes_ tb (nI N) (nI r) st 0 ti = some (if wrd tx N r = chs ti then (1, nI (r + (chs ti).length), nI r) else (0, nI r, nI r)) := by
    intro ti st ht
    have := c_takesW (st := st) h ht hr
    rw [er] at this
    exact this
  have hM : f_X10_wordHere (nI N) (nI r) mt = some (wcode (wrd tx N r), nI r) := by
    have := m_wordHere h hr
    rw [er] at this
    exact this
  unfold f_X1_readValue f_X10_factHere
  rw [hM, b2_s]
  rw [hT 5 _ (by decide), m_of (by decide), b1_s, ite_w hW (by decide), d0]
  by_cases w0 : wrd tx N r = chs 5
  · rw [if_pos w0, b3_s, if_neg (show ¬ (1 : Int32) = 0 by decide), if_pos w0, b2_s, if_neg (show ¬ (0 : Int32) = -1 by decide)]
    exact L_fact (i := 0) h hN ho hr (by decide) (by decide) w0 hR hc
  rw [if_neg w0, b3_s, if_pos rfl, if_neg w0]
  rw [hT 6 _ (by decide), m_of (by decide), b1_s, ite_w hW (by decide), d1]
  by_cases w1 : wrd tx N r = chs 6
  · rw [if_pos w1, b3_s, if_neg (show ¬ (1 : Int32) = 0 by decide), if_pos w1, b2_s, if_neg (show ¬ (1 : Int32) = -1 by decide)]
    exact L_fact (i := 1) h hN ho hr (by decide) (by decide) w1 hR hc
  rw [if_neg w1, b3_s, if_pos rfl, if_neg w1]
  rw [hT 7 _ (by decide), m_of (by decide), b1_s, ite_w hW (by decide), d2]
  by_cases w2 : wrd tx N r = chs 7
  · rw [if_pos w2, b3_s, if_neg (show ¬ (1 : Int32) = 0 by decide), if_pos w2, b2_s, if_neg (show ¬ (2 : Int32) = -1 by decide)]
    exact L_fact (i := 2) h hN ho hr (by decide) (by decide) w2 hR hc
  rw [if_neg w2, b3_s, if_pos rfl, if_neg w2]
  rw [hT 8 _ (by decide), m_of (by decide), b1_s, ite_w hW (by decide), d3]
  by_cases w3 : wrd tx N r = chs 8
  · rw [if_pos w3, b3_s, if_neg (show ¬ (1 : Int32) = 0 by decide), if_pos w3, b2_s, if_neg (show ¬ (3 : Int32) = -1 by decide)]
    exact L_fact (i := 3) h hN ho hr (by decide) (by decide) w3 hR hc
  rw [if_neg w3, b3_s, if_pos rfl, if_neg w3]
  rw [hT 9 _ (by decide), m_of (by decide), b1_s, ite_w hW (by decide), d4]
  by_cases w4 : wrd tx N r = chs 9
  · rw [if_pos w4, b3_s, if_neg (show ¬ (1 : Int32) = 0 by decide), if_pos w4, b2_s, if_neg (show ¬ (4 : Int32) = -1 by decide)]
    exact L_fact (i := 4) h hN ho hr (by decide) (by decide) w4 hR hc
  rw [if_neg w4, b3_s, if_pos rfl, if_neg w4]
  rw [hT 10 _ (by decide), m_of (by decide), b1_s, ite_w hW (by decide), d5]
  by_cases w5 : wrd tx N r = chs 10
  · rw [if_pos w5, b3_s, if_neg (show ¬ (1 : Int32) = 0 by decide), if_pos w5, b2_s, if_neg (show ¬ (5 : Int32) = -1 by decide)]
    exact L_fact (i := 5) h hN ho hr (by decide) (by decide) w5 hR hc
  rw [if_neg w5, b3_s, if_pos rfl, if_neg w5]
  rw [hT 11 _ (by decide), m_of (by decide), b1_s, ite_w hW (by decide), d6]
  by_cases w6 : wrd tx N r = chs 11
  · rw [if_pos w6, b3_s, if_neg (show ¬ (1 : Int32) = 0 by decide), if_pos w6, b2_s, if_neg (show ¬ (6 : Int32) = -1 by decide)]
    exact L_fact (i := 6) h hN ho hr (by decide) (by decide) w6 hR hc
  rw [if_neg w6, b3_s, if_pos rfl, if_neg w6]
  rw [b2_s, if_pos rfl, show f_X10_wrong (-1) mk 1 (nI r) = some (nI r, 1) from rfl, b2_s]
  unfold f_X1_readValue_98 f_X10_readUnit_136
  rw [if_pos rfl, m_fine0 (by omega), b1_s, if_pos rfl, show f_X7_blame (nI r) 0 (-1) 1 = some (1, nI r) from rfl, b2_s]
  exact ⟨.inr (1, r), c, code, len, nI r, nI r, 1, nI r, nI r, nI r, 1, nI o, nc, no, ncs, rfl, rfl, rt_f (by omega) (by omega) hr hr, adv_f, ⟨_, by omega, hR.1.1⟩, fun _ hr' => by cases hr'⟩
end LU

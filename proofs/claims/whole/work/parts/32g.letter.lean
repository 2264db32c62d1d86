/-! ===== the garden's clauses ===== -/
theorem chs_row : chs 19 = chs 0 ∧ chs 20 = chs 1 ∧ chs 21 = chs 2 ∧ chs 0 ≠ chs 1 ∧ chs 0 ≠ chs 2 ∧ chs 1 ≠ chs 2 := by decide +kernel
theorem ite_w {A : Type} {W : List Nat} (hW : okW W) {ti : Nat} (ht : ti < 35) {x y : A} : (if wcode W = nI (cod (chs ti)) then x else y) = if W = chs ti then x else y := by
  by_cases h : W = chs ti
  · rw [if_pos h, if_pos ((w_eq hW ht).mpr h)]
  · rw [if_neg h, if_neg (fun h9 => h ((w_eq hW ht).mp h9))]
section TC
variable {tx : Nat → Nat} {N : Nat} {tb mt : Nat → Int32} {ca cs ck cp ma mb mk : Int32}
theorem rt_m (h : RTx tx N tb mt) {r : Nat} (hS : RT2 tx N (.inl r) ca ck cp ma mb mk) : RT2 tx N (.inl r) ca ck cp (nI r) mb mk ∧ f_X10_here (nI N) ma mt = some (vM tx N r, nI r) ∧ r ≤ N ∧ sk tx N r = r := by
  obtain ⟨h1, h2, h3, h4, q, hq, rfl, rfl⟩ := hS
  have hs := sk_le (tx := tx) hq
  exact ⟨⟨h1, h2, h3, h4, _, hs, rfl, sk_sk⟩, m_here h hq, hs, sk_sk⟩
theorem rt_inl (h : RTx tx N tb mt) {r : Nat} (hS : RT2 tx N (.inl r) ca ck cp ma mb mk) : ck = 0 ∧ cp = -1 ∧ mb = -1 ∧ f_X7_isAtNumber tb (nI N) ca cs 0 = some (if r < N ∧ isDg (tx r) = true then 1 else 0, nI r, nI r) ∧ RT2 tx N (.inl r) (nI r) 0 (-1) ma (-1) mk := by
  obtain ⟨h1, h2, h3, ⟨p, hp, rfl, rfl⟩, q, hq, h5, h6⟩ := hS
  have hs := sk_le (tx := tx) hp
  exact ⟨h1, h2, h3, c_isAtNum h hp, rfl, rfl, rfl, ⟨_, hs, rfl, sk_sk⟩, q, hq, h5, h6⟩
def PW (tx : Nat → Nat) (N : Nat) (tb mt : Nat → Int32) (L : Nat) (pb nB : Int32) (pd pl : Nat → Int32) (j : Nat) : Prop := ∀ (m m2 : Nat) (s : Ts) (w : Nat → Nat) (wd nl : Nat → Int32) (ca cs ck cp ma mb mk : Int32), 9 - j ≤ m → 10 - j ≤ m2 → RT2 tx N s ca ck cp ma mb mk → (∀ k, k < j → wd (L * 8 + k) = nI (w k) ∧ w k < 16 ∧ nl (10 * L + 2 + k) = nI (w k)) →
    ∃ s' pl' wd' nl' L1 L2 ca1 cs1 ck1 cp1 ca2 cs2 ck2 cp2 ma1 mb1 mk1 ma2 mb2 mk2, f_X2_readLetter_37 pb tb (nI N) m (nI j) (nI L) pd pl wd ca cs ck cp = some (L1, pd, pl', wd', ca1, cs1, ck1, cp1) ∧ f_X7_need tb (nI N) ca1 cs1 ck1 cp1 59 = some (ca2, cs2, ck2, cp2) ∧ f_X10_readLetter_20 (nI N) mt nB m2 (nI (10 * L)) (nI j) ma mb mk nl (nI L) = some (ma1, mb1, mk1, nl', L2) ∧ f_X10_sign (nI N) ma1 mb1 mk1 mt 59 = some (ma2, mb2, mk2) ∧ RT2 tx N s' ca2 ck2 cp2 ma2 mb2 mk2 ∧ adv s s' ∧ ∀ r', s' = .inl r' → L1 = nI (L + 1) ∧ L2 = nI (L + 1) ∧ ∃ n, ∃ w' : Nat → Nat, 1 ≤ n ∧ n ≤ 8 ∧ pl' = upd pl L (nI n) ∧ (∀ k, k < n → wd' (L * 8 + k) = nI (w' k) ∧ w' k < 16 ∧ nl' (10 * L + 2 + k) = nI (w' k)) ∧ nl' (10 * L + 1) = nI n ∧ (∀ i, i < L * 8 → wd' i = wd i) ∧ ∀ i, i < 10 * L + 1 → nl' i = nl i
theorem e94 {L : Nat} (hL : L < 6) {pb : Int32} {pd pl : Nat → Int32} (j : Nat) (wd : Nat → Int32) (a b c e : Int32) : f_X2_readLetter_94 pb tb (nI N) (nI j) (nI L) pd pl wd a b c e = some (nI (L + 1), pd, upd pl L (nI j), wd, a, b, c, e) := by
  unfold f_X2_readLetter_94
  rw [ixb_nI (by omega) (by omega), if_pos rfl, nI_1, nI_cl (by omega)]
theorem wF (h : RTx tx N tb mt) {L : Nat} (hL : L < 6) {pb nB : Int32} {pd pl : Nat → Int32} {j : Nat} {x : Nat × Nat} {wd nl : Nat → Int32} (hS : RT2 tx N (.inr x) ca ck cp ma mb mk) : f_X2_readLetter_74 pb tb (nI N) (nI (j + 1)) (nI L) pd pl wd ca cs ck cp = some (nI (L + 1), pd, upd pl L (nI (j + 1)), wd, ca, cs, ck, cp) ∧ (∀ K x2 x4, f_X10_readLetter_58 (nI N) mt nB K (nI (10 * L)) x2 x4 ma mb mk nl (nI L) = some (ma, mb, mk, nl, nI L)) ∧ f_X7_need tb (nI N) ca cs ck cp 59 = some (ca, cs, ck, cp) ∧ f_X10_sign (nI N) ma mb mk mt 59 = some (ma, mb, mk) ∧ f_X10_fine mb = some 0 ∧ f_X7_isAtNumber tb (nI N) ca cs ck = some (0, ca, cs) := by
  have h6 := h.1
  obtain ⟨k, f⟩ := x
  obtain ⟨g1, g3, gf, rfl, rfl, rfl, rfl, q, hq, rfl⟩ := hS
  have hk := ne0 g1 g3
  refine ⟨?_, fun K x2 x4 => ?_, c_needF hk (by decide), m_signF (by omega), m_fine0 (by omega), c_isAtNumF hk⟩
  · unfold f_X2_readLetter_74
    rw [c_isAtNumF hk, b3_s, if_pos rfl, e94 hL]
  · unfold f_X10_readLetter_58
    rw [m_fine0 (by omega), b1_s, if_pos rfl]
theorem pw_step (h : RTx tx N tb mt) {L : Nat} (hL : L < 6) {pb nB : Int32} {pd pl : Nat → Int32} {j : Nat} (hj : j ≤ 7) (ih : j < 7 → PW tx N tb mt L pb nB pd pl (j + 1)) : PW tx N tb mt L pb nB pd pl j := by
  have h6 := h.1
  intro m m2 s w wd nl ca cs ck cp ma mb mk hm hm2 hS hw
  obtain ⟨m, rfl⟩ : ∃ i, m = i + 1 := ⟨m - 1, by omega⟩
  obtain ⟨m2, rfl⟩ : ∃ i, m2 = i + 2 := ⟨m2 - 2, by omega⟩
  have ix1 : ixb ((nI L * 8) + nI j) 48 = true := by rw [show (8 : Int32) = nI 8 from rfl, nI_mul, nI_add]; exact ixb_nI (by omega) (by omega)
  have ix2 : ((nI L * 8) + nI j).toNatClampNeg = L * 8 + j := by rw [show (8 : Int32) = nI 8 from rfl, nI_mul, nI_add]; exact nI_cl (by omega)
  have ix3 : ixb ((nI (10 * L) + 2) + nI j) 60 = true := by rw [show (2 : Int32) = nI 2 from rfl, nI_add, nI_add]; exact ixb_nI (by omega) (by omega)
  have ix4 : ((nI (10 * L) + 2) + nI j).toNatClampNeg = 10 * L + 2 + j := by rw [show (2 : Int32) = nI 2 from rfl, nI_add, nI_add]; exact nI_cl (by omega)
  -- the model: ahead of the number it skips the blanks
  have hhere : ∃ ma0 : Int32 × Int32, f_X10_here (nI N) ma mt = some (ma0.1, ma0.2) ∧ RT2 tx N s ca ck cp ma0.2 mb mk ∧ ∀ r, s = .inl r → ma0.2 = nI r := by
    cases s with
    | inl r =>
      obtain ⟨a1, a2, a3, a4⟩ := rt_m h hS
      exact ⟨(_, nI r), a2, a1, fun r' hr => by cases hr; rfl⟩
    | inr x =>
      obtain ⟨k, f⟩ := x
      obtain ⟨g1, g3, gf, rfl, rfl, rfl, rfl, q, hq, rfl⟩ := hS
      exact ⟨(_, nI (sk tx N q)), m_here h hq, rt_f g1 g3 gf (sk_le hq), fun r' hr => by cases hr⟩
  obtain ⟨⟨v4, c5⟩, eh, hS0, hc5⟩ := hhere
  have hS0 : RT2 tx N s ca ck cp c5 mb mk := hS0
  have eh : f_X10_here (nI N) ma mt = some (v4, c5) := eh
  obtain ⟨v, s1, ca1, cs1, ck1, cp1, ma1, mb1, mk1, e1, e2, hS1, ha1, hv1, hc1, -, hz1⟩ := L_num (cs := cs) h (lo := 0) (B := 16) (by omega) (by omega) hS0
  have e1 : f_X7_number tb (nI N) ca cs ck cp 0 15 = some (nI v, ca1, cs1, ck1, cp1) := e1
  have e2 : f_X10_readNumber (nI N) c5 mb mk mt 0 15 = some (nI v, ma1, mb1, mk1) := e2
  rw [f_X2_readLetter_37, f_X10_readLetter_20, e1, b5_s, ix1, if_pos rfl, ix2, nI_1, eh, b2_s, e2, b4_s]
  have hif : ∀ X : Option (Int32 × (Nat → Int32) × (Nat → Int32) × (Nat → Int32) × Int32 × Int32 × Int32 × Int32), (if (8 : Int32) ≤ nI (j + 1) then X else X) = X := by
    intro X
    by_cases h8 : (8 : Int32) ≤ nI (j + 1)
    · rw [if_pos h8]
    · rw [if_neg h8]
  cases s1 with
  | inr x =>
    obtain ⟨f1, f2, f3, f4, f5, f6⟩ := wF (cs := cs1) (pb := pb) (nB := nB) (pd := pd) (pl := pl) (j := j) (wd := upd wd (L * 8 + j) (nI v)) (nl := nl) h hL hS1
    rw [f5, b1_s, if_pos rfl, f2, f6, b3_s, if_pos rfl, f1, hif]
    exact ⟨.inr x, _, _, _, _, _, _, _, _, _, _, _, _, _, _, _, _, _, _, _, rfl, f3, rfl, f4, hS1, ha1, fun _ hr => by cases hr⟩
  | inl r1 =>
    have hv := hv1 r1 rfl
    obtain ⟨rfl, rfl, rfl, en, hS1c⟩ := rt_inl (cs := cs1) h hS1
    obtain ⟨hS1m, em, hr1, er1⟩ := rt_m h hS1
    have hadv : ∀ s', adv (.inl r1) s' → adv s s' := by
      intro s' ha
      cases s with
      | inr x => have := ha1.1 x rfl; cases this
      | inl r =>
        refine ⟨fun _ hx => (by cases hx), fun a b hab hb => ?_⟩
        have a1 := ha1.2 a r1 hab rfl
        have a2 := ha.2 r1 b rfl hb
        omega
    have hw1 : ∀ k, k < j + 1 → upd wd (L * 8 + j) (nI v) (L * 8 + k) = nI (fup w j v k) ∧ fup w j v k < 16 ∧ upd nl (10 * L + 2 + j) (nI v) (10 * L + 2 + k) = nI (fup w j v k) := by
      intro k hk
      by_cases e : k = j
      · subst e
        rw [upd_s, upd_s, fup_s]
        exact ⟨rfl, by omega, rfl⟩
      · rw [upd_n (by omega), upd_n (by omega), fup_n e]
        exact hw k (by omega)
    -- the model's rest of the step
    have e8 : ∀ K, j < 8 → (b1 (f_X10_fine (-1)) (fun v10 => if v10 = 0 then f_X10_readLetter_58 (nI N) mt nB K (nI (10 * L)) (nI j) (nI v) ma1 (-1) mk1 nl (nI L) else if nI j = 8 then b2 (f_X10_wrong (-1) mk1 3 c5) (fun c11 c12 => f_X10_readLetter_58 (nI N) mt nB K (nI (10 * L)) (nI j) (nI v) ma1 c11 c12 nl (nI L)) else f_X10_readLetter_58 (nI N) mt nB K (nI (10 * L)) (nI j) (nI v) ma1 (-1) mk1 nl (nI L))) = if r1 < N ∧ tx r1 = 59 then some (nI r1, -1, mk1, upd (upd nl (10 * L + 2 + j) (nI v)) (10 * L + 1) (nI (j + 1)), nI (L + 1)) else K (nI (10 * L)) (nI (j + 1)) (nI r1) (-1) mk1 (upd nl (10 * L + 2 + j) (nI v)) (nI L) := by
      intro K hj8
      rw [m_fine1, b1_s, if_neg (show ¬ (1 : Int32) = 0 by decide), show (8 : Int32) = nI 8 from rfl, ite_eq (by omega) (by omega), if_neg (by omega)]
      unfold f_X10_readLetter_58
      rw [m_fine1, b1_s, if_neg (show ¬ (1 : Int32) = 0 by decide), ix3, if_pos rfl, ix4, em, b2_s, nI_1, nI_1, nI_1, ixb_nI (by omega) (by omega), if_pos rfl, nI_cl (by omega)]
      unfold vM
      by_cases hr : r1 < N
      · have hb := (h.2 r1 hr).1
        rw [if_pos hr, show (59 : Int32) = nI 59 from rfl, ite_eq (by omega) (by omega)]
        by_cases h59 : tx r1 = 59
        · rw [if_pos h59, if_pos ⟨hr, h59⟩]
        · rw [if_neg h59, if_neg (fun h => h59 h.2)]
      · rw [if_neg hr, if_neg (show ¬ (0 : Int32) = 59 by decide), if_neg (fun h => hr h.1)]
    rw [e8 _ (by omega)]
    by_cases hd : r1 < N ∧ isDg (tx r1) = true
    · -- a further number
      have hd2 := isDg_iff.mp hd.2
      rw [if_neg (show ¬ (r1 < N ∧ tx r1 = 59) from fun h => by omega)]
      by_cases h7 : j < 7
      · obtain ⟨s', pl', wd', nl', L1, L2, ca3, cs3, ck3, cp3, ca4, cs4, ck4, cp4, ma3, mb3, mk3, ma4, mb4, mk4, g1, g2, g3, g4, g5, g6, g7⟩ := ih h7 m (m2 + 1) (.inl r1) (fup w j v) (upd wd (L * 8 + j) (nI v)) (upd nl (10 * L + 2 + j) (nI v)) (nI r1) (nI r1) 0 (-1) (nI r1) (-1) mk1 (by omega) (by omega) (by obtain ⟨a, b, c, d, -⟩ := hS1c; exact ⟨a, b, c, d, r1, hr1, rfl, er1⟩) hw1
        rw [if_neg (by rw [show (8 : Int32) = nI 8 from rfl, nI_leJ (by omega) (by omega)]; omega), en, if_pos hd, b3_s, if_neg (show ¬ (1 : Int32) = 0 by decide), g1, g3]
        refine ⟨s', _, _, _, _, _, _, _, _, _, _, _, _, _, _, _, _, _, _, _, rfl, g2, rfl, g4, g5, hadv s' g6, fun r' hr' => ?_⟩
        obtain ⟨k1, k2, n, w', k3, k4, k5, k6, k7, k8, k9⟩ := g7 r' hr'
        exact ⟨k1, k2, n, w', k3, k4, k5, k6, k7, fun i hi => by rw [k8 i hi, upd_n (by omega)], fun i hi => by rw [k9 i hi, upd_n (by omega)]⟩
      · obtain rfl : j = 7 := by omega
        -- a ninth one
        have hS1x : RT2 tx N (.inl r1) (nI r1) 0 (-1) (nI r1) (-1) mk1 := by obtain ⟨a, b, c, d, -⟩ := hS1c; exact ⟨a, b, c, d, r1, hr1, rfl, er1⟩
        obtain ⟨v9, s9, ca9, cs9, ck9, cp9, ma9, mb9, mk9, n1, n2, hS9, ha9, hv9, hc9, -, hz9⟩ := L_num (cs := nI r1) h (lo := 0) (B := 16) (by omega) (by omega) hS1x
        have n1 : f_X7_number tb (nI N) (nI r1) (nI r1) 0 (-1) 0 15 = some (nI v9, ca9, cs9, ck9, cp9) := n1
        have n2 : f_X10_readNumber (nI N) (nI r1) (-1) mk1 mt 0 15 = some (nI v9, ma9, mb9, mk9) := n2
        have em1 : f_X10_here (nI N) (nI r1) mt = some (vM tx N r1, nI r1) := by have := m_here h hr1; rw [er1] at this; exact this
        obtain rfl := hc9 r1 rfl
        rw [if_pos (show (8 : Int32) ≤ nI (7 + 1) by decide), f_X10_readLetter_20, em1, b2_s, n2, b4_s]
        unfold f_X2_readLetter_74
        rw [en, if_pos hd, b3_s, if_neg (show ¬ (1 : Int32) = 0 by decide), n1, b5_s]
        cases s9 with
        | inr x =>
          obtain ⟨f1, f2, f3, f4, f5, f6⟩ := wF (cs := nI r1) (pb := pb) (nB := nB) (pd := pd) (pl := pl) (j := 7) (wd := upd wd (L * 8 + 7) (nI v)) (nl := upd nl (10 * L + 2 + 7) (nI v)) h hL hS9
          have hb : f_X7_blame (nI r1) ck9 cp9 3 = some (ck9, cp9) := by
            obtain ⟨k, f⟩ := x
            obtain ⟨g1, g3, gf, rfl, rfl, rfl, rfl, q, hq, rfl⟩ := hS9
            unfold f_X7_blame
            rw [if_neg (ne0 g1 g3)]
          rw [f5, b1_s, if_pos rfl, f2, hb, b2_s, e94 hL]
          exact ⟨.inr x, _, _, _, _, _, _, _, _, _, _, _, _, _, _, _, _, _, _, _, rfl, f3, rfl, f4, hS9, hadv _ adv_f, fun _ hr => by cases hr⟩
        | inl r9 =>
          obtain ⟨rfl, rfl, rfl, ⟨p9, hp9, rfl, ep9⟩, q9, hq9, rfl, eq9⟩ := hS9
          rw [m_fine1, b1_s, if_neg (show ¬ (1 : Int32) = 0 by decide), if_pos (show nI (7 + 1) = 8 from rfl), show f_X10_wrong (-1) mk9 3 (nI r1) = some (nI r1, 3) from rfl, b2_s, show f_X7_blame (nI r1) 0 (-1) 3 = some (3, nI r1) from rfl, b2_s, e94 hL]
          have hSx : RT2 tx N (.inr (3, r1)) (nI p9) 3 (nI r1) (nI q9) (nI r1) 3 := rt_f (by omega) (by omega) hr1 hq9
          obtain ⟨f1, f2, f3, f4, f5, f6⟩ := wF (cs := nI r1) (pb := pb) (nB := nB) (pd := pd) (pl := pl) (j := 7) (wd := upd wd (L * 8 + 7) (nI v)) (nl := upd nl (10 * L + 2 + 7) (nI v)) h hL hSx
          rw [f2]
          exact ⟨.inr (3, r1), _, _, _, _, _, _, _, _, _, _, _, _, _, _, _, _, _, _, _, rfl, f3, rfl, f4, hSx, hadv _ adv_f, fun _ hr => by cases hr⟩
    · -- no further number
      have e74 : f_X2_readLetter_74 pb tb (nI N) (nI (j + 1)) (nI L) pd pl (upd wd (L * 8 + j) (nI v)) ca1 cs1 0 (-1) = some (nI (L + 1), pd, upd pl L (nI (j + 1)), upd wd (L * 8 + j) (nI v), nI r1, nI r1, 0, -1) := by
        unfold f_X2_readLetter_74
        rw [en, if_neg hd, b3_s, if_pos rfl, e94 hL]
      have e74b : f_X2_readLetter_74 pb tb (nI N) (nI (j + 1)) (nI L) pd pl (upd wd (L * 8 + j) (nI v)) (nI r1) (nI r1) 0 (-1) = some (nI (L + 1), pd, upd pl L (nI (j + 1)), upd wd (L * 8 + j) (nI v), nI r1, nI r1, 0, -1) := by
        have en2 := c_isAtNum (cs := nI r1) h hr1
        rw [er1] at en2
        unfold f_X2_readLetter_74
        rw [en2, if_neg hd, b3_s, if_pos rfl, e94 hL]
      rw [en, if_neg hd, b3_s, if_pos rfl, e74, e74b]
      rw [hif]
      have hSn : RT2 tx N (.inl r1) (nI r1) 0 (-1) (nI r1) (-1) mk1 := by obtain ⟨a, b, c, d, -⟩ := hS1c; exact ⟨a, b, c, d, r1, hr1, rfl, er1⟩
      by_cases h59 : r1 < N ∧ tx r1 = 59
      · rw [if_pos h59]
        obtain ⟨s3, ca3, cs3, ck3, cp3, ma3, mb3, mk3, n1, n2, hS3, ha3, -⟩ := L_need (cs := nI r1) h (c := 59) (by omega) (by omega) hSn
        refine ⟨s3, _, _, _, _, _, _, _, _, _, _, _, _, _, _, _, _, _, _, _, rfl, n1, rfl, n2, hS3, hadv s3 ha3, fun r' hr' => ⟨rfl, rfl, j + 1, fup w j v, by omega, by omega, rfl, fun k hk => ?_, upd_s _ _ _, fun i hi => upd_n (by omega), fun i hi => by rw [upd_n (by omega), upd_n (by omega)]⟩⟩
        obtain ⟨a1, a2, a3⟩ := hw1 k hk
        exact ⟨a1, a2, by rw [upd_n (by omega)]; exact a3⟩
      · rw [if_neg h59]
        -- what stands there can be neither
        obtain ⟨v9, s9, ca9, cs9, ck9, cp9, ma9, mb9, mk9, n1, n2, hS9, ha9, hv9, hc9, hn9, hz9⟩ := L_num (cs := nI r1) h (lo := 0) (B := 16) (by omega) (by omega) hSn
        have n2 : f_X10_readNumber (nI N) (nI r1) (-1) mk1 mt 0 15 = some (nI v9, ma9, mb9, mk9) := n2
        obtain rfl := hn9 r1 rfl hd
        have em1 : f_X10_here (nI N) (nI r1) mt = some (vM tx N r1, nI r1) := by have := m_here h hr1; rw [er1] at this; exact this
        obtain ⟨f1, f2, f3, f4, f5, f6⟩ := wF (cs := nI r1) (pb := pb) (nB := nB) (pd := pd) (pl := pl) (j := 7) (wd := wd) (nl := upd nl (10 * L + 2 + j) (nI v)) h hL hS9
        rw [f_X10_readLetter_20, em1, b2_s, n2, b4_s, f5, b1_s, if_pos rfl, f2]
        obtain ⟨s3, ca3, cs3, ck3, cp3, ma3, mb3, mk3, k1, k2, hS3, ha3, hn3⟩ := L_need (cs := nI r1) h (c := 59) (by omega) (by omega) hSn
        obtain rfl := hn3 r1 rfl h59
        refine ⟨.inr (1, r1), _, _, _, _, _, _, _, _, _, _, _, _, _, _, _, _, _, _, _, rfl, k1, rfl, f4, ?_, hadv _ adv_f, fun _ hr => by cases hr⟩
        obtain ⟨g1, g3, gf, rfl, rfl, rfl, rfl, q3, hq3, rfl⟩ := hS3
        obtain ⟨g1, g3, gf, rfl, rfl, rfl, rfl, q9, hq9, rfl⟩ := hS9
        exact rt_f g1 g3 gf hq9
theorem L_words (h : RTx tx N tb mt) {L : Nat} (hL : L < 6) {pb nB : Int32} {pd pl : Nat → Int32} : ∀ (d j : Nat), j + d = 7 → PW tx N tb mt L pb nB pd pl j := by
  intro d
  induction d with
  | zero => intro j hj; exact pw_step h hL (by omega) (fun h7 => absurd h7 (by omega))
  | succ d ih => intro j hj; exact pw_step h hL (by omega) (fun _ => ih (j + 1) (by omega))
end TC

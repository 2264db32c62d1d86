/-! ===== the law's text: units, products, sums ===== -/
theorem adv_tr {s1 s2 s3 : Ts} (h1 : adv s1 s2) (h2 : adv s2 s3) : adv s1 s3 := by
  refine ⟨fun x hx => h2.1 x (h1.1 x hx), fun r r' hr hr' => ?_⟩
  cases s2 with
  | inr x => have := h2.1 x rfl; rw [hr'] at this; cases this
  | inl r2 => exact Nat.lt_trans (h1.2 r r2 hr rfl) (h2.2 r2 r' rfl hr')
theorem adv_inl {s1 s2 : Ts} (h : adv s1 s2) {r' : Nat} (h2 : s2 = .inl r') : ∃ r, s1 = .inl r ∧ r < r' := by
  cases s1 with
  | inr x => have := h.1 x rfl; rw [h2] at this; cases this
  | inl r => exact ⟨r, rfl, h.2 r r' rfl h2⟩
theorem adv_le {r e : Nat} {s : Ts} {e' : Nat} (he : r < e) (hee : e ≤ e') (h : adv (.inl e') s) : adv (.inl r) s := ⟨fun x hx => (by cases hx), fun a b ha hb => by cases ha; have := h.2 e' b rfl hb; omega⟩
theorem vM_eq {tx : Nat → Nat} {N : Nat} {tb mt : Nat → Int32} (h : RTx tx N tb mt) {r c : Nat} (h1 : 1 ≤ c) (hc : c < 256) : vM tx N r = nI c ↔ r < N ∧ tx r = c := by
  unfold vM
  by_cases hr : r < N
  · have hb := (h.2 r hr).1
    rw [if_pos hr, nI_eq (by omega) (by omega)]
    exact ⟨fun h => ⟨hr, h⟩, fun h => h.2⟩
  · rw [if_neg hr]
    refine ⟨fun h9 => ?_, fun h9 => absurd h9.1 hr⟩
    have h9 : nI 0 = nI c := h9
    rw [nI_eq (by decide) (by omega)] at h9
    omega
section LV
variable {tx : Nat → Nat} {N : Nat} {tb mt : Nat → Int32}
theorem L_par (h : RTx tx N tb mt) (hN : N ≤ 150) {o D E : Nat} (ho : o ≤ 6) (hD : 4 * (6 - o) ≤ D) (hE : 4 * (6 - o) + 3 ≤ E) (hSum : o < 6 → PY tx N tb mt (o + 1) (18 - 3 * o) (f_X1_readSum D) (f_X10_readSum E)) {r : Nat} {c : List Tk} {code nc no : Nat → Int32} {len ncs mk : Int32} (hr : r < N) (hR : RLs c code len nc no ncs) (hc : c.length ≤ r) : PYr tx N (.inl r) c o (19 - 3 * o) (f_X1_readOpen (D + 1) code len tb (nI N) (nI (r + 1)) (nI r) 0 (-1) (nI o) 0) (b4 (f_X10_opensOne (nI r) (-1) mk (nI o) 1) (fun c43 c44 c45 c46 => b7 (f_X10_readSum E (nI N) c43 c44 c45 c46 mt nc no ncs) (fun c47 c48 c49 c50 c51 c52 c53 => b3 (f_X10_sign (nI N) c47 c48 c49 mt 41) (fun c54 c55 c56 => some (c54, c55, c56, c50 - 1, c51, c52, c53))))) := by
  have h6 := h.1
  show PYr tx N (.inl r) c o (19 - 3 * o) (f_X1_readOpen_b (f_X1_readSum D) (f_X1_readProduct D) (f_X1_readUnit D) (f_X1_readOpen D) code len tb (nI N) (nI (r + 1)) (nI r) 0 (-1) (nI o) 0) _
  unfold f_X1_readOpen_b
  rw [show (6 : Int32) = nI 6 from rfl, ite_lt (by omega) (by omega)]
  by_cases h6o : o < 6
  · have hS := rt_at (tx := tx) (mk := mk) (show r + 1 ≤ N by omega)
    have hge := sk_ge (tx := tx) (N := N) (p := r + 1)
    obtain ⟨s1, c1, code1, len1, ca1, cs1, ck1, cp1, ma1, mb1, mk1, op1, nc1, no1, ncs1, e1, e2, hS1, ha1, hl1, hR1⟩ := hSum h6o (.inl (sk tx N (r + 1))) c code nc no len ncs (nI (r + 1)) (nI r) 0 (-1) (nI (r + 1)) (-1) mk (nI (o + 1)) hS ⟨_, by omega, hR.1.1⟩ (fun r' hr' => by cases hr'; exact ⟨rfl, hR, by omega⟩)
    obtain ⟨s2, ca2, cs2, ck2, cp2, ma2, mb2, mk2, e3, e4, hS2, ha2, -⟩ := L_need (cs := cs1) h (c := 41) (by omega) (by omega) hS1
    have e3 : f_X7_need tb (nI N) ca1 cs1 ck1 cp1 41 = _ := e3
    have e4 : f_X10_sign (nI N) ma1 mb1 mk1 mt 41 = _ := e4
    have eo := opens1 (mk := mk) (r := r) (b := 1) h6o
    have eo : f_X10_opensOne (nI r) (-1) mk (nI o) 1 = _ := eo
    rw [if_pos h6o, if_pos rfl, nI_1, e1, b6_s, e3, b4_s, eo, b4_s, e2, b7_s, e4, b3_s]
    refine ⟨s2, c1, code1, len1, ca2, cs2, ck2, cp2, ma2, mb2, mk2, op1 - 1, nc1, no1, ncs1, rfl, rfl, hS2, adv_le (Nat.lt_succ_self r) hge (adv_tr ha1 ha2), hl1, fun r' hr' => ?_⟩
    obtain ⟨r1, rfl, hlt⟩ := adv_inl ha2 hr'
    obtain ⟨g1, g2, t, g3, g4, g5⟩ := hR1 r1 rfl
    refine ⟨by rw [g1]; exact nI_sub (a := o + 1) (b := 1) (by omega), g2, t, g3, fun r2 hr2 => ?_, fun d hd => g5 d (by omega)⟩
    cases hr2
    have := g4 _ rfl
    omega
  · obtain rfl : o = 6 := by omega
    obtain ⟨E, rfl⟩ : ∃ j, E = j + 3 := ⟨E - 3, by omega⟩
    rw [if_neg h6o, show f_X7_blame (nI r) 0 (-1) 3 = some (3, nI r) from rfl, b2_s, opens6 (by omega), b4_s, m_sumF (by omega), b7_s, m_signF (by omega), b3_s]
    exact ⟨.inr (3, r), c, code, len, _, _, 3, nI r, nI r, nI r, 3, _, nc, no, ncs, rfl, rfl, rt_f (by omega) (by omega) (by omega) (by omega), adv_f, ⟨_, by omega, hR.1.1⟩, fun _ hr' => by cases hr'⟩
theorem L_two (h : RTx tx N tb mt) (hN : N ≤ 150) {o D E : Nat} (ho : o ≤ 6) (hD : 4 * (6 - o) ≤ D) (hE : 4 * (6 - o) + 3 ≤ E) (hSum : o < 6 → PY tx N tb mt (o + 1) (18 - 3 * o) (f_X1_readSum D) (f_X10_readSum E)) {r w k : Nat} {c : List Tk} {code nc no : Nat → Int32} {len ncs mk : Int32} (hr : r + w ≤ N) (hw : 1 ≤ w) (hk : k = 6 ∨ k = 7) (hR : RLs c code len nc no ncs) (hc : c.length ≤ r) : PYr tx N (.inl r) c o (19 - 3 * o) (f_X1_readOpen (D + 1) code len tb (nI N) (nI (r + w)) (nI r) 0 (-1) (nI o) (encC (k, 0))) (f_X10_readTwo (E + 1) (nI N) (nI r) (-1) mk (nI o) mt nc no ncs (nI w) (nI k)) := by
  have h6 := h.1
  have hne : ¬ encC (k, 0) = 0 := by rcases hk with rfl | rfl <;> decide
  show PYr tx N (.inl r) c o (19 - 3 * o) (f_X1_readOpen_b (f_X1_readSum D) (f_X1_readProduct D) (f_X1_readUnit D) (f_X1_readOpen D) code len tb (nI N) (nI (r + w)) (nI r) 0 (-1) (nI o) (encC (k, 0))) (f_X10_readTwo_b (f_X10_readSum E) (f_X10_readProduct E) (f_X10_readUnit E) (f_X10_readTwo E) (nI N) (nI r) (-1) mk (nI o) mt nc no ncs (nI w) (nI k))
  unfold f_X1_readOpen_b f_X10_readTwo_b
  rw [show (6 : Int32) = nI 6 from rfl, ite_lt (by omega) (by omega)]
  by_cases h6o : o < 6
  · have hS := rt_at (tx := tx) (mk := mk) hr
    have hge := sk_ge (tx := tx) (N := N) (p := r + w)
    obtain ⟨s1, ca1, cs1, ck1, cp1, ma1, mb1, mk1, e1, e2, hS1, ha1, -⟩ := L_need (cs := nI r) h (c := 91) (by omega) (by omega) hS
    have e1 : f_X7_need tb (nI N) (nI (r + w)) (nI r) 0 (-1) 91 = _ := e1
    have e2 : f_X10_sign (nI N) (nI (r + w)) (-1) mk mt 91 = _ := e2
    obtain ⟨s2, c2, code2, len2, ca2, cs2, ck2, cp2, ma2, mb2, mk2, op2, nc2, no2, ncs2, e3, e4, hS2, ha2, hl2, hR2⟩ := hSum h6o s1 c code nc no len ncs ca1 cs1 ck1 cp1 ma1 mb1 mk1 (nI (o + 1)) hS1 ⟨_, by omega, hR.1.1⟩ (fun r' hr' => ⟨rfl, hR, by have := ha1.2 _ r' rfl hr'; omega⟩)
    obtain ⟨s3, ca3, cs3, ck3, cp3, ma3, mb3, mk3, e5, e6, hS3, ha3, -⟩ := L_need (cs := cs2) h (c := 44) (by omega) (by omega) hS2
    have e5 : f_X7_need tb (nI N) ca2 cs2 ck2 cp2 44 = _ := e5
    have e6 : f_X10_sign (nI N) ma2 mb2 mk2 mt 44 = _ := e6
    have hc3 : ∀ r', s3 = .inl r' → op2 = nI (o + 1) ∧ RLs c2 code2 len2 nc2 no2 ncs2 ∧ c2.length ≤ r' := by
      intro r' hr'
      obtain ⟨r2, rfl, hlt⟩ := adv_inl ha3 hr'
      obtain ⟨r1, rfl, hlt1⟩ := adv_inl ha2 rfl
      obtain ⟨g1, g2, t, g3, g4, g5⟩ := hR2 r2 rfl
      have := ha1.2 _ r1 rfl rfl
      have := g4 r1 rfl
      have e : c2.length = c.length + t.length := by rw [g3, List.length_append]
      exact ⟨g1, g2, by omega⟩
    obtain ⟨s4, c4, code4, len4, ca4, cs4, ck4, cp4, ma4, mb4, mk4, op4, nc4, no4, ncs4, e7, e8, hS4, ha4, hl4, hR4⟩ := hSum h6o s3 c2 code2 nc2 no2 len2 ncs2 ca3 cs3 ck3 cp3 ma3 mb3 mk3 op2 hS3 hl2 hc3
    obtain ⟨s5, ca5, cs5, ck5, cp5, ma5, mb5, mk5, e9, e10, hS5, ha5, -⟩ := L_need (cs := cs4) h (c := 93) (by omega) (by omega) hS4
    have e9 : f_X7_need tb (nI N) ca4 cs4 ck4 cp4 93 = _ := e9
    have e10 : f_X10_sign (nI N) ma4 mb4 mk4 mt 93 = _ := e10
    have hall : ∀ r5, s5 = .inl r5 → op4 = nI (o + 1) ∧ RLs c4 code4 len4 nc4 no4 ncs4 ∧ ∃ t1 t2, c4 = c ++ (t1 ++ t2) ∧ t1.length + t2.length + r + 1 ≤ r5 ∧ (∀ d, d + (18 - 3 * o) ≤ 32 → chT t1 d (d + 1)) ∧ ∀ d, d + (18 - 3 * o) ≤ 32 → chT t2 d (d + 1) := by
      intro r5 hr5
      obtain ⟨r4, rfl, hlt4⟩ := adv_inl ha5 hr5
      obtain ⟨r3, rfl, hlt3⟩ := adv_inl ha4 rfl
      obtain ⟨r2, rfl, hlt2⟩ := adv_inl ha3 rfl
      obtain ⟨r1, rfl, hlt1⟩ := adv_inl ha2 rfl
      obtain ⟨g1, g2, t, g3, g4, g5⟩ := hR2 r2 rfl
      obtain ⟨k1, k2, u, k3, k4, k5⟩ := hR4 r4 rfl
      have a1 := ha1.2 _ r1 rfl rfl
      have a2 := g4 r1 rfl
      have a3 := k4 r3 rfl
      exact ⟨k1, k2, t, u, by rw [k3, g3, List.append_assoc], by omega, g5, k5⟩
    obtain ⟨code', len', nc', no', ncs', e11, e12, e13, e14⟩ := L_tok (t := ((k, 0) : Tk)) (c := c4) h hN hS5 hl4 (fun r5 hr5 => by
      obtain ⟨-, g2, t1, t2, g3, g4, -, -⟩ := hall r5 hr5
      refine ⟨g2, ?_⟩
      rw [g3, List.length_append, List.length_append]
      omega)
    have e12 : f_X10_emit mb5 nc4 no4 ncs4 (nI k) 0 = _ := e12
    rw [if_pos h6o, if_neg hne, nI_1, e1, b4_s, e3, b6_s, e5, b4_s, e7, b6_s, e9, b4_s, e11, b2_s, opens1 h6o, b4_s, e2, b3_s, e4, b7_s, e6, b3_s, e8, b7_s, e10, b3_s, e12, b3_s]
    refine ⟨s5, c4 ++ [(k, 0)], code', len', ca5, cs5, ck5, cp5, ma5, mb5, mk5, op4 - 1, nc', no', ncs', rfl, rfl, hS5, adv_le (show r < r + w by omega) hge (adv_tr ha1 (adv_tr ha2 (adv_tr ha3 (adv_tr ha4 ha5)))), e13, fun r5 hr5 => ?_⟩
    obtain ⟨g1, g2, t1, t2, g3, g4, g5, g6⟩ := hall r5 hr5
    refine ⟨by rw [g1]; exact nI_sub (a := o + 1) (b := 1) (by omega), e14 r5 hr5, (t1 ++ t2) ++ [(k, 0)], by rw [g3, List.append_assoc], fun r2 hr2 => ?_, fun d hd => ?_⟩
    · cases hr2
      rw [List.length_append, List.length_append]
      show t1.length + t2.length + 1 + r ≤ r5
      omega
    · exact chT_app _ _ d (d + 2) (d + 1) (chT_app _ _ d (d + 1) (d + 2) (g5 d (by omega)) (g6 (d + 1) (by omega))) (chT_op (by omega) (by omega) (by omega))
  · obtain rfl : o = 6 := by omega
    obtain ⟨E, rfl⟩ : ∃ j, E = j + 3 := ⟨E - 3, by omega⟩
    rw [if_neg h6o, show f_X7_blame (nI r) 0 (-1) 3 = some (3, nI r) from rfl, b2_s, opens6 (by omega), b4_s, m_signF (by omega), b3_s, m_sumF (by omega), b7_s, m_signF (by omega), b3_s, m_sumF (by omega), b7_s, m_signF (by omega), b3_s, emitF (by omega), b3_s]
    exact ⟨.inr (3, r), c, code, len, _, _, 3, nI r, nI r, nI r, 3, _, nc, no, ncs, rfl, rfl, rt_f (by omega) (by omega) (by omega) (by omega), adv_f, ⟨_, by omega, hR.1.1⟩, fun _ hr' => by cases hr'⟩
theorem b6_id {A B C D E F : Type} (X : Option (A × B × C × D × E × F)) : b6 X (fun a b c d e f => some (a, b, c, d, e, f)) = X := by cases X <;> rfl
theorem b7_id {A B C D E F G : Type} (X : Option (A × B × C × D × E × F × G)) : b7 X (fun a b c d e f g => some (a, b, c, d, e, f, g)) = X := by cases X <;> rfl
theorem L_unit (h : RTx tx N tb mt) (hN : N ≤ 150) {o D E : Nat} (ho : o ≤ 6) (hD : 4 * (6 - o) ≤ D) (hE : 4 * (6 - o) + 3 ≤ E) (hSum : o < 6 → PY tx N tb mt (o + 1) (18 - 3 * o) (f_X1_readSum D) (f_X10_readSum E) ∧ PY tx N tb mt (o + 1) (18 - 3 * o) (f_X1_readSum D) (f_X10_readSum (E + 1))) : PY tx N tb mt o (19 - 3 * o) (f_X1_readUnit (D + 2)) (f_X10_readUnit (E + 2)) := by
  have h6 := h.1
  intro s c code nc no len ncs ca cs ck cp ma mb mk op hS hl hR
  cases s with
  | inr x =>
    obtain ⟨k, f⟩ := x
    have hS' := hS
    obtain ⟨g1, g3, gf, rfl, rfl, rfl, rfl, q, hq, rfl⟩ := hS
    rw [c_unitF (ne0 g1 g3), m_unitF (by omega)]
    exact ⟨.inr (k, f), c, code, len, ca, cs, nI k, nI f, nI q, nI f, nI k, op, nc, no, ncs, rfl, rfl, hS', adv_inr, hl, fun _ hr => by cases hr⟩
  | inl r =>
    obtain ⟨rfl, hR, hc⟩ := hR r rfl
    obtain ⟨rfl, rfl, rfl, ⟨p, hp, rfl, ep⟩, q, hq, rfl, eq⟩ := hS
    have hr := sk_le (tx := tx) hp
    rw [ep] at hr
    have er : sk tx N r = r := by rw [← ep, sk_sk]
    have hW := wrd_ok tx N r
    obtain ⟨d22, d23, -, -, -, -, -, -, -, l3, l4⟩ := chs_law
    have hT : ∀ (ti : Nat) (st : Int32), ti < 35 → f_X7_takes_ tb (nI N) (nI r) st 0 ti = some (if wrd tx N r = chs ti then (1, nI (r + (chs ti).length), nI r) else (0, nI r, nI r)) := by
      intro ti st ht
      have := c_takesW (st := st) h ht hr
      rw [er] at this
      exact this
    have hM : f_X10_wordHere (nI N) (nI r) mt = some (wcode (wrd tx N r), nI r) := by
      have := m_wordHere h hr
      rw [er] at this
      exact this
    have hH : f_X10_here (nI N) (nI r) mt = some (vM tx N r, nI r) := by
      have := m_here h hr
      rw [er] at this
      exact this
    have hC : ∀ st, f_X7_takes tb (nI N) (nI r) st 0 40 = some (if r < N ∧ tx r = 40 then (1, nI (r + 1), nI r) else (0, nI r, nI r)) := by
      intro st
      have := c_takesC (st := st) (c := 40) h (by omega) hr
      rw [er] at this
      exact this
    have hnum := c_isAtNum (cs := cs) h hp
    rw [ep] at hnum
    have hq0 := m_here h hq
    rw [eq] at hq0
    show PYr tx N (.inl r) c o (19 - 3 * o) (f_X1_readUnit_b (f_X1_readSum (D + 1)) (f_X1_readProduct (D + 1)) (f_X1_readUnit (D + 1)) (f_X1_readOpen (D + 1)) code len tb (nI N) (nI p) cs 0 (-1) (nI o)) (f_X10_readUnit_b (f_X10_readSum (E + 1)) (f_X10_readProduct (E + 1)) (f_X10_readUnit (E + 1)) (f_X10_readTwo (E + 1)) (nI N) (nI q) (-1) mk (nI o) mt nc no ncs)
    unfold f_X1_readUnit_b f_X10_readUnit_b
    rw [hnum, b3_s, m_fine1, b1_s, if_neg (show ¬ (1 : Int32) = 0 by decide), hq0, b2_s, ite_b]
    by_cases h40 : r < N ∧ tx r = 40
    · have hd : ¬ (r < N ∧ isDg (tx r) = true) := fun h9 => by have := isDg_iff.mp h9.2; omega
      rw [if_neg hd, hC, if_pos h40, b3_s, if_neg (show ¬ (1 : Int32) = 0 by decide), if_pos (show vM tx N r = 40 from (vM_eq h (c := 40) (by omega) (by omega)).mpr h40), b6_id]
      exact L_par h hN ho hD (by omega) (fun ho6 => (hSum ho6).2) h40.1 hR hc
    · rw [if_neg (show ¬ vM tx N r = 40 from fun h9 => h40 ((vM_eq h (c := 40) (by omega) (by omega)).mp h9)), hH, b2_s, m_digit h (Or.inr rfl), b1_s, ite_b]
      by_cases hd : r < N ∧ isDg (tx r) = true
      · rw [if_pos hd, if_pos hd]
        have hS : RT2 tx N (.inl r) (nI r) 0 (-1) (nI r) (-1) mk := ⟨rfl, rfl, rfl, ⟨r, hr, rfl, er⟩, r, hr, rfl, er⟩
        obtain ⟨v, s1, ca1, cs1, ck1, cp1, ma1, mb1, mk1, e1, e2, hS1, ha1, hv1, -, -, -⟩ := L_num (cs := nI r) h (lo := 0) (B := 1000) (by omega) (by omega) hS
        have e1 : f_X7_number tb (nI N) (nI r) (nI r) 0 (-1) 0 999 = _ := e1
        have e2 : f_X10_readNumber (nI N) (nI r) (-1) mk mt 0 999 = _ := e2
        obtain ⟨code', len', nc', no', ncs', e3, e4, e5, e6⟩ := L_tok (t := ((0, v) : Tk)) h hN hS1 hl (fun r1 hr1 => ⟨hR, by have := ha1.2 r r1 rfl hr1; omega⟩)
        have e3 : f_X1_add code len (nI v) = _ := e3
        have e4 : f_X10_emit mb1 nc no ncs 0 (nI v) = _ := e4
        rw [e1, b5_s, e3, b2_s, e2, b4_s, e4, b3_s]
        refine ⟨s1, c ++ [(0, v)], code', len', ca1, cs1, ck1, cp1, ma1, mb1, mk1, nI o, nc', no', ncs', rfl, rfl, hS1, ha1, e5, fun r1 hr1 => ⟨rfl, e6 r1 hr1, [(0, v)], rfl, fun r2 hr2 => ?_, fun d hd => chT_num (by have := (hv1 r1 hr1).2; omega) (by omega)⟩⟩
        have := ha1.2 r2 r1 hr2 hr1
        show 1 + r2 ≤ r1
        omega
      · rw [if_neg hd, if_neg hd, hC, if_neg h40, b3_s, if_pos rfl, hT 3 _ (by decide), hM, b2_s, m_of (by decide), b1_s, ite_w hW (by decide), d22]
        have he := wrd_le (tx := tx) (N := N) hr
        by_cases w3 : wrd tx N r = chs 3
        · rw [if_pos w3, b3_s, if_neg (show ¬ (1 : Int32) = 0 by decide), if_pos w3, b6_id, b7_id, l3]
          rw [w3, l3] at he
          exact L_two (k := 6) (w := 5) h hN ho hD (by omega) (fun ho6 => (hSum ho6).1) he (by decide) (Or.inl rfl) hR hc
        · rw [if_neg w3, b3_s, if_pos rfl, if_neg w3, hT 4 _ (by decide), hM, b2_s, m_of (by decide), b1_s, ite_w hW (by decide), d23]
          by_cases w4 : wrd tx N r = chs 4
          · rw [if_pos w4, b3_s, if_neg (show ¬ (1 : Int32) = 0 by decide), if_pos w4, b6_id, b7_id, l4]
            rw [w4, l4] at he
            exact L_two (k := 7) (w := 4) h hN ho hD (by omega) (fun ho6 => (hSum ho6).1) he (by decide) (Or.inr rfl) hR hc
          · rw [if_neg w4, b3_s, if_pos rfl, if_neg w4, b6_id]
            exact L_value h hN ho hr er hR hc
end LV

/-! ===== summers: draws, halves of a year, years ===== -/
def nxt (u : Int32) : Int32 := u * 1103515245 + 12345
def dk (u : Int32) : Nat := (nxt u >>> (nI 16 &&& 31)).toBitVec.toNat &&& 32767
theorem dk_lt (u : Int32) : dk u < 32768 := Nat.lt_of_le_of_lt Nat.and_le_right (by decide)
theorem bt_nat (x : Int32) (i : Nat) : bt x i = x.toBitVec.toNat.testBit i := rfl
theorem dk_m (u : Int32) : (nxt u >>> (nI 16 &&& 31)) &&& 32767 = nI (dk u) := by
  apply b_ext
  intro i hi
  unfold dk
  rw [b_and, bt_nI, Nat.testBit_and, decide_eq_true hi, Bool.true_and, bt_nat, show (32767 : Int32) = nI 32767 from rfl, bt_nI, decide_eq_true hi, Bool.true_and]
theorem dk_c (u : Int32) : ((nxt u).toUInt32 >>> ((nI 16).toUInt32 &&& Int32.toUInt32 31)).toInt32 &&& 32767 = nI (dk u) := by
  rw [← dk_m]
  apply b_ext
  intro i hi
  rw [b_and, b_and, b_ushr 16 (by decide), b_sshr 16 (by decide) _ hi, show (32767 : Int32) = nI 32767 from rfl, bt_nI]
  by_cases h : 16 + i < 32
  · rw [if_pos h]
  · have h2 : Nat.testBit 32767 i = false := Nat.testBit_lt_two_pow (Nat.lt_of_lt_of_le (by decide : 32767 < 2 ^ 15) (Nat.pow_le_pow_right (by decide) (by omega)))
    rw [h2, Bool.and_false, Bool.and_false, Bool.and_false]
theorem mod_nI {k n : Nat} (hk : k < 32768) (hn : n < 1000) : nI k - nI k / nI n * nI n = nI (k % n) := by
  have h1 : k / n * n ≤ k := Nat.div_mul_le_self k n
  rw [nI_div (by omega) (by omega), nI_mul, nI_sub h1]
  congr 1
  have := Nat.div_add_mod k n
  rw [Nat.mul_comm] at this
  omega
theorem c_draw (u : Int32) {n : Nat} (h0 : 0 < n) (hn : n < 1000) : f_X6_draw u (nI n) = some (nI (dk u % n), nxt u) := by
  unfold f_X6_draw
  rw [if_neg (show ¬ nI n ≤ 0 by rw [show (0 : Int32) = nI 0 from rfl, nI_leI (by omega) (by omega)]; omega), if_neg (nI_ne0 (by omega) (by omega))]
  have e := dk_c u
  have e' : (((u * 1103515245) + 12345).toUInt32 >>> ((16 : Int32).toUInt32 &&& Int32.toUInt32 31)).toInt32 &&& 32767 = nI (dk u) := e
  rw [e', mod_nI (dk_lt u) hn]
  rfl
theorem m_draws (u : Int32) {n : Nat} (h0 : 0 < n) (hn : n < 1000) : f_X10_draws u (nI n) = some (nI (dk u % n), nxt u) := by
  unfold f_X10_draws
  rw [if_neg (nI_ne0 (by omega) (by omega))]
  have e' : (((u * 1103515245) + 12345) >>> ((16 : Int32) &&& 31)) &&& 32767 = nI (dk u) := dk_m u
  rw [e', mod_nI (dk_lt u) hn]
  rfl
/-- the walk of a half year -/
def oWalk (π : Pg) (p : Int32 × Sg) : Int32 × Sg := if gR π = 0 then p else (nxt (nxt p.1), if gPl p.2 (dk p.1 % gR π) = dk (nxt p.1) % gB π then p.2 else oGo (dk p.1 % gR π) (dk (nxt p.1) % gB π) p.2)
def oHalf (π : Pg) (c : List Tk) (q : Int32) (p : Int32 × Sg) : Int32 × Sg := oWalk π (if q ≤ nI (dk p.1 % 16) then (nxt (nxt p.1), (oBlow π (dk (nxt p.1) % 30 + 1) p.2).2) else (nxt (nxt p.1), oPour π c (dk (nxt p.1) % 20 + 1) p.2))
def oSum (π : Pg) (c : List Tk) (q : Int32) (p : Int32 × Sg) : Int32 × Sg := ((oHalf π c q (oHalf π c q p)).1, oYear π (oHalf π c q (oHalf π c q p)).2)
section KN
variable {π : Pg} {σ : Sg} {s_year s_wet s_lost s_eaten s_tied s_ripeMany : Int32} {s_gone s_place s_heard s_many s_lying s_ripe : Nat → Int32}
variable {p_beds p_letters p_readers : Int32} {p_far p_drain p_length p_words p_home : Nat → Int32}
variable {m_s m_now m_bed m_letter m_reader m_refused : Nat → Int32} {m_beds m_letters m_readers m_thrown x_missing x_misused : Int32}
variable {c : List Tk} {l_code l_values l_stack : Nat → Int32} {l_length : Int32} {m_code m_ofCode m_stack m_facts : Nat → Int32} {m_codes : Int32}
theorem yr_same {τ : Sg} {y : Int32} (os : OkS π σ) (ot : OkS π τ) (h1 : y = nI (gYr σ)) (h2 : y = nI (gYr τ)) : gYr τ = gYr σ := by
  have a := os.1
  have b := ot.1
  exact (nI_eq (by omega) (by omega)).mp (h2.symm.trans h1)
theorem c_half42 {u n1 : Int32} (hS : RS π σ (s_year, s_wet, s_lost, s_eaten, s_tied, s_ripeMany, s_gone, s_place, s_heard, s_many, s_lying, s_ripe)) (hP : RPc π (p_beds, p_letters, p_readers, p_far, p_drain, p_length, p_words, p_home)) (ok : OkP π) (os : OkS π σ) : ∃ pl he, f_X6_passHalf_42 s_year s_tied p_beds p_letters p_readers p_far p_drain p_length p_words l_code l_length n1 u s_wet s_lost s_gone s_place s_heard s_many s_lying l_values l_stack = some ((oWalk π (u, σ)).1, s_wet, s_lost, s_gone, pl, he, s_many, s_lying, l_values, l_stack) ∧ RS π (oWalk π (u, σ)).2 (s_year, s_wet, s_lost, s_eaten, s_tied, s_ripeMany, s_gone, pl, he, s_many, s_lying, s_ripe) ∧ OkS π (oWalk π (u, σ)).2 := by
  have h5 := ok.2.2.1
  have h6 := ok.1
  unfold f_X6_passHalf_42 oWalk
  rw [hP.2.2.1]
  simp (disch := omega) only [show (0 : Int32) = nI 0 from rfl, nI_leJ]
  by_cases h : gR π = 0
  · rw [if_pos (by omega), if_pos h]
    exact ⟨s_place, s_heard, rfl, hS, os⟩
  · have hh := ok.2.2.2.2.2 0 (by omega)
    have hr : dk u % gR π < gR π := Nat.mod_lt _ (by omega)
    have hb : dk (nxt u) % gB π < gB π := Nat.mod_lt _ (by omega)
    rw [if_neg (by omega), if_neg h, c_draw u (by omega) (by omega), b2_s, hP.1, c_draw (nxt u) (by omega) (by omega), b2_s]
    obtain ⟨pl, he, e, q⟩ := c_go hS ok os hr (b := dk (nxt u) % gB π) (by omega)
    rw [e, b3_s]
    refine ⟨pl, he, rfl, q, ?_⟩
    show OkS π (if gPl σ (dk u % gR π) = dk (nxt u) % gB π then σ else oGo (dk u % gR π) (dk (nxt u) % gB π) σ)
    by_cases h2 : gPl σ (dk u % gR π) = dk (nxt u) % gB π
    · rw [if_pos h2]; exact os
    · rw [if_neg h2]; exact okS_go os hb
theorem c_half {u n1 : Int32} (hS : RS π σ (s_year, s_wet, s_lost, s_eaten, s_tied, s_ripeMany, s_gone, s_place, s_heard, s_many, s_lying, s_ripe)) (hP : RPc π (p_beds, p_letters, p_readers, p_far, p_drain, p_length, p_words, p_home)) (ok : OkP π) (os : OkS π σ) (hR : RLc c l_code l_length) (okl : OkL c) : ∃ w lo go pl he ma ly va st, f_X6_passHalf u s_year s_wet s_lost s_tied s_gone s_place s_heard s_many s_lying p_beds p_letters p_readers p_far p_drain p_length p_words l_code l_values l_stack l_length n1 = some ((oHalf π c n1 (u, σ)).1, w, lo, go, pl, he, ma, ly, va, st) ∧ RS π (oHalf π c n1 (u, σ)).2 (s_year, w, lo, s_eaten, s_tied, s_ripeMany, go, pl, he, ma, ly, s_ripe) ∧ OkS π (oHalf π c n1 (u, σ)).2 := by
  have h30 : dk (nxt u) % 30 < 30 := Nat.mod_lt _ (by decide)
  have h20 : dk (nxt u) % 20 < 20 := Nat.mod_lt _ (by decide)
  unfold f_X6_passHalf oHalf
  rw [show (16 : Int32) = nI 16 from rfl, c_draw u (by decide) (by decide), b2_s, show (30 : Int32) = nI 30 from rfl, c_draw (nxt u) (by decide) (by decide), b2_s, show (20 : Int32) = nI 20 from rfl, c_draw (nxt u) (by decide) (by decide), b2_s, nI_1, nI_1]
  show ∃ w lo go pl he ma ly va st, (if n1 ≤ nI (dk u % 16) then _ else _) = some ((oWalk π (if n1 ≤ nI (dk u % 16) then _ else _)).1, w, lo, go, pl, he, ma, ly, va, st) ∧ RS π (oWalk π (if n1 ≤ nI (dk u % 16) then _ else _)).2 _ ∧ OkS π (oWalk π (if n1 ≤ nI (dk u % 16) then _ else _)).2
  by_cases h : n1 ≤ nI (dk u % 16)
  · rw [if_pos h, if_pos h]
    obtain ⟨he, e, q⟩ := c_blow (N := dk (nxt u) % 30 + 1) hS hP ok os (by omega)
    rw [e, b2_s]
    obtain ⟨pl2, he2, e2, q2, o2⟩ := c_half42 (u := nxt (nxt u)) (n1 := n1) (l_code := l_code) (l_values := l_values) (l_stack := l_stack) (l_length := l_length) q hP ok (okS_blow os)
    exact ⟨_, _, _, _, _, _, _, _, _, e2, q2, o2⟩
  · rw [if_neg h, if_neg h]
    obtain ⟨w2, lo2, go2, ma2, ly2, va2, st2, e, q, o1⟩ := c_pour (l_values := l_values) (l_stack := l_stack) (N := dk (nxt u) % 20 + 1) hS hP ok os hR okl (by omega)
    rw [e, b7_s]
    obtain ⟨pl2, he2, e2, q2, o2⟩ := c_half42 (u := nxt (nxt u)) (n1 := n1) (l_code := l_code) (l_values := va2) (l_stack := st2) (l_length := l_length) q hP ok o1
    exact ⟨_, _, _, _, _, _, _, _, _, e2, q2, o2⟩
theorem c_pass9 {n1 q n3 : Int32} {N : Nat} (hn : n3 = nI N) (hN : N ≤ 48) (hP : RPc π (p_beds, p_letters, p_readers, p_far, p_drain, p_length, p_words, p_home)) (ok : OkP π) (hR : RLc c l_code l_length) (okl : OkL c) {ea ti : Int32} : ∀ (d k m : Nat) (p : Int32 × Sg) (y w lo rm : Int32) (go pl he ma ly ri va st : Nat → Int32), k + d = N → d < m → OkS π p.2 → gYr p.2 ≤ 400 + k → RS π p.2 (y, w, lo, ea, ti, rm, go, pl, he, ma, ly, ri) →
    ∃ y2 w2 lo2 rm2 go2 pl2 he2 ma2 ly2 ri2 va2 st2, f_X6_pass_9 ti p_beds p_letters p_readers p_far p_drain p_length p_words l_code l_length n1 q n3 m (nI k) p.1 y w lo rm go pl he ma ly ri va st = some ((itN (fun _ p => oSum π c q p) d k p).1, y2, w2, lo2, rm2, go2, pl2, he2, ma2, ly2, ri2, va2, st2) ∧ RS π (itN (fun _ p => oSum π c q p) d k p).2 (y2, w2, lo2, ea, ti, rm2, go2, pl2, he2, ma2, ly2, ri2) ∧ OkS π (itN (fun _ p => oSum π c q p) d k p).2 := by
  subst hn
  intro d
  induction d with
  | zero =>
    intro k m p y w lo rm go pl he ma ly ri va st hk hm os hy hS
    obtain ⟨m, rfl⟩ : ∃ j, m = j + 1 := ⟨m - 1, by omega⟩
    obtain rfl : k = N := by omega
    rw [f_X6_pass_9, if_pos (Int32.le_refl _)]
    exact ⟨_, _, _, _, _, _, _, _, _, _, _, _, rfl, hS, os⟩
  | succ d ih =>
    intro k m p y w lo rm go pl he ma ly ri va st hk hm os hy hS
    obtain ⟨m, rfl⟩ : ∃ j, m = j + 1 := ⟨m - 1, by omega⟩
    obtain ⟨u, σ⟩ := p
    obtain ⟨w2, lo2, go2, pl2, he2, ma2, ly2, va2, st2, e2, q2, o2⟩ := c_half (u := u) (n1 := q) (l_values := va) (l_stack := st) hS hP ok os hR okl
    obtain ⟨w3, lo3, go3, pl3, he3, ma3, ly3, va3, st3, e3, q3, o3⟩ := c_half (u := (oHalf π c q (u, σ)).1) (n1 := q) (l_values := va2) (l_stack := st2) q2 hP ok o2 hR okl
    have hy3 := (yr_same o2 o3 q2.1 q3.1).trans (yr_same os o2 hS.1 q2.1)
    have hy : gYr σ ≤ 400 + k := hy
    obtain ⟨y4, w4, rm4, ma4, ly4, ri4, e4, q4⟩ := c_passYear q3 hP ok o3
    have o4 := okS_year' o3 (Y := 400 + k) (by rw [hy3]; exact hy) (by omega)
    rw [f_X6_pass_9, if_neg (by rw [nI_leI (by omega) (by omega)]; omega), e2, b10_s, e3, b10_s, e4, b6_s, nI_1]
    exact ih (k + 1) m (oSum π c q (u, σ)) _ _ _ _ _ _ _ _ _ _ _ _ (by omega) (by omega) o4.1 o4.2 q4
end KN

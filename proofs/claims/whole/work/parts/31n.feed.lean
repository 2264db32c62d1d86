/-! ===== feed, fault, status, count ===== -/
/-- the tape: bytes that the class keeps signed, the model unsigned -/
def RT (T : Nat) (tb mt : Nat → Int32) : Prop := T ≤ 600 ∧ ∀ i, i < T → tb i &&& 255 = mt i
section KM
variable {m_refused t_bytes m_tape : Nat → Int32} {m_thrown x_missing x_misused : Int32}
theorem nar_b (x : Int32) : vp_nar .byte (x.toInt8.toInt32) &&& 255 = x &&& 255 := by
  have h : vp_nar .byte (x.toInt8.toInt32) = x.toInt8.toInt32.toInt8.toInt32 := rfl
  rw [h, bp_b, bp_b]
theorem c_put {T : Nat} (hT : T + 4 ≤ 600) (n1 : Int32) : ∃ b, f_X7_put t_bytes (nI T) n1 = some (b, nI (T + 4)) ∧ ∀ i, b i &&& 255 = if T ≤ i ∧ i < T + 4 then (n1 >>> (nI (24 - 8 * (i - T)) &&& 31)) &&& 255 else t_bytes i &&& 255 := by
  unfold f_X7_put
  obtain ⟨b, e, q⟩ := loopR (A := Unit) (C := Nat → Int32) (F := fun m q x => f_X7_put_3 n1 m (24 - 8 * x) q (nI T + x)) (B := 4) (step := fun _ _ => ()) (fin := fun q => some (q, nI (T + 4))) (Q := fun k _ q => ∀ i, q i &&& 255 = if T ≤ i ∧ i < T + k then (n1 >>> (nI (24 - 8 * (i - T)) &&& 31)) &&& 255 else t_bytes i &&& 255) (fun m q => by
      show f_X7_put_3 n1 (m + 1) (24 - 8 * nI 4) q (nI T + nI 4) = _
      rw [f_X7_put_3, if_pos (by decide), nI_add]) (fun m _ q k hk hq => by
      refine ⟨upd q (T + k) (vp_nar .byte ((n1 >>> (nI (24 - 8 * k) &&& 31)).toInt8.toInt32)), ?_, fun i => ?_⟩
      · show f_X7_put_3 n1 (m + 1) (24 - 8 * nI k) q (nI T + nI k) = f_X7_put_3 n1 m (24 - 8 * nI (k + 1)) _ (nI T + nI (k + 1))
        have e1 : (24 : Int32) - 8 * nI k = nI (24 - 8 * k) := by
          rw [show (8 : Int32) = nI 8 from rfl, nI_mul, show (24 : Int32) = nI 24 from rfl, nI_sub (by omega)]
        have e2 : (24 : Int32) - 8 * nI (k + 1) = nI (24 - 8 * k) + -8 := by
          obtain rfl | rfl | rfl | rfl : k = 0 ∨ k = 1 ∨ k = 2 ∨ k = 3 := by omega
          all_goals decide
        rw [e2, e1, nI_add, nI_add, f_X7_put_3, if_neg (Int32.not_lt.mpr (nI_pos' (by omega))), show (600 : Int32) = nI 600 from rfl, if_neg (by rw [nI_leI (by omega) (by omega)]; omega), ixb_nI (by omega) (by omega), if_pos rfl, nI_cl (by omega), nI_1]
        rfl
      · by_cases e : i = T + k
        · subst e
          rw [upd_s, nar_b, if_pos (by omega), show T + k - T = k by omega]
        · rw [upd_n e, hq i]
          by_cases h : T ≤ i ∧ i < T + k
          · rw [if_pos h, if_pos (by omega)]
          · rw [if_neg h, if_neg (by omega)]) 4 0 FU () t_bytes rfl (FU_gt (by omega)) (fun i => by rw [if_neg (by omega)])
  refine ⟨b, Eq.trans ?_ e, q⟩
  show f_X7_put_3 n1 FU 24 t_bytes (nI T) = f_X7_put_3 n1 FU (24 - 8 * nI 0) t_bytes (nI T + nI 0)
  rw [nI_add, Nat.add_zero]
  rfl
def word5 (n1 n2 n3 n4 n5 : Int32) (j : Nat) : Int32 := if j < 4 then n1 else if j < 8 then n2 else if j < 12 then n3 else if j < 16 then n4 else n5
theorem m_feed23 {T : Nat} (hT : T + 20 ≤ 600) (n1 n2 n3 n4 n5 : Int32) : ∃ mt, f_X10_feed_23 n1 n2 n3 n4 n5 FU 0 m_thrown (nI T) m_tape = some (nI (T + 20), m_thrown, nI (T + 20), mt) ∧ ∀ i, mt i = if T ≤ i ∧ i < T + 20 then (word5 n1 n2 n3 n4 n5 (i - T) >>> (nI (24 - 8 * ((i - T) % 4)) &&& 31)) &&& 255 else m_tape i := by
  obtain ⟨b, e, q⟩ := loopR (A := Unit) (C := Nat → Int32) (F := fun m q x => f_X10_feed_23 n1 n2 n3 n4 n5 m x m_thrown (nI T + x) q) (B := 20) (step := fun _ _ => ()) (fin := fun q => some (nI (T + 20), m_thrown, nI (T + 20), q)) (Q := fun k _ q => ∀ i, q i = if T ≤ i ∧ i < T + k then (word5 n1 n2 n3 n4 n5 (i - T) >>> (nI (24 - 8 * ((i - T) % 4)) &&& 31)) &&& 255 else m_tape i) (fun m q => by
      show f_X10_feed_23 n1 n2 n3 n4 n5 (m + 1) (nI 20) m_thrown (nI T + nI 20) q = _
      rw [f_X10_feed_23, if_pos (by decide), nI_add]) (fun m _ q k hk hq => by
      refine ⟨upd q (T + k) ((word5 n1 n2 n3 n4 n5 k >>> (nI (24 - 8 * (k % 4)) &&& 31)) &&& 255), ?_, fun i => ?_⟩
      · show f_X10_feed_23 n1 n2 n3 n4 n5 (m + 1) (nI k) m_thrown (nI T + nI k) q = f_X10_feed_23 n1 n2 n3 n4 n5 m (nI (k + 1)) m_thrown (nI T + nI (k + 1)) _
        have e1 : (24 : Int32) - 8 * (nI k - nI k / 4 * 4) = nI (24 - 8 * (k % 4)) := by
          rw [show (4 : Int32) = nI 4 from rfl, nI_div (by omega) (by omega), nI_mul, nI_sub (by omega), show k - k / 4 * 4 = k % 4 by omega, show (8 : Int32) = nI 8 from rfl, nI_mul, show (24 : Int32) = nI 24 from rfl, nI_sub (by omega)]
        have e76 : ∀ y : Int32, f_X10_feed_76 n1 n2 n3 n4 n5 (f_X10_feed_23 n1 n2 n3 n4 n5 m) (nI k) y m_thrown (nI T + nI k) q = f_X10_feed_23 n1 n2 n3 n4 n5 m (nI (k + 1)) m_thrown (nI T + nI (k + 1)) (upd q (T + k) ((y >>> (nI (24 - 8 * (k % 4)) &&& 31)) &&& 255)) := fun y => by
          unfold f_X10_feed_76
          rw [e1, nI_add, nI_add, ixb_nI (by omega) (by omega), if_pos rfl, nI_cl (by omega), nI_1, nI_1]
          rfl
        rw [f_X10_feed_23, e76, e76, e76, e76, e76]
        simp (disch := omega) only [show (4 : Int32) = nI 4 from rfl, show (8 : Int32) = nI 8 from rfl, show (12 : Int32) = nI 12 from rfl, show (16 : Int32) = nI 16 from rfl, show (20 : Int32) = nI 20 from rfl, nI_leJ]
        rw [if_neg (by omega)]
        unfold word5
        by_cases h1 : k < 4
        · rw [if_neg (by omega), if_pos h1]
        · rw [if_pos (by omega), if_neg h1]
          by_cases h2 : k < 8
          · rw [if_neg (by omega), if_pos h2]
          · rw [if_pos (by omega), if_neg h2]
            by_cases h3 : k < 12
            · rw [if_neg (by omega), if_pos h3]
            · rw [if_pos (by omega), if_neg h3]
              by_cases h4 : k < 16
              · rw [if_neg (by omega), if_pos h4]
              · rw [if_pos (by omega), if_neg h4]
      · by_cases e : i = T + k
        · subst e
          rw [upd_s, if_pos (by omega), show T + k - T = k by omega]
        · rw [upd_n e, hq i]
          by_cases h : T ≤ i ∧ i < T + k
          · rw [if_pos h, if_pos (by omega)]
          · rw [if_neg h, if_neg (by omega)]) 20 0 FU () m_tape rfl (FU_gt (by omega)) (fun i => by rw [if_neg (by omega)])
  refine ⟨b, Eq.trans ?_ e, q⟩
  show f_X10_feed_23 n1 n2 n3 n4 n5 FU 0 m_thrown (nI T) m_tape = f_X10_feed_23 n1 n2 n3 n4 n5 FU (nI 0) m_thrown (nI T + nI 0) m_tape
  rw [nI_add, Nat.add_zero]
  rfl
theorem k_feed {T : Nat} (h : RT T t_bytes m_tape) (n1 n2 n3 n4 n5 : Int32) : ∃ r T2 tb mt, f_X9_feed t_bytes (nI T) n1 n2 n3 n4 n5 = some (r, tb, nI T2) ∧ f_X10_feed m_thrown (nI T) m_tape n1 n2 n3 n4 n5 = some (r, 0, nI T2, mt) ∧ RT T2 tb mt := by
  obtain ⟨h6, hq⟩ := h
  unfold f_X9_feed f_X10_feed f_X7_hasRoom
  rw [show (20 : Int32) = nI 20 from rfl, nI_add, show (600 : Int32) = nI 600 from rfl]
  simp (disch := omega) only [nI_ltJ, nI_leJ]
  by_cases h2 : T + 20 ≤ 600
  · rw [if_neg (by omega), if_pos h2, b1_s, if_neg (by decide)]
    obtain ⟨b1', e1, q1⟩ := c_put (t_bytes := t_bytes) (T := T) (by omega) n1
    obtain ⟨b2', e2, q2⟩ := c_put (t_bytes := b1') (T := T + 4) (by omega) n2
    obtain ⟨b3', e3, q3⟩ := c_put (t_bytes := b2') (T := T + 4 + 4) (by omega) n3
    obtain ⟨b4', e4, q4⟩ := c_put (t_bytes := b3') (T := T + 4 + 4 + 4) (by omega) n4
    obtain ⟨b5', e5, q5⟩ := c_put (t_bytes := b4') (T := T + 4 + 4 + 4 + 4) (by omega) n5
    obtain ⟨mt, em, qm⟩ := m_feed23 (m_thrown := 0) (m_tape := m_tape) h2 n1 n2 n3 n4 n5
    refine ⟨nI (T + 20), T + 20, b5', mt, ?_, em, h2, fun i hi => ?_⟩
    · rw [e1, b2_s, e2, b2_s, e3, b2_s, e4, b2_s, e5, b2_s]
    · rw [qm i, q5 i, q4 i, q3 i, q2 i, q1 i]
      unfold word5
      by_cases g0 : i < T
      · rw [if_neg (by omega), if_neg (by omega), if_neg (by omega), if_neg (by omega), if_neg (by omega), if_neg (by omega)]
        exact hq i g0
      · by_cases g1 : i < T + 4
        · rw [if_neg (by omega), if_neg (by omega), if_neg (by omega), if_neg (by omega), if_pos (by omega), if_pos (by omega), if_pos (by omega), show (i - T) % 4 = i - T by omega]
        · by_cases g2 : i < T + 8
          · rw [if_neg (by omega), if_neg (by omega), if_neg (by omega), if_pos (by omega), if_pos (by omega), if_neg (by omega), if_pos (by omega), show (i - T) % 4 = i - (T + 4) by omega]
          · by_cases g3 : i < T + 12
            · rw [if_neg (by omega), if_neg (by omega), if_pos (by omega), if_pos (by omega), if_neg (by omega), if_neg (by omega), if_pos (by omega), show (i - T) % 4 = i - (T + 4 + 4) by omega]
            · by_cases g4 : i < T + 16
              · rw [if_neg (by omega), if_pos (by omega), if_pos (by omega), if_neg (by omega), if_neg (by omega), if_neg (by omega), if_pos (by omega), show (i - T) % 4 = i - (T + 4 + 4 + 4) by omega]
              · rw [if_pos (by omega), if_pos (by omega), if_neg (by omega), if_neg (by omega), if_neg (by omega), if_neg (by omega), show (i - T) % 4 = i - (T + 4 + 4 + 4 + 4) by omega]
  · rw [if_pos (by omega), if_neg h2, b1_s, if_pos rfl]
    exact ⟨-1, T, t_bytes, m_tape, rfl, rfl, h6, hq⟩
theorem k_status (hc : RC x_missing x_misused m_refused) (n1 : Int32) : ∃ r, f_X9_status x_missing x_misused n1 = some r ∧ f_X10_status m_thrown m_refused n1 = some (r, 0) := by
  unfold f_X9_status f_X10_status
  rw [m_within, b1_s]
  by_cases h : 0 ≤ n1 ∧ n1 ≤ 1
  · obtain ⟨k, hk, rfl⟩ := inN (B := 1) (by decide) h.1 h.2
    rw [if_pos h, if_neg (show ¬ (1 : Int32) = 0 by decide)]
    obtain rfl | rfl : k = 0 ∨ k = 1 := by omega
    · exact ⟨x_missing, rfl, by rw [hc.1]; rfl⟩
    · exact ⟨x_misused, rfl, by rw [hc.2]; rfl⟩
  · rw [if_neg h, if_pos rfl]
    refine ⟨-1, ?_, rfl⟩
    rw [if_neg (fun e => h (by rw [e]; decide)), if_neg (fun e => h (by rw [e]; decide))]
end KM

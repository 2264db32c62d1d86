/-! ===== look ===== -/
theorem eq17_up {a c : Int32 × (Nat → Int32)} (h : eq17 a c) {v : Nat} (hv : v ≤ 16) : c.2 v = a.2 v := h.2 v (by omega)
section KK
variable {π : Pg} {σ : Sg} {s_year s_wet s_lost s_eaten s_tied s_ripeMany : Int32} {s_gone s_place s_heard s_many s_lying s_ripe : Nat → Int32}
variable {p_beds p_letters p_readers : Int32} {p_far p_drain p_length p_words p_home : Nat → Int32}
variable {m_s m_now m_bed m_letter m_reader m_refused : Nat → Int32} {m_beds m_letters m_readers m_thrown x_missing x_misused : Int32} {r_n : Nat} {r_v : Nat → Int32}
variable {β b_last m_book m_lastBy m_leftBy : Nat → Int32}
theorem loopRG {A C R : Type} {F : Nat → C → Int32 → Option R} {lo B : Nat} {step : Nat → A → A} {fin : C → Option R} {Q : A → C → Prop} (h0 : ∀ n c, F (n + 1) c (nI B) = fin c) (h1 : ∀ n a c k, lo ≤ k → k < B → Q a c → ∃ c', F (n + 1) c (nI k) = F n c' (nI (k + 1)) ∧ Q (step k a) c') : ∀ (d k n : Nat) (a : A) (c : C), lo ≤ k → k + d = B → d < n → Q a c → ∃ c', F n c (nI k) = fin c' ∧ Q (itN step d k a) c' := by
  intro d
  induction d with
  | zero =>
    intro k n a c _ hk hn hq
    obtain ⟨m, rfl⟩ : ∃ m, n = m + 1 := ⟨n - 1, by omega⟩
    obtain rfl : k = B := by omega
    exact ⟨c, h0 m c, hq⟩
  | succ d ih =>
    intro k n a c hl hk hn hq
    obtain ⟨m, rfl⟩ : ∃ m, n = m + 1 := ⟨n - 1, by omega⟩
    obtain ⟨c', e1, q1⟩ := h1 m a c k hl (by omega) hq
    obtain ⟨c2, e2, q2⟩ := ih (k + 1) m _ c' (by omega) (by omega) (by omega) q1
    exact ⟨c2, e1.trans e2, q2⟩
theorem c_most (hS : RS π σ (s_year, s_wet, s_lost, s_eaten, s_tied, s_ripeMany, s_gone, s_place, s_heard, s_many, s_lying, s_ripe)) (hP : RPc π (p_beds, p_letters, p_readers, p_far, p_drain, p_length, p_words, p_home)) (ok : OkP π) (os : OkS π σ) (hb : RBk π β b_last m_book) (h17 : 17 ≤ r_n) {b : Nat} (hbb : b < gB π) : ∃ rv, f_X9_mostLeftBy s_gone s_many s_lying r_n r_v p_beds p_letters p_drain p_length p_words b_last (nI b) = some (mostV π σ β b, rv) := by
  have hL := ok.2.1
  unfold f_X9_mostLeftBy
  obtain ⟨r0, e0, q0⟩ := loopR (A := Unit) (C := Nat → Int32) (F := fun m q x => f_X9_mostLeftBy_2 s_gone s_many s_lying r_n p_beds p_letters p_drain p_length p_words b_last (nI b) m x q) (B := 17) (step := fun _ _ => ()) (fin := fun q => f_X9_mostLeftBy_25 s_gone s_many s_lying r_n p_beds p_letters p_drain p_length p_words b_last (nI b) FU 0 0 q) (Q := fun k _ q => ∀ i, i < k → q i = 0) (fun m q => by
      show f_X9_mostLeftBy_2 s_gone s_many s_lying r_n p_beds p_letters p_drain p_length p_words b_last (nI b) (m + 1) (nI 17) q = _
      rw [f_X9_mostLeftBy_2, if_pos (by decide)]) (fun m _ q k hk hq => by
      refine ⟨upd q k 0, ?_, fun i hi => ?_⟩
      · show f_X9_mostLeftBy_2 s_gone s_many s_lying r_n p_beds p_letters p_drain p_length p_words b_last (nI b) (m + 1) (nI k) q = f_X9_mostLeftBy_2 s_gone s_many s_lying r_n p_beds p_letters p_drain p_length p_words b_last (nI b) m (nI (k + 1)) _
        have hx : ixb (nI k) r_n = true := ixb_nI (by omega) (by omega)
        rw [f_X9_mostLeftBy_2, show (16 : Int32) = nI 16 from rfl, if_neg (by rw [nI_ltI (by omega) (by omega)]; omega), hx, if_pos rfl, nI_cl (by omega), nI_1]
      · by_cases e : i = k
        · subst e; rw [upd_s]
        · rw [upd_n e]; exact hq i (by omega)) 17 0 FU () r_v (by omega) (FU_gt (by omega)) (fun i hi => absurd hi (by omega))
  obtain ⟨c', e, q⟩ := loopRG (A := Int32 × (Nat → Int32)) (C := Int32 × (Nat → Int32)) (F := fun m q x => f_X9_mostLeftBy_25 s_gone s_many s_lying r_n p_beds p_letters p_drain p_length p_words b_last (nI b) m q.1 x q.2) (lo := 0) (B := gL π) (step := fun l a => itN (fun n a => stMost π σ β b (9 * l + n - 1) a) 9 1 a) (fin := fun q => some (q.1, q.2)) (Q := eq17) (fun m q => by
      show f_X9_mostLeftBy_25 s_gone s_many s_lying r_n p_beds p_letters p_drain p_length p_words b_last (nI b) (m + 1) q.1 (nI (gL π)) q.2 = _
      rw [f_X9_mostLeftBy_25, hP.2.1, if_pos (Int32.le_refl _)]) (fun m a q l _ hl hq => by
      have e0 : f_X9_mostLeftBy_25 s_gone s_many s_lying r_n p_beds p_letters p_drain p_length p_words b_last (nI b) (m + 1) q.1 (nI l) q.2 = f_X9_mostLeftBy_39 s_gone s_many s_lying r_n p_beds p_letters p_drain p_length p_words b_last (nI b) (f_X9_mostLeftBy_25 s_gone s_many s_lying r_n p_beds p_letters p_drain p_length p_words b_last (nI b) m) FU q.1 (nI l) 1 q.2 := by
        rw [f_X9_mostLeftBy_25, if_neg (by rw [hP.2.1, nI_leI (by omega) (by omega)]; omega)]
      show ∃ c' : Int32 × (Nat → Int32), f_X9_mostLeftBy_25 s_gone s_many s_lying r_n p_beds p_letters p_drain p_length p_words b_last (nI b) (m + 1) q.1 (nI l) q.2 = f_X9_mostLeftBy_25 s_gone s_many s_lying r_n p_beds p_letters p_drain p_length p_words b_last (nI b) m c'.1 (nI (l + 1)) c'.2 ∧ _
      rw [e0]
      generalize f_X9_mostLeftBy_25 s_gone s_many s_lying r_n p_beds p_letters p_drain p_length p_words b_last (nI b) m = kk
      exact loopRG (A := Int32 × (Nat → Int32)) (C := Int32 × (Nat → Int32)) (F := fun m q x => f_X9_mostLeftBy_39 s_gone s_many s_lying r_n p_beds p_letters p_drain p_length p_words b_last (nI b) kk m q.1 (nI l) x q.2) (lo := 1) (B := 10) (step := fun n a => stMost π σ β b (9 * l + n - 1) a) (fin := fun q => kk q.1 (nI (l + 1)) q.2) (Q := eq17) (fun m q => by
          show f_X9_mostLeftBy_39 s_gone s_many s_lying r_n p_beds p_letters p_drain p_length p_words b_last (nI b) kk (m + 1) q.1 (nI l) (nI 10) q.2 = _
          rw [f_X9_mostLeftBy_39, if_pos (by decide), nI_1]) (fun m a q n h1 hn hq => by
          show ∃ c' : Int32 × (Nat → Int32), f_X9_mostLeftBy_39 s_gone s_many s_lying r_n p_beds p_letters p_drain p_length p_words b_last (nI b) kk (m + 1) q.1 (nI l) (nI n) q.2 = f_X9_mostLeftBy_39 s_gone s_many s_lying r_n p_beds p_letters p_drain p_length p_words b_last (nI b) kk m c'.1 (nI l) (nI (n + 1)) c'.2 ∧ eq17 (stMost π σ β b (9 * l + n - 1) a) c'
          rw [f_X9_mostLeftBy_39, show (9 : Int32) = nI 9 from rfl, if_neg (by rw [nI_ltI (by omega) (by omega)]; omega), c_isRight hS hP ok os hb hl h1 (by omega), b1_s, nI_1]
          unfold stMost
          rw [show (9 * l + n - 1) / 9 = l by omega, show (9 * l + n - 1) % 9 + 1 = n by omega]
          by_cases h2 : fitB π σ β (9 * l + n - 1) = true
          · have hv := lastS_le (n := n) (b := b) ok os hl
            have hx : ixb (nI (lastS π σ l n b)) r_n = true := ixb_nI (by omega) (by omega)
            rw [if_pos h2, if_pos h2, if_neg (by decide), c_lastAfter hS hP ok os hl (by omega) hbb, b1_s, if_neg (Int32.not_lt.mpr (nI_pos' (by omega))), show (16 : Int32) = nI 16 from rfl, if_neg (by rw [nI_ltI (by omega) (by omega)]; omega), hx, if_pos rfl, if_pos rfl, if_pos rfl, nI_cl (by omega), upd_s, hq.1, hq.2 _ (show lastS π σ l n b < 17 by omega), imax_mx]
            refine ⟨(_, _), rfl, rfl, fun i hi => ?_⟩
            show upd q.2 (lastS π σ l n b) _ i = upd a.2 (lastS π σ l n b) _ i
            by_cases e : i = lastS π σ l n b
            · subst e; rw [upd_s, upd_s]
            · rw [upd_n e, upd_n e]; exact hq.2 i hi
          · rw [if_neg h2, if_neg h2, if_pos rfl]
            exact ⟨q, rfl, hq⟩) 9 1 FU a q (Nat.le_refl _) rfl (FU_gt (by omega)) hq) (gL π) 0 FU (0, fun _ => 0) (0, r0) (Nat.zero_le _) (by omega) (FU_gt (by omega)) ⟨rfl, fun i hi => q0 i hi⟩
  rw [itN_nine] at q
  refine ⟨c'.2, Eq.trans e0 (Eq.trans e ?_)⟩
  show some (c'.1, c'.2) = some (mostV π σ β b, c'.2)
  rw [q.1]
  rfl
theorem m_worst (ok : OkP π) (os : OkS π σ) (hp : m_beds = nI (gB π)) (hq : m_letters = nI (gL π)) (hb : RBk π β b_last m_book) (hl : RLa π σ m_lastBy) {b : Nat} (hbb : b < gB π) : ∃ lf, f_X10_worstOf m_beds m_letters m_book m_lastBy m_leftBy (nI b) = some (mostV π σ β b, lf) := by
  have hL := ok.2.1
  have h6 := ok.1
  unfold f_X10_worstOf
  obtain ⟨r0, e0, q0⟩ := loopR (A := Unit) (C := Nat → Int32) (F := fun m q x => f_X10_worstOf_2 m_beds m_letters m_book m_lastBy (nI b) m x q) (B := 17) (step := fun _ _ => ()) (fin := fun q => f_X10_worstOf_25 m_beds m_letters m_book m_lastBy (nI b) FU 0 0 q) (Q := fun k _ q => ∀ i, i < k → q i = 0) (fun m q => by
      show f_X10_worstOf_2 m_beds m_letters m_book m_lastBy (nI b) (m + 1) (nI 17) q = _
      rw [f_X10_worstOf_2, if_pos (by decide)]) (fun m _ q k hk hq => by
      refine ⟨upd q k 0, ?_, fun i hi => ?_⟩
      · show f_X10_worstOf_2 m_beds m_letters m_book m_lastBy (nI b) (m + 1) (nI k) q = f_X10_worstOf_2 m_beds m_letters m_book m_lastBy (nI b) m (nI (k + 1)) _
        have hx : ixb (nI k) 17 = true := ixb_nI (by omega) (by omega)
        rw [f_X10_worstOf_2, show (16 : Int32) = nI 16 from rfl, if_neg (by rw [nI_ltI (by omega) (by omega)]; omega), hx, if_pos rfl, nI_cl (by omega), nI_1]
      · by_cases e : i = k
        · subst e; rw [upd_s]
        · rw [upd_n e]; exact hq i (by omega)) 17 0 FU () m_leftBy (by omega) (FU_gt (by omega)) (fun i hi => absurd hi (by omega))
  obtain ⟨c', e, q⟩ := loopRG (A := Int32 × (Nat → Int32)) (C := Int32 × (Nat → Int32)) (F := fun m q x => f_X10_worstOf_25 m_beds m_letters m_book m_lastBy (nI b) m q.1 x q.2) (lo := 0) (B := 9 * gL π) (step := stMost π σ β b) (fin := fun q => some (q.1, q.2)) (Q := eq17) (fun m q => by
      show f_X10_worstOf_25 m_beds m_letters m_book m_lastBy (nI b) (m + 1) q.1 (nI (9 * gL π)) q.2 = _
      rw [f_X10_worstOf_25, hq, show (9 : Int32) * nI (gL π) = nI (9 * gL π) from nI_mul 9 _, if_pos (Int32.le_refl _)]) (fun m a q t _ ht hQ => by
      show ∃ c' : Int32 × (Nat → Int32), f_X10_worstOf_25 m_beds m_letters m_book m_lastBy (nI b) (m + 1) q.1 (nI t) q.2 = f_X10_worstOf_25 m_beds m_letters m_book m_lastBy (nI b) m c'.1 (nI (t + 1)) c'.2 ∧ eq17 (stMost π σ β b t a) c'
      have hla := hl t b ht hbb
      have hv := lastS_le (l := t / 9) (n := t % 9 + 1) (b := b) ok os (by omega)
      rw [f_X10_worstOf_25, if_neg (by rw [hq, show (9 : Int32) * nI (gL π) = nI (9 * gL π) from nI_mul 9 _, nI_leI (by omega) (by omega)]; omega), m_isFit ok hp hb hl ht, b1_s, nI_1]
      unfold stMost
      by_cases h2 : fitB π σ β t = true
      · rw [if_pos h2, if_pos h2, if_neg (by decide), show (6 : Int32) * nI t + nI b = nI (6 * t + b) by rw [show (6 : Int32) = nI 6 from rfl, nI_mul, nI_add], ixb_nI (by omega) (by omega), if_pos rfl, nI_cl (by omega), hla, ixb_nI (by omega) (by omega), if_pos rfl, if_pos rfl, if_pos rfl, if_pos rfl, nI_cl (by omega), upd_s, hQ.1, hQ.2 _ (show lastS π σ (t / 9) (t % 9 + 1) b < 17 by omega)]
        have hk : ∀ i, i < 17 → upd q.2 (lastS π σ (t / 9) (t % 9 + 1) b) (a.2 (lastS π σ (t / 9) (t % 9 + 1) b) + 1) i = upd a.2 (lastS π σ (t / 9) (t % 9 + 1) b) (a.2 (lastS π σ (t / 9) (t % 9 + 1) b) + 1) i := fun i hi => by
          by_cases e : i = lastS π σ (t / 9) (t % 9 + 1) b
          · subst e; rw [upd_s, upd_s]
          · rw [upd_n e, upd_n e]; exact hQ.2 i hi
        unfold mxI
        by_cases h3 : a.2 (lastS π σ (t / 9) (t % 9 + 1) b) + 1 ≤ a.1
        · rw [if_pos h3, if_pos h3]
          exact ⟨(a.1, (upd q.2 (lastS π σ (t / 9) (t % 9 + 1) b) (a.2 (lastS π σ (t / 9) (t % 9 + 1) b) + 1))), rfl, rfl, hk⟩
        · rw [if_neg h3, if_neg h3]
          exact ⟨(a.2 (lastS π σ (t / 9) (t % 9 + 1) b) + 1, (upd q.2 (lastS π σ (t / 9) (t % 9 + 1) b) (a.2 (lastS π σ (t / 9) (t % 9 + 1) b) + 1))), rfl, rfl, hk⟩
      · rw [if_neg h2, if_neg h2, if_pos rfl]
        exact ⟨q, rfl, hQ⟩) (9 * gL π) 0 FU (0, fun _ => 0) (0, r0) (Nat.zero_le _) (by omega) (FU_gt (by omega)) ⟨rfl, fun i hi => q0 i hi⟩
  refine ⟨c'.2, Eq.trans e0 (Eq.trans e ?_)⟩
  show some (c'.1, c'.2) = some (mostV π σ β b, c'.2)
  rw [q.1]
  rfl
theorem c_look14 {n1 : Int32} (hS : RS π σ (s_year, s_wet, s_lost, s_eaten, s_tied, s_ripeMany, s_gone, s_place, s_heard, s_many, s_lying, s_ripe)) (hP : RPc π (p_beds, p_letters, p_readers, p_far, p_drain, p_length, p_words, p_home)) (ok : OkP π) (os : OkS π σ) (hb : RBk π β b_last m_book) (h17 : 17 ≤ r_n) : ∃ rv, f_X9_look_14 s_gone s_many s_lying r_n p_beds p_letters p_drain p_length p_words b_last n1 FU (-1) (-1) 0 x_misused r_v = some (0, lookV π σ β n1, x_misused, rv) := by
  have h6 := ok.1
  obtain ⟨⟨x, y, rv⟩, e, q1, q2⟩ := loopR (A := Int32 × Int32) (C := Int32 × Int32 × (Nat → Int32)) (F := fun m q x => f_X9_look_14 s_gone s_many s_lying r_n p_beds p_letters p_drain p_length p_words b_last n1 m q.1 q.2.1 x x_misused q.2.2) (B := gB π) (step := stLook π σ β) (fin := fun q => if n1 = 0 then some (0, q.1, x_misused, q.2.2) else some (0, q.2.1, x_misused, q.2.2)) (Q := fun _ a q => q.1 = a.1 ∧ q.2.1 = a.2) (fun m q => by
      show f_X9_look_14 s_gone s_many s_lying r_n p_beds p_letters p_drain p_length p_words b_last n1 (m + 1) q.1 q.2.1 (nI (gB π)) x_misused q.2.2 = _
      rw [f_X9_look_14, hP.1, if_pos (Int32.le_refl _)]) (fun m a q b hbb hq => by
      obtain ⟨a1, a2⟩ := a
      obtain ⟨x, y, rv⟩ := q
      obtain ⟨rfl, rfl⟩ := (hq : x = a1 ∧ y = a2)
      show ∃ c' : Int32 × Int32 × (Nat → Int32), f_X9_look_14 s_gone s_many s_lying r_n p_beds p_letters p_drain p_length p_words b_last n1 (m + 1) x y (nI b) x_misused rv = f_X9_look_14 s_gone s_many s_lying r_n p_beds p_letters p_drain p_length p_words b_last n1 m c'.1 c'.2.1 (nI (b + 1)) x_misused c'.2.2 ∧ c'.1 = (stLook π σ β b (x, y)).1 ∧ c'.2.1 = (stLook π σ β b (x, y)).2
      obtain ⟨r2, e2⟩ := c_most (r_v := rv) hS hP ok os hb h17 hbb
      rw [f_X9_look_14, if_neg (by rw [hP.1, nI_leI (by omega) (by omega)]; omega), ixb_nI (by omega) (by omega), if_pos rfl, nI_cl (by omega), (hb b hbb).1, e2, b2_s, nI_1]
      unfold stLook
      by_cases h1 : β b = -1
      · rw [if_pos h1, if_pos h1]
        by_cases h2 : x = -1
        · rw [if_pos h2, if_pos (show (x, y).1 = -1 from h2)]
          exact ⟨(nI b, mostV π σ β b, r2), rfl, rfl, rfl⟩
        · rw [if_neg h2, if_neg (show ¬ (x, y).1 = -1 from h2)]
          by_cases h3 : y ≤ mostV π σ β b
          · rw [if_pos h3, if_pos (show (x, y).2 ≤ mostV π σ β b from h3)]
            exact ⟨(x, y, r2), rfl, rfl, rfl⟩
          · rw [if_neg h3, if_neg (show ¬ (x, y).2 ≤ mostV π σ β b from h3)]
            exact ⟨(nI b, mostV π σ β b, r2), rfl, rfl, rfl⟩
      · rw [if_neg h1, if_neg h1]
        exact ⟨(x, y, rv), rfl, rfl, rfl⟩) (gB π) 0 FU (-1, -1) (-1, -1, r_v) (by omega) (FU_gt (by omega)) ⟨rfl, rfl⟩
  refine ⟨rv, Eq.trans e ?_⟩
  have q1 : x = (itN (stLook π σ β) (gB π) 0 (-1, -1)).1 := q1
  have q2 : y = (itN (stLook π σ β) (gB π) 0 (-1, -1)).2 := q2
  unfold lookV
  show (if n1 = 0 then some (0, x, x_misused, rv) else some (0, y, x_misused, rv)) = _
  rw [q1, q2]
  by_cases h : n1 = 0
  · rw [if_pos h, if_pos h]
  · rw [if_neg h, if_neg h]
theorem m_look33 {n1 : Int32} (hQ : RPm π m_beds m_letters m_readers m_bed m_letter m_reader) (ok : OkP π) (os : OkS π σ) (hb : RBk π β b_last m_book) (hl : RLa π σ m_lastBy) : ∃ lf, f_X10_look_33 m_letter m_beds m_letters m_now m_book n1 FU (-1) (-1) 0 m_thrown m_refused m_s m_lastBy m_leftBy = some (lookV π σ β n1, m_thrown, m_refused, m_s, m_lastBy, lf) := by
  have h6 := ok.1
  obtain ⟨⟨x, y, rv⟩, e, q1, q2⟩ := loopR (A := Int32 × Int32) (C := Int32 × Int32 × (Nat → Int32)) (F := fun m q x => f_X10_look_33 m_letter m_beds m_letters m_now m_book n1 m q.1 q.2.1 x m_thrown m_refused m_s m_lastBy q.2.2) (B := gB π) (step := stLook π σ β) (fin := fun q => if n1 = 0 then some (q.1, m_thrown, m_refused, m_s, m_lastBy, q.2.2) else some (q.2.1, m_thrown, m_refused, m_s, m_lastBy, q.2.2)) (Q := fun _ a q => q.1 = a.1 ∧ q.2.1 = a.2) (fun m q => by
      show f_X10_look_33 m_letter m_beds m_letters m_now m_book n1 (m + 1) q.1 q.2.1 (nI (gB π)) m_thrown m_refused m_s m_lastBy q.2.2 = _
      rw [f_X10_look_33, hQ.1, if_pos (Int32.le_refl _)]) (fun m a q b hbb hq => by
      obtain ⟨a1, a2⟩ := a
      obtain ⟨x, y, rv⟩ := q
      obtain ⟨rfl, rfl⟩ := (hq : x = a1 ∧ y = a2)
      show ∃ c' : Int32 × Int32 × (Nat → Int32), f_X10_look_33 m_letter m_beds m_letters m_now m_book n1 (m + 1) x y (nI b) m_thrown m_refused m_s m_lastBy rv = f_X10_look_33 m_letter m_beds m_letters m_now m_book n1 m c'.1 c'.2.1 (nI (b + 1)) m_thrown m_refused m_s m_lastBy c'.2.2 ∧ c'.1 = (stLook π σ β b (x, y)).1 ∧ c'.2.1 = (stLook π σ β b (x, y)).2
      obtain ⟨r2, e2⟩ := m_worst (m_leftBy := rv) ok os hQ.1 hQ.2.1 hb hl hbb
      rw [f_X10_look_33, if_neg (by rw [hQ.1, nI_leI (by omega) (by omega)]; omega), ixb_nI (by omega) (by omega), if_pos rfl, nI_cl (by omega), (hb b hbb).2, e2, b2_s, nI_1]
      unfold stLook
      by_cases h1 : β b = -1
      · rw [if_pos h1, if_pos h1]
        by_cases h2 : x = -1
        · rw [if_pos h2, if_pos (show (x, y).1 = -1 from h2)]
          exact ⟨(nI b, mostV π σ β b, r2), rfl, rfl, rfl⟩
        · rw [if_neg h2, if_neg (show ¬ (x, y).1 = -1 from h2)]
          by_cases h3 : y ≤ mostV π σ β b
          · rw [if_neg (Int32.not_lt.mpr h3), if_pos (show (x, y).2 ≤ mostV π σ β b from h3)]
            exact ⟨(x, y, r2), rfl, rfl, rfl⟩
          · rw [if_pos (Int32.not_le.mp h3), if_neg (show ¬ (x, y).2 ≤ mostV π σ β b from h3)]
            exact ⟨(nI b, mostV π σ β b, r2), rfl, rfl, rfl⟩
      · rw [if_neg h1, if_neg h1]
        exact ⟨(x, y, rv), rfl, rfl, rfl⟩) (gB π) 0 FU (-1, -1) (-1, -1, m_leftBy) (by omega) (FU_gt (by omega)) ⟨rfl, rfl⟩
  refine ⟨rv, Eq.trans e ?_⟩
  have q1 : x = (itN (stLook π σ β) (gB π) 0 (-1, -1)).1 := q1
  have q2 : y = (itN (stLook π σ β) (gB π) 0 (-1, -1)).2 := q2
  unfold lookV
  show (if n1 = 0 then some (x, m_thrown, m_refused, m_s, m_lastBy, rv) else some (y, m_thrown, m_refused, m_s, m_lastBy, rv)) = _
  rw [q1, q2]
  by_cases h : n1 = 0
  · rw [if_pos h, if_pos h]
  · rw [if_neg h, if_neg h]
theorem k_look (hS : RS π σ (s_year, s_wet, s_lost, s_eaten, s_tied, s_ripeMany, s_gone, s_place, s_heard, s_many, s_lying, s_ripe)) (hM : RM π σ m_now) (hP : RPc π (p_beds, p_letters, p_readers, p_far, p_drain, p_length, p_words, p_home)) (hQ : RPm π m_beds m_letters m_readers m_bed m_letter m_reader) (ok : OkP π) (os : OkS π σ) (hb : RBk π β b_last m_book) (h17 : 17 ≤ r_n) (hc : RC x_missing x_misused m_refused) (n1 : Int32) :
    ∃ ex r mu rv rf s2 lb lf, f_X9_look x_misused s_gone s_many s_lying r_n r_v p_beds p_letters p_drain p_length p_words b_last n1 = some (ex, r, mu, rv) ∧ f_X10_look m_thrown m_refused m_letter m_beds m_letters m_now m_s m_book m_lastBy m_leftBy n1 = some (r, if ex = 0 then 0 else 1, rf, s2, lb, lf) ∧ (ex = 0 ∨ ex = 2) ∧ RC x_missing mu rf := by
  unfold f_X9_look f_X10_look
  rw [c_range, m_within]
  by_cases h : 0 ≤ n1 ∧ n1 ≤ 1
  · obtain ⟨s2, lb, e2, hl⟩ := m_laysLasts (m_s := m_s) (m_lastBy := m_lastBy) hM hQ ok os
    obtain ⟨rv, e3⟩ := c_look14 (n1 := n1) (r_v := r_v) (x_misused := x_misused) hS hP ok os hb h17
    obtain ⟨lf, e4⟩ := m_look33 (n1 := n1) (m_now := m_now) (m_s := s2) (m_leftBy := m_leftBy) (m_thrown := 0) (m_refused := m_refused) hQ ok os hb hl
    refine ⟨0, lookV π σ β n1, x_misused, rv, m_refused, s2, lb, lf, ?_, ?_, Or.inl rfl, hc⟩
    · rw [if_pos h, b2_s, if_pos rfl, e3]
    · rw [if_pos h, b1_s, m_may1, b3_s, if_neg (by decide), e2, b2_s, e4]
      rfl
  · refine ⟨2, 0, x_misused + 1, r_v, upd m_refused 1 (m_refused 1 + 1), m_s, m_lastBy, m_leftBy, ?_, ?_, Or.inr rfl, rc_mu hc⟩
    · rw [if_neg h]; rfl
    · rw [if_neg h]; rfl
end KK

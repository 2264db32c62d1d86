/-! ===== the fewest beds with all of some words: all, tour ===== -/
def pcN (k : Nat) : Nat := (itN (fun i a => a + (k >>> i) % 2) 6 0 0)
theorem bc64 : ∀ k, k < 64 → f_J6_bitCount_0f7a4 (nI k) = some (nI (pcN k)) := by decide +kernel
def onesS (v : Int32) : Int32 := itN (fun i a => a + ((v >>> (nI i &&& 31)) &&& 1)) 16 0 0
theorem ones_all (v : Int32) : f_X10_ones v = some (onesS v) := by
  unfold f_X10_ones
  refine loopF (F := fun n a x => f_X10_ones_4 v n a x) (B := 16) (step := fun i a => a + ((v >>> (nI i &&& 31)) &&& 1)) (fin := some) (fun n a => ?_) (fun n a k hk => ?_) 16 0 FU 0 (by omega) (FU_gt (by omega))
  · show f_X10_ones_4 v (n + 1) a (nI 16) = some a
    rw [f_X10_ones_4]; rfl
  · show f_X10_ones_4 v (n + 1) a (nI k) = f_X10_ones_4 v n _ (nI (k + 1))
    rw [f_X10_ones_4]
    simp (disch := omega) only [show (16 : Int32) = nI 16 from rfl, nI_leJ]
    rw [if_neg (by omega), nI_1]
theorem ones64 : ∀ k, k < 64 → onesS (nI k) = nI (pcN k) := by decide +kernel
theorem pc6 : ∀ k, k < 64 → pcN k ≤ 6 := by decide +kernel
theorem shl6 : ∀ B, B ≤ 6 → (1 : Int32) <<< (nI B &&& 31) = nI (2 ^ B) := by decide +kernel
theorem pow6 : ∀ B, B ≤ 6 → 2 ^ B ≤ 64 := by decide
theorem an1 (n v w : Int32) : (n &&& (v ^^^ -1)) &&& (w ^^^ -1) = n &&& ((v ||| w) ^^^ -1) := by
  apply b_ext
  intro i hi
  simp only [b_and, b_xor, b_or, b_m1 i hi]
  cases bt n i <;> cases bt v i <;> cases bt w i <;> rfl
theorem an2 (n : Int32) : n &&& -1 = n := by
  apply b_ext
  intro i hi
  simp only [b_and, b_m1 i hi, Bool.and_true]
theorem an3 (n : Int32) : n &&& ((0 : Int32) ^^^ -1) = n := by
  apply b_ext
  intro i hi
  simp only [b_and, b_xor, b_m1 i hi, b_0]
  cases bt n i <;> rfl
theorem or0 (n : Int32) : n ||| 0 = n := by
  apply b_ext
  intro i hi
  simp only [b_or, b_0, Bool.or_false]
/-- all words of the beds of a set -/
def ofSet (W : Nat → Int32) (k B : Nat) : Int32 := itN (fun b x => x ||| (if hasW (nI k) (nI b) then W b else 0)) B 0 0
theorem ofSet_c (W : Nat → Int32) (k : Nat) (n1 : Int32) : ∀ (d b : Nat) (v : Int32), itN (fun b x => if hasW (nI k) (nI b) then x &&& (W b ^^^ -1) else x &&& -1) d b (n1 &&& (v ^^^ -1)) = n1 &&& (itN (fun b x => x ||| (if hasW (nI k) (nI b) then W b else 0)) d b v ^^^ -1) := by
  intro d
  induction d with
  | zero => intro b v; rfl
  | succ d ih =>
    intro b v
    show itN _ d (b + 1) (if hasW (nI k) (nI b) then (n1 &&& (v ^^^ -1)) &&& (W b ^^^ -1) else (n1 &&& (v ^^^ -1)) &&& -1) = n1 &&& (itN _ d (b + 1) (v ||| (if hasW (nI k) (nI b) then W b else 0)) ^^^ -1)
    by_cases h : hasW (nI k) (nI b)
    · rw [if_pos h, if_pos h, an1]; exact ih (b + 1) _
    · rw [if_neg h, if_neg h, an2, or0]; exact ih (b + 1) v
/-- the best of the sets from k on -/
def bestB (W : Nat → Int32) (n1 : Int32) (B : Nat) : Nat → Nat → Option Nat → Option Nat
  | 0, _, o => o
  | d + 1, k, o => bestB W n1 B d (k + 1) (if (n1 &&& (ofSet W k B ^^^ -1)) = 0 then (match o with
    | none => some k
    | some j => if pcN k < pcN j then some k else some j) else o)
def obI : Option Nat → Int32
  | none => -1
  | some k => nI k
def obC : Option Nat → Int32
  | none => 7
  | some k => nI (pcN k)
def obOk : Option Nat → Prop
  | none => True
  | some k => k < 64
section KE
variable {π : Pg} {σ : Sg} {s_year s_wet s_lost s_eaten s_tied s_ripeMany : Int32} {s_gone s_place s_heard s_many s_lying s_ripe : Nat → Int32}
variable {p_beds p_letters p_readers : Int32} {p_far p_drain p_length p_words p_home : Nat → Int32}
variable {m_s m_now m_bed m_letter m_reader m_refused : Nat → Int32} {m_beds m_letters m_readers m_thrown x_missing x_misused : Int32} {r_n : Nat} {r_v : Nat → Int32}
theorem c_fb61 {n1 x2 x3 : Int32} {k : Nat} {W : Nat → Int32} (hp : p_beds = nI (gB π)) (ok : OkP π) (h6 : 6 ≤ r_n) (hv : ∀ b, b < gB π → r_v b = W b) (k41 : Int32 → Int32 → Int32 → (Nat → Int32) → Option (Int32 × (Nat → Int32))) :
    f_X9_fewestBeds_61 s_many s_lying r_n p_beds n1 k41 FU x2 x3 (nI k) n1 0 r_v = (if (n1 &&& (ofSet W k (gB π) ^^^ -1)) = 0 then b1 (f_J6_bitCount_0f7a4 (nI k)) (fun v1 => if x3 ≤ v1 then k41 x2 x3 (nI (k + 1)) r_v else b1 (f_J6_bitCount_0f7a4 (nI k)) (fun v2 => k41 (nI k) v2 (nI (k + 1)) r_v)) else k41 x2 x3 (nI (k + 1)) r_v) := by
  have hB := ok.1
  have e := loopF (F := fun n a x => f_X9_fewestBeds_61 s_many s_lying r_n p_beds n1 k41 n x2 x3 (nI k) a x r_v) (B := gB π) (step := fun b x => if hasW (nI k) (nI b) then x &&& (W b ^^^ -1) else x &&& -1) (fin := fun a => if a = 0 then b1 (f_J6_bitCount_0f7a4 (nI k)) (fun v1 => if x3 ≤ v1 then k41 x2 x3 (nI (k + 1)) r_v else b1 (f_J6_bitCount_0f7a4 (nI k)) (fun v2 => k41 (nI k) v2 (nI (k + 1)) r_v)) else k41 x2 x3 (nI (k + 1)) r_v) (fun n a => by
      show f_X9_fewestBeds_61 s_many s_lying r_n p_beds n1 k41 (n + 1) x2 x3 (nI k) a (nI (gB π)) r_v = _
      rw [f_X9_fewestBeds_61, hp, if_pos (Int32.le_refl _), nI_1]) (fun n a b hb => by
      show f_X9_fewestBeds_61 s_many s_lying r_n p_beds n1 k41 (n + 1) x2 x3 (nI k) a (nI b) r_v = f_X9_fewestBeds_61 s_many s_lying r_n p_beds n1 k41 n x2 x3 (nI k) _ (nI (b + 1)) r_v
      have hx : ixb (nI b) r_n = true := ixb_nI (by omega) (by omega)
      rw [f_X9_fewestBeds_61, hp]
      simp (disch := omega) only [nI_leJ]
      rw [if_neg (by omega), c_has, b1_s, nI_1, hx, if_pos rfl, nI_cl (by omega), hv b hb]
      by_cases h : hasW (nI k) (nI b)
      · rw [if_pos h, if_pos h, if_neg (by decide)]
      · rw [if_neg h, if_neg h, if_pos rfl]) (gB π) 0 FU n1 (by omega) (FU_gt (by omega))
  have e2 := ofSet_c W k n1 (gB π) 0 0
  rw [an3] at e2
  rw [e2] at e
  exact e
theorem m_bw49 {n1 n2 x3 : Int32} {k : Nat} (hp : m_beds = nI (gB π)) (hS : RM π σ m_s) (ok : OkP π) (os : OkS π σ) (k5 : Int32 → Int32 → Option Int32) :
    f_X10_bedsWith_49 m_beds m_s n1 n2 k5 FU x3 (nI k) 0 0 = (if (n1 &&& (ofSet (fun b => bitsOf (gLy σ b)) k (gB π) ^^^ -1)) = 0 then k5 (nI k) (nI (k + 1)) else k5 x3 (nI (k + 1))) := by
  have hB := ok.1
  exact loopF (F := fun n a x => f_X10_bedsWith_49 m_beds m_s n1 n2 k5 n x3 (nI k) a x) (B := gB π) (step := fun b x => x ||| (if hasW (nI k) (nI b) then bitsOf (gLy σ b) else 0)) (fin := fun a => if (n1 &&& (a ^^^ -1)) = 0 then k5 (nI k) (nI (k + 1)) else k5 x3 (nI (k + 1))) (fun n a => by
      show f_X10_bedsWith_49 m_beds m_s n1 n2 k5 (n + 1) x3 (nI k) a (nI (gB π)) = _
      rw [f_X10_bedsWith_49, hp, if_pos (Int32.le_refl _), nI_1]) (fun n a b hb => by
      show f_X10_bedsWith_49 m_beds m_s n1 n2 k5 (n + 1) x3 (nI k) a (nI b) = f_X10_bedsWith_49 m_beds m_s n1 n2 k5 n x3 (nI k) _ (nI (b + 1))
      rw [f_X10_bedsWith_49, hp]
      simp (disch := omega) only [nI_leJ]
      rw [if_neg (by omega), m_wordsIn hS os (by omega), b1_s, nI_1]
      by_cases h : hasW (nI k) (nI b)
      · rw [if_pos h, if_pos h]
      · rw [if_neg h, if_neg h]) (gB π) 0 FU 0 (by omega) (FU_gt (by omega))
theorem c_fb41 {n1 : Int32} {W : Nat → Int32} (hp : p_beds = nI (gB π)) (ok : OkP π) (h6 : 6 ≤ r_n) (hv : ∀ b, b < gB π → r_v b = W b) : ∀ (d k n : Nat) (o : Option Nat), k + d = 2 ^ gB π → d < n → obOk o → f_X9_fewestBeds_41 s_many s_lying r_n p_beds n1 n (obI o) (obC o) (nI k) r_v = some (obI (bestB W n1 (gB π) d k o), r_v) := by
  have hB := ok.1
  have h64 := pow6 _ hB
  intro d
  induction d with
  | zero =>
    intro k n o hk hn ho
    obtain ⟨m, rfl⟩ : ∃ m, n = m + 1 := ⟨n - 1, by omega⟩
    obtain rfl : k = 2 ^ gB π := by omega
    rw [f_X9_fewestBeds_41, hp, shl6 _ hB, if_pos (Int32.le_refl _)]
    rfl
  | succ d ih =>
    intro k n o hk hn ho
    obtain ⟨m, rfl⟩ : ∃ m, n = m + 1 := ⟨n - 1, by omega⟩
    rw [f_X9_fewestBeds_41, c_fb61 hp ok h6 hv]
    rw [hp, shl6 _ hB]
    simp (disch := omega) only [nI_leJ]
    rw [if_neg (by omega), bc64 k (by omega), b1_s, b1_s]
    rw [hp] at ih
    have hk6 := pc6 k (by omega)
    unfold bestB
    by_cases h : (n1 &&& (ofSet W k (gB π) ^^^ -1)) = 0
    · rw [if_pos h, if_pos h]
      cases o with
      | none =>
        show (if (nI 7) ≤ nI (pcN k) then _ else _) = _
        simp (disch := omega) only [nI_leJ]
        rw [if_neg (by omega)]
        exact ih (k + 1) m (some k) (by omega) (by omega) (show k < 64 by omega)
      | some j =>
        have hj6 := pc6 j ho
        show (if (nI (pcN j)) ≤ nI (pcN k) then _ else _) = _
        simp (disch := omega) only [nI_leJ]
        by_cases h2 : pcN k < pcN j
        · rw [if_neg (by omega), if_pos h2]
          exact ih (k + 1) m (some k) (by omega) (by omega) (show k < 64 by omega)
        · rw [if_pos (by omega), if_neg h2]
          exact ih (k + 1) m (some j) (by omega) (by omega) ho
    · rw [if_neg h, if_neg h]
      exact ih (k + 1) m o (by omega) (by omega) ho
theorem m_bw5 {n1 : Int32} (hp : m_beds = nI (gB π)) (hS : RM π σ m_s) (ok : OkP π) (os : OkS π σ) : ∀ (d k n : Nat) (o : Option Nat), k + d = 2 ^ gB π → d < n → obOk o → f_X10_bedsWith_5 m_beds m_s n1 0 n (obI o) (nI k) = some (obI (bestB (fun b => bitsOf (gLy σ b)) n1 (gB π) d k o)) := by
  have hB := ok.1
  have h64 := pow6 _ hB
  intro d
  induction d with
  | zero =>
    intro k n o hk hn ho
    obtain ⟨m, rfl⟩ : ∃ m, n = m + 1 := ⟨n - 1, by omega⟩
    obtain rfl : k = 2 ^ gB π := by omega
    rw [f_X10_bedsWith_5, hp, shl6 _ hB, if_pos (Int32.le_refl _)]
    rfl
  | succ d ih =>
    intro k n o hk hn ho
    obtain ⟨m, rfl⟩ : ∃ m, n = m + 1 := ⟨n - 1, by omega⟩
    rw [f_X10_bedsWith_5, m_bw49 hp hS ok os]
    rw [hp, shl6 _ hB]
    simp (disch := omega) only [nI_leJ]
    rw [if_neg (by omega), if_pos (Int32.and_zero), ones_all, b1_s, ones_all, b1_s]
    rw [hp] at ih
    rw [nI_1]
    unfold bestB
    cases o with
    | none =>
      rw [if_pos (show obI none = -1 from rfl)]
      by_cases h : (n1 &&& (ofSet (fun b => bitsOf (gLy σ b)) k (gB π) ^^^ -1)) = 0
      · rw [if_pos h, if_pos h]
        exact ih (k + 1) m (some k) (by omega) (by omega) (show k < 64 by omega)
      · rw [if_neg h, if_neg h]
        exact ih (k + 1) m none (by omega) (by omega) ho
    | some j =>
      have ho : j < 64 := ho
      have hj6 := pc6 j ho
      have hk6 := pc6 k (by omega)
      rw [if_neg (show ¬ obI (some j) = -1 by show ¬ nI j = -1; rw [nI_neM (by omega)]; exact id), ones64 k (by omega), show onesS (obI (some j)) = nI (pcN j) from ones64 j ho]
      simp (disch := omega) only [nI_ltJ]
      by_cases h2 : pcN k < pcN j
      · rw [if_pos h2, if_pos h2]
        by_cases h : (n1 &&& (ofSet (fun b => bitsOf (gLy σ b)) k (gB π) ^^^ -1)) = 0
        · rw [if_pos h, if_pos h]
          exact ih (k + 1) m (some k) (by omega) (by omega) (show k < 64 by omega)
        · rw [if_neg h, if_neg h]
          exact ih (k + 1) m (some j) (by omega) (by omega) ho
      · rw [if_neg h2, if_neg h2, ite_self]
        exact ih (k + 1) m (some j) (by omega) (by omega) ho
def bestA (π : Pg) (σ : Sg) (n1 : Int32) : Int32 := obI (bestB (fun b => bitsOf (gLy σ b)) n1 (gB π) (2 ^ gB π) 0 none)
theorem c_fewest {n1 : Int32} (hS : RS π σ (s_year, s_wet, s_lost, s_eaten, s_tied, s_ripeMany, s_gone, s_place, s_heard, s_many, s_lying, s_ripe)) (hp : p_beds = nI (gB π)) (ok : OkP π) (os : OkS π σ) (h6 : 6 ≤ r_n) : ∃ rv, f_X9_fewestBeds s_many s_lying r_n r_v p_beds n1 = some (bestA π σ n1, rv) := by
  have hB := ok.1
  have h64 := pow6 _ hB
  unfold f_X9_fewestBeds
  obtain ⟨c', e, q⟩ := loopR (A := Unit) (C := Nat → Int32) (F := fun n q x => f_X9_fewestBeds_2 s_many s_lying r_n p_beds n1 n x q) (B := gB π) (step := fun _ _ => ()) (fin := fun q => f_X9_fewestBeds_41 s_many s_lying r_n p_beds n1 FU (-1) 7 0 q) (Q := fun k _ q => ∀ b, b < k → q b = bitsOf (gLy σ b)) (fun n q => by
      show f_X9_fewestBeds_2 s_many s_lying r_n p_beds n1 (n + 1) (nI (gB π)) q = _
      rw [f_X9_fewestBeds_2, hp, if_pos (Int32.le_refl _)]) (fun n _ q k hk hq => by
      refine ⟨upd q k (bitsOf (gLy σ k)), ?_, fun b hb => ?_⟩
      · show f_X9_fewestBeds_2 s_many s_lying r_n p_beds n1 (n + 1) (nI k) q = f_X9_fewestBeds_2 s_many s_lying r_n p_beds n1 n (nI (k + 1)) _
        have hx : ixb (nI k) r_n = true := ixb_nI (by omega) (by omega)
        rw [f_X9_fewestBeds_2, hp]
        simp (disch := omega) only [nI_leJ]
        rw [if_neg (by omega), c_wordsIn hS os (by omega), b1_s, hx, if_pos rfl, nI_cl (by omega), nI_1]
      · by_cases e : b = k
        · subst e; rw [upd_s]
        · rw [upd_n e]; exact hq b (by omega)) (gB π) 0 FU () r_v (by omega) (FU_gt (by omega)) (fun b hb => absurd hb (by omega))
  exact ⟨c', e.trans (c_fb41 (W := fun b => bitsOf (gLy σ b)) hp ok h6 q (2 ^ gB π) 0 FU none (by omega) (FU_gt (by omega)) trivial)⟩
theorem m_bedsWith {n1 : Int32} (hp : m_beds = nI (gB π)) (hS : RM π σ m_s) (ok : OkP π) (os : OkS π σ) : f_X10_bedsWith m_beds m_s n1 0 = some (bestA π σ n1) := by
  have h64 := pow6 _ ok.1
  exact m_bw5 hp hS ok os (2 ^ gB π) 0 FU none (by omega) (FU_gt (by omega)) trivial
theorem k_all (hS : RS π σ (s_year, s_wet, s_lost, s_eaten, s_tied, s_ripeMany, s_gone, s_place, s_heard, s_many, s_lying, s_ripe)) (hM : RM π σ m_now) (hP : RPc π (p_beds, p_letters, p_readers, p_far, p_drain, p_length, p_words, p_home)) (hQ : RPm π m_beds m_letters m_readers m_bed m_letter m_reader) (ok : OkP π) (os : OkS π σ) (h6 : 6 ≤ r_n) (hc : RC x_missing x_misused m_refused) (n1 : Int32) :
    ∃ ex r mu rv rf s2, f_X9_all x_misused s_many s_lying r_n r_v p_beds n1 = some (ex, r, mu, rv) ∧ f_X10_all m_thrown m_refused m_beds m_now m_s n1 = some (r, if ex = 0 then 0 else 1, rf, s2) ∧ (ex = 0 ∨ ex = 2) ∧ RC x_missing mu rf := by
  unfold f_X9_all f_X10_all
  rw [c_range, m_within]
  by_cases h : 0 ≤ n1 ∧ n1 ≤ 65535
  · obtain ⟨m2, e2, hT⟩ := m_take (m_s := m_s) ok os hM
    obtain ⟨rv, e3⟩ := c_fewest (r_v := r_v) (n1 := n1) hS hP.1 ok os h6
    refine ⟨0, bestA π σ n1, x_misused, rv, m_refused, m2, ?_, ?_, Or.inl rfl, hc⟩
    · rw [if_pos h, b2_s, if_pos rfl, e3, b2_s]
    · rw [if_pos h, b1_s, m_may1, b3_s, if_neg (by decide), e2, b1_s, m_bedsWith hQ.1 hT ok os, b1_s]
      rfl
  · refine ⟨2, 0, x_misused + 1, r_v, upd m_refused 1 (m_refused 1 + 1), m_s, ?_, ?_, Or.inr rfl, rc_mu hc⟩
    · rw [if_neg h]; rfl
    · rw [if_neg h]; rfl
theorem k_tour (hS : RS π σ (s_year, s_wet, s_lost, s_eaten, s_tied, s_ripeMany, s_gone, s_place, s_heard, s_many, s_lying, s_ripe)) (hM : RM π σ m_now) (hP : RPc π (p_beds, p_letters, p_readers, p_far, p_drain, p_length, p_words, p_home)) (hQ : RPm π m_beds m_letters m_readers m_bed m_letter m_reader) (ok : OkP π) (os : OkS π σ) (h6 : 6 ≤ r_n) (hc : RC x_missing x_misused m_refused) (n1 : Int32) :
    ∃ ex r mi rv rf s2, f_X9_tour x_missing s_heard s_many s_lying r_n r_v p_beds p_readers n1 = some (ex, r, mi, rv) ∧ f_X10_tour m_thrown m_refused m_beds m_readers m_now m_s n1 = some (r, if ex = 0 then 0 else 1, rf, s2) ∧ (ex = 0 ∨ ex = 1) ∧ RC mi x_misused rf := by
  have h5 := ok.2.2.1
  have hB := ok.1
  have e0 := hQ.2.2.1
  subst e0
  unfold f_X9_tour f_X10_tour
  rw [c_one, hP.2.2.1, m_isR _ (by omega)]
  by_cases h : 0 ≤ n1 ∧ n1 < nI (gR π)
  · obtain ⟨r, hr, rfl⟩ := inL (B := gR π) (by omega) h.1 h.2
    obtain ⟨m2, e2, hT⟩ := m_take (m_s := m_s) ok os hM
    obtain ⟨rv, e3⟩ := c_fewest (r_v := r_v) (n1 := orI (fun b => bitsOf (gLy σ b)) (gB π) &&& (gHe σ r ^^^ -1)) hS hP.1 ok os h6
    have hhe := hS.2.2.2.2.2.2.2.2.1 r hr
    have hmh := hT.2.2.2.2.2.2.2.2.1 r hr
    have e4 : f_X10_tour_24 m_beds (nI (gR π)) m_now (nI r) FU 0 0 0 m_refused m2 = some (bestA π σ (orI (fun b => bitsOf (gLy σ b)) (gB π) &&& (gHe σ r ^^^ -1)), 0, m_refused, m2) := by
      refine loopF (F := fun n a x => f_X10_tour_24 m_beds (nI (gR π)) m_now (nI r) n a x 0 m_refused m2) (B := gB π) (step := fun b a => a ||| bitsOf (gLy σ b)) (fin := fun a => some (bestA π σ (a &&& (gHe σ r ^^^ -1)), 0, m_refused, m2)) (fun n a => ?_) (fun n a b hb => ?_) (gB π) 0 FU 0 (by omega) (FU_gt (by omega))
      · show f_X10_tour_24 m_beds (nI (gR π)) m_now (nI r) (n + 1) a (nI (gB π)) 0 m_refused m2 = _
        rw [f_X10_tour_24, m_bedsWith hQ.1 hT ok os, b1_s, hQ.1, if_pos (Int32.le_refl _), show (95 : Int32) + nI r = nI (95 + r) from nI_add 95 r, ixb_nI (by omega) (by omega), if_pos rfl, nI_cl (by omega), hmh]
      · show f_X10_tour_24 m_beds (nI (gR π)) m_now (nI r) (n + 1) a (nI b) 0 m_refused m2 = f_X10_tour_24 m_beds (nI (gR π)) m_now (nI r) n _ (nI (b + 1)) 0 m_refused m2
        rw [f_X10_tour_24, hQ.1]
        simp (disch := omega) only [nI_leJ]
        rw [if_neg (by omega), m_wordsIn hT os (by omega), b1_s, nI_1]
    refine ⟨0, bestA π σ (orI (fun b => bitsOf (gLy σ b)) (gB π) &&& (gHe σ r ^^^ -1)), x_missing, rv, m_refused, m2, ?_, ?_, Or.inl rfl, hc⟩
    · rw [if_pos h, b2_s, if_pos rfl, c_wordsInAll hS hP ok os, b1_s, ixb_nI (by omega) (by omega), if_pos rfl, nI_cl (by omega), hhe, e3, b2_s]
    · rw [if_pos h, b3_s, if_neg (by decide), e2, b1_s, e4]
      rfl
  · refine ⟨1, 0, x_missing + 1, r_v, upd m_refused 0 (m_refused 0 + 1), m_s, ?_, ?_, Or.inr rfl, rc_mi hc⟩
    · rw [if_neg h]; rfl
    · rw [if_neg h]; rfl
end KE

/-! ===== the class's state: what it is asked ===== -/
def orB (a : Int32) (w : Nat) : Int32 := a ||| ((1 : Int32) <<< (nI w &&& 31))
def bitsOf (L : List Nat) : Int32 := L.foldl orB 0
def gLeft (π : Pg) (σ : Sg) (l : Nat) : Nat := gLe π l - gGo σ l
def upTo (f : Nat → Nat) : Nat → Nat
  | 0 => 0
  | n + 1 => upTo f n + f n
/-- the first of a row, or -1 -/
def hd1 (L : List Nat) : Int32 := match L with
  | [] => -1
  | w :: _ => nI w
/-- the next word of a letter -/
def gNext (π : Pg) (σ : Sg) (l : Nat) : Int32 := if gLeft π σ l = 0 then -1 else nI (gWd π l (gGo σ l))
def sumI (f : Nat → Int32) (B : Nat) : Int32 := itN (fun k a => a + f k) B 0 0
def orI (f : Nat → Int32) (B : Nat) : Int32 := itN (fun k a => a ||| f k) B 0 0
/-- the next words of all letters, as bits -/
def nexts (π : Pg) (σ : Sg) : Int32 := orI (fun k => if gLeft π σ k = 0 then 0 else (1 : Int32) <<< (gNext π σ k &&& 31)) (gL π)
section SC
variable {π : Pg} {σ : Sg} {s_year s_wet s_lost s_eaten s_tied s_ripeMany : Int32} {s_gone s_place s_heard s_many s_lying s_ripe : Nat → Int32}
variable {p_beds p_letters p_readers : Int32} {p_far p_drain p_length p_words p_home : Nat → Int32}
theorem c_leftOf (hS : RS π σ (s_year, s_wet, s_lost, s_eaten, s_tied, s_ripeMany, s_gone, s_place, s_heard, s_many, s_lying, s_ripe)) (hP : RPc π (p_beds, p_letters, p_readers, p_far, p_drain, p_length, p_words, p_home)) (ok : OkP π) (os : OkS π σ) {l : Nat} (hl : l < gL π) : f_X4_leftOf s_gone p_length (nI l) = some (nI (gLeft π σ l)) := by
  obtain ⟨-, -, -, -, -, -, hgo, -⟩ := hS
  obtain ⟨-, -, -, -, hle, -⟩ := hP
  have h1 := ok.2.1
  have h2 := os.2.2.1 l hl
  unfold f_X4_leftOf gLeft
  simp (disch := omega) only [ixb_nI, nI_cl, if_true, hgo l hl, (hle l hl).2.1, nI_sub]
theorem c_wordAt (hP : RPc π (p_beds, p_letters, p_readers, p_far, p_drain, p_length, p_words, p_home)) (ok : OkP π) {l k : Nat} (hl : l < gL π) (hk : k < gLe π l) : f_X2_wordAt p_words (nI l) (nI k) = some (nI (gWd π l k)) := by
  obtain ⟨-, -, -, -, hle, -⟩ := hP
  have h1 := ok.2.1
  have h2 := (ok.2.2.2.2.1 l hl).2.2.1
  unfold f_X2_wordAt
  simp (disch := omega) only [lit, nI_ltJ, nI_leJ, nI_mul, nI_add, ixb_nI, nI_cl, (hle l hl).2.2 k hk, if_true]
  rw [if_neg (by omega), if_neg (by omega)]
theorem c_nextOf (hS : RS π σ (s_year, s_wet, s_lost, s_eaten, s_tied, s_ripeMany, s_gone, s_place, s_heard, s_many, s_lying, s_ripe)) (hP : RPc π (p_beds, p_letters, p_readers, p_far, p_drain, p_length, p_words, p_home)) (ok : OkP π) (os : OkS π σ) {l : Nat} (hl : l < gL π) : f_X4_nextOf s_gone p_length p_words (nI l) = some (gNext π σ l) := by
  have h1 := ok.2.1
  have h2 := os.2.2.1 l hl
  have h3 := (ok.2.2.2.2.1 l hl).2.2.1
  have hgo := hS.2.2.2.2.2.2.1
  unfold f_X4_nextOf gNext
  rw [c_leftOf hS hP ok os hl, b1_s]
  have h4 : gLeft π σ l = gLe π l - gGo σ l := rfl
  by_cases h : gLeft π σ l = 0
  · rw [if_pos h, if_pos]
    rw [h]; decide
  · rw [if_neg h, if_neg]
    · simp (disch := omega) only [ixb_nI, nI_cl, if_true, hgo l hl]
      rw [c_wordAt hP ok hl (by omega), b1_s]
    · simp (disch := omega) only [lit, nI_leJ]
      omega
theorem c_lyingAt (hS : RS π σ (s_year, s_wet, s_lost, s_eaten, s_tied, s_ripeMany, s_gone, s_place, s_heard, s_many, s_lying, s_ripe)) (os : OkS π σ) {b k : Nat} (hb : b < 6) (hk : k < 2147483648) : f_X4_lyingAt s_many s_lying (nI b) (nI k) = some (if k < (gLy σ b).length then nI ((gLy σ b).getD k 0) else -1) := by
  obtain ⟨-, -, -, -, -, -, -, -, -, hma, hly, -⟩ := hS
  have h2 := (os.2.2.2.2.1 b).1
  unfold f_X4_lyingAt
  simp (disch := omega) only [lit, nI_ltJ, nI_leJ, ixb_nI, nI_cl, hma b hb, if_true]
  rw [if_neg (by omega)]
  by_cases h : k < (gLy σ b).length
  · rw [if_neg (by omega), if_neg (by omega), if_pos h]
    simp (disch := omega) only [nI_mul, nI_add, ixb_nI, nI_cl, if_true, hly b k hb h]
  · rw [if_pos (by omega), if_neg h]
theorem c_wordsIn_4 (hS : RS π σ (s_year, s_wet, s_lost, s_eaten, s_tied, s_ripeMany, s_gone, s_place, s_heard, s_many, s_lying, s_ripe)) (os : OkS π σ) {b : Nat} (hb : b < 6) : ∀ (d n k : Nat) (a : Int32), k + d = (gLy σ b).length → d < n → f_X4_wordsIn_4 s_many s_lying (nI b) n a (nI k) = some (((gLy σ b).drop k).foldl orB a) := by
  have hma := hS.2.2.2.2.2.2.2.2.2.1
  have h2 := (os.2.2.2.2.1 b).1
  intro d
  induction d with
  | zero =>
    intro n k a hk hn
    obtain ⟨m, rfl⟩ : ∃ m, n = m + 1 := ⟨n - 1, by omega⟩
    rw [f_X4_wordsIn_4]
    simp (disch := omega) only [ixb_nI, nI_cl, if_true, hma b hb, nI_leJ]
    rw [if_pos (by omega), List.drop_of_length_le (by omega)]
    rfl
  | succ d ih =>
    intro n k a hk hn
    obtain ⟨m, rfl⟩ : ∃ m, n = m + 1 := ⟨n - 1, by omega⟩
    have hlt : k < (gLy σ b).length := by omega
    rw [f_X4_wordsIn_4]
    simp (disch := omega) only [ixb_nI, nI_cl, if_true, hma b hb, nI_leJ]
    rw [if_neg (by omega), c_lyingAt hS os hb (by omega), b1_s, if_pos hlt, nI_1, ih m (k + 1) _ (by omega) (by omega)]
    rw [List.drop_eq_getElem_cons hlt, List.foldl_cons]
    congr 2
    unfold orB
    rw [List.getD_eq_getElem?_getD, List.getElem?_eq_getElem hlt]
    rfl
theorem c_wordsIn (hS : RS π σ (s_year, s_wet, s_lost, s_eaten, s_tied, s_ripeMany, s_gone, s_place, s_heard, s_many, s_lying, s_ripe)) (os : OkS π σ) {b : Nat} (hb : b < 6) : f_X4_wordsIn s_many s_lying (nI b) = some (bitsOf (gLy σ b)) := by
  have h2 := (os.2.2.2.2.1 b).1
  unfold f_X4_wordsIn
  exact c_wordsIn_4 hS os hb (gLy σ b).length FU 0 0 (by omega) (FU_gt (by omega))
theorem c_leftOfAll (hS : RS π σ (s_year, s_wet, s_lost, s_eaten, s_tied, s_ripeMany, s_gone, s_place, s_heard, s_many, s_lying, s_ripe)) (hP : RPc π (p_beds, p_letters, p_readers, p_far, p_drain, p_length, p_words, p_home)) (ok : OkP π) (os : OkS π σ) : f_X4_leftOfAll s_gone p_letters p_length = some (sumI (fun l => nI (gLeft π σ l)) (gL π)) := by
  have h1 := ok.2.1
  have hl : p_letters = nI (gL π) := hP.2.1
  unfold f_X4_leftOfAll
  refine loopF (F := fun n a x => f_X4_leftOfAll_4 s_gone p_letters p_length n a x) (B := gL π) (step := fun k a => a + nI (gLeft π σ k)) (fin := some) (fun n a => ?_) (fun n a k hk => ?_) (gL π) 0 FU 0 (by omega) (FU_gt (by omega))
  · show f_X4_leftOfAll_4 s_gone p_letters p_length (n + 1) a (nI (gL π)) = some a
    rw [f_X4_leftOfAll_4, hl, if_pos (Int32.le_refl _)]
  · show f_X4_leftOfAll_4 s_gone p_letters p_length (n + 1) a (nI k) = f_X4_leftOfAll_4 s_gone p_letters p_length n _ _
    rw [f_X4_leftOfAll_4, hl]
    simp (disch := omega) only [nI_leJ]
    rw [if_neg (by omega), c_leftOf hS hP ok os hk, b1_s, nI_1]
theorem c_lyingInAll (hS : RS π σ (s_year, s_wet, s_lost, s_eaten, s_tied, s_ripeMany, s_gone, s_place, s_heard, s_many, s_lying, s_ripe)) : f_X4_lyingInAll s_many = some (sumI (fun b => nI (gLy σ b).length) 6) := by
  have hma := hS.2.2.2.2.2.2.2.2.2.1
  unfold f_X4_lyingInAll
  refine loopF (F := fun n a x => f_X4_lyingInAll_4 s_many n a x) (B := 6) (step := fun k a => a + nI (gLy σ k).length) (fin := some) (fun n a => ?_) (fun n a k hk => ?_) 6 0 FU 0 (by omega) (FU_gt (by omega))
  · show f_X4_lyingInAll_4 s_many (n + 1) a (nI 6) = some a
    rw [f_X4_lyingInAll_4]
    rfl
  · show f_X4_lyingInAll_4 s_many (n + 1) a (nI k) = f_X4_lyingInAll_4 s_many n _ _
    rw [f_X4_lyingInAll_4]
    simp (disch := omega) only [lit, nI_leJ, ixb_nI, nI_cl, hma k hk, if_true, nI_add]
    rw [if_neg (by omega)]
theorem c_wordsInAll (hS : RS π σ (s_year, s_wet, s_lost, s_eaten, s_tied, s_ripeMany, s_gone, s_place, s_heard, s_many, s_lying, s_ripe)) (hP : RPc π (p_beds, p_letters, p_readers, p_far, p_drain, p_length, p_words, p_home)) (ok : OkP π) (os : OkS π σ) : f_X4_wordsInAll s_many s_lying p_beds = some (orI (fun b => bitsOf (gLy σ b)) (gB π)) := by
  have h1 := ok.1
  have hl : p_beds = nI (gB π) := hP.1
  unfold f_X4_wordsInAll
  refine loopF (F := fun n a x => f_X4_wordsInAll_4 s_many s_lying p_beds n a x) (B := gB π) (step := fun k a => a ||| bitsOf (gLy σ k)) (fin := some) (fun n a => ?_) (fun n a k hk => ?_) (gB π) 0 FU 0 (by omega) (FU_gt (by omega))
  · show f_X4_wordsInAll_4 s_many s_lying p_beds (n + 1) a (nI (gB π)) = some a
    rw [f_X4_wordsInAll_4, hl, if_pos (Int32.le_refl _)]
  · show f_X4_wordsInAll_4 s_many s_lying p_beds (n + 1) a (nI k) = f_X4_wordsInAll_4 s_many s_lying p_beds n _ _
    rw [f_X4_wordsInAll_4, hl]
    simp (disch := omega) only [nI_leJ]
    rw [if_neg (by omega), c_wordsIn hS os (by omega), b1_s, nI_1]
theorem c_readersAt (hS : RS π σ (s_year, s_wet, s_lost, s_eaten, s_tied, s_ripeMany, s_gone, s_place, s_heard, s_many, s_lying, s_ripe)) (hP : RPc π (p_beds, p_letters, p_readers, p_far, p_drain, p_length, p_words, p_home)) (ok : OkP π) (os : OkS π σ) {b : Nat} (hb : b < 6) : f_X4_readersAt s_place p_readers (nI b) = some (orI (fun r => if gPl σ r = b then (1 : Int32) <<< (nI r &&& 31) else 0) (gR π)) := by
  have h0 := ok.1
  have h1 := ok.2.2.1
  have hl : p_readers = nI (gR π) := hP.2.2.1
  have hpl := hS.2.2.2.2.2.2.2.1
  unfold f_X4_readersAt
  refine loopF (F := fun n a x => f_X4_readersAt_5 s_place p_readers (nI b) n a x) (B := gR π) (step := fun k a => a ||| (if gPl σ k = b then (1 : Int32) <<< (nI k &&& 31) else 0)) (fin := some) (fun n a => ?_) (fun n a k hk => ?_) (gR π) 0 FU 0 (by omega) (FU_gt (by omega))
  · show f_X4_readersAt_5 s_place p_readers (nI b) (n + 1) a (nI (gR π)) = some a
    rw [f_X4_readersAt_5, hl, if_pos (Int32.le_refl _)]
  · show f_X4_readersAt_5 s_place p_readers (nI b) (n + 1) a (nI k) = f_X4_readersAt_5 s_place p_readers (nI b) n _ _
    have h2 := os.2.2.2.1 k hk
    rw [f_X4_readersAt_5, hl]
    simp (disch := omega) only [nI_leJ, ixb_nI, nI_cl, hpl k hk, if_true, nI_eqI, nI_1]
    rw [if_neg (by omega)]
    by_cases h : gPl σ k = b
    · rw [if_pos h, if_pos h]
    · rw [if_neg h, if_neg h]
theorem c_heardByAny (hS : RS π σ (s_year, s_wet, s_lost, s_eaten, s_tied, s_ripeMany, s_gone, s_place, s_heard, s_many, s_lying, s_ripe)) (hP : RPc π (p_beds, p_letters, p_readers, p_far, p_drain, p_length, p_words, p_home)) (ok : OkP π) : f_X4_heardByAny s_heard p_readers = some (orI (gHe σ) (gR π)) := by
  have h1 := ok.2.2.1
  have hl : p_readers = nI (gR π) := hP.2.2.1
  have hhe := hS.2.2.2.2.2.2.2.2.1
  unfold f_X4_heardByAny
  refine loopF (F := fun n a x => f_X4_heardByAny_4 s_heard p_readers n a x) (B := gR π) (step := fun k a => a ||| gHe σ k) (fin := some) (fun n a => ?_) (fun n a k hk => ?_) (gR π) 0 FU 0 (by omega) (FU_gt (by omega))
  · show f_X4_heardByAny_4 s_heard p_readers (n + 1) a (nI (gR π)) = some a
    rw [f_X4_heardByAny_4, hl, if_pos (Int32.le_refl _)]
  · show f_X4_heardByAny_4 s_heard p_readers (n + 1) a (nI k) = f_X4_heardByAny_4 s_heard p_readers n _ _
    rw [f_X4_heardByAny_4, hl]
    simp (disch := omega) only [nI_leJ, ixb_nI, nI_cl, hhe k hk, if_true, nI_1]
    rw [if_neg (by omega)]
/-- a wind tells the next words of all letters -/
theorem c_toldBy (hS : RS π σ (s_year, s_wet, s_lost, s_eaten, s_tied, s_ripeMany, s_gone, s_place, s_heard, s_many, s_lying, s_ripe)) (hP : RPc π (p_beds, p_letters, p_readers, p_far, p_drain, p_length, p_words, p_home)) (ok : OkP π) (os : OkS π σ) {r N : Nat} (hr : r < gR π) (hN : N < 1000) : f_X4_toldBy s_gone s_place p_letters p_far p_length p_words (nI r) (nI N) = some (if gFa π (gPl σ r) ≤ N then nexts π σ else 0) := by
  have h0 := ok.1
  have h1 := ok.2.1
  have h3 := ok.2.2.1
  have hl : p_letters = nI (gL π) := hP.2.1
  have hfa := hP.2.2.2.1
  have hpl := hS.2.2.2.2.2.2.2.1
  have h2 := os.2.2.2.1 r hr
  have h4 := ok.2.2.2.1 _ h2
  unfold f_X4_toldBy
  simp (disch := omega) only [ixb_nI, nI_cl, hpl r hr, if_true, hfa _ h2, nI_leJ]
  by_cases h : gFa π (gPl σ r) ≤ N
  · rw [if_pos h, if_pos h]
    refine loopF (F := fun n a x => f_X4_toldBy_23 s_gone s_place p_letters p_far p_length p_words (nI r) (nI N) n a x) (B := gL π) (step := fun k a => a ||| (if gLeft π σ k = 0 then 0 else (1 : Int32) <<< (gNext π σ k &&& 31))) (fin := some) (fun n a => ?_) (fun n a k hk => ?_) (gL π) 0 FU 0 (by omega) (FU_gt (by omega))
    · show f_X4_toldBy_23 s_gone s_place p_letters p_far p_length p_words (nI r) (nI N) (n + 1) a (nI (gL π)) = some a
      rw [f_X4_toldBy_23, hl, if_pos (Int32.le_refl _)]
    · show f_X4_toldBy_23 s_gone s_place p_letters p_far p_length p_words (nI r) (nI N) (n + 1) a (nI k) = f_X4_toldBy_23 s_gone s_place p_letters p_far p_length p_words (nI r) (nI N) n _ _
      have h5 : gLeft π σ k ≤ 8 := by have := (ok.2.2.2.2.1 k hk).2.2.1; unfold gLeft; omega
      rw [f_X4_toldBy_23, hl]
      simp (disch := omega) only [nI_leJ]
      rw [if_neg (by omega), c_leftOf hS hP ok os hk, b1_s]
      simp (disch := omega) only [lit, nI_leJ]
      by_cases hz : gLeft π σ k = 0
      · rw [if_pos (by omega), if_pos hz, nI_add]
      · rw [if_neg (by omega), if_neg hz, c_nextOf hS hP ok os hk, b1_s, nI_add]
  · rw [if_neg h, if_neg h]
end SC

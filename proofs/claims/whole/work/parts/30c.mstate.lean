/-! ===== the model's row: what it is asked ===== -/
section SM
variable {π : Pg} {σ : Sg} {m_s m_bed m_letter m_reader : Nat → Int32} {m_beds m_letters m_readers : Int32}
theorem m_leftOf (hS : RM π σ m_s) (hP : RPm π m_beds m_letters m_readers m_bed m_letter m_reader) (ok : OkP π) (os : OkS π σ) {l : Nat} (hl : l < gL π) : f_X10_leftOf m_letter m_s (nI l) = some (nI (gLeft π σ l)) := by
  have hgo := hS.2.2.2.2.2.2.1
  have hle := hP.2.2.2.2.1
  have h1 := ok.2.1
  have h2 := os.2.2.1 l hl
  unfold f_X10_leftOf gLeft
  simp (disch := omega) only [lit, nI_mul, nI_add, Nat.zero_add, ixb_nI, nI_cl, if_true, hgo l hl, (hle l hl).2.1, nI_sub]
theorem m_wordOf (hS : RM π σ m_s) (hP : RPm π m_beds m_letters m_readers m_bed m_letter m_reader) (ok : OkP π) (os : OkS π σ) {l k : Nat} (hl : l < gL π) (hk : gGo σ l + k < gLe π l) : f_X10_wordOf m_letter m_s (nI l) (nI k) = some (nI (gWd π l (gGo σ l + k))) := by
  have hgo := hS.2.2.2.2.2.2.1
  have hle := hP.2.2.2.2.1
  have h1 := ok.2.1
  have h2 := (ok.2.2.2.2.1 l hl).2.2.1
  unfold f_X10_wordOf
  simp (disch := omega) only [lit, nI_mul, nI_add, Nat.zero_add, ixb_nI, nI_cl, if_true, hgo l hl, Nat.add_assoc]
  have := (hle l hl).2.2 (gGo σ l + k) hk
  simp only [Nat.add_assoc] at this
  rw [this]
theorem m_wordsIn_4 (hS : RM π σ m_s) (os : OkS π σ) {b : Nat} (hb : b < 6) : ∀ (d n k : Nat) (a : Int32), k + d = (gLy σ b).length → d < n → f_X10_wordsIn_4 m_s (nI b) n a (nI k) = some (((gLy σ b).drop k).foldl orB a) := by
  have hma := hS.2.2.2.2.2.2.2.2.2.1
  have hly := hS.2.2.2.2.2.2.2.2.2.2.1
  have h2 := (os.2.2.2.2.1 b).1
  intro d
  induction d with
  | zero =>
    intro n k a hk hn
    obtain ⟨m, rfl⟩ : ∃ m, n = m + 1 := ⟨n - 1, by omega⟩
    rw [f_X10_wordsIn_4]
    simp (disch := omega) only [lit, nI_add, ixb_nI, nI_cl, if_true, hma b hb, nI_leJ]
    rw [if_pos (by omega), List.drop_of_length_le (by omega)]
    rfl
  | succ d ih =>
    intro n k a hk hn
    obtain ⟨m, rfl⟩ : ∃ m, n = m + 1 := ⟨n - 1, by omega⟩
    have hlt : k < (gLy σ b).length := by omega
    rw [f_X10_wordsIn_4]
    simp (disch := omega) only [lit, nI_add, nI_mul, ixb_nI, nI_cl, if_true, hma b hb, nI_leJ, hly b k hb hlt]
    rw [if_neg (by omega), ih m (k + 1) _ (by omega) (by omega)]
    rw [List.drop_eq_getElem_cons hlt, List.foldl_cons]
    congr 2
    unfold orB
    rw [List.getD_eq_getElem?_getD, List.getElem?_eq_getElem hlt]
    rfl
theorem m_wordsIn (hS : RM π σ m_s) (os : OkS π σ) {b : Nat} (hb : b < 6) : f_X10_wordsIn m_s (nI b) = some (bitsOf (gLy σ b)) := by
  have h2 := (os.2.2.2.2.1 b).1
  unfold f_X10_wordsIn
  exact m_wordsIn_4 hS os hb (gLy σ b).length FU 0 0 (by omega) (FU_gt (by omega))
end SM

theorem flat_perm (n : Nat) (Bs : List va_W) (is : List Nat) (h1 : Bs.map id = (List.range n).map (fun i => Bs.getD i [])) (hp : (List.range n).Perm is) : Bs.flatten.Perm ((is.map (fun i => Bs.getD i [])).flatten) := by
  rw [List.map_id] at h1
  conv => lhs; rw [h1]
  exact (hp.map _).flatten
theorem lg_same (f : Nat → Int64) (r : Int64) : lg_cmp ((vp_updL f 0 r) (0 : Int32).toNatClampNeg) r = 0 := by
  show lg_cmp r r = 0
  rw [lg_cmp_eq]
theorem pm_0_1_2_7_9_10_11_13_15_16 {B0 B1 B2 B3 B4 B5 B6 B7 B8 B9 B10 B11 B12 B13 B14 B15 B16 B17 : va_W} : (B0 ++ B1 ++ B2 ++ B7 ++ B9 ++ B10 ++ B11 ++ B13 ++ B15 ++ B16 ++ (B3 ++ B4 ++ B5 ++ B6 ++ B8 ++ B12 ++ B14 ++ B17)).Perm (B0 ++ B1 ++ B2 ++ B3 ++ B4 ++ B5 ++ B6 ++ B7 ++ B8 ++ B9 ++ B10 ++ B11 ++ B12 ++ B13 ++ B14 ++ B15 ++ B16 ++ B17) := by
  have h := flat_perm 18 [B0, B1, B2, B3, B4, B5, B6, B7, B8, B9, B10, B11, B12, B13, B14, B15, B16, B17] [0, 1, 2, 7, 9, 10, 11, 13, 15, 16, 3, 4, 5, 6, 8, 12, 14, 17] rfl (by decide +kernel)
  simp only [List.map_cons, List.map_nil, List.getD_cons_zero, List.getD_cons_succ, List.flatten_cons, List.flatten_nil, List.append_nil, List.append_assoc] at h ⊢
  exact h.symm
theorem pm_0_1_2_7_10_9_11_13_15_16 {B0 B1 B2 B3 B4 B5 B6 B7 B8 B9 B10 B11 B12 B13 B14 B15 B16 B17 : va_W} : (B0 ++ B1 ++ B2 ++ B7 ++ B10 ++ B9 ++ B11 ++ B13 ++ B15 ++ B16 ++ (B3 ++ B4 ++ B5 ++ B6 ++ B8 ++ B12 ++ B14 ++ B17)).Perm (B0 ++ B1 ++ B2 ++ B3 ++ B4 ++ B5 ++ B6 ++ B7 ++ B8 ++ B9 ++ B10 ++ B11 ++ B12 ++ B13 ++ B14 ++ B15 ++ B16 ++ B17) := by
  have h := flat_perm 18 [B0, B1, B2, B3, B4, B5, B6, B7, B8, B9, B10, B11, B12, B13, B14, B15, B16, B17] [0, 1, 2, 7, 10, 9, 11, 13, 15, 16, 3, 4, 5, 6, 8, 12, 14, 17] rfl (by decide +kernel)
  simp only [List.map_cons, List.map_nil, List.getD_cons_zero, List.getD_cons_succ, List.flatten_cons, List.flatten_nil, List.append_nil, List.append_assoc] at h ⊢
  exact h.symm
theorem pm_0_1_9_13_14_15_16 {B0 B1 B2 B3 B4 B5 B6 B7 B8 B9 B10 B11 B12 B13 B14 B15 B16 B17 : va_W} : (B0 ++ B1 ++ B9 ++ B13 ++ B14 ++ B15 ++ B16 ++ (B2 ++ B3 ++ B4 ++ B5 ++ B6 ++ B7 ++ B8 ++ B10 ++ B11 ++ B12 ++ B17)).Perm (B0 ++ B1 ++ B2 ++ B3 ++ B4 ++ B5 ++ B6 ++ B7 ++ B8 ++ B9 ++ B10 ++ B11 ++ B12 ++ B13 ++ B14 ++ B15 ++ B16 ++ B17) := by
  have h := flat_perm 18 [B0, B1, B2, B3, B4, B5, B6, B7, B8, B9, B10, B11, B12, B13, B14, B15, B16, B17] [0, 1, 9, 13, 14, 15, 16, 2, 3, 4, 5, 6, 7, 8, 10, 11, 12, 17] rfl (by decide +kernel)
  simp only [List.map_cons, List.map_nil, List.getD_cons_zero, List.getD_cons_succ, List.flatten_cons, List.flatten_nil, List.append_nil, List.append_assoc] at h ⊢
  exact h.symm
theorem pm_0_1_9_14_13_15_16 {B0 B1 B2 B3 B4 B5 B6 B7 B8 B9 B10 B11 B12 B13 B14 B15 B16 B17 : va_W} : (B0 ++ B1 ++ B9 ++ B14 ++ B13 ++ B15 ++ B16 ++ (B2 ++ B3 ++ B4 ++ B5 ++ B6 ++ B7 ++ B8 ++ B10 ++ B11 ++ B12 ++ B17)).Perm (B0 ++ B1 ++ B2 ++ B3 ++ B4 ++ B5 ++ B6 ++ B7 ++ B8 ++ B9 ++ B10 ++ B11 ++ B12 ++ B13 ++ B14 ++ B15 ++ B16 ++ B17) := by
  have h := flat_perm 18 [B0, B1, B2, B3, B4, B5, B6, B7, B8, B9, B10, B11, B12, B13, B14, B15, B16, B17] [0, 1, 9, 14, 13, 15, 16, 2, 3, 4, 5, 6, 7, 8, 10, 11, 12, 17] rfl (by decide +kernel)
  simp only [List.map_cons, List.map_nil, List.getD_cons_zero, List.getD_cons_succ, List.flatten_cons, List.flatten_nil, List.append_nil, List.append_assoc] at h ⊢
  exact h.symm
theorem pm_0_1_11_12_15_16 {B0 B1 B2 B3 B4 B5 B6 B7 B8 B9 B10 B11 B12 B13 B14 B15 B16 B17 : va_W} : (B0 ++ B1 ++ B11 ++ B12 ++ B15 ++ B16 ++ (B2 ++ B3 ++ B4 ++ B5 ++ B6 ++ B7 ++ B8 ++ B9 ++ B10 ++ B13 ++ B14 ++ B17)).Perm (B0 ++ B1 ++ B2 ++ B3 ++ B4 ++ B5 ++ B6 ++ B7 ++ B8 ++ B9 ++ B10 ++ B11 ++ B12 ++ B13 ++ B14 ++ B15 ++ B16 ++ B17) := by
  have h := flat_perm 18 [B0, B1, B2, B3, B4, B5, B6, B7, B8, B9, B10, B11, B12, B13, B14, B15, B16, B17] [0, 1, 11, 12, 15, 16, 2, 3, 4, 5, 6, 7, 8, 9, 10, 13, 14, 17] rfl (by decide +kernel)
  simp only [List.map_cons, List.map_nil, List.getD_cons_zero, List.getD_cons_succ, List.flatten_cons, List.flatten_nil, List.append_nil, List.append_assoc] at h ⊢
  exact h.symm
theorem pm_0_1_12_11_15_16 {B0 B1 B2 B3 B4 B5 B6 B7 B8 B9 B10 B11 B12 B13 B14 B15 B16 B17 : va_W} : (B0 ++ B1 ++ B12 ++ B11 ++ B15 ++ B16 ++ (B2 ++ B3 ++ B4 ++ B5 ++ B6 ++ B7 ++ B8 ++ B9 ++ B10 ++ B13 ++ B14 ++ B17)).Perm (B0 ++ B1 ++ B2 ++ B3 ++ B4 ++ B5 ++ B6 ++ B7 ++ B8 ++ B9 ++ B10 ++ B11 ++ B12 ++ B13 ++ B14 ++ B15 ++ B16 ++ B17) := by
  have h := flat_perm 18 [B0, B1, B2, B3, B4, B5, B6, B7, B8, B9, B10, B11, B12, B13, B14, B15, B16, B17] [0, 1, 12, 11, 15, 16, 2, 3, 4, 5, 6, 7, 8, 9, 10, 13, 14, 17] rfl (by decide +kernel)
  simp only [List.map_cons, List.map_nil, List.getD_cons_zero, List.getD_cons_succ, List.flatten_cons, List.flatten_nil, List.append_nil, List.append_assoc] at h ⊢
  exact h.symm
theorem pm_0_1_15_16 {B0 B1 B2 B3 B4 B5 B6 B7 B8 B9 B10 B11 B12 B13 B14 B15 B16 B17 : va_W} : (B0 ++ B1 ++ B15 ++ B16 ++ (B2 ++ B3 ++ B4 ++ B5 ++ B6 ++ B7 ++ B8 ++ B9 ++ B10 ++ B11 ++ B12 ++ B13 ++ B14 ++ B17)).Perm (B0 ++ B1 ++ B2 ++ B3 ++ B4 ++ B5 ++ B6 ++ B7 ++ B8 ++ B9 ++ B10 ++ B11 ++ B12 ++ B13 ++ B14 ++ B15 ++ B16 ++ B17) := by
  have h := flat_perm 18 [B0, B1, B2, B3, B4, B5, B6, B7, B8, B9, B10, B11, B12, B13, B14, B15, B16, B17] [0, 1, 15, 16, 2, 3, 4, 5, 6, 7, 8, 9, 10, 11, 12, 13, 14, 17] rfl (by decide +kernel)
  simp only [List.map_cons, List.map_nil, List.getD_cons_zero, List.getD_cons_succ, List.flatten_cons, List.flatten_nil, List.append_nil, List.append_assoc] at h ⊢
  exact h.symm
theorem pm_0_2_3_5_9_11_15_16 {B0 B1 B2 B3 B4 B5 B6 B7 B8 B9 B10 B11 B12 B13 B14 B15 B16 B17 : va_W} : (B0 ++ B2 ++ B3 ++ B5 ++ B9 ++ B11 ++ B15 ++ B16 ++ (B1 ++ B4 ++ B6 ++ B7 ++ B8 ++ B10 ++ B12 ++ B13 ++ B14 ++ B17)).Perm (B0 ++ B1 ++ B2 ++ B3 ++ B4 ++ B5 ++ B6 ++ B7 ++ B8 ++ B9 ++ B10 ++ B11 ++ B12 ++ B13 ++ B14 ++ B15 ++ B16 ++ B17) := by
  have h := flat_perm 18 [B0, B1, B2, B3, B4, B5, B6, B7, B8, B9, B10, B11, B12, B13, B14, B15, B16, B17] [0, 2, 3, 5, 9, 11, 15, 16, 1, 4, 6, 7, 8, 10, 12, 13, 14, 17] rfl (by decide +kernel)
  simp only [List.map_cons, List.map_nil, List.getD_cons_zero, List.getD_cons_succ, List.flatten_cons, List.flatten_nil, List.append_nil, List.append_assoc] at h ⊢
  exact h.symm
theorem pm_0_2_3_9_11_15_16 {B0 B1 B2 B3 B4 B5 B6 B7 B8 B9 B10 B11 B12 B13 B14 B15 B16 B17 : va_W} : (B0 ++ B2 ++ B3 ++ B9 ++ B11 ++ B15 ++ B16 ++ (B1 ++ B4 ++ B5 ++ B6 ++ B7 ++ B8 ++ B10 ++ B12 ++ B13 ++ B14 ++ B17)).Perm (B0 ++ B1 ++ B2 ++ B3 ++ B4 ++ B5 ++ B6 ++ B7 ++ B8 ++ B9 ++ B10 ++ B11 ++ B12 ++ B13 ++ B14 ++ B15 ++ B16 ++ B17) := by
  have h := flat_perm 18 [B0, B1, B2, B3, B4, B5, B6, B7, B8, B9, B10, B11, B12, B13, B14, B15, B16, B17] [0, 2, 3, 9, 11, 15, 16, 1, 4, 5, 6, 7, 8, 10, 12, 13, 14, 17] rfl (by decide +kernel)
  simp only [List.map_cons, List.map_nil, List.getD_cons_zero, List.getD_cons_succ, List.flatten_cons, List.flatten_nil, List.append_nil, List.append_assoc] at h ⊢
  exact h.symm
theorem pm_0_2_3_9_15_16 {B0 B1 B2 B3 B4 B5 B6 B7 B8 B9 B10 B11 B12 B13 B14 B15 B16 B17 : va_W} : (B0 ++ B2 ++ B3 ++ B9 ++ B15 ++ B16 ++ (B1 ++ B4 ++ B5 ++ B6 ++ B7 ++ B8 ++ B10 ++ B11 ++ B12 ++ B13 ++ B14 ++ B17)).Perm (B0 ++ B1 ++ B2 ++ B3 ++ B4 ++ B5 ++ B6 ++ B7 ++ B8 ++ B9 ++ B10 ++ B11 ++ B12 ++ B13 ++ B14 ++ B15 ++ B16 ++ B17) := by
  have h := flat_perm 18 [B0, B1, B2, B3, B4, B5, B6, B7, B8, B9, B10, B11, B12, B13, B14, B15, B16, B17] [0, 2, 3, 9, 15, 16, 1, 4, 5, 6, 7, 8, 10, 11, 12, 13, 14, 17] rfl (by decide +kernel)
  simp only [List.map_cons, List.map_nil, List.getD_cons_zero, List.getD_cons_succ, List.flatten_cons, List.flatten_nil, List.append_nil, List.append_assoc] at h ⊢
  exact h.symm
theorem pm_0_2_6_9_15_16 {B0 B1 B2 B3 B4 B5 B6 B7 B8 B9 B10 B11 B12 B13 B14 B15 B16 B17 : va_W} : (B0 ++ B2 ++ B6 ++ B9 ++ B15 ++ B16 ++ (B1 ++ B3 ++ B4 ++ B5 ++ B7 ++ B8 ++ B10 ++ B11 ++ B12 ++ B13 ++ B14 ++ B17)).Perm (B0 ++ B1 ++ B2 ++ B3 ++ B4 ++ B5 ++ B6 ++ B7 ++ B8 ++ B9 ++ B10 ++ B11 ++ B12 ++ B13 ++ B14 ++ B15 ++ B16 ++ B17) := by
  have h := flat_perm 18 [B0, B1, B2, B3, B4, B5, B6, B7, B8, B9, B10, B11, B12, B13, B14, B15, B16, B17] [0, 2, 6, 9, 15, 16, 1, 3, 4, 5, 7, 8, 10, 11, 12, 13, 14, 17] rfl (by decide +kernel)
  simp only [List.map_cons, List.map_nil, List.getD_cons_zero, List.getD_cons_succ, List.flatten_cons, List.flatten_nil, List.append_nil, List.append_assoc] at h ⊢
  exact h.symm
theorem pm_0_2_8_9_13_15_16 {B0 B1 B2 B3 B4 B5 B6 B7 B8 B9 B10 B11 B12 B13 B14 B15 B16 B17 : va_W} : (B0 ++ B2 ++ B8 ++ B9 ++ B13 ++ B15 ++ B16 ++ (B1 ++ B3 ++ B4 ++ B5 ++ B6 ++ B7 ++ B10 ++ B11 ++ B12 ++ B14 ++ B17)).Perm (B0 ++ B1 ++ B2 ++ B3 ++ B4 ++ B5 ++ B6 ++ B7 ++ B8 ++ B9 ++ B10 ++ B11 ++ B12 ++ B13 ++ B14 ++ B15 ++ B16 ++ B17) := by
  have h := flat_perm 18 [B0, B1, B2, B3, B4, B5, B6, B7, B8, B9, B10, B11, B12, B13, B14, B15, B16, B17] [0, 2, 8, 9, 13, 15, 16, 1, 3, 4, 5, 6, 7, 10, 11, 12, 14, 17] rfl (by decide +kernel)
  simp only [List.map_cons, List.map_nil, List.getD_cons_zero, List.getD_cons_succ, List.flatten_cons, List.flatten_nil, List.append_nil, List.append_assoc] at h ⊢
  exact h.symm
theorem pm_0_2_8_9_15_16 {B0 B1 B2 B3 B4 B5 B6 B7 B8 B9 B10 B11 B12 B13 B14 B15 B16 B17 : va_W} : (B0 ++ B2 ++ B8 ++ B9 ++ B15 ++ B16 ++ (B1 ++ B3 ++ B4 ++ B5 ++ B6 ++ B7 ++ B10 ++ B11 ++ B12 ++ B13 ++ B14 ++ B17)).Perm (B0 ++ B1 ++ B2 ++ B3 ++ B4 ++ B5 ++ B6 ++ B7 ++ B8 ++ B9 ++ B10 ++ B11 ++ B12 ++ B13 ++ B14 ++ B15 ++ B16 ++ B17) := by
  have h := flat_perm 18 [B0, B1, B2, B3, B4, B5, B6, B7, B8, B9, B10, B11, B12, B13, B14, B15, B16, B17] [0, 2, 8, 9, 15, 16, 1, 3, 4, 5, 6, 7, 10, 11, 12, 13, 14, 17] rfl (by decide +kernel)
  simp only [List.map_cons, List.map_nil, List.getD_cons_zero, List.getD_cons_succ, List.flatten_cons, List.flatten_nil, List.append_nil, List.append_assoc] at h ⊢
  exact h.symm
theorem pm_0_2_9_11_15_16 {B0 B1 B2 B3 B4 B5 B6 B7 B8 B9 B10 B11 B12 B13 B14 B15 B16 B17 : va_W} : (B0 ++ B2 ++ B9 ++ B11 ++ B15 ++ B16 ++ (B1 ++ B3 ++ B4 ++ B5 ++ B6 ++ B7 ++ B8 ++ B10 ++ B12 ++ B13 ++ B14 ++ B17)).Perm (B0 ++ B1 ++ B2 ++ B3 ++ B4 ++ B5 ++ B6 ++ B7 ++ B8 ++ B9 ++ B10 ++ B11 ++ B12 ++ B13 ++ B14 ++ B15 ++ B16 ++ B17) := by
  have h := flat_perm 18 [B0, B1, B2, B3, B4, B5, B6, B7, B8, B9, B10, B11, B12, B13, B14, B15, B16, B17] [0, 2, 9, 11, 15, 16, 1, 3, 4, 5, 6, 7, 8, 10, 12, 13, 14, 17] rfl (by decide +kernel)
  simp only [List.map_cons, List.map_nil, List.getD_cons_zero, List.getD_cons_succ, List.flatten_cons, List.flatten_nil, List.append_nil, List.append_assoc] at h ⊢
  exact h.symm
theorem pm_0_2_9_13_15_16 {B0 B1 B2 B3 B4 B5 B6 B7 B8 B9 B10 B11 B12 B13 B14 B15 B16 B17 : va_W} : (B0 ++ B2 ++ B9 ++ B13 ++ B15 ++ B16 ++ (B1 ++ B3 ++ B4 ++ B5 ++ B6 ++ B7 ++ B8 ++ B10 ++ B11 ++ B12 ++ B14 ++ B17)).Perm (B0 ++ B1 ++ B2 ++ B3 ++ B4 ++ B5 ++ B6 ++ B7 ++ B8 ++ B9 ++ B10 ++ B11 ++ B12 ++ B13 ++ B14 ++ B15 ++ B16 ++ B17) := by
  have h := flat_perm 18 [B0, B1, B2, B3, B4, B5, B6, B7, B8, B9, B10, B11, B12, B13, B14, B15, B16, B17] [0, 2, 9, 13, 15, 16, 1, 3, 4, 5, 6, 7, 8, 10, 11, 12, 14, 17] rfl (by decide +kernel)
  simp only [List.map_cons, List.map_nil, List.getD_cons_zero, List.getD_cons_succ, List.flatten_cons, List.flatten_nil, List.append_nil, List.append_assoc] at h ⊢
  exact h.symm
theorem pm_0_2_9_15_16 {B0 B1 B2 B3 B4 B5 B6 B7 B8 B9 B10 B11 B12 B13 B14 B15 B16 B17 : va_W} : (B0 ++ B2 ++ B9 ++ B15 ++ B16 ++ (B1 ++ B3 ++ B4 ++ B5 ++ B6 ++ B7 ++ B8 ++ B10 ++ B11 ++ B12 ++ B13 ++ B14 ++ B17)).Perm (B0 ++ B1 ++ B2 ++ B3 ++ B4 ++ B5 ++ B6 ++ B7 ++ B8 ++ B9 ++ B10 ++ B11 ++ B12 ++ B13 ++ B14 ++ B15 ++ B16 ++ B17) := by
  have h := flat_perm 18 [B0, B1, B2, B3, B4, B5, B6, B7, B8, B9, B10, B11, B12, B13, B14, B15, B16, B17] [0, 2, 9, 15, 16, 1, 3, 4, 5, 6, 7, 8, 10, 11, 12, 13, 14, 17] rfl (by decide +kernel)
  simp only [List.map_cons, List.map_nil, List.getD_cons_zero, List.getD_cons_succ, List.flatten_cons, List.flatten_nil, List.append_nil, List.append_assoc] at h ⊢
  exact h.symm
theorem pm_0_2_15_16 {B0 B1 B2 B3 B4 B5 B6 B7 B8 B9 B10 B11 B12 B13 B14 B15 B16 B17 : va_W} : (B0 ++ B2 ++ B15 ++ B16 ++ (B1 ++ B3 ++ B4 ++ B5 ++ B6 ++ B7 ++ B8 ++ B9 ++ B10 ++ B11 ++ B12 ++ B13 ++ B14 ++ B17)).Perm (B0 ++ B1 ++ B2 ++ B3 ++ B4 ++ B5 ++ B6 ++ B7 ++ B8 ++ B9 ++ B10 ++ B11 ++ B12 ++ B13 ++ B14 ++ B15 ++ B16 ++ B17) := by
  have h := flat_perm 18 [B0, B1, B2, B3, B4, B5, B6, B7, B8, B9, B10, B11, B12, B13, B14, B15, B16, B17] [0, 2, 15, 16, 1, 3, 4, 5, 6, 7, 8, 9, 10, 11, 12, 13, 14, 17] rfl (by decide +kernel)
  simp only [List.map_cons, List.map_nil, List.getD_cons_zero, List.getD_cons_succ, List.flatten_cons, List.flatten_nil, List.append_nil, List.append_assoc] at h ⊢
  exact h.symm
theorem pm_0_9_15_16 {B0 B1 B2 B3 B4 B5 B6 B7 B8 B9 B10 B11 B12 B13 B14 B15 B16 B17 : va_W} : (B0 ++ B9 ++ B15 ++ B16 ++ (B1 ++ B2 ++ B3 ++ B4 ++ B5 ++ B6 ++ B7 ++ B8 ++ B10 ++ B11 ++ B12 ++ B13 ++ B14 ++ B17)).Perm (B0 ++ B1 ++ B2 ++ B3 ++ B4 ++ B5 ++ B6 ++ B7 ++ B8 ++ B9 ++ B10 ++ B11 ++ B12 ++ B13 ++ B14 ++ B15 ++ B16 ++ B17) := by
  have h := flat_perm 18 [B0, B1, B2, B3, B4, B5, B6, B7, B8, B9, B10, B11, B12, B13, B14, B15, B16, B17] [0, 9, 15, 16, 1, 2, 3, 4, 5, 6, 7, 8, 10, 11, 12, 13, 14, 17] rfl (by decide +kernel)
  simp only [List.map_cons, List.map_nil, List.getD_cons_zero, List.getD_cons_succ, List.flatten_cons, List.flatten_nil, List.append_nil, List.append_assoc] at h ⊢
  exact h.symm
theorem pm_0_11_15_16 {B0 B1 B2 B3 B4 B5 B6 B7 B8 B9 B10 B11 B12 B13 B14 B15 B16 B17 : va_W} : (B0 ++ B11 ++ B15 ++ B16 ++ (B1 ++ B2 ++ B3 ++ B4 ++ B5 ++ B6 ++ B7 ++ B8 ++ B9 ++ B10 ++ B12 ++ B13 ++ B14 ++ B17)).Perm (B0 ++ B1 ++ B2 ++ B3 ++ B4 ++ B5 ++ B6 ++ B7 ++ B8 ++ B9 ++ B10 ++ B11 ++ B12 ++ B13 ++ B14 ++ B15 ++ B16 ++ B17) := by
  have h := flat_perm 18 [B0, B1, B2, B3, B4, B5, B6, B7, B8, B9, B10, B11, B12, B13, B14, B15, B16, B17] [0, 11, 15, 16, 1, 2, 3, 4, 5, 6, 7, 8, 9, 10, 12, 13, 14, 17] rfl (by decide +kernel)
  simp only [List.map_cons, List.map_nil, List.getD_cons_zero, List.getD_cons_succ, List.flatten_cons, List.flatten_nil, List.append_nil, List.append_assoc] at h ⊢
  exact h.symm
theorem pm_0_15_16 {B0 B1 B2 B3 B4 B5 B6 B7 B8 B9 B10 B11 B12 B13 B14 B15 B16 B17 : va_W} : (B0 ++ B15 ++ B16 ++ (B1 ++ B2 ++ B3 ++ B4 ++ B5 ++ B6 ++ B7 ++ B8 ++ B9 ++ B10 ++ B11 ++ B12 ++ B13 ++ B14 ++ B17)).Perm (B0 ++ B1 ++ B2 ++ B3 ++ B4 ++ B5 ++ B6 ++ B7 ++ B8 ++ B9 ++ B10 ++ B11 ++ B12 ++ B13 ++ B14 ++ B15 ++ B16 ++ B17) := by
  have h := flat_perm 18 [B0, B1, B2, B3, B4, B5, B6, B7, B8, B9, B10, B11, B12, B13, B14, B15, B16, B17] [0, 15, 16, 1, 2, 3, 4, 5, 6, 7, 8, 9, 10, 11, 12, 13, 14, 17] rfl (by decide +kernel)
  simp only [List.map_cons, List.map_nil, List.getD_cons_zero, List.getD_cons_succ, List.flatten_cons, List.flatten_nil, List.append_nil, List.append_assoc] at h ⊢
  exact h.symm

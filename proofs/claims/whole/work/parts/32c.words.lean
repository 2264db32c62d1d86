/-! ===== words ===== -/
def chs (ti : Nat) : List Nat := (stB.getD ti []).map (fun c => (c &&& 255).toNatClampNeg - 96)
def cod (L : List Nat) : Nat := L.foldl (fun v x => 32 * v + x) 0
def wcode (L : List Nat) : Int32 := if L.length ≤ 6 then nI (cod L) else 0
def okW (L : List Nat) : Prop := ∀ x ∈ L, 1 ≤ x ∧ x ≤ 26
theorem chs_ok : ∀ ti, ti < 35 → 1 ≤ (chs ti).length ∧ (chs ti).length ≤ 6 ∧ (chs ti).length = stL ti ∧ (∀ x ∈ chs ti, 1 ≤ x ∧ x ≤ 26) ∧ ∀ j, j < stL ti → stC ti j &&& 255 = nI ((chs ti).getD j 0 + 96) := by decide +kernel
theorem wRun_ok (tx : Nat → Nat) : ∀ d r, okW (wRun tx d r) := by
  intro d
  induction d with
  | zero => intro r x hx; cases hx
  | succ d ih =>
    intro r
    unfold wRun
    by_cases h : isSm (tx r) = true
    · have h1 := isSm_iff.mp h
      rw [if_pos h]
      intro x hx
      rcases List.mem_cons.mp hx with rfl | h2
      · omega
      · exact ih (r + 1) x h2
    · rw [if_neg h]; intro x hx; cases hx
theorem wrd_ok (tx : Nat → Nat) (N r : Nat) : okW (wrd tx N r) := wRun_ok tx _ _
theorem wRun_len (tx : Nat → Nat) : ∀ d r, (wRun tx d r).length ≤ d := by
  intro d
  induction d with
  | zero => intro r; exact Nat.le_refl _
  | succ d ih =>
    intro r
    unfold wRun
    by_cases h : isSm (tx r) = true
    · rw [if_pos h]; exact Nat.succ_le_succ (ih (r + 1))
    · rw [if_neg h]; exact Nat.zero_le _
theorem wrd_le {tx : Nat → Nat} {N r : Nat} (h : r ≤ N) : r + (wrd tx N r).length ≤ N := by have := wRun_len tx (N - r) r; unfold wrd; omega
theorem fold_lo (L : List Nat) : ∀ v, v * 32 ^ L.length ≤ L.foldl (fun v x => 32 * v + x) v := by
  induction L with
  | nil => intro v; show v * 1 ≤ v; omega
  | cons x L ih =>
    intro v
    refine Nat.le_trans ?_ (ih (32 * v + x))
    rw [List.length_cons, Nat.pow_succ, Nat.mul_comm (32 ^ L.length) 32, ← Nat.mul_assoc]
    exact Nat.mul_le_mul (by omega) (Nat.le_refl _)
theorem fold_hi (L : List Nat) : okW L → ∀ v, L.foldl (fun v x => 32 * v + x) v < (v + 1) * 32 ^ L.length := by
  induction L with
  | nil => intro _ v; show v < (v + 1) * 1; omega
  | cons x L ih =>
    intro hw v
    have hx := hw x (List.mem_cons_self ..)
    refine Nat.lt_of_lt_of_le (ih (fun y hy => hw y (List.mem_cons_of_mem _ hy)) (32 * v + x)) ?_
    rw [List.length_cons, Nat.pow_succ, Nat.mul_comm (32 ^ L.length) 32, ← Nat.mul_assoc]
    exact Nat.mul_le_mul (by omega) (Nat.le_refl _)
theorem fold_inj : ∀ (L1 L2 : List Nat), okW L1 → okW L2 → L1.length = L2.length → ∀ v1 v2, L1.foldl (fun v x => 32 * v + x) v1 = L2.foldl (fun v x => 32 * v + x) v2 → v1 = v2 ∧ L1 = L2 := by
  intro L1
  induction L1 with
  | nil =>
    intro L2 _ _ hl v1 v2 h
    cases L2 with
    | nil => exact ⟨h, rfl⟩
    | cons y L2 => cases hl
  | cons x L1 ih =>
    intro L2 h1 h2 hl v1 v2 h
    cases L2 with
    | nil => cases hl
    | cons y L2 =>
      have hx := h1 x (List.mem_cons_self ..)
      have hy := h2 y (List.mem_cons_self ..)
      obtain ⟨e, rfl⟩ := ih L2 (fun z hz => h1 z (List.mem_cons_of_mem _ hz)) (fun z hz => h2 z (List.mem_cons_of_mem _ hz)) (Nat.succ.inj hl) _ _ h
      have e : 32 * v1 + x = 32 * v2 + y := e
      have e1 : x = y := by omega
      exact ⟨by omega, by rw [e1]⟩
theorem cod_lt {L : List Nat} (h : okW L) (hl : L.length ≤ 6) : cod L < 2147483648 := by
  have h1 := fold_hi L h 0
  have h2 : 32 ^ L.length ≤ 32 ^ 6 := Nat.pow_le_pow_right (by decide) hl
  have h3 : 32 ^ 6 = 1073741824 := by decide
  unfold cod
  omega
theorem cod_lo {L : List Nat} (h : okW L) (h0 : 1 ≤ L.length) : 32 ^ (L.length - 1) ≤ cod L := by
  cases L with
  | nil => exact absurd h0 (by decide)
  | cons x L =>
    have hx := h x (List.mem_cons_self ..)
    have h1 := fold_lo L x
    refine Nat.le_trans ?_ (show x * 32 ^ L.length ≤ cod (x :: L) from ?_)
    · rw [List.length_cons, Nat.add_sub_cancel]
      exact Nat.le_trans (Nat.le_of_eq (Nat.one_mul _).symm) (Nat.mul_le_mul hx.1 (Nat.le_refl _))
    · unfold cod
      rw [List.foldl_cons]
      have e : 32 * 0 + x = x := by omega
      rw [e]
      exact h1
theorem cod_hi {L : List Nat} (h : okW L) : cod L < 32 ^ L.length := by
  have h1 := fold_hi L h 0
  unfold cod
  omega
theorem cod_inj {L1 L2 : List Nat} (h1 : okW L1) (h2 : okW L2) (l1 : 1 ≤ L1.length) (l2 : 1 ≤ L2.length) (h : cod L1 = cod L2) : L1 = L2 := by
  have hl : L1.length = L2.length := by
    rcases Nat.lt_trichotomy L1.length L2.length with h9 | h9 | h9
    · have a := cod_hi h1
      have b := cod_lo h2 l2
      have c : 32 ^ L1.length ≤ 32 ^ (L2.length - 1) := Nat.pow_le_pow_right (by decide) (by omega)
      omega
    · exact h9
    · have a := cod_hi h2
      have b := cod_lo h1 l1
      have c : 32 ^ L2.length ≤ 32 ^ (L1.length - 1) := Nat.pow_le_pow_right (by decide) (by omega)
      omega
  exact (fold_inj L1 L2 h1 h2 hl 0 0 h).2
theorem w_eq {L : List Nat} (h : okW L) {ti : Nat} (ht : ti < 35) : (wcode L = nI (cod (chs ti))) ↔ L = chs ti := by
  obtain ⟨c1, c2, c3, c4, c5⟩ := chs_ok ti ht
  have c6 := cod_lt c4 c2
  have c7 := cod_lo c4 c1
  have c8 : 0 < 32 ^ ((chs ti).length - 1) := Nat.pow_pos (by decide)
  unfold wcode
  by_cases hl : L.length ≤ 6
  · rw [if_pos hl, nI_eq (cod_lt h hl) c6]
    refine ⟨fun h9 => ?_, fun h9 => by rw [h9]⟩
    cases L with
    | nil =>
      have : cod [] = 0 := rfl
      omega
    | cons x L => exact cod_inj h c4 (Nat.succ_le_succ (Nat.zero_le _)) c1 h9
  · rw [if_neg hl]
    refine ⟨fun h9 => ?_, fun h9 => absurd c2 (by rw [← h9]; exact hl)⟩
    have h9 : nI 0 = nI (cod (chs ti)) := h9
    rw [nI_eq (by decide) c6] at h9
    omega
/-- does the word stand there, by itself -/
def pre (tx : Nat → Nat) (N : Nat) : List Nat → Nat → Bool
  | [], r => !(decide (r < N) && isSm (tx r))
  | x :: L, r => decide (r < N) && decide (tx r = x + 96) && pre tx N L (r + 1)
theorem pre_iff (tx : Nat → Nat) (N : Nat) : ∀ (L : List Nat), okW L → ∀ r, pre tx N L r = true ↔ wrd tx N r = L := by
  intro L
  induction L with
  | nil =>
    intro _ r
    unfold pre wrd
    by_cases hr : r < N
    · obtain ⟨d, hd⟩ : ∃ d, N - r = d + 1 := ⟨N - r - 1, by omega⟩
      rw [hd]
      unfold wRun
      by_cases hs : isSm (tx r) = true
      · rw [if_pos hs, decide_eq_true hr, hs]
        exact ⟨fun h => (by cases h), fun h => (by cases h)⟩
      · rw [if_neg hs, decide_eq_true hr, Bool.eq_false_iff.mpr hs]
        exact ⟨fun _ => rfl, fun _ => rfl⟩
    · rw [show N - r = 0 by omega, decide_eq_false hr]
      exact ⟨fun _ => rfl, fun _ => rfl⟩
  | cons x L ih =>
    intro hw r
    have hx := hw x (List.mem_cons_self ..)
    have hw2 : okW L := fun y hy => hw y (List.mem_cons_of_mem _ hy)
    unfold pre
    rw [Bool.and_eq_true, Bool.and_eq_true, decide_eq_true_iff, decide_eq_true_iff, ih hw2 (r + 1)]
    unfold wrd
    by_cases hr : r < N
    · obtain ⟨d, hd⟩ : ∃ d, N - r = d + 1 := ⟨N - r - 1, by omega⟩
      rw [hd, show N - (r + 1) = d by omega]
      have e : wRun tx (d + 1) r = if isSm (tx r) then (tx r - 96) :: wRun tx d (r + 1) else [] := rfl
      rw [e]
      by_cases hs : isSm (tx r) = true
      · have hs2 := isSm_iff.mp hs
        rw [if_pos hs, List.cons.injEq]
        exact ⟨fun h => ⟨by omega, h.2⟩, fun h => ⟨⟨hr, by omega⟩, h.2⟩⟩
      · rw [if_neg hs]
        refine ⟨fun h => absurd (isSm_iff.mpr ⟨by omega, by omega⟩) hs, fun h => (by cases h)⟩
    · rw [show N - r = 0 by omega]
      exact ⟨fun h => absurd h.1.1 hr, fun h => (by cases h)⟩
theorem sh5 {v x : Nat} (hv : v < 33554432) (hx : x < 32) : (nI v <<< ((5 : Int32) &&& 31)) ||| nI x = nI (32 * v + x) := by
  apply b_ext
  intro i hi
  have hb : ∀ (n j : Nat), n < 4294967296 → bt (nI n) j = n.testBit j := fun n j hn => by
    unfold bt
    show (BitVec.ofNat 32 n).getLsbD j = _
    rw [BitVec.getLsbD_ofNat]
    by_cases hj : j < 32
    · rw [decide_eq_true hj, Bool.true_and]
    · rw [decide_eq_false hj, Bool.false_and]
      exact (Nat.testBit_lt_two_pow (Nat.lt_of_lt_of_le hn (Nat.pow_le_pow_right (n := 2) (i := 32) (by decide) (by omega)))).symm
  have hm := Nat.testBit_two_pow_mul_add (i := 5) v (b := x) (by omega) i
  rw [b_or, show (5 : Int32) = nI 5 from rfl, b_shl 5 (by omega) _ hi, hb v _ (by omega), hb x _ (by omega), hb (32 * v + x) _ (by omega), show 32 * v + x = 2 ^ 5 * v + x from rfl, hm]
  by_cases h5 : i < 5
  · rw [if_pos h5, decide_eq_false (by omega), Bool.false_and, Bool.false_or]
  · rw [if_neg h5, decide_eq_true (by omega), Bool.true_and, Nat.testBit_lt_two_pow (Nat.lt_of_lt_of_le hx (Nat.pow_le_pow_right (n := 2) (i := 5) (by decide) (by omega))), Bool.or_false]
section TY
variable {tx : Nat → Nat} {N : Nat} {tb mt : Nat → Int32}
theorem c_takes12 (h : RTx tx N tb mt) {ti r : Nat} (ht : ti < 35) (hr : r ≤ N) {st : Int32} : ∀ (d j m : Nat), j + d = stL ti → d < m → f_X7_takes__12 tb (nI N) 0 ti m (nI (stL ti)) (nI j) (nI r) st = some (if pre tx N ((chs ti).drop j) (r + j) then (1, nI (r + stL ti), st) else (0, nI r, st)) := by
  have h6 := h.1
  obtain ⟨c1, c2, c3, c4, c5⟩ := chs_ok ti ht
  intro d
  induction d with
  | zero =>
    intro j m hj hm
    obtain ⟨m, rfl⟩ : ∃ j, m = j + 1 := ⟨m - 1, by omega⟩
    obtain rfl : j = stL ti := by omega
    rw [f_X7_takes__12, if_pos (Int32.le_refl _), if_pos rfl, nI_add, c_byteAt h (by omega), b1_s, c_small h (Or.inl rfl), b1_s, ite_b, List.drop_of_length_le (by omega)]
    unfold pre
    by_cases hs : r + stL ti < N ∧ isSm (tx (r + stL ti)) = true
    · rw [if_pos hs, decide_eq_true hs.1, hs.2, if_neg (by decide)]
    · rw [if_neg hs]
      by_cases h1 : r + stL ti < N
      · rw [decide_eq_true h1, Bool.eq_false_iff.mpr (fun h9 => hs ⟨h1, h9⟩), if_pos (by decide)]
      · rw [decide_eq_false h1, if_pos (by rfl)]
  | succ d ih =>
    intro j m hj hm
    obtain ⟨m, rfl⟩ : ∃ j, m = j + 1 := ⟨m - 1, by omega⟩
    have hjl : j < (chs ti).length := by omega
    have hg : (chs ti).getD j 0 = (chs ti)[j] := by rw [List.getD_eq_getElem?_getD, List.getElem?_eq_getElem hjl]; rfl
    have hx := c4 _ (List.getElem_mem hjl)
    rw [f_X7_takes__12, ite_le (by omega) (by omega), if_neg (by omega), nI_add, c_byteAt h (by omega), b1_s, ixb_nI (by omega) (by omega), if_pos rfl, nI_cl (by omega), c5 j (by omega), hg, List.drop_eq_getElem_cons hjl, nI_1]
    have e : pre tx N ((chs ti)[j] :: (chs ti).drop (j + 1)) (r + j) = (decide (r + j < N) && decide (tx (r + j) = (chs ti)[j] + 96) && pre tx N ((chs ti).drop (j + 1)) (r + j + 1)) := rfl
    rw [e]
    unfold vC
    by_cases h1 : r + j < N
    · have hb := (h.2 _ h1).1
      rw [if_pos h1, ite_eq (by omega) (by omega), decide_eq_true h1, Bool.true_and]
      by_cases h2 : tx (r + j) = (chs ti)[j] + 96
      · rw [if_pos h2, decide_eq_true h2, Bool.true_and, ih (j + 1) m (by omega) (by omega)]
        rfl
      · rw [if_neg h2, decide_eq_false h2, Bool.false_and, if_neg (by decide)]
    · rw [if_neg h1, if_neg (fun h9 => by rw [nI_neM' (by omega)] at h9; exact h9), decide_eq_false h1, Bool.false_and, Bool.false_and, if_neg (by decide)]
theorem c_takesW (h : RTx tx N tb mt) {ti p : Nat} (ht : ti < 35) (hp : p ≤ N) {st : Int32} : f_X7_takes_ tb (nI N) (nI p) st 0 ti = some (if wrd tx N (sk tx N p) = chs ti then (1, nI (sk tx N p + (chs ti).length), nI (sk tx N p)) else (0, nI (sk tx N p), nI (sk tx N p))) := by
  obtain ⟨c1, c2, c3, c4, c5⟩ := chs_ok ti ht
  unfold f_X7_takes_
  rw [c_peek h hp, b3_s, show (0 : Int32) = nI 0 from rfl]
  refine (c_takes12 h ht (sk_le hp) (stL ti) 0 FU (by omega) (FU_gt (by omega))).trans ?_
  rw [List.drop_zero, Nat.add_zero, c3]
  by_cases hw : wrd tx N (sk tx N p) = chs ti
  · rw [if_pos hw, if_pos ((pre_iff tx N (chs ti) c4 _).mpr hw)]
  · rw [if_neg hw, if_neg (fun h9 => hw ((pre_iff tx N (chs ti) c4 _).mp h9))]
    rfl
theorem c_takesF {te at_ st k : Int32} {ti : Nat} (ht : ti < 35) (hk : k ≠ 0) : f_X7_takes_ tb te at_ st k ti = some (0, at_, st) := by
  obtain ⟨c1, c2, c3, c4, c5⟩ := chs_ok ti ht
  unfold f_X7_takes_
  rw [c_peekF hk, b3_s]
  have hl : ∀ (d j m : Nat), j + d = stL ti → d < m → f_X7_takes__12 tb te k ti m (nI (stL ti)) (nI j) at_ st = some (0, at_, st) := by
    intro d
    induction d with
    | zero =>
      intro j m hj hm
      obtain ⟨m, rfl⟩ : ∃ j, m = j + 1 := ⟨m - 1, by omega⟩
      obtain rfl : j = stL ti := by omega
      rw [f_X7_takes__12, if_pos (Int32.le_refl _), if_neg hk]
    | succ d ih =>
      intro j m hj hm
      obtain ⟨m, rfl⟩ : ∃ j, m = j + 1 := ⟨m - 1, by omega⟩
      obtain ⟨v, hv⟩ := c_byteAll (tb := tb) te (at_ + nI j)
      rw [f_X7_takes__12, ite_le (by omega) (by omega), if_neg (by omega), hv, b1_s, ixb_nI (by omega) (by omega), if_pos rfl, nI_1, ih (j + 1) m (by omega) (by omega)]
      by_cases h9 : v = (stC ti (nI j).toNatClampNeg &&& 255)
      · rw [if_pos h9]
      · rw [if_neg h9]
  exact hl (stL ti) 0 FU (by omega) (FU_gt (by omega))
theorem c_takesC (h : RTx tx N tb mt) {c p : Nat} (hc : c < 256) (hp : p ≤ N) {st : Int32} : f_X7_takes tb (nI N) (nI p) st 0 (nI c) = some (if sk tx N p < N ∧ tx (sk tx N p) = c then (1, nI (sk tx N p + 1), nI (sk tx N p)) else (0, nI (sk tx N p), nI (sk tx N p))) := by
  unfold f_X7_takes
  rw [c_peek h hp, b3_s, nI_1]
  unfold vC
  by_cases hr : sk tx N p < N
  · have hb := (h.2 _ hr).1
    rw [if_pos hr, ite_eq (by omega) (by omega)]
    by_cases h2 : tx (sk tx N p) = c
    · rw [if_pos h2, if_pos ⟨hr, h2⟩]
    · rw [if_neg h2, if_neg (fun h9 => h2 h9.2)]
  · rw [if_neg hr, if_neg (fun h9 => by rw [nI_neM' (by omega)] at h9; exact h9), if_neg (fun h9 => hr h9.1)]
theorem c_takesCF {te at_ st k n : Int32} (hk : k ≠ 0) (hn : n ≠ -1) : f_X7_takes tb te at_ st k n = some (0, at_, st) := by
  unfold f_X7_takes
  rw [c_peekF hk, b3_s, if_neg (fun h => hn h.symm)]
theorem m_word14 (h : RTx tx N tb mt) {at_ : Int32} : ∀ (d k n v m : Nat) (X : Int32), k + d = N → d < m → n ≤ k → (n ≤ 6 → X = nI v ∧ v < 32 ^ n) → f_X10_wordHere_14 (nI N) mt m X (nI n) (nI k) at_ = some (if n + (wRun tx d k).length ≤ 6 then nI ((wRun tx d k).foldl (fun v x => 32 * v + x) v) else 0, at_) := by
  have h6 := h.1
  have h67 : ∀ (n v : Nat) (X : Int32), n < 1000000 → (n ≤ 6 → X = nI v ∧ v < 32 ^ n) → f_X10_wordHere_67 (nI N) mt X (nI n) at_ = some (if n + 0 ≤ 6 then nI v else 0, at_) := by
    intro n v X hn hX
    unfold f_X10_wordHere_67
    rw [show (6 : Int32) = nI 6 from rfl, ite_le (by omega) (by omega)]
    by_cases h1 : n ≤ 6
    · rw [if_pos h1, if_pos (by omega), (hX h1).1]
    · rw [if_neg h1, if_neg (by omega)]
  intro d
  induction d with
  | zero =>
    intro k n v m X hk hm hn hX
    obtain ⟨m, rfl⟩ : ∃ j, m = j + 1 := ⟨m - 1, by omega⟩
    obtain rfl : k = N := by omega
    rw [f_X10_wordHere_14, if_pos (Int32.le_refl _), h67 n v X (by omega) hX]
    rfl
  | succ d ih =>
    intro k n v m X hk hm hn hX
    obtain ⟨m, rfl⟩ : ∃ j, m = j + 1 := ⟨m - 1, by omega⟩
    have hb := h.2 k (by omega)
    have hv : mt k = vM tx N k := by unfold vM; rw [if_pos (by omega)]; exact hb.2.2.2
    rw [f_X10_wordHere_14, ite_le (by omega) (by omega), if_neg (by omega), ixb_nI (by omega) (by omega), if_pos rfl, nI_cl (by omega), m_small h (Or.inr hv), b1_s, ite_b]
    unfold wRun
    by_cases hs : isSm (tx k) = true
    · have hs2 := isSm_iff.mp hs
      rw [if_pos (show k < N ∧ isSm (tx k) = true from ⟨by omega, hs⟩), if_pos hs, show (6 : Int32) = nI 6 from rfl, ite_le (by omega) (by omega), if_pos rfl, nI_1, nI_1, List.length_cons, List.foldl_cons]
      by_cases h1 : 6 ≤ n
      · rw [if_pos h1, ih (k + 1) (n + 1) 0 m 0 (by omega) (by omega) (by omega) (fun h9 => absurd h9 (by omega)), if_neg (by omega), if_neg (by omega)]
      · obtain ⟨rfl, hlt⟩ := hX (by omega)
        have hp : 32 ^ n ≤ 32 ^ 5 := Nat.pow_le_pow_right (by decide) (by omega)
        have hp2 : 32 ^ 5 = 33554432 := by decide
        rw [if_neg h1, hb.2.2.2, show nI (tx k) - 96 = nI (tx k - 96) from nI_sub (a := tx k) (b := 96) (by omega), sh5 (by omega) (by omega), ih (k + 1) (n + 1) (32 * v + (tx k - 96)) m _ (by omega) (by omega) (by omega) (fun _ => ⟨rfl, by rw [Nat.pow_succ]; omega⟩), show n + 1 + (wRun tx d (k + 1)).length = n + ((wRun tx d (k + 1)).length + 1) by omega]
    · rw [if_neg (show ¬ (k < N ∧ isSm (tx k) = true) from fun h9 => hs h9.2), if_neg hs, h67 n v X (by omega) hX]
      rfl
theorem m_wordHere (h : RTx tx N tb mt) {p : Nat} (hp : p ≤ N) : f_X10_wordHere (nI N) (nI p) mt = some (wcode (wrd tx N (sk tx N p)), nI (sk tx N p)) := by
  have h6 := h.1
  have hs := sk_le (tx := tx) hp
  unfold f_X10_wordHere
  rw [m_here h hp, b2_s]
  refine (m_word14 h (N - sk tx N p) (sk tx N p) 0 0 FU 0 (by omega) (FU_gt (by omega)) (by omega) (fun _ => ⟨rfl, by decide⟩)).trans ?_
  unfold wcode cod wrd
  rw [Nat.zero_add]
theorem m_of {ti : Nat} (ht : ti < 35) : f_X10_of ti = some (nI (cod (chs ti))) := by
  obtain ⟨c1, c2, c3, c4, c5⟩ := chs_ok ti ht
  have hl : ∀ (d j v m : Nat), j + d = stL ti → d < m → v < 32 ^ j → f_X10_of_4 ti m (nI v) (nI j) = some (nI (((chs ti).drop j).foldl (fun v x => 32 * v + x) v)) := by
    intro d
    induction d with
    | zero =>
      intro j v m hj hm hv
      obtain ⟨m, rfl⟩ : ∃ j, m = j + 1 := ⟨m - 1, by omega⟩
      obtain rfl : j = stL ti := by omega
      rw [f_X10_of_4, if_pos (Int32.le_refl _), List.drop_of_length_le (by omega)]
      rfl
    | succ d ih =>
      intro j v m hj hm hv
      obtain ⟨m, rfl⟩ : ∃ j, m = j + 1 := ⟨m - 1, by omega⟩
      have hjl : j < (chs ti).length := by omega
      have hg : (chs ti).getD j 0 = (chs ti)[j] := by rw [List.getD_eq_getElem?_getD, List.getElem?_eq_getElem hjl]; rfl
      have hx := c4 _ (List.getElem_mem hjl)
      have hp : 32 ^ j ≤ 32 ^ 5 := Nat.pow_le_pow_right (by decide) (by omega)
      have hp2 : 32 ^ 5 = 33554432 := by decide
      rw [f_X10_of_4, ite_le (by omega) (by omega), if_neg (by omega), ixb_nI (by omega) (by omega), if_pos rfl, nI_cl (by omega), c5 j (by omega), hg, show nI ((chs ti)[j] + 96) - 96 = nI ((chs ti)[j] + 96 - 96) from nI_sub (a := (chs ti)[j] + 96) (b := 96) (by omega), Nat.add_sub_cancel, sh5 (by omega) (by omega), nI_1, ih (j + 1) _ m (by omega) (by omega) (by rw [Nat.pow_succ]; omega), List.drop_eq_getElem_cons hjl, List.foldl_cons]
  unfold f_X10_of
  exact hl (stL ti) 0 0 FU (by omega) (FU_gt (by omega)) (by decide)
theorem m_pass0 (h : RTx tx N tb mt) : ∀ (d r m : Nat), r + d = N → d < m → f_X10_pass_0 (nI N) mt m (nI r) = some (nI (r + (wRun tx d r).length)) := by
  have h6 := h.1
  intro d
  induction d with
  | zero =>
    intro r m hr hm
    obtain ⟨m, rfl⟩ : ∃ j, m = j + 1 := ⟨m - 1, by omega⟩
    obtain rfl : r = N := by omega
    rw [f_X10_pass_0, if_pos (Int32.le_refl _)]
    rfl
  | succ d ih =>
    intro r m hr hm
    obtain ⟨m, rfl⟩ : ∃ j, m = j + 1 := ⟨m - 1, by omega⟩
    have hb := h.2 r (by omega)
    have hv : mt r = vM tx N r := by unfold vM; rw [if_pos (by omega)]; exact hb.2.2.2
    rw [f_X10_pass_0, ite_le (by omega) (by omega), if_neg (by omega), ixb_nI (by omega) (by omega), if_pos rfl, nI_cl (by omega), m_small h (Or.inr hv), b1_s, ite_b]
    unfold wRun
    by_cases hs : isSm (tx r) = true
    · rw [if_pos (show r < N ∧ isSm (tx r) = true from ⟨by omega, hs⟩), if_pos hs, nI_1, ih (r + 1) m (by omega) (by omega), List.length_cons, show r + 1 + (wRun tx d (r + 1)).length = r + ((wRun tx d (r + 1)).length + 1) by omega]
    · rw [if_neg (show ¬ (r < N ∧ isSm (tx r) = true) from fun h9 => hs h9.2), if_neg hs]
      rfl
theorem m_pass (h : RTx tx N tb mt) {r : Nat} (hr : r ≤ N) : f_X10_pass (nI N) (nI r) mt = some (nI (r + (wrd tx N r).length)) := by
  have h6 := h.1
  unfold f_X10_pass
  exact m_pass0 h (N - r) r FU (by omega) (FU_gt (by omega))
end TY

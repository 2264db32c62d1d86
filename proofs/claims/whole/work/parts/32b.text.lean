/-! ===== texts: bytes, blanks, words, numbers ===== -/
def RTx (tx : Nat → Nat) (N : Nat) (tb mt : Nat → Int32) : Prop := N ≤ 600 ∧ ∀ i, i < N → tx i < 256 ∧ tb i &&& 255 = nI (tx i) ∧ (tb i = 32 ↔ tx i = 32) ∧ mt i = nI (tx i)
def skR (tx : Nat → Nat) : Nat → Nat → Nat
  | 0, r => r
  | d + 1, r => if tx r = 32 then skR tx d (r + 1) else r
/-- where the blanks end -/
def sk (tx : Nat → Nat) (N p : Nat) : Nat := skR tx (N - p) p
theorem skR_ge (tx : Nat → Nat) : ∀ d r, r ≤ skR tx d r ∧ skR tx d r ≤ r + d := by
  intro d
  induction d with
  | zero => intro r; exact ⟨Nat.le_refl _, Nat.le_refl _⟩
  | succ d ih =>
    intro r
    unfold skR
    by_cases h : tx r = 32
    · rw [if_pos h]; have := ih (r + 1); omega
    · rw [if_neg h]; omega
theorem skR_ne (tx : Nat → Nat) : ∀ d r, skR tx d r < r + d → tx (skR tx d r) ≠ 32 := by
  intro d
  induction d with
  | zero => intro r h; exact absurd h (Nat.lt_irrefl _)
  | succ d ih =>
    intro r h
    unfold skR at h ⊢
    by_cases h1 : tx r = 32
    · rw [if_pos h1] at h ⊢; exact ih (r + 1) (by omega)
    · rw [if_neg h1]; exact h1
theorem sk_ge {tx : Nat → Nat} {N p : Nat} : p ≤ sk tx N p := (skR_ge tx _ _).1
theorem sk_le {tx : Nat → Nat} {N p : Nat} (h : p ≤ N) : sk tx N p ≤ N := by have := (skR_ge tx (N - p) p).2; unfold sk; omega
theorem sk_ne {tx : Nat → Nat} {N p : Nat} (h : sk tx N p < N) : tx (sk tx N p) ≠ 32 := skR_ne tx _ _ (by have := (skR_ge tx (N - p) p).1; unfold sk at h; omega)
theorem sk_id {tx : Nat → Nat} {N r : Nat} (h : r < N → tx r ≠ 32) : sk tx N r = r := by
  unfold sk
  cases e : N - r with
  | zero => rfl
  | succ d => unfold skR; rw [if_neg (h (by omega))]
theorem sk_sk {tx : Nat → Nat} {N p : Nat} : sk tx N (sk tx N p) = sk tx N p := sk_id (fun h => sk_ne h)
def vC (tx : Nat → Nat) (N r : Nat) : Int32 := if r < N then nI (tx r) else -1
def vM (tx : Nat → Nat) (N r : Nat) : Int32 := if r < N then nI (tx r) else 0
def isSm (b : Nat) : Bool := decide (97 ≤ b) && decide (b ≤ 122)
def isDg (b : Nat) : Bool := decide (48 ≤ b) && decide (b ≤ 57)
def wRun (tx : Nat → Nat) : Nat → Nat → List Nat
  | 0, _ => []
  | d + 1, r => if isSm (tx r) then (tx r - 96) :: wRun tx d (r + 1) else []
def wrd (tx : Nat → Nat) (N r : Nat) : List Nat := wRun tx (N - r) r
def dRun (tx : Nat → Nat) : Nat → Nat → Nat → Nat × Nat
  | 0, r, v => (v, r)
  | d + 1, r, v => if isDg (tx r) then dRun tx d (r + 1) (10 * v + (tx r - 48)) else (v, r)
def num (tx : Nat → Nat) (N r : Nat) : Nat × Nat := dRun tx (N - r) r 0
theorem isSm_iff {b : Nat} : isSm b = true ↔ 97 ≤ b ∧ b ≤ 122 := by unfold isSm; rw [Bool.and_eq_true, decide_eq_true_iff, decide_eq_true_iff]
theorem isDg_iff {b : Nat} : isDg b = true ↔ 48 ≤ b ∧ b ≤ 57 := by unfold isDg; rw [Bool.and_eq_true, decide_eq_true_iff, decide_eq_true_iff]
theorem le_predB {v B : Nat} (hv : v < 100000) (hB : B < 100000) : (nI v ≤ nI B - 1) ↔ v < B := by
  rw [Int32.le_iff_toInt_le, nI_toInt (by omega)]
  have h : (nI B - 1).toInt = (B : Int) - 1 := by
    cases B with
    | zero => decide
    | succ k => rw [nI_pred, nI_toInt (by omega)]; omega
  rw [h]
  omega
theorem dRun_ge (tx : Nat → Nat) : ∀ d r v, r ≤ (dRun tx d r v).2 ∧ (dRun tx d r v).2 ≤ r + d := by
  intro d
  induction d with
  | zero => intro r v; exact ⟨Nat.le_refl _, Nat.le_refl _⟩
  | succ d ih =>
    intro r v
    unfold dRun
    by_cases h : isDg (tx r) = true
    · rw [if_pos h]; have := ih (r + 1) (10 * v + (tx r - 48)); omega
    · rw [if_neg h]; exact ⟨Nat.le_refl _, Nat.le_add_right _ _⟩
theorem num_gt {tx : Nat → Nat} {N r : Nat} (h : r < N) (hd : isDg (tx r) = true) : r < (num tx N r).2 ∧ (num tx N r).2 ≤ N := by
  unfold num
  obtain ⟨d, hd2⟩ : ∃ d, N - r = d + 1 := ⟨N - r - 1, by omega⟩
  rw [hd2]
  unfold dRun
  rw [if_pos hd]
  have := dRun_ge tx d (r + 1) (10 * 0 + (tx r - 48))
  omega
theorem ite_b {A : Type} {c : Prop} [Decidable c] {x y : A} : (if (if c then (1 : Int32) else 0) = 0 then x else y) = if c then y else x := by
  by_cases h : c
  · rw [if_pos h, if_pos h, if_neg (by decide)]
  · rw [if_neg h, if_neg h, if_pos rfl]
section TX
variable {tx : Nat → Nat} {N : Nat} {tb mt : Nat → Int32}
theorem c_digit {x : Int32} {r : Nat} (h : RTx tx N tb mt) (hx : x = vC tx N r ∨ x = vM tx N r) : f_X7_isDigit x = some (if r < N ∧ isDg (tx r) = true then 1 else 0) := by
  unfold f_X7_isDigit
  by_cases hr : r < N
  · have h256 := (h.2 r hr).1
    have hx : x = nI (tx r) := by rcases hx with rfl | rfl <;> (first | unfold vC | unfold vM) <;> rw [if_pos hr]
    rw [hx, show (48 : Int32) = nI 48 from rfl, show (57 : Int32) = nI 57 from rfl, ite_lt (by omega) (by omega), ite_lt (by omega) (by omega)]
    by_cases h1 : tx r < 48
    · rw [if_pos h1, if_neg (fun h9 => by have := isDg_iff.mp h9.2; omega)]
    · rw [if_neg h1]
      by_cases h2 : 57 < tx r
      · rw [if_pos h2, if_neg (fun h9 => by have := isDg_iff.mp h9.2; omega)]
      · rw [if_neg h2, if_pos ⟨hr, isDg_iff.mpr ⟨by omega, by omega⟩⟩]
  · have hx : x < 48 := by
      rcases hx with rfl | rfl
      · unfold vC; rw [if_neg hr]; decide
      · unfold vM; rw [if_neg hr]; decide
    rw [if_pos hx, if_neg (fun h9 => hr h9.1)]
theorem m_digit {x : Int32} {r : Nat} (h : RTx tx N tb mt) (hx : x = vC tx N r ∨ x = vM tx N r) : f_X10_isDigit x = some (if r < N ∧ isDg (tx r) = true then 1 else 0) := c_digit h hx
theorem c_small {x : Int32} {r : Nat} (h : RTx tx N tb mt) (hx : x = vC tx N r ∨ x = vM tx N r) : f_X7_isSmallLetter x = some (if r < N ∧ isSm (tx r) = true then 1 else 0) := by
  unfold f_X7_isSmallLetter
  by_cases hr : r < N
  · have h256 := (h.2 r hr).1
    have hx : x = nI (tx r) := by rcases hx with rfl | rfl <;> (first | unfold vC | unfold vM) <;> rw [if_pos hr]
    rw [hx, show (97 : Int32) = nI 97 from rfl, show (122 : Int32) = nI 122 from rfl, ite_lt (by omega) (by omega), ite_lt (by omega) (by omega)]
    by_cases h1 : tx r < 97
    · rw [if_pos h1, if_neg (fun h9 => by have := isSm_iff.mp h9.2; omega)]
    · rw [if_neg h1]
      by_cases h2 : 122 < tx r
      · rw [if_pos h2, if_neg (fun h9 => by have := isSm_iff.mp h9.2; omega)]
      · rw [if_neg h2, if_pos ⟨hr, isSm_iff.mpr ⟨by omega, by omega⟩⟩]
  · have hx : x < 97 := by
      rcases hx with rfl | rfl
      · unfold vC; rw [if_neg hr]; decide
      · unfold vM; rw [if_neg hr]; decide
    rw [if_pos hx, if_neg (fun h9 => hr h9.1)]
theorem m_small {x : Int32} {r : Nat} (h : RTx tx N tb mt) (hx : x = vC tx N r ∨ x = vM tx N r) : f_X10_isSmall x = some (if r < N ∧ isSm (tx r) = true then 1 else 0) := c_small h hx
theorem c_byteAt {r : Nat} (h : RTx tx N tb mt) (hr : r < 100000) : f_X7_byteAt tb (nI N) (nI r) = some (vC tx N r) := by
  have h6 := h.1
  unfold f_X7_byteAt vC
  rw [if_neg (Int32.not_lt.mpr (nI_pos' (by omega))), ite_le (by omega) (by omega)]
  by_cases hr2 : r < N
  · rw [if_neg (by omega), if_pos hr2, show (600 : Int32) = nI 600 from rfl, ite_le (by omega) (by omega), if_neg (by omega), ixb_nI (by omega) (by omega), if_pos rfl, nI_cl (by omega), (h.2 r hr2).2.1]
  · rw [if_pos (by omega), if_neg hr2]
theorem c_byteAll (te n : Int32) : ∃ v, f_X7_byteAt tb te n = some v := by
  unfold f_X7_byteAt
  by_cases h1 : n < 0
  · rw [if_pos h1]; exact ⟨_, rfl⟩
  · rw [if_neg h1]
    by_cases h2 : te ≤ n
    · rw [if_pos h2]; exact ⟨_, rfl⟩
    · rw [if_neg h2]
      by_cases h3 : (600 : Int32) ≤ n
      · rw [if_pos h3]; exact ⟨_, rfl⟩
      · rw [if_neg h3]
        obtain ⟨k, hk, rfl⟩ := inL (B := 600) (by decide) (Int32.not_lt.mp h1) (Int32.not_le.mp h3)
        rw [ixb_nI hk (by omega), if_pos rfl]
        exact ⟨_, rfl⟩
theorem c_peek9 (h : RTx tx N tb mt) {st : Int32} : ∀ (d p m : Nat), p + d = N → d < m → f_X7_peek_9 tb (nI N) 0 m (nI p) st = some (vC tx N (skR tx d p), nI (skR tx d p), nI (skR tx d p)) := by
  have h6 := h.1
  intro d
  induction d with
  | zero =>
    intro p m hp hm
    obtain ⟨m, rfl⟩ : ∃ j, m = j + 1 := ⟨m - 1, by omega⟩
    obtain rfl : p = N := by omega
    rw [f_X7_peek_9, if_pos (Int32.le_refl _)]
    unfold f_X7_peek_57 skR vC
    rw [if_pos (Int32.le_refl _), if_neg (Nat.lt_irrefl _)]
  | succ d ih =>
    intro p m hp hm
    obtain ⟨m, rfl⟩ : ∃ j, m = j + 1 := ⟨m - 1, by omega⟩
    have hb := h.2 p (by omega)
    rw [f_X7_peek_9, ite_le (by omega) (by omega), if_neg (by omega), show (600 : Int32) = nI 600 from rfl, ite_le (by omega) (by omega), if_neg (by omega), ixb_nI (by omega) (by omega), if_pos rfl, nI_cl (by omega), nI_1]
    unfold skR
    by_cases h32 : tx p = 32
    · rw [if_pos (hb.2.2.1.mpr h32), if_pos h32]
      exact ih (p + 1) m (by omega) (by omega)
    · rw [if_neg (fun h9 => h32 (hb.2.2.1.mp h9)), if_neg h32]
      unfold f_X7_peek_57 vC
      rw [ite_le (by omega) (by omega), if_neg (by omega), show (600 : Int32) = nI 600 from rfl, ite_le (by omega) (by omega), if_neg (by omega), ixb_nI (by omega) (by omega), if_pos rfl, nI_cl (by omega), hb.2.1, if_pos (by omega)]
theorem c_peek (h : RTx tx N tb mt) {st : Int32} {p : Nat} (hp : p ≤ N) : f_X7_peek tb (nI N) (nI p) st 0 = some (vC tx N (sk tx N p), nI (sk tx N p), nI (sk tx N p)) := by
  have h6 := h.1
  unfold f_X7_peek
  rw [if_pos rfl]
  exact c_peek9 h (N - p) p FU (by omega) (FU_gt (by omega))
theorem c_peekF {te a st k : Int32} (hk : k ≠ 0) : f_X7_peek tb te a st k = some (-1, a, st) := if_neg hk
theorem m_here0 (h : RTx tx N tb mt) : ∀ (d p m : Nat), p + d = N → d < m → f_X10_here_0 (nI N) mt m (nI p) = some (vM tx N (skR tx d p), nI (skR tx d p)) := by
  have h6 := h.1
  intro d
  induction d with
  | zero =>
    intro p m hp hm
    obtain ⟨m, rfl⟩ : ∃ j, m = j + 1 := ⟨m - 1, by omega⟩
    obtain rfl : p = N := by omega
    rw [f_X10_here_0, if_pos (Int32.le_refl _)]
    unfold f_X10_here_38 skR vM
    rw [if_pos (Int32.le_refl _), if_neg (Nat.lt_irrefl _)]
  | succ d ih =>
    intro p m hp hm
    obtain ⟨m, rfl⟩ : ∃ j, m = j + 1 := ⟨m - 1, by omega⟩
    have hb := h.2 p (by omega)
    rw [f_X10_here_0, ite_le (by omega) (by omega), if_neg (by omega), ixb_nI (by omega) (by omega), if_pos rfl, nI_cl (by omega), hb.2.2.2, show (32 : Int32) = nI 32 from rfl, ite_eq (by omega) (by omega), nI_1]
    unfold skR
    by_cases h32 : tx p = 32
    · rw [if_pos h32, if_pos h32]
      exact ih (p + 1) m (by omega) (by omega)
    · rw [if_neg h32, if_neg h32]
      unfold f_X10_here_38 vM
      rw [ite_le (by omega) (by omega), if_neg (by omega), ixb_nI (by omega) (by omega), if_pos rfl, nI_cl (by omega), hb.2.2.2, if_pos (by omega)]
theorem m_here (h : RTx tx N tb mt) {p : Nat} (hp : p ≤ N) : f_X10_here (nI N) (nI p) mt = some (vM tx N (sk tx N p), nI (sk tx N p)) := by
  have h6 := h.1
  unfold f_X10_here
  exact m_here0 h (N - p) p FU (by omega) (FU_gt (by omega))
theorem c_num19 (h : RTx tx N tb mt) {lo B : Nat} (hlo : lo ≤ 1) (hB : B ≤ 1000) {st fk fp : Int32} : ∀ (d r v m : Nat), r + d = N → d < m → f_X7_number_19 tb (nI N) (nI lo) (nI B - 1) m (nI (min v 1000)) (nI r) st fk fp = if lo ≤ (dRun tx d r v).1 ∧ (dRun tx d r v).1 < B then some (nI (dRun tx d r v).1, nI (dRun tx d r v).2, st, fk, fp) else f_X7_number_90 tb (nI N) (nI lo) (nI B - 1) (nI (dRun tx d r v).2) st fk fp := by
  have h6 := h.1
  have h80 : ∀ v r : Nat, f_X7_number_80 tb (nI N) (nI lo) (nI B - 1) (nI (min v 1000)) (nI r) st fk fp = if lo ≤ v ∧ v < B then some (nI v, nI r, st, fk, fp) else f_X7_number_90 tb (nI N) (nI lo) (nI B - 1) (nI r) st fk fp := by
    intro v r
    unfold f_X7_number_80
    rw [ite_lt (by omega) (by omega)]
    by_cases h1 : min v 1000 < lo
    · rw [if_pos h1, if_neg (by omega)]
    · rw [if_neg h1]
      by_cases h2 : min v 1000 < B
      · rw [if_pos ((le_predB (by omega) (by omega)).mpr h2), if_pos (by omega), Nat.min_eq_left (by omega)]
      · rw [if_neg (fun h9 => h2 ((le_predB (by omega) (by omega)).mp h9)), if_neg (by omega)]
  intro d
  induction d with
  | zero =>
    intro r v m hr hm
    obtain ⟨m, rfl⟩ : ∃ j, m = j + 1 := ⟨m - 1, by omega⟩
    obtain rfl : r = N := by omega
    rw [f_X7_number_19, if_pos (Int32.le_refl _), h80]
    rfl
  | succ d ih =>
    intro r v m hr hm
    obtain ⟨m, rfl⟩ : ∃ j, m = j + 1 := ⟨m - 1, by omega⟩
    have hb := h.2 r (by omega)
    rw [f_X7_number_19, ite_le (by omega) (by omega), if_neg (by omega), c_byteAt h (by omega), b1_s, c_digit h (Or.inl rfl), b1_s, b1_s, ite_b]
    unfold dRun
    by_cases hd : isDg (tx r) = true
    · have hd2 := isDg_iff.mp hd
      rw [if_pos (show r < N ∧ isDg (tx r) = true from ⟨by omega, hd⟩), if_pos hd, ← ih (r + 1) (10 * v + (tx r - 48)) m (by omega) (by omega)]
      congr 1
      · unfold vC
        rw [if_pos (by omega), show (10 : Int32) = nI 10 from rfl, nI_mul, nI_add, show (48 : Int32) = nI 48 from rfl, nI_sub (by omega), show (1000 : Int32) = nI 1000 from rfl, imin_nI (by omega) (by omega)]
        congr 1
        omega
      · rw [nI_1]
    · rw [if_neg (show ¬ (r < N ∧ isDg (tx r) = true) from fun h9 => hd h9.2), if_neg hd, h80]
theorem c_number (h : RTx tx N tb mt) {lo B p : Nat} (hlo : lo ≤ 1) (hB : B ≤ 1000) (hp : p ≤ N) {st : Int32} : f_X7_number tb (nI N) (nI p) st 0 (-1) (nI lo) (nI B - 1) = some (if sk tx N p < N ∧ isDg (tx (sk tx N p)) = true then (if lo ≤ (num tx N (sk tx N p)).1 ∧ (num tx N (sk tx N p)).1 < B then (nI (num tx N (sk tx N p)).1, nI (num tx N (sk tx N p)).2, nI (sk tx N p), 0, -1) else (0, nI (num tx N (sk tx N p)).2, nI (sk tx N p), 2, nI (sk tx N p))) else (0, nI (sk tx N p), nI (sk tx N p), 1, nI (sk tx N p))) := by
  have h6 := h.1
  have hs := sk_le (tx := tx) hp
  unfold f_X7_number
  rw [c_peek h hp, b3_s, c_digit h (Or.inl rfl), b1_s]
  by_cases hd : sk tx N p < N ∧ isDg (tx (sk tx N p)) = true
  · rw [if_pos hd, if_neg (by decide), if_pos hd]
    refine (c_num19 h hlo hB (N - sk tx N p) (sk tx N p) 0 FU (by omega) (FU_gt (by omega))).trans ?_
    unfold num
    by_cases hv : lo ≤ (dRun tx (N - sk tx N p) (sk tx N p) 0).1 ∧ (dRun tx (N - sk tx N p) (sk tx N p) 0).1 < B
    · rw [if_pos hv, if_pos hv]
    · rw [if_neg hv, if_neg hv]; rfl
  · rw [if_neg hd, if_pos rfl, if_neg hd]; rfl
theorem m_num41 (h : RTx tx N tb mt) {lo B : Nat} (hlo : lo ≤ 1) (hB : B ≤ 1000) {x4 mk : Int32} : ∀ (d r v w m : Nat), r + d = N → d < m → (v ≤ 9999 → w = v) → (10000 ≤ v → 10000 ≤ w) → w ≤ 99999 → f_X10_readNumber_41 (nI N) mt (nI lo) (nI B - 1) m x4 (nI w) (nI r) (-1) mk = if lo ≤ (dRun tx d r v).1 ∧ (dRun tx d r v).1 < B then some (nI (dRun tx d r v).1, nI (dRun tx d r v).2, -1, mk) else some (0, nI (dRun tx d r v).2, x4, 2) := by
  have h6 := h.1
  have h114 : ∀ v w r : Nat, (v ≤ 9999 → w = v) → (10000 ≤ v → 10000 ≤ w) → w ≤ 99999 → f_X10_readNumber_114 (nI N) mt (nI lo) (nI B - 1) x4 (nI w) (nI r) (-1) mk = if lo ≤ v ∧ v < B then some (nI v, nI r, -1, mk) else some (0, nI r, x4, 2) := by
    intro v w r h1 h2 h3
    unfold f_X10_readNumber_114
    rw [ite_lt (by omega) (by omega)]
    by_cases h4 : w < lo
    · rw [if_pos h4, if_neg (by omega)]; rfl
    · rw [if_neg h4]
      by_cases h5 : w < B
      · rw [if_pos ((le_predB (by omega) (by omega)).mpr h5), if_pos (by omega), h1 (by omega)]
      · rw [if_neg (fun h9 => h5 ((le_predB (by omega) (by omega)).mp h9)), if_neg (by omega)]; rfl
  intro d
  induction d with
  | zero =>
    intro r v w m hr hm h1 h2 h3
    obtain ⟨m, rfl⟩ : ∃ j, m = j + 1 := ⟨m - 1, by omega⟩
    obtain rfl : r = N := by omega
    rw [f_X10_readNumber_41, if_pos (Int32.le_refl _), h114 v w r h1 h2 h3]
    rfl
  | succ d ih =>
    intro r v w m hr hm h1 h2 h3
    obtain ⟨m, rfl⟩ : ∃ j, m = j + 1 := ⟨m - 1, by omega⟩
    have hb := h.2 r (by omega)
    have hv : mt r = vM tx N r := by unfold vM; rw [if_pos (by omega)]; exact hb.2.2.2
    rw [f_X10_readNumber_41, ite_le (by omega) (by omega), if_neg (by omega), ixb_nI (by omega) (by omega), if_pos rfl, if_pos rfl, nI_cl (by omega), m_digit h (Or.inr hv), b1_s, ite_b]
    unfold dRun
    by_cases hd : isDg (tx r) = true
    · have hd2 := isDg_iff.mp hd
      rw [if_pos (show r < N ∧ isDg (tx r) = true from ⟨by omega, hd⟩), if_pos hd, show (9999 : Int32) = nI 9999 from rfl, ite_le (by omega) (by omega)]
      unfold f_X10_readNumber_99
      by_cases h9 : w ≤ 9999
      · rw [if_pos h9, hb.2.2.2, show (10 : Int32) = nI 10 from rfl, nI_mul, nI_add, show (48 : Int32) = nI 48 from rfl, nI_sub (by omega), nI_1]
        exact ih (r + 1) _ _ m (by omega) (by omega) (by omega) (by omega) (by omega)
      · rw [if_neg h9, nI_1]
        exact ih (r + 1) _ 10000 m (by omega) (by omega) (by omega) (by omega) (by omega)
    · rw [if_neg (show ¬ (r < N ∧ isDg (tx r) = true) from fun h9 => hd h9.2), if_neg hd, h114 v w r h1 h2 h3]
theorem m_number (h : RTx tx N tb mt) {lo B p : Nat} (hlo : lo ≤ 1) (hB : B ≤ 1000) (hp : p ≤ N) {mk : Int32} : f_X10_readNumber (nI N) (nI p) (-1) mk mt (nI lo) (nI B - 1) = some (if sk tx N p < N ∧ isDg (tx (sk tx N p)) = true then (if lo ≤ (num tx N (sk tx N p)).1 ∧ (num tx N (sk tx N p)).1 < B then (nI (num tx N (sk tx N p)).1, nI (num tx N (sk tx N p)).2, -1, mk) else (0, nI (num tx N (sk tx N p)).2, nI (sk tx N p), 2)) else (0, nI (sk tx N p), nI (sk tx N p), 1)) := by
  have h6 := h.1
  have hs := sk_le (tx := tx) hp
  unfold f_X10_readNumber
  rw [show f_X10_fine (-1) = some 1 from rfl, b1_s, if_neg (by decide), m_here h hp, b2_s, m_digit h (Or.inr rfl), b1_s]
  by_cases hd : sk tx N p < N ∧ isDg (tx (sk tx N p)) = true
  · rw [if_pos hd, if_neg (by decide), if_pos hd]
    refine (m_num41 h hlo hB (N - sk tx N p) (sk tx N p) 0 0 FU (by omega) (FU_gt (by omega)) (fun _ => rfl) (fun h => by omega) (by omega)).trans ?_
    unfold num
    by_cases hv : lo ≤ (dRun tx (N - sk tx N p) (sk tx N p) 0).1 ∧ (dRun tx (N - sk tx N p) (sk tx N p) 0).1 < B
    · rw [if_pos hv, if_pos hv]
    · rw [if_neg hv, if_neg hv]
  · rw [if_neg hd, if_pos rfl, if_neg hd]; rfl
end TX

/-! ===== pods: longs, the row of what is split ===== -/
def nL (n : Nat) : Int64 := Int64.ofNat n
theorem nL_add (a b : Nat) : nL a + nL b = nL (a + b) := (Int64.ofNat_add a b).symm
theorem nL_mul (a b : Nat) : nL a * nL b = nL (a * b) := (Int64.ofNat_mul a b).symm
theorem nL_sub {a b : Nat} (h : b ≤ a) : nL a - nL b = nL (a - b) := (Int64.ofNat_sub a b h).symm
theorem nL_int {a : Nat} (h : a < 9223372036854775808) : (nL a).toInt = a := Int64.toInt_ofNat_of_lt h
theorem nL_of {a : Nat} (h : a < 2147483648) : (nI a).toInt64 = nL a := Int64.toInt_inj.mp (by rw [Int32.toInt_toInt64, nI_toInt h, nL_int (by omega)])
theorem nL_inj {a b : Nat} (ha : a < 9223372036854775808) (hb : b < 9223372036854775808) : nL a = nL b ↔ a = b := by
  refine ⟨fun h => ?_, fun h => by rw [h]⟩
  have h := congrArg Int64.toInt h
  rw [nL_int ha, nL_int hb] at h
  omega
theorem nL_le {a b : Nat} (ha : a < 9223372036854775808) (hb : b < 9223372036854775808) : nL a ≤ nL b ↔ a ≤ b := by
  rw [Int64.le_iff_toInt_le, nL_int ha, nL_int hb]
  omega
theorem nL_div {a b : Nat} (ha : a < 9223372036854775808) (hb : b < 9223372036854775808) : nL a / nL b = nL (a / b) := by
  apply Int64.toInt_inj.mp
  have h : a / b < 9223372036854775808 := Nat.lt_of_le_of_lt (Nat.div_le_self a b) ha
  have hm : nL a ≠ Int64.minValue := by
    intro h9
    have h1 := congrArg Int64.toInt h9
    rw [nL_int ha] at h1
    have h2 : (Int64.minValue).toInt = -9223372036854775808 := by decide
    omega
  rw [Int64.toInt_div_of_ne_left _ _ hm, nL_int ha, nL_int hb, nL_int h]
  exact (Int.ofNat_tdiv a b).symm
theorem nL_mod {a b : Nat} (ha : a < 9223372036854775808) (hb : b < 9223372036854775808) : nL a - nL a / nL b * nL b = nL (a % b) := by
  have h1 := Nat.div_add_mod a b
  have h2 := Nat.div_mul_le_self a b
  rw [nL_div ha hb, nL_mul, nL_sub h2]
  congr 1
  rw [Nat.mul_comm] at h1
  omega
theorem nL_ne0 {a : Nat} (h : 0 < a) (ha : a < 9223372036854775808) : ¬ nL a = 0 := fun h9 => by
  have h9 : nL a = nL 0 := h9
  rw [nL_inj ha (by decide)] at h9
  omega
theorem lg_1 {a : Nat} (ha : a < 9223372036854775808) : lg_cmp (nL a) 1 ≤ 0 ↔ a ≤ 1 := by
  rw [lg_cmp_le]
  exact nL_le (b := 1) ha (by decide)
theorem lg_0 {a : Nat} (ha : a < 9223372036854775808) : lg_cmp (nL a) 0 = 0 ↔ a = 0 := by
  rw [lg_cmp_eq]
  exact nL_inj (b := 0) ha (by decide)
theorem pw_it (b : Nat) : ∀ (d k x : Nat), itN (fun _ x => x * b) d k x = x * b ^ d := by
  intro d
  induction d with
  | zero => intro k x; show x = _; rw [Nat.pow_zero, Nat.mul_one]
  | succ d ih => intro k x; show itN _ d (k + 1) (x * b) = _; rw [ih, Nat.pow_succ, Nat.mul_assoc, Nat.mul_comm b]
theorem itN_skip {A : Type} {step : Nat → A → A} : ∀ (d k : Nat) (a : A), (∀ i b, k ≤ i → i < k + d → step i b = b) → itN step d k a = a := by
  intro d
  induction d with
  | zero => intro k a _; rfl
  | succ d ih =>
    intro k a h
    show itN step d (k + 1) (step k a) = a
    rw [h k a (Nat.le_refl _) (by omega)]
    exact ih _ _ (fun i b h1 h2 => h i b (by omega) (by omega))
theorem c_power {b n : Nat} (hb : b < 1000) (hn : n < 1000) : f_X9_power (nI b) (nI n) = some (nL (b ^ n)) := by
  unfold f_X9_power
  obtain ⟨c', e, q⟩ := loopR (A := Nat) (C := Int64) (F := fun m q x => f_X9_power_5 (nI b) (nI n) m q x) (B := n) (step := fun _ x => x * b) (fin := some) (Q := fun _ x q => q = nL x) (fun m q => by
      show f_X9_power_5 (nI b) (nI n) (m + 1) q (nI n) = _
      rw [f_X9_power_5, if_pos (Int32.le_refl _)]) (fun m x q k hk hq => by
      have hq : q = nL x := hq
      subst hq
      refine ⟨nL (x * b), ?_, rfl⟩
      show f_X9_power_5 (nI b) (nI n) (m + 1) (nL x) (nI k) = f_X9_power_5 (nI b) (nI n) m (nL (x * b)) (nI (k + 1))
      rw [f_X9_power_5, if_neg (by rw [nI_leJ (by omega) (by omega)]; omega), nL_of (by omega), nL_mul, nI_1]) n 0 FU 1 1 (by omega) (FU_gt (by omega)) rfl
  have q : c' = nL (itN (fun _ x => x * b) n 0 1) := q
  rw [pw_it, Nat.one_mul] at q
  rw [← q]; exact e
/-- of n things, j at a time, as the class counts it -/
def wyN (n : Nat) : Nat → Nat
  | 0 => 1
  | j + 1 => wyN n j * (n - j) / (j + 1)
def tmN (n q j : Nat) : Nat := wyN n j * q ^ j * (16 - q) ^ (n - j)
def stepL (p q : Nat) : Nat → List Nat → List Nat
  | _, [] => []
  | v, x :: r => (x * p + v * q) :: stepL p q x r
def rowL (q : Nat) : Nat → List Nat
  | 0 => [1, 0, 0, 0, 0, 0, 0, 0, 0, 0, 0, 0, 0, 0]
  | n + 1 => stepL (16 - q) q 0 (rowL q n)
theorem row_is : ∀ n, n < 13 → ∀ q, q < 17 → rowL q n = (List.range 14).map (fun j => if j ≤ n then tmN n q j else 0) := by decide +kernel
theorem row_le : ∀ n, n < 13 → ∀ q, q < 17 → (rowL q n).all (fun x => decide (x ≤ 281474976710656)) = true := by decide +kernel
theorem wy_le : ∀ n, n < 13 → ∀ j, j < 14 → wyN n j ≤ 1000 := by decide +kernel
theorem stepL_len (p q : Nat) : ∀ (L : List Nat) (v : Nat), (stepL p q v L).length = L.length := by
  intro L
  induction L with
  | nil => intro v; rfl
  | cons x r ih => intro v; show (stepL p q x r).length + 1 = r.length + 1; rw [ih]
theorem stepL_at (p q : Nat) : ∀ (L : List Nat) (v j : Nat), j < L.length → (stepL p q v L).getD j 0 = L.getD j 0 * p + (if j = 0 then v else L.getD (j - 1) 0) * q := by
  intro L
  induction L with
  | nil => intro v j h; exact absurd h (Nat.not_lt_zero _)
  | cons x r ih =>
    intro v j h
    cases j with
    | zero => rfl
    | succ j =>
      have h' : j < r.length := Nat.lt_of_succ_lt_succ h
      rw [if_neg (Nat.succ_ne_zero j)]
      show (stepL p q x r).getD j 0 = r.getD j 0 * p + (x :: r).getD j 0 * q
      rw [ih x j h']
      cases j with
      | zero => rfl
      | succ i => rfl
theorem row_len (q : Nat) : ∀ n, (rowL q n).length = 14 := by
  intro n
  induction n with
  | zero => rfl
  | succ n ih => show (stepL _ q 0 (rowL q n)).length = 14; rw [stepL_len, ih]
theorem row_at {n q j : Nat} (hn : n < 13) (hq : q < 17) (hj : j < 14) : (rowL q n).getD j 0 = if j ≤ n then tmN n q j else 0 := by
  rw [row_is n hn q hq, List.getD_eq_getElem?_getD, List.getElem?_map, List.getElem?_range hj]
  rfl
theorem row_bd {n q j : Nat} (hn : n < 13) (hq : q < 17) (hj : j < 14) : (rowL q n).getD j 0 ≤ 281474976710656 := by
  have h := List.all_eq_true.mp (row_le n hn q hq)
  have hl : j < (rowL q n).length := by rw [row_len]; exact hj
  rw [List.getD_eq_getElem?_getD, List.getElem?_eq_getElem hl]
  exact of_decide_eq_true (h _ (List.getElem_mem hl))
/-- what is above: as the model sums it, as the class does -/
def upN (n q k : Nat) : Nat := itN (fun j a => a + (rowL q n).getD j 0) (14 - k) k 0
theorem up_is {n q k : Nat} (hn : n < 13) (hq : q < 17) (hk : k < 14) : itN (fun j a => if j < k then a else a + tmN n q j) (n + 1) 0 0 = upN n q k := by
  have h1 : itN (fun j a => if j < k then a else a + (rowL q n).getD j 0) 14 0 0 = upN n q k := by
    rw [show 14 = k + (14 - k) by omega, itN_app, itN_skip k 0 0 (fun i b _ h => if_pos (by omega)), Nat.zero_add]
    unfold upN
    have h2 : ∀ (d e a : Nat), k ≤ e → itN (fun j a => if j < k then a else a + (rowL q n).getD j 0) d e a = itN (fun j a => a + (rowL q n).getD j 0) d e a := by
      intro d
      induction d with
      | zero => intro e a _; rfl
      | succ d ih =>
        intro e a he
        show itN _ d (e + 1) (if e < k then a else a + (rowL q n).getD e 0) = itN _ d (e + 1) (a + (rowL q n).getD e 0)
        rw [if_neg (by omega)]
        exact ih (e + 1) _ (by omega)
    exact h2 _ _ _ (Nat.le_refl _)
  have h5 : itN (fun j a => if j < k then a else a + (rowL q n).getD j 0) 14 0 0 = itN (fun j a => if j < k then a else a + (rowL q n).getD j 0) (n + 1) 0 0 := by
    have h6 := itN_app (step := fun j a => if j < k then a else a + (rowL q n).getD j 0) (13 - n) (n + 1) 0 0
    rw [show n + 1 + (13 - n) = 14 by omega] at h6
    rw [h6]
    exact itN_skip (13 - n) (0 + (n + 1)) _ (fun i b h2 h3 => by
      show (if i < k then b else b + (rowL q n).getD i 0) = b
      by_cases h : i < k
      · rw [if_pos h]
      · rw [if_neg h, row_at hn hq (by omega), if_neg (by omega)]; rfl)
  rw [← h1, h5]
  refine itN_congr (B := n + 1) (fun j a hj => ?_) (n + 1) 0 0 (by omega)
  show (if j < k then a else a + tmN n q j) = (if j < k then a else a + (rowL q n).getD j 0)
  have h9 : j ≤ n := by omega
  rw [row_at hn hq (by omega), if_pos h9]
theorem up_le {n q k : Nat} (hn : n < 13) (hq : q < 17) (hk : k < 14) : upN n q k ≤ 14 * 281474976710656 := by
  have h : upN n q k ≤ (14) * 281474976710656 := itN_inv (step := fun j a => a + (rowL q n).getD j 0) (P := fun j a => a ≤ j * 281474976710656) (B := 14) (fun j a hj ha => by
    have ha : a ≤ j * 281474976710656 := ha
    have := row_bd hn hq hj
    show a + (rowL q n).getD j 0 ≤ (j + 1) * 281474976710656
    omega) (14 - k) k 0 (by omega) (Nat.zero_le _)
  exact h
theorem gcd_odd {a : Nat} (h : a % 2 = 1) (i : Nat) : Nat.gcd a (2 ^ i) = 1 := by
  refine Nat.Coprime.pow_right i ?_
  show Nat.gcd a 2 = 1
  rw [Nat.gcd_comm, Nat.gcd_rec, h]
  rfl
theorem gcd_even {a : Nat} (h : a % 2 = 0) (i : Nat) : Nat.gcd a (2 ^ (i + 1)) = 2 * Nat.gcd (a / 2) (2 ^ i) := by
  rw [← Nat.gcd_mul_left, Nat.pow_succ, Nat.mul_comm (2 ^ i) 2, show 2 * (a / 2) = a by omega]
section KR
variable {x_missing x_misused m_thrown : Int32} {m_refused : Nat → Int32} {m_splitBy : Nat → Int64}
theorem c_red {n1 n2 n3 n4 : Int32} : ∀ (i a cnt m : Nat), i + cnt ≤ 48 → a < 4611686018427387904 → i < m → f_X9_pods_112 n1 n2 n3 n4 m (nL a) (nL (2 ^ i)) (nI cnt) x_misused = f_X9_pods_159 n1 n2 n3 n4 (nL (a / Nat.gcd a (2 ^ i))) (nL (2 ^ i / Nat.gcd a (2 ^ i))) x_misused := by
  intro i
  induction i with
  | zero =>
    intro a cnt m hc ha hm
    obtain ⟨m, rfl⟩ : ∃ j, m = j + 1 := ⟨m - 1, by omega⟩
    rw [f_X9_pods_112, Nat.pow_zero, Nat.gcd_one_right, Nat.div_one, Nat.div_one, if_pos ((lg_1 (a := 1) (by decide)).mpr (Nat.le_refl 1))]
    by_cases h : (48 : Int32) ≤ nI cnt
    · rw [if_pos h]
    · rw [if_neg h]
  | succ i ih =>
    intro a cnt m hc ha hm
    obtain ⟨m, rfl⟩ : ∃ j, m = j + 1 := ⟨m - 1, by omega⟩
    have hp : 2 ^ (i + 1) ≤ 281474976710656 := Nat.pow_le_pow_right (j := 48) (by decide) (by omega)
    have hp2 : 2 ^ 1 ≤ 2 ^ (i + 1) := Nat.pow_le_pow_right (by decide) (by omega)
    rw [f_X9_pods_112, if_neg (by rw [show (48 : Int32) = nI 48 from rfl, nI_leJ (by omega) (by omega)]; omega), if_neg (fun h => absurd ((lg_1 (by omega)).mp h) (by omega)), show (2 : Int64) = nL 2 from rfl, nL_mod (by omega) (by decide), nL_div (by omega) (by decide), nL_div (by omega) (by decide)]
    by_cases h : a % 2 = 0
    · rw [h, if_pos ((lg_0 (a := 0) (by decide)).mpr rfl), show 2 ^ (i + 1) / 2 = 2 ^ i by rw [Nat.pow_succ, Nat.mul_div_cancel _ (by decide)], nI_1, ih (a / 2) (cnt + 1) m (by omega) (by omega) (by omega), gcd_even h i, ← Nat.div_div_eq_div_mul, ← Nat.div_div_eq_div_mul, show 2 ^ (i + 1) / 2 = 2 ^ i by rw [Nat.pow_succ, Nat.mul_div_cancel _ (by decide)]]
    · have h1 : a % 2 = 1 := by omega
      rw [h1, if_neg (fun h => absurd ((lg_0 (a := 1) (by decide)).mp h) (by decide)), gcd_odd h1, Nat.div_one, Nat.div_one]
theorem c_pods41 {n k q : Nat} {n4 : Int32} (hn : n < 13) (hk : k < 14) (hq : q < 17) : f_X9_pods_41 (nI n) (nI k) (nI q) n4 FU 0 1 0 x_misused = f_X9_pods_159 (nI n) (nI k) (nI q) n4 (nL (upN n q k / Nat.gcd (upN n q k) (16 ^ n))) (nL (16 ^ n / Nat.gcd (upN n q k) (16 ^ n))) x_misused := by
  have e16 : 16 ^ n = 2 ^ (4 * n) := by rw [show 16 = 2 ^ 4 from rfl, ← Nat.pow_mul]
  obtain ⟨⟨c1, c2⟩, e, q1, q2⟩ := loopR (A := Nat) (C := Int64 × Int64) (F := fun m c x => f_X9_pods_41 (nI n) (nI k) (nI q) n4 m c.1 c.2 x x_misused) (B := n + 1) (step := fun j a => if j < k then a else a + tmN n q j) (fin := fun c => f_X9_pods_112 (nI n) (nI k) (nI q) n4 FU c.1 (nL (16 ^ n)) 0 x_misused) (Q := fun j a c => c.1 = nL a ∧ c.2 = nL (wyN n j)) (fun m c => by
      show f_X9_pods_41 (nI n) (nI k) (nI q) n4 (m + 1) c.1 c.2 (nI (n + 1)) x_misused = _
      rw [f_X9_pods_41, if_pos ((nI_ltI (by omega) (by omega)).mpr (Nat.lt_succ_self n)), show (16 : Int32) = nI 16 from rfl, c_power (by omega) (by omega), b1_s]) (fun m a c j hj hc => by
      obtain ⟨c1, c2⟩ := c
      obtain ⟨rfl, rfl⟩ := (hc : c1 = nL a ∧ c2 = nL (wyN n j))
      have hw := wy_le n hn j (by omega)
      have hw2 : wyN n j * (n - j) ≤ 1000 * 12 := Nat.mul_le_mul hw (by omega)
      have e79 : ∀ x5 : Int64, f_X9_pods_79 (nI n) (nI k) (nI q) n4 (f_X9_pods_41 (nI n) (nI k) (nI q) n4 m) x5 (nL (wyN n j)) (nI j) x_misused = f_X9_pods_41 (nI n) (nI k) (nI q) n4 m x5 (nL (wyN n (j + 1))) (nI (j + 1)) x_misused := by
        intro x5
        unfold f_X9_pods_79
        rw [nI_1, nL_of (by omega), if_neg (nL_ne0 (by omega) (by omega)), nI_sub (by omega), nL_of (by omega), nL_mul, nL_div (by omega) (by omega)]
        rfl
      refine ⟨(nL (if j < k then a else a + tmN n q j), nL (wyN n (j + 1))), ?_, rfl, rfl⟩
      show f_X9_pods_41 (nI n) (nI k) (nI q) n4 (m + 1) (nL a) (nL (wyN n j)) (nI j) x_misused = f_X9_pods_41 (nI n) (nI k) (nI q) n4 m (nL (if j < k then a else a + tmN n q j)) (nL (wyN n (j + 1))) (nI (j + 1)) x_misused
      rw [f_X9_pods_41, if_neg (by rw [nI_ltJ (by omega) (by omega)]; omega), ite_lt (by omega) (by omega)]
      by_cases h : j < k
      · rw [if_pos h, if_pos h, e79]
      · rw [if_neg h, if_neg h, c_power (by omega) (by omega), b1_s, show (16 : Int32) = nI 16 from rfl, nI_sub (a := 16) (by omega), nI_sub (a := n) (by omega), c_power (by omega) (by omega), b1_s, e79, nL_mul, nL_mul, nL_add]
        rfl) (n + 1) 0 FU 0 (0, 1) (by omega) (FU_gt (by omega)) ⟨rfl, rfl⟩
  have q1 : c1 = nL (itN (fun j a => if j < k then a else a + tmN n q j) (n + 1) 0 0) := q1
  rw [up_is hn hq hk] at q1
  subst q1
  have hu := up_le hn hq hk
  refine Eq.trans e ?_
  show f_X9_pods_112 (nI n) (nI k) (nI q) n4 FU (nL (upN n q k)) (nL (16 ^ n)) (nI 0) x_misused = _
  rw [e16]
  exact c_red (4 * n) (upN n q k) 0 FU (by omega) (by omega) (FU_gt (by omega))
theorem m_least0 {n1 n2 : Int64} {n3 : Int32} {m a : Nat} : f_X10_least_6 n1 n2 n3 (m + 1) (nL a) (nL 0) = if n3 = 0 then f_X10_least_41 n1 n2 n3 (nL a) n1 else f_X10_least_41 n1 n2 n3 (nL a) n2 := by
  rw [f_X10_least_6, if_pos ((lg_0 (a := 0) (by decide)).mpr rfl)]
theorem m_least1 {n1 n2 : Int64} {n3 : Int32} {m a b : Nat} (h : b ≠ 0) (ha : a < 9223372036854775808) (hb : b < 9223372036854775808) : f_X10_least_6 n1 n2 n3 (m + 1) (nL a) (nL b) = f_X10_least_6 n1 n2 n3 m (nL b) (nL (a % b)) := by
  rw [f_X10_least_6, if_neg (fun h9 => h ((lg_0 hb).mp h9)), if_neg (nL_ne0 (by omega) hb), nL_mod ha hb]
theorem m_gcd {n1 n2 : Int64} {n3 : Int32} : ∀ (k a b m : Nat), b < 2 ^ k → a < 9223372036854775808 → b < 9223372036854775808 → 2 * k < m → f_X10_least_6 n1 n2 n3 m (nL a) (nL b) = if n3 = 0 then f_X10_least_41 n1 n2 n3 (nL (Nat.gcd a b)) n1 else f_X10_least_41 n1 n2 n3 (nL (Nat.gcd a b)) n2 := by
  intro k
  induction k with
  | zero =>
    intro a b m hb ha hb2 hm
    obtain ⟨m, rfl⟩ : ∃ j, m = j + 1 := ⟨m - 1, by omega⟩
    obtain rfl : b = 0 := by rw [Nat.pow_zero] at hb; omega
    rw [m_least0, Nat.gcd_zero_right]
  | succ k ih =>
    intro a b m hb ha hb2 hm
    obtain ⟨m, rfl⟩ : ∃ j, m = j + 3 := ⟨m - 3, by omega⟩
    by_cases h : b = 0
    · subst h
      rw [m_least0, Nat.gcd_zero_right]
    · rw [m_least1 h ha hb2, show Nat.gcd a b = Nat.gcd b (a % b) by rw [Nat.gcd_comm, Nat.gcd_rec, Nat.gcd_comm]]
      have hr : a % b < b := Nat.mod_lt _ (by omega)
      by_cases h2 : a % b = 0
      · rw [h2, m_least0, Nat.gcd_zero_right]
      · have h3 : b % (a % b) < a % b := Nat.mod_lt _ (by omega)
        have h4 : b % (a % b) = (b - a % b) % (a % b) := Nat.mod_eq_sub_mod (by omega)
        have h5 : (b - a % b) % (a % b) ≤ b - a % b := Nat.mod_le _ _
        rw [Nat.pow_succ] at hb
        rw [m_least1 h2 hb2 (by omega), show Nat.gcd b (a % b) = Nat.gcd (a % b) (b % (a % b)) by rw [Nat.gcd_comm, Nat.gcd_rec, Nat.gcd_comm]]
        exact ih _ _ _ (by omega) (by omega) (by omega) (by omega)
theorem m_least {n3 : Int32} {a b : Nat} (ha : a < 4611686018427387904) (hb : b ≤ 281474976710656) (h0 : 0 < b) : f_X10_least (nL a) (nL b) n3 = some (if n3 = 0 then nL (a / Nat.gcd a b) else nL (b / Nat.gcd a b)) := by
  unfold f_X10_least
  have hg : 0 < Nat.gcd a b := Nat.gcd_pos_of_pos_right _ h0
  have hg2 : Nat.gcd a b ≤ b := Nat.gcd_le_right _ h0
  rw [m_gcd 60 a b FU (Nat.lt_of_le_of_lt hb (by decide)) (by omega) (by omega) (FU_gt (by omega))]
  have hne : ¬ nL (Nat.gcd a b) = 0 := nL_ne0 hg (by omega)
  unfold f_X10_least_41
  by_cases h : n3 = 0
  · rw [if_pos h, if_pos h, if_neg hne, nL_div (by omega) (by omega)]
  · rw [if_neg h, if_neg h, if_neg hne, nL_div (by omega) (by omega)]
theorem m_row {n1 n2 n4 : Int32} {q : Nat} (hq : q < 17) {k100 : Int64 → Int32 → Int32 → (Nat → Int32) → (Nat → Int64) → Option (Int64 × Int32 × (Nat → Int32) × (Nat → Int64))} {x5 : Int64} {x7 : Int32} {R R2 : Nat → Nat} (hR : ∀ j, j < 14 → R2 j = R j * (16 - q) + (if j = 0 then 0 else R (j - 1)) * q) : ∀ (d m : Nat) (sb : Nat → Int64), d ≤ 14 → d < m → (∀ j, j < 14 → sb j = nL (if j < d then R j else R2 j)) → ∃ sb', f_X10_pods_110 n1 n2 (nI q) n4 k100 m x5 x7 (nI d + -1) m_thrown m_refused sb = k100 (x5 * 16) (x7 + 1) m_thrown m_refused sb' ∧ ∀ j, j < 14 → sb' j = nL (R2 j) := by
  intro d
  induction d with
  | zero =>
    intro m sb hd hm hs
    obtain ⟨m, rfl⟩ : ∃ j, m = j + 1 := ⟨m - 1, by omega⟩
    refine ⟨sb, ?_, fun j hj => by rw [hs j hj, if_neg (by omega)]⟩
    rw [f_X10_pods_110, if_pos (by decide)]
  | succ d ih =>
    intro m sb hd hm hs
    obtain ⟨m, rfl⟩ : ∃ j, m = j + 1 := ⟨m - 1, by omega⟩
    obtain ⟨sb', e, h9⟩ := ih m (vp_updL sb d (nL (R2 d))) (by omega) (by omega) (fun j hj => by
      show (if j = d then _ else sb j) = _
      by_cases h : j = d
      · rw [if_pos h, if_neg (by omega), h]
      · rw [if_neg h, hs j hj]
        by_cases h1 : j < d
        · rw [if_pos h1, if_pos (by omega)]
        · rw [if_neg h1, if_neg (by omega)])
    refine ⟨sb', ?_, h9⟩
    rw [← e, nI_dec (by omega), f_X10_pods_110, if_neg (Int32.not_lt.mpr (nI_pos' (by omega))), ixb_nI (by omega) (by omega), if_pos rfl, nI_cl (by omega), ite_le0 (by omega), hs d (by omega), if_pos (show d < d + 1 by omega), show (16 : Int32) = nI 16 from rfl, nI_sub (a := 16) (by omega), nL_of (by omega), nL_mul]
    have h2 := hR d (by omega)
    by_cases h : d = 0
    · subst h
      rw [if_pos rfl, if_pos rfl, h2, if_pos rfl, Nat.zero_mul, Nat.add_zero, show nL (R 0 * (16 - q)) + 0 = nL (R 0 * (16 - q)) from Int64.add_zero _]
    · rw [if_neg h, show nI d - 1 = nI (d - 1) from nI_sub (a := d) (b := 1) (by omega), ixb_nI (by omega) (by omega), if_pos rfl, if_pos rfl, nI_cl (by omega), hs (d - 1) (by omega), if_pos (by omega), nL_of (by omega), nL_mul, nL_add, h2, if_neg h]
theorem m_pods100 {n k q : Nat} {n4 : Int32} (hn : n < 13) (hk : k < 14) (hq : q < 17) {sb : Nat → Int64} (hs : ∀ j, j < 14 → sb j = nL ((rowL q 0).getD j 0)) : ∃ sb', f_X10_pods_100 (nI n) (nI k) (nI q) n4 FU 1 0 m_thrown m_refused sb = some (if n4 = 0 then nL (upN n q k / Nat.gcd (upN n q k) (16 ^ n)) else nL (16 ^ n / Nat.gcd (upN n q k) (16 ^ n)), m_thrown, m_refused, sb') := by
  obtain ⟨⟨c1, c2⟩, e, q1, q2⟩ := loopR (A := Unit) (C := Int64 × (Nat → Int64)) (F := fun m c x => f_X10_pods_100 (nI n) (nI k) (nI q) n4 m c.1 x m_thrown m_refused c.2) (B := n) (step := fun _ _ => ()) (fin := fun c => f_X10_pods_183 (nI n) (nI k) (nI q) n4 FU c.1 0 (nI k) m_thrown m_refused c.2) (Q := fun i _ c => c.1 = nL (16 ^ i) ∧ ∀ j, j < 14 → c.2 j = nL ((rowL q i).getD j 0)) (fun m c => by
      show f_X10_pods_100 (nI n) (nI k) (nI q) n4 (m + 1) c.1 (nI n) m_thrown m_refused c.2 = _
      rw [f_X10_pods_100, if_pos (Int32.le_refl _)]) (fun m _ c i hi hc => by
      obtain ⟨c1, c2⟩ := c
      obtain ⟨rfl, hc⟩ := (hc : c1 = nL (16 ^ i) ∧ ∀ j, j < 14 → c2 j = nL ((rowL q i).getD j 0))
      have hc : ∀ j, j < 14 → c2 j = nL ((rowL q i).getD j 0) := hc
      obtain ⟨sb', e, h9⟩ := m_row (n1 := nI n) (n2 := nI k) (n4 := n4) (m_thrown := m_thrown) (m_refused := m_refused) hq (k100 := f_X10_pods_100 (nI n) (nI k) (nI q) n4 m) (x5 := nL (16 ^ i)) (x7 := nI i) (R := fun j => (rowL q i).getD j 0) (R2 := fun j => (rowL q (i + 1)).getD j 0) (fun j hj => by
        show (stepL (16 - q) q 0 (rowL q i)).getD j 0 = _
        rw [stepL_at _ _ _ _ _ (by rw [row_len]; exact hj)]) 14 FU c2 (Nat.le_refl _) (FU_gt (by omega)) (fun j hj => by rw [hc j hj, if_pos hj])
      refine ⟨(nL (16 ^ (i + 1)), sb'), ?_, rfl, h9⟩
      show f_X10_pods_100 (nI n) (nI k) (nI q) n4 (m + 1) (nL (16 ^ i)) (nI i) m_thrown m_refused c2 = f_X10_pods_100 (nI n) (nI k) (nI q) n4 m (nL (16 ^ (i + 1))) (nI (i + 1)) m_thrown m_refused sb'
      rw [f_X10_pods_100, if_neg (by rw [nI_leJ (by omega) (by omega)]; omega)]
      refine Eq.trans e ?_
      rw [show (16 : Int64) = nL 16 from rfl, nL_mul, ← Nat.pow_succ, nI_1]) n 0 FU () (1, sb) (by omega) (FU_gt (by omega)) ⟨rfl, hs⟩
  have q1 : c1 = nL (16 ^ n) := q1
  subst q1
  have q2 : ∀ j, j < 14 → c2 j = nL ((rowL q n).getD j 0) := q2
  obtain ⟨c3, e3, q3⟩ := loopRG (A := Nat) (C := Int64) (F := fun m c x => f_X10_pods_183 (nI n) (nI k) (nI q) n4 m (nL (16 ^ n)) c x m_thrown m_refused c2) (lo := 0) (B := 14) (step := fun j a => a + (rowL q n).getD j 0) (fin := fun c => b1 (f_X10_least c (nL (16 ^ n)) n4) (fun v1 => some (v1, m_thrown, m_refused, c2))) (Q := fun a c => c = nL a) (fun m c => by
      show f_X10_pods_183 (nI n) (nI k) (nI q) n4 (m + 1) (nL (16 ^ n)) c (nI 14) m_thrown m_refused c2 = _
      rw [f_X10_pods_183, if_pos (by decide)]) (fun m a c j _ hj hc => by
      have hc : c = nL a := hc
      subst hc
      refine ⟨nL (a + (rowL q n).getD j 0), ?_, rfl⟩
      show f_X10_pods_183 (nI n) (nI k) (nI q) n4 (m + 1) (nL (16 ^ n)) (nL a) (nI j) m_thrown m_refused c2 = f_X10_pods_183 (nI n) (nI k) (nI q) n4 m (nL (16 ^ n)) _ (nI (j + 1)) m_thrown m_refused c2
      rw [f_X10_pods_183, if_neg (by rw [show (14 : Int32) = nI 14 from rfl, nI_leJ (by omega) (by omega)]; omega), ixb_nI (by omega) (by omega), if_pos rfl, nI_cl (by omega), q2 j hj, nL_add, nI_1]) (14 - k) k FU 0 0 (Nat.zero_le _) (by omega) (FU_gt (by omega)) rfl
  have q3 : c3 = nL (upN n q k) := q3
  subst q3
  have hu := up_le hn hq hk
  have hp : 16 ^ n ≤ 16 ^ 12 := Nat.pow_le_pow_right (by decide) (by omega)
  have hp2 : 0 < 16 ^ n := Nat.pow_pos (by decide)
  have hp3 : 16 ^ 12 = 281474976710656 := by decide
  refine ⟨c2, Eq.trans e (Eq.trans e3 ?_)⟩
  show b1 (f_X10_least (nL (upN n q k)) (nL (16 ^ n)) n4) (fun v1 => some (v1, m_thrown, m_refused, c2)) = _
  rw [m_least (by omega) (by omega) hp2, b1_s]
theorem m_pods64 {n k q : Nat} {n4 : Int32} (hn : n < 13) (hk : k < 14) (hq : q < 17) (sb : Nat → Int64) : ∃ sb', f_X10_pods_64 (nI n) (nI k) (nI q) n4 FU 0 m_thrown m_refused sb = some (if n4 = 0 then nL (upN n q k / Nat.gcd (upN n q k) (16 ^ n)) else nL (16 ^ n / Nat.gcd (upN n q k) (16 ^ n)), m_thrown, m_refused, sb') := by
  obtain ⟨c, e, hc⟩ := loopR (A := Unit) (C := Nat → Int64) (F := fun m c x => f_X10_pods_64 (nI n) (nI k) (nI q) n4 m x m_thrown m_refused c) (B := 14) (step := fun _ _ => ()) (fin := fun c => f_X10_pods_100 (nI n) (nI k) (nI q) n4 FU 1 0 m_thrown m_refused c) (Q := fun i _ c => ∀ j, j < i → c j = nL ((rowL q 0).getD j 0)) (fun m c => by
      show f_X10_pods_64 (nI n) (nI k) (nI q) n4 (m + 1) (nI 14) m_thrown m_refused c = _
      rw [f_X10_pods_64, if_pos (by decide)]) (fun m _ c i hi hc => by
      refine ⟨vp_updL c i (nL ((rowL q 0).getD i 0)), ?_, fun j hj => ?_⟩
      · show f_X10_pods_64 (nI n) (nI k) (nI q) n4 (m + 1) (nI i) m_thrown m_refused c = f_X10_pods_64 (nI n) (nI k) (nI q) n4 m (nI (i + 1)) m_thrown m_refused _
        rw [f_X10_pods_64, if_neg (by rw [show (14 : Int32) = nI 14 from rfl, nI_leJ (by omega) (by omega)]; omega), ite_eq0 (by omega), ixb_nI (by omega) (by omega), nI_cl (by omega), nI_1]
        by_cases h : i = 0
        · subst h
          rw [if_pos rfl, if_pos rfl]; rfl
        · have h0 : (rowL q 0).getD i 0 = 0 := (by decide : ∀ i, i < 14 → i ≠ 0 → [1, 0, 0, 0, 0, 0, 0, 0, 0, 0, 0, 0, 0, 0].getD i 0 = 0) i hi h
          rw [if_neg h, if_pos rfl, h0]; rfl
      · show (if j = i then _ else c j) = _
        by_cases h : j = i
        · rw [if_pos h, h]
        · rw [if_neg h]; exact hc j (by omega)) 14 0 FU () sb (by omega) (FU_gt (by omega)) (fun j hj => absurd hj (Nat.not_lt_zero _))
  obtain ⟨sb', e2⟩ := m_pods100 (n4 := n4) (m_thrown := m_thrown) (m_refused := m_refused) hn hk hq hc
  exact ⟨sb', Eq.trans e e2⟩
theorem k_pods (hc : RC x_missing x_misused m_refused) (n1 n2 n3 n4 : Int32) :
    ∃ ex r mu rf sb, f_X9_pods x_misused n1 n2 n3 n4 = some (ex, r, mu) ∧ f_X10_pods m_thrown m_refused m_splitBy n1 n2 n3 n4 = some (r, if ex = 0 then 0 else 1, rf, sb) ∧ (ex = 0 ∨ ex = 2) ∧ RC x_missing mu rf := by
  unfold f_X9_pods f_X10_pods
  rw [c_range, m_within]
  by_cases h1 : 0 ≤ n1 ∧ n1 ≤ 12
  case neg =>
    refine ⟨2, 0, x_misused + 1, upd m_refused 1 (m_refused 1 + 1), m_splitBy, ?_, ?_, Or.inr rfl, rc_mu hc⟩
    · rw [if_neg h1]; rfl
    · rw [if_neg h1]; rfl
  rw [if_pos h1, if_pos h1, b2_s, if_pos rfl, c_range, b1_s, if_neg (show ¬ (1 : Int32) = 0 by decide), m_within]
  by_cases h2 : 0 ≤ n2 ∧ n2 ≤ 13
  case neg =>
    refine ⟨2, 0, x_misused + 1, upd m_refused 1 (m_refused 1 + 1), m_splitBy, ?_, ?_, Or.inr rfl, rc_mu hc⟩
    · rw [if_neg h2]; rfl
    · rw [if_neg h2]; rfl
  rw [if_pos h2, if_pos h2, b2_s, if_pos rfl, c_range, b1_s, if_neg (show ¬ (1 : Int32) = 0 by decide), m_within]
  by_cases h3 : 0 ≤ n3 ∧ n3 ≤ 16
  case neg =>
    refine ⟨2, 0, x_misused + 1, upd m_refused 1 (m_refused 1 + 1), m_splitBy, ?_, ?_, Or.inr rfl, rc_mu hc⟩
    · rw [if_neg h3]; rfl
    · rw [if_neg h3]; rfl
  rw [if_pos h3, if_pos h3, b2_s, if_pos rfl, c_range, b1_s, if_neg (show ¬ (1 : Int32) = 0 by decide), m_within]
  by_cases h4 : 0 ≤ n4 ∧ n4 ≤ 1
  case neg =>
    refine ⟨2, 0, x_misused + 1, upd m_refused 1 (m_refused 1 + 1), m_splitBy, ?_, ?_, Or.inr rfl, rc_mu hc⟩
    · rw [if_neg h4]; rfl
    · rw [if_neg h4]; rfl
  rw [if_pos h4, if_pos h4, b2_s, if_pos rfl, b1_s, if_neg (show ¬ (1 : Int32) = 0 by decide)]
  obtain ⟨n, hn, rfl⟩ := inN (B := 12) (by decide) h1.1 h1.2
  obtain ⟨k, hk, rfl⟩ := inN (B := 13) (by decide) h2.1 h2.2
  obtain ⟨q, hq, rfl⟩ := inN (B := 16) (by decide) h3.1 h3.2
  obtain ⟨sb', e⟩ := m_pods64 (n4 := n4) (m_thrown := 0) (m_refused := m_refused) (n := n) (k := k) (q := q) (by omega) (by omega) (by omega) m_splitBy
  refine ⟨0, if n4 = 0 then nL (upN n q k / Nat.gcd (upN n q k) (16 ^ n)) else nL (16 ^ n / Nat.gcd (upN n q k) (16 ^ n)), x_misused, m_refused, sb', ?_, ?_, Or.inl rfl, hc⟩
  · rw [c_pods41 (by omega) (by omega) (by omega)]
    unfold f_X9_pods_159
    by_cases h : n4 = 0
    · rw [if_pos h, if_pos h]
    · rw [if_neg h, if_neg h]
  · unfold f_X10_pods_51
    rw [m_may1, b3_s, if_neg (show ¬ (1 : Int32) = 0 by decide), e]
    rfl
end KR

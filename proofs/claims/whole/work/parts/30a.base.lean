/-! ===== numbers: what simp may use ===== -/
theorem lit (n : Nat) : (OfNat.ofNat n : Int32) = nI n := rfl
theorem nI_mul (a b : Nat) : nI a * nI b = nI (a * b) := (Int32.ofNat_mul a b).symm
theorem nI_sub {a b : Nat} (h : b ≤ a) : nI a - nI b = nI (a - b) := by
  have h1 : nI a = nI (a - b) + nI b := by rw [nI_add]; congr 1; omega
  rw [h1, Int32.add_sub_cancel]
theorem ixb_nI {a n : Nat} (h : a < n) (hn : a < 2147483648) : ixb (nI a) n = true := by
  unfold ixb
  rw [nI_clamp hn]
  have h0 : (0 : Int32) ≤ nI a := nI_pos' hn
  simp [h0, h]
theorem nI_eqI {a b : Nat} (ha : a < 2147483648) (hb : b < 2147483648) : (nI a = nI b) = (a = b) := propext (nI_eq ha hb)
theorem nI_leJ {a b : Nat} (ha : a < 2147483648) (hb : b < 2147483648) : (nI a ≤ nI b) = (a ≤ b) := propext (nI_leI ha hb)
theorem nI_ltJ {a b : Nat} (ha : a < 2147483648) (hb : b < 2147483648) : (nI a < nI b) = (a < b) := propext (nI_ltI ha hb)
theorem nI_cl {a : Nat} (ha : a < 2147483648) : (nI a).toNatClampNeg = a := nI_clamp ha
theorem imin_nI {a b : Nat} (ha : a < 2147483648) (hb : b < 2147483648) : imin (nI a) (nI b) = nI (min a b) := by
  unfold imin
  by_cases h : b < a
  · rw [if_pos ((nI_ltI hb ha).mpr h), Nat.min_eq_right (Nat.le_of_lt h)]
  · rw [if_neg (fun h9 => h ((nI_ltI hb ha).mp h9)), Nat.min_eq_left (Nat.not_lt.mp h)]
theorem imax_nI {a b : Nat} (ha : a < 2147483648) (hb : b < 2147483648) : imax (nI a) (nI b) = nI (max a b) := by
  unfold imax
  by_cases h : a < b
  · rw [if_pos ((nI_ltI ha hb).mpr h), Nat.max_eq_right (Nat.le_of_lt h)]
  · rw [if_neg (fun h9 => h ((nI_ltI ha hb).mp h9)), Nat.max_eq_left (Nat.not_lt.mp h)]
theorem nI_div {a b : Nat} (ha : a < 2147483648) (hb : b < 2147483648) : nI a / nI b = nI (a / b) := by
  apply Int32.toInt_inj.mp
  have h : a / b < 2147483648 := Nat.lt_of_le_of_lt (Nat.div_le_self a b) ha
  have hm : nI a ≠ Int32.minValue := by
    intro h9
    have h1 := congrArg Int32.toInt h9
    rw [nI_toInt ha] at h1
    have h2 : (Int32.minValue).toInt = -2147483648 := by decide
    omega
  rw [Int32.toInt_div_of_ne_left _ _ hm, nI_toInt ha, nI_toInt hb, nI_toInt h]
  exact (Int.ofNat_tdiv a b).symm
theorem nI_neM {a : Nat} (ha : a < 2147483648) : (nI a = -1) = False := by
  refine eq_false fun h => ?_
  have := congrArg Int32.toInt h
  rw [nI_toInt ha] at this
  have h2 : (-1 : Int32).toInt = -1 := by decide
  omega
theorem nI_neM' {a : Nat} (ha : a < 2147483648) : (-1 = nI a) = False := by
  refine eq_false fun h => ?_
  have h9 := nI_neM ha
  rw [← h] at h9
  simp at h9
theorem nI_ltM {a : Nat} (ha : a < 2147483648) : (nI a < -1) = False := by
  refine eq_false fun h => ?_
  have h1 := Int32.lt_iff_toInt_lt.mp h
  rw [nI_toInt ha] at h1
  have h2 : (-1 : Int32).toInt = -1 := by decide
  omega
theorem upd_at (f : Nat → Int32) (k j : Nat) (x : Int32) : upd f k x j = if j = k then x else f j := rfl
theorem upd_s (f : Nat → Int32) (k : Nat) (x : Int32) : upd f k x k = x := if_pos rfl
theorem upd_n {f : Nat → Int32} {k j : Nat} {x : Int32} (h : j ≠ k) : upd f k x j = f j := if_neg h
theorem FU_gt {d : Nat} (h : d < 1000000) : d < FU := Nat.lt_of_lt_of_le h FU_big
theorem FU_pos : ∃ m, FU = m + 1 := ⟨FU - 1, by have := FU_big; omega⟩
/-! ===== the state of the garden, in plain numbers ===== -/
/-- year, wet, lost, eaten; tied; gone; place; heard; what lies; what is grown -/
abbrev Sg : Type := (Nat × Nat × Nat × Nat) × (Nat → Bool) × (Nat → Nat) × (Nat → Nat) × (Nat → Int32) × (Nat → List Nat) × List Nat
def gYr (σ : Sg) : Nat := σ.1.1
def gWt (σ : Sg) : Nat := σ.1.2.1
def gLo (σ : Sg) : Nat := σ.1.2.2.1
def gEa (σ : Sg) : Nat := σ.1.2.2.2
def gTi (σ : Sg) : Nat → Bool := σ.2.1
def gGo (σ : Sg) : Nat → Nat := σ.2.2.1
def gPl (σ : Sg) : Nat → Nat := σ.2.2.2.1
def gHe (σ : Sg) : Nat → Int32 := σ.2.2.2.2.1
def gLy (σ : Sg) : Nat → List Nat := σ.2.2.2.2.2.1
def gRp (σ : Sg) : List Nat := σ.2.2.2.2.2.2
/-- what was told of the garden: beds, letters, readers; far; drain, length, words; home -/
abbrev Pg : Type := (Nat × Nat × Nat) × (Nat → Nat) × (Nat → Nat) × (Nat → Nat) × (Nat → Nat → Nat) × (Nat → Nat)
def gB (π : Pg) : Nat := π.1.1
def gL (π : Pg) : Nat := π.1.2.1
def gR (π : Pg) : Nat := π.1.2.2
def gFa (π : Pg) : Nat → Nat := π.2.1
def gDr (π : Pg) : Nat → Nat := π.2.2.1
def gLe (π : Pg) : Nat → Nat := π.2.2.2.1
def gWd (π : Pg) : Nat → Nat → Nat := π.2.2.2.2.1
def gHo (π : Pg) : Nat → Nat := π.2.2.2.2.2
/-- bit of a set, as the class and the model ask it -/
def tdB (x : Nat → Bool) (l : Nat) : Int32 := if x l then 1 else 0
abbrev STt : Type := Int32 × Int32 × Int32 × Int32 × Int32 × Int32 × (Nat → Int32) × (Nat → Int32) × (Nat → Int32) × (Nat → Int32) × (Nat → Int32) × (Nat → Int32)
abbrev PTt : Type := Int32 × Int32 × Int32 × (Nat → Int32) × (Nat → Int32) × (Nat → Int32) × (Nat → Int32) × (Nat → Int32)
/-- the garden is one that can be told -/
def OkP (π : Pg) : Prop := gB π ≤ 6 ∧ gL π ≤ 6 ∧ gR π ≤ 5 ∧ (∀ b, b < gB π → gFa π b ≤ 30) ∧ (∀ l, l < gL π → gDr π l < gB π ∧ 1 ≤ gLe π l ∧ gLe π l ≤ 8 ∧ ∀ k, k < gLe π l → gWd π l k < 16) ∧ ∀ r, r < gR π → gHo π r < gB π
/-- the class's plan -/
def RPc (π : Pg) : PTt → Prop
  | (b, l, r, fa, dr, le, wd, ho) => b = nI (gB π) ∧ l = nI (gL π) ∧ r = nI (gR π) ∧ (∀ i, i < gB π → fa i = nI (gFa π i)) ∧ (∀ i, i < gL π → dr i = nI (gDr π i) ∧ le i = nI (gLe π i) ∧ ∀ k, k < gLe π i → wd (i * 8 + k) = nI (gWd π i k)) ∧ ∀ i, i < gR π → ho i = nI (gHo π i)
/-- the model's garden -/
def RPm (π : Pg) (b l r : Int32) (be le re : Nat → Int32) : Prop := b = nI (gB π) ∧ l = nI (gL π) ∧ r = nI (gR π) ∧ (∀ i, i < gB π → be i = nI (gFa π i)) ∧ (∀ i, i < gL π → le (10 * i) = nI (gDr π i) ∧ le (10 * i + 1) = nI (gLe π i) ∧ ∀ k, k < gLe π i → le (10 * i + 2 + k) = nI (gWd π i k)) ∧ ∀ i, i < gR π → re i = nI (gHo π i)
/-- a state that the garden can have -/
def OkS (π : Pg) (σ : Sg) : Prop := gYr σ ≤ 100000 ∧ gWt σ ≤ 99 ∧ (∀ l, l < gL π → gGo σ l ≤ gLe π l) ∧ (∀ r, r < gR π → gPl σ r < gB π) ∧ (∀ b, (gLy σ b).length ≤ 12 ∧ (gB π ≤ b → gLy σ b = []) ∧ ∀ w ∈ gLy σ b, w < 16) ∧ (gRp σ).length ≤ 60 ∧ ∀ w ∈ gRp σ, w < 16
/-- the class's state -/
def RS (π : Pg) (σ : Sg) : STt → Prop
  | (y, w, lo, ea, ti, rm, go, pl, he, ma, ly, ri) => y = nI (gYr σ) ∧ w = nI (gWt σ) ∧ lo = nI (gLo σ) ∧ ea = nI (gEa σ) ∧ (∀ l, l < gL π → (ti >>> (nI l &&& 31)) &&& 1 = tdB (gTi σ) l) ∧ rm = nI (gRp σ).length ∧ (∀ l, l < gL π → go l = nI (gGo σ l)) ∧ (∀ r, r < gR π → pl r = nI (gPl σ r)) ∧ (∀ r, r < gR π → he r = gHe σ r) ∧ (∀ b, b < 6 → ma b = nI (gLy σ b).length) ∧ (∀ b k, b < 6 → k < (gLy σ b).length → ly (b * 12 + k) = nI ((gLy σ b).getD k 0)) ∧ ∀ k, k < (gRp σ).length → ri k = nI ((gRp σ).getD k 0)
/-- the model's row -/
def RM (π : Pg) (σ : Sg) (m : Nat → Int32) : Prop := m 164 = nI (gYr σ) ∧ m 161 = nI (gWt σ) ∧ m 162 = nI (gLo σ) ∧ m 163 = nI (gEa σ) ∧ (∀ l, l < gL π → m (6 + l) = tdB (gTi σ) l) ∧ m 160 = nI (gRp σ).length ∧ (∀ l, l < gL π → m l = nI (gGo σ l)) ∧ (∀ r, r < gR π → m (90 + r) = nI (gPl σ r)) ∧ (∀ r, r < gR π → m (95 + r) = gHe σ r) ∧ (∀ b, b < 6 → m (84 + b) = nI (gLy σ b).length) ∧ (∀ b k, b < 6 → k < (gLy σ b).length → m (12 + 12 * b + k) = nI ((gLy σ b).getD k 0)) ∧ ∀ k, k < (gRp σ).length → m (100 + k) = nI ((gRp σ).getD k 0)
/-! ===== loops that count up ===== -/
def itN {A : Type} (step : Nat → A → A) : Nat → Nat → A → A
  | 0, _, a => a
  | d + 1, k, a => itN step d (k + 1) (step k a)
theorem loopF {A R : Type} {F : Nat → A → Int32 → Option R} {B : Nat} {step : Nat → A → A} {fin : A → Option R} (h0 : ∀ n a, F (n + 1) a (nI B) = fin a) (h1 : ∀ n a k, k < B → F (n + 1) a (nI k) = F n (step k a) (nI (k + 1))) : ∀ (d k n : Nat) (a : A), k + d = B → d < n → F n a (nI k) = fin (itN step d k a) := by
  intro d
  induction d with
  | zero =>
    intro k n a hk hn
    obtain ⟨m, rfl⟩ : ∃ m, n = m + 1 := ⟨n - 1, by omega⟩
    rw [show k = B by omega]
    exact h0 m a
  | succ d ih =>
    intro k n a hk hn
    obtain ⟨m, rfl⟩ : ∃ m, n = m + 1 := ⟨n - 1, by omega⟩
    rw [h1 m a k (by omega), ih (k + 1) m _ (by omega) (by omega)]
    rfl
/-- with a relation to a plain value that goes along -/
theorem loopR {A C R : Type} {F : Nat → C → Int32 → Option R} {B : Nat} {step : Nat → A → A} {fin : C → Option R} {Q : Nat → A → C → Prop} (h0 : ∀ n c, F (n + 1) c (nI B) = fin c) (h1 : ∀ n a c k, k < B → Q k a c → ∃ c', F (n + 1) c (nI k) = F n c' (nI (k + 1)) ∧ Q (k + 1) (step k a) c') : ∀ (d k n : Nat) (a : A) (c : C), k + d = B → d < n → Q k a c → ∃ c', F n c (nI k) = fin c' ∧ Q B (itN step d k a) c' := by
  intro d
  induction d with
  | zero =>
    intro k n a c hk hn hq
    obtain ⟨m, rfl⟩ : ∃ m, n = m + 1 := ⟨n - 1, by omega⟩
    obtain rfl : k = B := by omega
    exact ⟨c, h0 m c, hq⟩
  | succ d ih =>
    intro k n a c hk hn hq
    obtain ⟨m, rfl⟩ : ∃ m, n = m + 1 := ⟨n - 1, by omega⟩
    obtain ⟨c', e1, q1⟩ := h1 m a c k (by omega) hq
    obtain ⟨c2, e2, q2⟩ := ih (k + 1) m _ c' (by omega) (by omega) q1
    exact ⟨c2, e1.trans e2, q2⟩
theorem itN_inv {A : Type} {step : Nat → A → A} {P : Nat → A → Prop} {B : Nat} (h : ∀ k a, k < B → P k a → P (k + 1) (step k a)) : ∀ (d k : Nat) (a : A), k + d = B → P k a → P B (itN step d k a) := by
  intro d
  induction d with
  | zero => intro k a hk hp; rw [show B = k by omega]; exact hp
  | succ d ih => intro k a hk hp; exact ih (k + 1) _ (by omega) (h k a (by omega) hp)
theorem itN_congr {A : Type} {s1 s2 : Nat → A → A} {B : Nat} (h : ∀ k a, k < B → s1 k a = s2 k a) : ∀ (d k : Nat) (a : A), k + d = B → itN s1 d k a = itN s2 d k a := by
  intro d
  induction d with
  | zero => intro k a _; rfl
  | succ d ih => intro k a hk; show itN s1 d (k + 1) (s1 k a) = itN s2 d (k + 1) (s2 k a); rw [h k a (by omega), ih (k + 1) _ (by omega)]

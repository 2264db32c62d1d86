/-! ===== the law: a row of what to put on a stack and how to join ===== -/
abbrev Tk : Type := Nat × Nat
def encC (t : Tk) : Int32 := if t.1 = 0 then nI t.2 else if t.1 = 1 then -1 - nI t.2 else if t.1 = 2 then -8 else if t.1 = 3 then -9 else if t.1 = 4 then -10 else if t.1 = 5 then -11 else if t.1 = 6 then -13 else if t.1 = 7 then -14 else -12
def opV (k : Nat) (a b : Int32) : Int32 := if k = 2 then a + b else if k = 3 then a - b else if k = 4 then a * b else if k = 5 then (if b = 0 then 0 else a / b) else if k = 6 then (if a < b then a else b) else if k = 7 then (if a < b then b else a) else (if b = 0 then 0 else a - a / b * b)
def evT (env : Nat → Int32) (t : Tk) (S : List Int32) : List Int32 := if t.1 = 0 then nI t.2 :: S else if t.1 = 1 then env t.2 :: S else match S with
  | b :: a :: r => opV t.1 a b :: r
  | S => S
def evL (env : Nat → Int32) : List Tk → List Int32 → List Int32
  | [], S => S
  | t :: c, S => evL env c (evT env t S)
/-- the row can be done from a stack of d on, within 32, and leaves one -/
def chk : List Tk → Nat → Prop
  | [], d => d = 1
  | t :: c, d => if t.1 = 0 then t.2 ≤ 999 ∧ d < 32 ∧ chk c (d + 1) else if t.1 = 1 then t.2 < 7 ∧ d < 32 ∧ chk c (d + 1) else t.1 ≤ 8 ∧ 2 ≤ d ∧ d ≤ 32 ∧ chk c (d - 1)
def plainL : List Tk := [(1, 0), (0, 4), (5, 0), (0, 1), (2, 0)]
def OkL (c : List Tk) : Prop := chk c 0 ∧ c.length ≤ 150
def RLc (c : List Tk) (code : Nat → Int32) (len : Int32) : Prop := len = nI c.length ∧ ∀ k, k < c.length → code k = encC (c.getD k (0, 0))
def RLm (c : List Tk) (code ofc : Nat → Int32) (len : Int32) : Prop := (len = nI c.length ∧ 0 < c.length ∧ ∀ k, k < c.length → code k = nI (c.getD k (0, 0)).1 ∧ ofc k = nI (c.getD k (0, 0)).2) ∨ (len = 0 ∧ c = plainL)
def envL (n1 n2 n3 n4 n5 n6 n7 : Int32) : Nat → Int32 := fun i => [n1, n2, n3, n4, n5, n6, n7].getD i 0
def valL (env : Nat → Int32) (c : List Tk) : Int32 := (evL env c []).headD 0
/-- what comes out: 0 to 8 -/
def runN (env : Nat → Int32) (c : List Tk) : Nat := if valL env c < 0 then 0 else if valL env c ≤ 8 then (valL env c).toNatClampNeg else 8
/-- the stack in its row -/
def Stk (S : List Int32) (f : Nat → Int32) : Prop := ∀ j, j < S.length → f j = S.getD (S.length - 1 - j) 0
theorem Stk.push {S : List Int32} {f : Nat → Int32} (h : Stk S f) (v : Int32) : Stk (v :: S) (upd f S.length v) := fun j hj => by
  rw [List.length_cons] at hj ⊢
  by_cases e : j = S.length
  · subst e; rw [upd_s]; simp
  · rw [upd_n e, h j (by omega), show S.length + 1 - 1 - j = (S.length - 1 - j) + 1 by omega]; rfl
theorem Stk.join {S : List Int32} {a b v : Int32} {f : Nat → Int32} (h : Stk (b :: a :: S) f) : Stk (v :: S) (upd f S.length v) := fun j hj => by
  rw [List.length_cons] at hj ⊢
  by_cases e : j = S.length
  · subst e; rw [upd_s]; simp
  · rw [upd_n e, h j (by rw [List.length_cons, List.length_cons]; omega), List.length_cons, List.length_cons, show S.length + 1 + 1 - 1 - j = (S.length - 1 - j) + 1 + 1 by omega, show S.length + 1 - 1 - j = (S.length - 1 - j) + 1 by omega]; rfl
theorem Stk.top2 {S : List Int32} {a b : Int32} {f : Nat → Int32} (h : Stk (b :: a :: S) f) : f S.length = a ∧ f (S.length + 1) = b := by
  constructor
  · rw [h S.length (by rw [List.length_cons, List.length_cons]; omega), List.length_cons, List.length_cons, show S.length + 1 + 1 - 1 - S.length = 0 + 1 by omega]; rfl
  · rw [h (S.length + 1) (by rw [List.length_cons, List.length_cons]; omega), List.length_cons, List.length_cons, show S.length + 1 + 1 - 1 - (S.length + 1) = 0 by omega]; rfl
theorem c_joined {k : Nat} (a b : Int32) (h1 : 2 ≤ k) (h2 : k ≤ 8) : f_X1_joined (encC (k, 0)) a b = some (opV k a b) := by
  have hc : k = 2 ∨ k = 3 ∨ k = 4 ∨ k = 5 ∨ k = 6 ∨ k = 7 ∨ k = 8 := by omega
  have le_lt : ∀ x y : Int32, (y ≤ x) = ¬ (x < y) := fun x y => propext ⟨fun h => Int32.not_lt.mpr h, fun h => Int32.not_lt.mp h⟩
  rcases hc with rfl | rfl | rfl | rfl | rfl | rfl | rfl
  · rfl
  · rfl
  · rfl
  · show (if b = 0 then some 0 else if b = 0 then none else some (a / b)) = some (if b = 0 then 0 else a / b)
    by_cases h : b = 0
    · rw [if_pos h, if_pos h]
    · rw [if_neg h, if_neg h, if_neg h]
  · show (if b ≤ a then some b else some a) = some (if a < b then a else b)
    by_cases h : a < b
    · rw [if_pos h, if_neg (Int32.not_le.mpr h)]
    · rw [if_neg h, if_pos (Int32.not_lt.mp h)]
  · show (if a ≤ b then some b else some a) = some (if a < b then b else a)
    by_cases h : a < b
    · rw [if_pos h, if_pos (Int32.le_of_lt h)]
    · rw [if_neg h]
      by_cases h2 : a ≤ b
      · rw [if_pos h2, Int32.le_antisymm h2 (Int32.not_lt.mp h)]
      · rw [if_neg h2]
  · show (if b = 0 then some 0 else if b = 0 then none else some (a - a / b * b)) = some (if b = 0 then 0 else a - a / b * b)
    by_cases h : b = 0
    · rw [if_pos h, if_pos h]
    · rw [if_neg h, if_neg h, if_neg h]
theorem encC_op {t : Tk} (h0 : t.1 ≠ 0) (h1 : t.1 ≠ 1) (h8 : t.1 ≤ 8) : encC t = encC (t.1, 0) ∧ encC t < -7 := by
  obtain ⟨k, v⟩ := t
  have hc : k = 2 ∨ k = 3 ∨ k = 4 ∨ k = 5 ∨ k = 6 ∨ k = 7 ∨ k = 8 := by
    have h0 : k ≠ 0 := h0
    have h1 : k ≠ 1 := h1
    have h8 : k ≤ 8 := h8
    omega
  rcases hc with rfl | rfl | rfl | rfl | rfl | rfl | rfl
  · exact ⟨by simp [encC], by rw [show encC (_, v) = -8 by simp [encC]]; decide +kernel⟩
  · exact ⟨by simp [encC], by rw [show encC (_, v) = -9 by simp [encC]]; decide +kernel⟩
  · exact ⟨by simp [encC], by rw [show encC (_, v) = -10 by simp [encC]]; decide +kernel⟩
  · exact ⟨by simp [encC], by rw [show encC (_, v) = -11 by simp [encC]]; decide +kernel⟩
  · exact ⟨by simp [encC], by rw [show encC (_, v) = -13 by simp [encC]]; decide +kernel⟩
  · exact ⟨by simp [encC], by rw [show encC (_, v) = -14 by simp [encC]]; decide +kernel⟩
  · exact ⟨by simp [encC], by rw [show encC (_, v) = -12 by simp [encC]]; decide +kernel⟩
theorem encC_num {v : Nat} (h : v ≤ 999) : encC (0, v) = nI v ∧ ¬ nI v < -7 ∧ ¬ nI v < 0 := by
  refine ⟨rfl, fun h9 => ?_, nI_pos (by omega)⟩
  have h1 := Int32.lt_iff_toInt_lt.mp h9
  rw [nI_toInt (by omega)] at h1
  have h2 : (-7 : Int32).toInt = -7 := by decide
  omega
theorem encC_fact : ∀ v, v < 7 → ¬ encC (1, v) < -7 ∧ encC (1, v) < 0 ∧ -1 - encC (1, v) = nI v := by decide +kernel
theorem chk_lt : ∀ {c : List Tk} {d : Nat}, chk c d → d ≤ 32
  | [], d, h => by
    have h : d = 1 := h
    omega
  | t :: c, d, h => by
    unfold chk at h
    by_cases h0 : t.1 = 0
    · rw [if_pos h0] at h; omega
    · rw [if_neg h0] at h
      by_cases h1 : t.1 = 1
      · rw [if_pos h1] at h; omega
      · rw [if_neg h1] at h
        omega
theorem evT_len {env : Nat → Int32} {t : Tk} {c : List Tk} {S : List Int32} (h : chk (t :: c) S.length) : chk c (evT env t S).length := by
  unfold chk at h
  unfold evT
  by_cases h0 : t.1 = 0
  · rw [if_pos h0] at h ⊢; exact h.2.2
  · rw [if_neg h0] at h ⊢
    by_cases h1 : t.1 = 1
    · rw [if_pos h1] at h ⊢; exact h.2.2
    · rw [if_neg h1] at h ⊢
      match S, h with
      | b :: a :: r, h => exact h.2.2.2
      | [_], h => exact absurd h.2.1 (by simp)
      | [], h => exact absurd h.2.1 (by simp)
theorem getD_env (n1 n2 n3 n4 n5 n6 n7 : Int32) (V : Nat → Int32) : ∀ v, v < 7 → upd (upd (upd (upd (upd (upd (upd V 0 n1) 1 n2) 2 n3) 3 n4) 4 n5) 5 n6) 6 n7 v = envL n1 n2 n3 n4 n5 n6 n7 v := by
  intro v hv
  have hc : v = 0 ∨ v = 1 ∨ v = 2 ∨ v = 3 ∨ v = 4 ∨ v = 5 ∨ v = 6 := by omega
  rcases hc with rfl | rfl | rfl | rfl | rfl | rfl | rfl <;> rfl
theorem runN_le (env : Nat → Int32) (c : List Tk) : runN env c ≤ 8 := by
  unfold runN
  by_cases h : valL env c < 0
  · rw [if_pos h]; decide
  · rw [if_neg h]
    by_cases h2 : valL env c ≤ 8
    · rw [if_pos h2]
      obtain ⟨j, hj, e⟩ := nI_of2 (M := 8) (n := 8) (by decide) h h2
      rw [e, nI_clamp (by omega)]; exact hj
    · rw [if_neg h2]; exact Nat.le_refl _
theorem runN_val (env : Nat → Int32) (c : List Tk) : nI (runN env c) = (if valL env c < 0 then 0 else if valL env c ≤ 8 then valL env c else 8) := by
  unfold runN
  by_cases h : valL env c < 0
  · rw [if_pos h, if_pos h]; rfl
  · rw [if_neg h, if_neg h]
    by_cases h2 : valL env c ≤ 8
    · rw [if_pos h2, if_pos h2]
      obtain ⟨j, hj, e⟩ := nI_of2 (M := 8) (n := 8) (by decide) h h2
      rw [e, nI_clamp (by omega)]
    · rw [if_neg h2, if_neg h2]; rfl
theorem evL_drop {env : Nat → Int32} {c : List Tk} : ∀ (d k : Nat) (S : List Int32), k + d = c.length → itN (fun k S => evT env (c.getD k (0, 0)) S) d k S = evL env (c.drop k) S := by
  intro d
  induction d with
  | zero => intro k S hk; rw [List.drop_of_length_le (by omega)]; rfl
  | succ d ih =>
    intro k S hk
    have hlt : k < c.length := by omega
    rw [List.drop_eq_getElem_cons hlt]
    show itN _ d (k + 1) (evT env (c.getD k (0, 0)) S) = evL env (c.drop (k + 1)) (evT env c[k] S)
    rw [ih (k + 1) _ (by omega), List.getD_eq_getElem?_getD, List.getElem?_eq_getElem hlt]
    rfl
theorem one_of {S : List Int32} (h : S.length = 1) {f : Nat → Int32} (hs : Stk S f) : f 0 = S.headD 0 := by
  match S, h with
  | [a], _ => exact hs 0 Nat.one_pos
section LC
variable {c : List Tk} {l_code l_values l_stack : Nat → Int32} {l_length n1 n2 n3 n4 n5 n6 n7 : Int32}
theorem c_tells (hR : RLc c l_code l_length) (ok : OkL c) : ∃ va st, f_X1_tells l_code l_values l_stack l_length n1 n2 n3 n4 n5 n6 n7 = some (nI (runN (envL n1 n2 n3 n4 n5 n6 n7) c), va, st) := by
  obtain ⟨hlen, hcode⟩ := hR
  obtain ⟨hchk, h150⟩ := ok
  unfold f_X1_tells
  have env7 := getD_env n1 n2 n3 n4 n5 n6 n7 l_values
  simp (disch := omega) only [lit, ixb_nI, nI_cl, if_true]
  generalize hV : upd (upd (upd (upd (upd (upd (upd l_values 0 n1) 1 n2) 2 n3) 3 n4) 4 n5) 5 n6) 6 n7 = V at env7 ⊢
  generalize hE : envL n1 n2 n3 n4 n5 n6 n7 = env at env7 ⊢
  obtain ⟨⟨x, st⟩, e, ⟨q1, q2, q3⟩⟩ := loopR (A := List Int32) (C := Int32 × (Nat → Int32)) (F := fun n q y => f_X1_tells_60 l_code l_length n1 n2 n3 n4 n5 n6 n7 n q.1 y V q.2) (B := c.length) (step := fun k S => evT env (c.getD k (0, 0)) S) (fin := fun q => f_X1_tells_177 l_code l_length n1 n2 n3 n4 n5 n6 n7 V q.2) (Q := fun k S q => chk (c.drop k) S.length ∧ q.1 = nI S.length ∧ Stk S q.2) (fun n q => by
      show f_X1_tells_60 l_code l_length n1 n2 n3 n4 n5 n6 n7 (n + 1) q.1 (nI c.length) V q.2 = _
      rw [f_X1_tells_60, hlen, if_pos (Int32.le_refl _)]) (fun n S q k hk hq => by
      obtain ⟨x, st⟩ := q
      obtain ⟨g1, g2, g3⟩ := hq
      have g2 : x = nI S.length := g2
      have g3 : Stk S st := g3
      have ht := hcode k hk
      rw [List.drop_eq_getElem_cons hk] at g1
      have hgd : c.getD k (0, 0) = c[k] := by rw [List.getD_eq_getElem?_getD, List.getElem?_eq_getElem hk]; rfl
      show ∃ c' : Int32 × (Nat → Int32), f_X1_tells_60 l_code l_length n1 n2 n3 n4 n5 n6 n7 (n + 1) x (nI k) V st = f_X1_tells_60 l_code l_length n1 n2 n3 n4 n5 n6 n7 n c'.1 (nI (k + 1)) V c'.2 ∧ chk (c.drop (k + 1)) (evT env (c.getD k (0, 0)) S).length ∧ c'.1 = nI (evT env (c.getD k (0, 0)) S).length ∧ Stk (evT env (c.getD k (0, 0)) S) c'.2
      rw [hgd] at ht ⊢
      have gN := evT_len (env := env) g1
      have g0 := g1
      generalize c[k] = t at g0 g1 ht gN ⊢
      rw [f_X1_tells_60, hlen]
      simp (disch := omega) only [nI_leJ, ixb_nI, nI_cl, if_true, ht, lit]
      rw [if_neg (by omega), if_neg (by omega), g2]
      obtain ⟨tk, tv⟩ := t
      unfold chk at g1
      unfold evT at gN ⊢
      by_cases h0 : tk = 0
      · subst h0
        obtain ⟨v999, d32, -⟩ : tv ≤ 999 ∧ S.length < 32 ∧ _ := g1
        obtain ⟨e1, e2, e3⟩ := encC_num v999
        have e2 : ¬ nI tv < -nI 7 := e2
        have e3 : ¬ nI tv < nI 0 := e3
        rw [e1, if_neg e2, if_neg (by rw [nI_leJ (by decide) (by omega)]; omega), if_neg e3]
        simp (disch := omega) only [nI_add, ixb_nI, nI_cl, if_true]
        exact ⟨(_, _), rfl, gN, rfl, g3.push _⟩
      · by_cases h1 : tk = 1
        · subst h1
          obtain ⟨v7, d32, -⟩ : tv < 7 ∧ S.length < 32 ∧ _ := g1
          obtain ⟨e1, e2, e3⟩ := encC_fact tv v7
          have e1 : ¬ encC (1, tv) < -nI 7 := e1
          have e2 : encC (1, tv) < nI 0 := e2
          have e3 : -nI 1 - encC (1, tv) = nI tv := e3
          rw [if_neg e1, if_neg (by rw [nI_leJ (by decide) (by omega)]; omega), if_pos e2, e3]
          simp (disch := omega) only [nI_add, ixb_nI, nI_cl, if_true, env7 tv v7]
          exact ⟨(_, _), rfl, gN, rfl, g3.push _⟩
        · have g1 : tk ≤ 8 ∧ 2 ≤ S.length ∧ S.length ≤ 32 ∧ chk (c.drop (k + 1)) (S.length - 1) := by
            have := g1
            rw [if_neg (show ¬ (tk, tv).1 = 0 from h0), if_neg (show ¬ (tk, tv).1 = 1 from h1)] at this
            exact this
          obtain ⟨k8, d2, d32, -⟩ := g1
          obtain ⟨e1, e2⟩ := encC_op (t := (tk, tv)) h0 h1 k8
          have e2 : encC (tk, tv) < -nI 7 := e2
          match S, d2, d32, gN, g3 with
          | b :: a :: r, d2, d32, gN, g3 =>
            have gN : chk (c.drop (k + 1)) (opV tk a b :: r).length := by
              have := gN
              rw [if_neg (show ¬ (tk, tv).1 = 0 from h0), if_neg (show ¬ (tk, tv).1 = 1 from h1)] at this
              exact this
            rw [if_neg (show ¬ (tk, tv).1 = 0 from h0), if_neg (show ¬ (tk, tv).1 = 1 from h1)]
            show ∃ c' : Int32 × (Nat → Int32), _ = _ ∧ chk (c.drop (k + 1)) (opV tk a b :: r).length ∧ c'.1 = nI (opV tk a b :: r).length ∧ Stk (opV tk a b :: r) c'.2
            obtain ⟨t1, t2⟩ := g3.top2
            have hm1 : nI (b :: a :: r).length + -nI 1 = nI (r.length + 1) := by
              show nI (r.length + 1 + 1) + -1 = _
              rw [← nI_1 (r.length + 1), Int32.add_assoc]
              show nI (r.length + 1) + (1 + -1) = _
              rw [show (1 : Int32) + -1 = 0 by decide, Int32.add_zero]
            rw [List.length_cons, List.length_cons] at d32
            have h2n : ¬ nI (b :: a :: r).length < nI 2 := nI_nlt (show 2 ≤ r.length + 1 + 1 by omega) (show r.length + 1 + 1 < 2 ^ 31 by omega)
            rw [if_pos e2, if_neg h2n]
            simp only [hm1]
            simp (disch := omega) only [nI_sub, Nat.add_sub_cancel, ixb_nI, nI_cl, if_true, t1, t2]
            rw [e1, c_joined a b (by omega) k8, b1_s]
            simp (disch := omega) only [nI_add]
            exact ⟨(_, _), rfl, gN, rfl, g3.join⟩)
      c.length 0 FU [] (0, l_stack) (by omega) (FU_gt (by omega)) ⟨hchk, rfl, fun j hj => absurd hj (Nat.not_lt_zero _)⟩
  have e : f_X1_tells_60 l_code l_length n1 n2 n3 n4 n5 n6 n7 FU 0 0 V l_stack = _ := e
  rw [evL_drop c.length 0 [] (by omega)] at q1 q3
  rw [show (nI 0) = (0 : Int32) from rfl, e]
  rw [List.drop_length] at q1
  have q1 : (evL env (c.drop 0) []).length = 1 := q1
  have hv := one_of q1 q3
  have hv : st 0 = valL env c := hv
  show ∃ va st', f_X1_tells_177 l_code l_length n1 n2 n3 n4 n5 n6 n7 V st = _
  unfold f_X1_tells_177
  simp (disch := omega) only [lit, ixb_nI, nI_cl, if_true, hv]
  rw [runN_val]
  by_cases h : valL env c < 0
  · have h9 : ¬ nI 0 ≤ valL env c := Int32.not_le.mpr h
    rw [if_pos h, if_neg h9]; exact ⟨_, _, rfl⟩
  · have h9 : nI 0 ≤ valL env c := Int32.not_lt.mp h
    rw [if_neg h, if_pos h9]
    by_cases h2 : valL env c ≤ 8
    · rw [if_pos h2]
      have h2 : valL env c ≤ nI 8 := h2
      rw [if_pos h2]; exact ⟨_, _, rfl⟩
    · rw [if_neg h2]
      have h2 : ¬ valL env c ≤ nI 8 := h2
      rw [if_neg h2]; exact ⟨_, _, rfl⟩
end LC

/-! ===== stuff: sets of letters, the most seams ===== -/
def clr (S o : Nat) : Nat := if S.testBit o then S - 2 ^ o else S
theorem st_clr : ∀ S, S < 64 → ∀ o, o < 6 → nI S &&& (((1 : Int32) <<< (nI o &&& 31)) ^^^ (-1)) = nI (clr S o) := by decide +kernel
theorem st_has : ∀ S, S < 64 → ∀ o, o < 6 → f_X9_has (nI S) (nI o) = some (if S.testBit o then 1 else 0) := by decide +kernel
theorem st_bit : ∀ S, S < 64 → ∀ o, o < 6 → (nI S >>> (nI o &&& 31)) &&& 1 = (if S.testBit o then 1 else 0) := by decide +kernel
theorem st_ix : ∀ S, S < 64 → ∀ o, o < 6 → (nI o <<< ((6 : Int32) &&& 31)) ||| nI S = nI (64 * o + S) := by decide +kernel
theorem st_an : ∀ S, S < 64 → ∀ o, o < 6 → S &&& 2 ^ o = if S.testBit o then 2 ^ o else 0 := by decide +kernel
theorem st_lt : ∀ S, S < 64 → ∀ o, o < 6 → S.testBit o = true → clr S o < S := by decide +kernel
theorem st_le : ∀ S, S < 64 → ∀ o, o < 6 → clr S o ≤ S := by decide +kernel
theorem st_sub : ∀ S, S < 64 → ∀ o, o < 6 → ∀ i, i < 6 → (clr S o).testBit i = true → S.testBit i = true := by decide +kernel
theorem st_pc : ∀ S, S < 64 → ∀ o, o < 6 → S.testBit o = true → pcN (clr S o) + 1 = pcN S := by decide +kernel
theorem st_hi {S o : Nat} (hS : S < 64) (ho : 6 ≤ o) : S.testBit o = false := Nat.testBit_lt_two_pow (Nat.lt_of_lt_of_le hS (Nat.pow_le_pow_right (n := 2) (i := 6) (j := o) (by decide) ho))
theorem st_zero {S : Nat} (hS : S < 64) (h : ∀ o, o < 6 → S.testBit o = false) : S = 0 := Nat.eq_of_testBit_eq (fun i => by
  rw [Nat.zero_testBit]
  rcases Nat.lt_or_ge i 6 with h1 | h1
  · exact h i h1
  · exact st_hi hS h1)
/-- is the last word of the one the first that is left of the other one -/
def sm (π : Pg) (σ : Sg) (l o : Nat) : Nat := if gLeft π σ o ≠ 0 ∧ gWd π l (gLe π l - 1) = gWd π o (gGo σ o) then 1 else 0
theorem sm_le (π : Pg) (σ : Sg) (l o : Nat) : sm π σ l o ≤ 1 := by
  unfold sm
  by_cases h : gLeft π σ o ≠ 0 ∧ gWd π l (gLe π l - 1) = gWd π o (gGo σ o)
  · rw [if_pos h]; exact Nat.le_refl _
  · rw [if_neg h]; exact Nat.zero_le _
def TT (s : Nat → Nat → Nat) : Nat → Nat → Nat → Nat
  | 0, _, _ => 0
  | n + 1, S, l => itN (fun o a => if S.testBit o then max a (s l o + TT s n (clr S o) o) else a) 6 0 0
theorem TT_z (s : Nat → Nat → Nat) (n l : Nat) : TT s n 0 l = 0 := by
  cases n with
  | zero => rfl
  | succ n => exact itN_skip 6 0 0 (fun i b _ _ => by
      show (if (0 : Nat).testBit i then _ else _) = _
      rw [Nat.zero_testBit, if_neg (by decide)])
theorem TT_ind (s : Nat → Nat → Nat) : ∀ (K S : Nat), S ≤ K → S < 64 → ∀ (n m : Nat), S ≤ n → S ≤ m → ∀ l, TT s n S l = TT s m S l := by
  intro K
  induction K with
  | zero =>
    intro S h _ n m _ _ l
    obtain rfl : S = 0 := by omega
    rw [TT_z, TT_z]
  | succ K ih =>
    intro S h h64 n m hn hm l
    by_cases h0 : S = 0
    · subst h0; rw [TT_z, TT_z]
    · obtain ⟨n, rfl⟩ : ∃ j, n = j + 1 := ⟨n - 1, by omega⟩
      obtain ⟨m, rfl⟩ : ∃ j, m = j + 1 := ⟨m - 1, by omega⟩
      refine itN_congr (B := 6) (fun o a ho => ?_) 6 0 0 rfl
      show (if S.testBit o then max a (s l o + TT s n (clr S o) o) else a) = (if S.testBit o then max a (s l o + TT s m (clr S o) o) else a)
      by_cases hb : S.testBit o = true
      · have hl := st_lt S h64 o ho hb
        rw [if_pos hb, if_pos hb, ih (clr S o) (by omega) (by omega) n m (by omega) (by omega) o]
      · rw [if_neg hb, if_neg hb]
theorem TT_le (s : Nat → Nat → Nat) (hs : ∀ l o, s l o ≤ 1) : ∀ (n S l : Nat), TT s n S l ≤ n := by
  intro n
  induction n with
  | zero => intro S l; exact Nat.le_refl _
  | succ n ih =>
    intro S l
    exact itN_inv (step := fun o a => if S.testBit o then max a (s l o + TT s n (clr S o) o) else a) (P := fun _ a => a ≤ n + 1) (B := 6) (fun o a _ ha => by
      show (if S.testBit o then max a (s l o + TT s n (clr S o) o) else a) ≤ n + 1
      by_cases hb : S.testBit o = true
      · rw [if_pos hb]
        have h1 := hs l o
        have h2 := ih (clr S o) o
        exact Nat.max_le.mpr ⟨ha, by omega⟩
      · rw [if_neg hb]; exact ha) 6 0 0 rfl (Nat.zero_le _)
/-- the most seams that still come behind a letter, the letters of the set being left -/
def VV (π : Pg) (σ : Sg) (S l : Nat) : Nat := TT (sm π σ) S S l
def wf (π : Pg) (σ : Sg) (bf : Option Nat) (S o : Nat) : Nat := (match bf with
  | none => 0
  | some l => sm π σ l o) + VV π σ (clr S o) o
theorem VV_le {π : Pg} {σ : Sg} (S l : Nat) : VV π σ S l ≤ S := TT_le _ (sm_le π σ) S S l
theorem wf_le {π : Pg} {σ : Sg} {bf : Option Nat} {S o : Nat} (hS : S < 64) (ho : o < 6) : wf π σ bf S o ≤ 65 := by
  have h1 : VV π σ (clr S o) o ≤ clr S o := VV_le (clr S o) o
  have h2 := st_le S hS o ho
  unfold wf
  cases bf with
  | none => show 0 + VV π σ (clr S o) o ≤ 65; omega
  | some l =>
    have h3 := sm_le π σ l o
    show sm π σ l o + VV π σ (clr S o) o ≤ 65
    omega
theorem VV_eq {π : Pg} {σ : Sg} {S : Nat} (hS : S < 64) (l : Nat) : VV π σ S l = itN (fun o a => if S.testBit o then max a (wf π σ (some l) S o) else a) 6 0 0 := by
  unfold VV
  rw [TT_ind (sm π σ) S S (Nat.le_refl _) hS S (S + 1) (Nat.le_refl _) (by omega) l]
  refine itN_congr (B := 6) (fun o a ho => ?_) 6 0 0 rfl
  have hl := st_le S hS o ho
  show (if S.testBit o then max a (sm π σ l o + TT (sm π σ) S (clr S o) o) else a) = (if S.testBit o then max a (sm π σ l o + TT (sm π σ) (clr S o) (clr S o) o) else a)
  rw [TT_ind (sm π σ) (clr S o) (clr S o) (Nat.le_refl _) (by omega) S (clr S o) hl (Nat.le_refl _) o]
/-- the first of the set by which it is most -/
def stA (w : Nat → Nat) (S o : Nat) (a : Option Nat) : Option Nat := if S.testBit o then (match a with
  | none => some o
  | some p => if w o ≤ w p then some p else some o) else a
def argm (w : Nat → Nat) (S : Nat) : Option Nat := itN (stA w S) 6 0 none
def obV (w : Nat → Nat) : Option Nat → Nat
  | none => 0
  | some p => w p
theorem argm_V (w : Nat → Nat) (S : Nat) : itN (fun o a => if S.testBit o then max a (w o) else a) 6 0 0 = obV w (argm w S) := by
  have h : ∀ (d k : Nat) (x : Option Nat), itN (fun o a => if S.testBit o then max a (w o) else a) d k (obV w x) = obV w (itN (stA w S) d k x) := by
    intro d
    induction d with
    | zero => intro k x; rfl
    | succ d ih =>
      intro k x
      show itN _ d (k + 1) (if S.testBit k then max (obV w x) (w k) else obV w x) = obV w (itN (stA w S) d (k + 1) (stA w S k x))
      rw [← ih (k + 1) (stA w S k x)]
      congr 1
      unfold stA
      by_cases hb : S.testBit k = true
      · rw [if_pos hb, if_pos hb]
        cases x with
        | none => exact Nat.max_eq_right (Nat.zero_le _)
        | some p =>
          show max (w p) (w k) = obV w (if w k ≤ w p then some p else some k)
          by_cases hc : w k ≤ w p
          · rw [if_pos hc, Nat.max_eq_left hc]; rfl
          · rw [if_neg hc, Nat.max_eq_right (by omega)]; rfl
      · rw [if_neg hb, if_neg hb]
  exact h 6 0 none
theorem stA_ok {w : Nat → Nat} {S o : Nat} (ho : o < 6) {a : Option Nat} (h : ∀ p, a = some p → S.testBit p = true ∧ p < 6) : ∀ p, stA w S o a = some p → S.testBit p = true ∧ p < 6 := by
  intro p hp
  unfold stA at hp
  by_cases hb : S.testBit o = true
  · rw [if_pos hb] at hp
    cases a with
    | none => cases hp; exact ⟨hb, ho⟩
    | some q =>
      have hp : (if w o ≤ w q then some q else some o) = some p := hp
      by_cases hc : w o ≤ w q
      · rw [if_pos hc] at hp; cases hp; exact h _ rfl
      · rw [if_neg hc] at hp; cases hp; exact ⟨hb, ho⟩
  · rw [if_neg hb] at hp; exact h p hp
theorem argm_ok {w : Nat → Nat} {S p : Nat} (h : argm w S = some p) : S.testBit p = true ∧ p < 6 :=
  itN_inv (step := stA w S) (P := fun _ a => ∀ p, a = some p → S.testBit p = true ∧ p < 6) (B := 6) (fun o a ho ha => stA_ok ho ha) 6 0 none rfl (fun p hp => by cases hp) p h
theorem argm_none {w : Nat → Nat} {S : Nat} (hS : S < 64) (h : argm w S = none) : S = 0 := by
  refine st_zero hS ?_
  exact itN_inv (step := stA w S) (P := fun k a => a = none → ∀ o, o < k → S.testBit o = false) (B := 6) (fun k a _ ha hn o ho => by
    unfold stA at hn
    by_cases hb : S.testBit k = true
    · rw [if_pos hb] at hn
      cases a with
      | none => cases hn
      | some q =>
        have hn : (if w k ≤ w q then some q else some k) = none := hn
        by_cases hc : w k ≤ w q
        · rw [if_pos hc] at hn; cases hn
        · rw [if_neg hc] at hn; cases hn
    · rw [if_neg hb] at hn
      by_cases e : o = k
      · rw [e]; exact Bool.eq_false_iff.mpr hb
      · exact ha hn o (by omega)) 6 0 none rfl (fun _ o ho => absurd ho (Nat.not_lt_zero _)) h
theorem argm_zero (w : Nat → Nat) : argm w 0 = none := itN_skip 6 0 none (fun i b _ _ => by
  unfold stA
  rw [Nat.zero_testBit, if_neg (by decide)])
/-- the letters, in the order in which they are stuffed in -/
def ordr (π : Pg) (σ : Sg) : Nat → Option Nat → Nat → List Nat
  | 0, _, _ => []
  | n + 1, bf, S => match argm (wf π σ bf S) S with
    | none => []
    | some p => p :: ordr π σ n (some p) (clr S p)
/-- those with any word left, as bits -/
def eSet (π : Pg) (σ : Sg) : Nat := itN (fun l a => a ||| (if gLeft π σ l = 0 then 0 else 2 ^ l)) (gL π) 0 0
theorem eSet_bit (π : Pg) (σ : Sg) (o : Nat) : (eSet π σ).testBit o = true ↔ o < gL π ∧ gLeft π σ o ≠ 0 := by
  have h : ∀ d, (itN (fun l a => a ||| (if gLeft π σ l = 0 then 0 else 2 ^ l)) d 0 0).testBit o = true ↔ o < d ∧ gLeft π σ o ≠ 0 := by
    intro d
    induction d with
    | zero =>
      show (0 : Nat).testBit o = true ↔ _
      rw [Nat.zero_testBit]
      exact ⟨fun h => (by cases h), fun h => absurd h.1 (Nat.not_lt_zero _)⟩
    | succ d ih =>
      rw [itN_end, Nat.zero_add, Nat.testBit_or, Bool.or_eq_true, ih]
      by_cases hz : gLeft π σ d = 0
      · rw [if_pos hz, Nat.zero_testBit]
        refine ⟨fun h => ?_, fun h => Or.inl ⟨?_, h.2⟩⟩
        · rcases h with h | h
          · exact ⟨by omega, h.2⟩
          · cases h
        · have : o ≠ d := fun e => h.2 (by rw [e]; exact hz)
          omega
      · rw [if_neg hz, Nat.testBit_two_pow, decide_eq_true_iff]
        refine ⟨fun h => ?_, fun h => ?_⟩
        · rcases h with h | h
          · exact ⟨by omega, h.2⟩
          · subst h; exact ⟨Nat.lt_succ_self _, hz⟩
        · by_cases e : d = o
          · exact Or.inr e
          · exact Or.inl ⟨by omega, h.2⟩
  exact h (gL π)
theorem eSet_lt (π : Pg) (σ : Sg) : eSet π σ < 2 ^ gL π := Nat.lt_pow_two_of_testBit _ (fun i hi => Bool.eq_false_iff.mpr (fun h => absurd ((eSet_bit π σ i).mp h).1 (by omega)))
def SubE (π : Pg) (σ : Sg) (S : Nat) : Prop := ∀ o, S.testBit o = true → o < gL π ∧ gLeft π σ o ≠ 0
theorem subE_clr {π : Pg} {σ : Sg} {S o : Nat} (hS : S < 64) (ho : o < 6) (h : SubE π σ S) : SubE π σ (clr S o) := fun i hi => by
  rcases Nat.lt_or_ge i 6 with h1 | h1
  · exact h i (st_sub S hS o ho i h1 hi)
  · have h2 := st_le S hS o ho
    rw [st_hi (by omega) h1] at hi
    cases hi
theorem lt_set {π : Pg} (ok : OkP π) {S o : Nat} (hS : S < 2 ^ gL π) (hb : S.testBit o = true) : o < gL π := by
  rcases Nat.lt_or_ge o (gL π) with h | h
  · exact h
  · have h1 : S < 2 ^ o := Nat.lt_of_lt_of_le hS (Nat.pow_le_pow_right (by decide) h)
    rw [Nat.testBit_lt_two_pow h1] at hb
    cases hb
section KS
variable {π : Pg} {σ : Sg} {s_year s_wet s_lost s_eaten s_tied s_ripeMany : Int32} {s_gone s_place s_heard s_many s_lying s_ripe : Nat → Int32}
variable {p_beds p_letters p_readers : Int32} {p_far p_drain p_length p_words p_home : Nat → Int32}
theorem c_worth {fs ft : Nat → Int32} {bf : Option Nat} {S o : Nat} (hS : S < 64) (ho : o < 6) (hs : ∀ l, bf = some l → l < 6 ∧ fs (l * 6 + o) = nI (sm π σ l o)) (ht : ft (clr S o * 6 + o) = nI (VV π σ (clr S o) o)) : f_X5_worth fs ft (obI bf) (nI o) (nI S) = some (nI (wf π σ bf S o)) := by
  have hc := st_le S hS o ho
  have h20 : ∀ (n1 : Int32) (y : Nat), f_X5_worth_20 fs ft n1 (nI o) (nI S) (nI y) = some (nI (y + VV π σ (clr S o) o)) := by
    intro n1 y
    unfold f_X5_worth_20
    rw [st_clr S hS o ho, show (nI (clr S o) * 6) + nI o = nI (clr S o * 6 + o) by rw [show (6 : Int32) = nI 6 from rfl, nI_mul, nI_add], ixb_nI (by omega) (by omega), if_pos rfl, nI_cl (by omega), ht, nI_add]
  unfold f_X5_worth wf
  cases bf with
  | none =>
    show (if (-1 : Int32) = -1 then f_X5_worth_20 fs ft (-1) (nI o) (nI S) (nI 0) else _) = _
    rw [if_pos rfl, h20]
  | some l =>
    obtain ⟨hl, e⟩ := hs l rfl
    show (if nI l = -1 then f_X5_worth_20 fs ft (nI l) (nI o) (nI S) 0 else if ixb ((nI l * 6) + nI o) 36 then f_X5_worth_20 fs ft (nI l) (nI o) (nI S) (fs ((nI l * 6) + nI o).toNatClampNeg) else none) = _
    rw [show (nI l * 6) + nI o = nI (l * 6 + o) by rw [show (6 : Int32) = nI 6 from rfl, nI_mul, nI_add], ite_M (by omega), ixb_nI (by omega) (by omega), if_pos rfl, nI_cl (by omega), e, h20]
theorem c_best {fs ft : Nat → Int32} {bf : Option Nat} {S : Nat} (hS : S < 64) (hw : ∀ o, o < 6 → S.testBit o = true → f_X5_worth fs ft (obI bf) (nI o) (nI S) = some (nI (wf π σ bf S o))) : f_X5_bestBehind fs ft (obI bf) (nI S) = some (obI (argm (wf π σ bf S) S)) := by
  unfold f_X5_bestBehind
  obtain ⟨c', e, q, -⟩ := loopR (A := Option Nat) (C := Int32) (F := fun m c x => f_X5_bestBehind_5 fs ft (obI bf) (nI S) m c x) (B := 6) (step := stA (wf π σ bf S) S) (fin := some) (Q := fun _ a c => c = obI a ∧ ∀ p, a = some p → S.testBit p = true ∧ p < 6) (fun m c => by
      show f_X5_bestBehind_5 fs ft (obI bf) (nI S) (m + 1) c (nI 6) = _
      rw [f_X5_bestBehind_5, if_pos (by decide)]) (fun m a c o ho hc => by
      obtain ⟨rfl, ha⟩ := hc
      refine ⟨obI (stA (wf π σ bf S) S o a), ?_, rfl, stA_ok ho ha⟩
      show f_X5_bestBehind_5 fs ft (obI bf) (nI S) (m + 1) (obI a) (nI o) = f_X5_bestBehind_5 fs ft (obI bf) (nI S) m _ (nI (o + 1))
      rw [f_X5_bestBehind_5, if_neg (by rw [show (6 : Int32) = nI 6 from rfl, nI_leJ (by omega) (by omega)]; omega), st_has S hS o ho, b1_s, nI_1]
      unfold stA
      by_cases hb : S.testBit o = true
      · rw [if_pos hb, if_pos hb, if_neg (by decide)]
        cases a with
        | none => rfl
        | some p =>
          obtain ⟨hp, hp6⟩ := ha p rfl
          have h1 := wf_le (π := π) (σ := σ) (bf := bf) hS ho
          have h2 := wf_le (π := π) (σ := σ) (bf := bf) hS hp6
          show (if nI p = -1 then _ else b1 (f_X5_worth fs ft (obI bf) (nI o) (nI S)) (fun v2 => b1 (f_X5_worth fs ft (obI bf) (nI p) (nI S)) (fun v3 => if v2 ≤ v3 then f_X5_bestBehind_5 fs ft (obI bf) (nI S) m (nI p) (nI (o + 1)) else f_X5_bestBehind_5 fs ft (obI bf) (nI S) m (nI o) (nI (o + 1))))) = f_X5_bestBehind_5 fs ft (obI bf) (nI S) m (obI (if wf π σ bf S o ≤ wf π σ bf S p then some p else some o)) (nI (o + 1))
          rw [ite_M (by omega), hw o ho hb, b1_s, hw p hp6 hp, b1_s, ite_le (by omega) (by omega)]
          by_cases hc : wf π σ bf S o ≤ wf π σ bf S p
          · rw [if_pos hc, if_pos hc]; rfl
          · rw [if_neg hc, if_neg hc]; rfl
      · rw [if_neg hb, if_neg hb, if_pos rfl]) 6 0 FU none (-1) rfl (FU_gt (by omega)) ⟨rfl, fun p hp => by cases hp⟩
  have q : c' = obI (argm (wf π σ bf S) S) := q
  rw [← q]; exact e
theorem c_choose17 (ok : OkP π) {n1 : Int32} {fs ft : Nat → Int32} (hs : ∀ l o, l < gL π → o < gL π → fs (l * 6 + o) = nI (sm π σ l o)) (ht : ∀ S l, S < 2 ^ gL π → l < gL π → ft (S * 6 + l) = nI (VV π σ S l)) : ∀ (d : Nat) (bf : Option Nat) (S i m : Nat) (ord : Nat → Int32) (se : Int32), S < 2 ^ gL π → (∀ l, bf = some l → l < gL π) → pcN S ≤ d → pcN S + i ≤ 6 → d < m → ∃ ord', f_X5_choose_17 fs ft n1 m (nI S) (obI bf) (nI i) ord (nI i) se = some (ord', nI (i + (ordr π σ d bf S).length), if i = 0 ∧ S ≠ 0 then nI (obV (wf π σ bf S) (argm (wf π σ bf S) S)) else se) ∧ (∀ t, t < (ordr π σ d bf S).length → ord' (i + t) = nI ((ordr π σ d bf S).getD t 0)) ∧ ∀ t, t < i → ord' t = ord t := by
  have hL := ok.2.1
  have h64 := pow6 (gL π) hL
  intro d
  induction d with
  | zero =>
    intro bf S i m ord se hS hbf hd h6 hm
    obtain ⟨m, rfl⟩ : ∃ j, m = j + 1 := ⟨m - 1, by omega⟩
    have hz : S = 0 := by
      refine st_zero (by omega) (fun o ho => ?_)
      by_cases hb : S.testBit o = true
      · have := st_pc S (by omega) o ho hb; omega
      · exact Bool.eq_false_iff.mpr hb
    subst hz
    refine ⟨ord, ?_, fun t ht => absurd ht (Nat.not_lt_zero _), fun _ _ => rfl⟩
    rw [f_X5_choose_17, if_neg (show ¬ (i = 0 ∧ (0 : Nat) ≠ 0) from fun h => h.2 rfl), if_pos (show nI 0 = 0 from rfl)]
    show (if (6 : Int32) ≤ nI i then some (ord, nI i, se) else some (ord, nI i, se)) = some (ord, nI i, se)
    by_cases h : (6 : Int32) ≤ nI i
    · rw [if_pos h]
    · rw [if_neg h]
  | succ d ih =>
    intro bf S i m ord se hS hbf hd h6 hm
    obtain ⟨m, rfl⟩ : ∃ j, m = j + 1 := ⟨m - 1, by omega⟩
    by_cases hz : S = 0
    · subst hz
      have e0 : ordr π σ (d + 1) bf 0 = [] := by
        unfold ordr
        rw [argm_zero]
      rw [e0]
      refine ⟨ord, ?_, fun t ht => absurd ht (Nat.not_lt_zero _), fun _ _ => rfl⟩
      rw [f_X5_choose_17, if_neg (show ¬ (i = 0 ∧ (0 : Nat) ≠ 0) from fun h => h.2 rfl), if_pos (show nI 0 = 0 from rfl)]
      show (if (6 : Int32) ≤ nI i then some (ord, nI i, se) else some (ord, nI i, se)) = some (ord, nI i, se)
      by_cases h : (6 : Int32) ≤ nI i
      · rw [if_pos h]
      · rw [if_neg h]
    · have hw : ∀ o, o < 6 → S.testBit o = true → f_X5_worth fs ft (obI bf) (nI o) (nI S) = some (nI (wf π σ bf S o)) := fun o ho hb => by
        have ho2 := lt_set ok hS hb
        have hc := st_le S (by omega) o ho
        exact c_worth (by omega) ho (fun l hl => ⟨by have := hbf l hl; omega, hs l o (hbf l hl) ho2⟩) (ht _ _ (by omega) ho2)
      have hbest := c_best (π := π) (σ := σ) (by omega) hw
      cases ha : argm (wf π σ bf S) S with
      | none => exact absurd (argm_none (by omega) ha) hz
      | some p =>
        obtain ⟨hp, hp6⟩ := argm_ok ha
        have hpL := lt_set ok hS hp
        have hpc := st_pc S (by omega) p hp6 hp
        have hcl := st_lt S (by omega) p hp6 hp
        rw [ha] at hbest
        have eo : ordr π σ (d + 1) bf S = p :: ordr π σ d (some p) (clr S p) := by
          show (match argm (wf π σ bf S) S with
            | none => []
            | some p => p :: ordr π σ d (some p) (clr S p)) = _
          rw [ha]
        have e64 : ∀ y1 : Int32, ∃ ord', f_X5_choose_64 fs ft n1 (f_X5_choose_17 fs ft n1 m) (nI S) (nI i) (nI p) y1 ord (nI i) se = some (ord', nI (i + (ordr π σ (d + 1) bf S).length), y1) ∧ (∀ t, t < (ordr π σ (d + 1) bf S).length → ord' (i + t) = nI ((ordr π σ (d + 1) bf S).getD t 0)) ∧ ∀ t, t < i → ord' t = ord t := by
          intro y1
          obtain ⟨ord', e1, q1, q2⟩ := ih (some p) (clr S p) (i + 1) m (upd ord i (nI p)) y1 (by omega) (fun l hl => by cases hl; exact hpL) (by omega) (by omega) (by omega)
          refine ⟨ord', ?_, fun t ht => ?_, fun t ht => ?_⟩
          · unfold f_X5_choose_64
            rw [ixb_nI (by omega) (by omega), if_pos rfl, st_clr S (by omega) p hp6, nI_1, nI_cl (by omega)]
            refine Eq.trans e1 ?_
            rw [if_neg (show ¬ (i + 1 = 0 ∧ clr S p ≠ 0) from fun h => absurd h.1 (Nat.succ_ne_zero _)), eo, List.length_cons, show i + 1 + (ordr π σ d (some p) (clr S p)).length = i + ((ordr π σ d (some p) (clr S p)).length + 1) by omega]
          · rw [eo] at ht ⊢
            rw [List.length_cons] at ht
            cases t with
            | zero =>
              rw [Nat.add_zero, q2 i (by omega), upd_s]; rfl
            | succ t =>
              rw [show i + (t + 1) = i + 1 + t by omega, q1 t (by omega)]; rfl
          · rw [q2 t (by omega), upd_n (by omega)]
        rw [f_X5_choose_17, if_neg (by rw [show (6 : Int32) = nI 6 from rfl, nI_leJ (by omega) (by omega)]; omega), if_neg (by rw [show (0 : Int32) = nI 0 from rfl, nI_eqI (by omega) (by omega)]; exact hz), hbest, b1_s]
        show ∃ ord', (if nI p = -1 then _ else if nI i = 0 then b1 (f_X5_worth fs ft (obI bf) (nI p) (nI S)) (fun v2 => f_X5_choose_64 fs ft n1 (f_X5_choose_17 fs ft n1 m) (nI S) (nI i) (nI p) v2 ord (nI i) se) else f_X5_choose_64 fs ft n1 (f_X5_choose_17 fs ft n1 m) (nI S) (nI i) (nI p) se ord (nI i) se) = _ ∧ _
        rw [ite_M (by omega), hw p hp6 hp, b1_s, ite_eq0 (by omega)]
        by_cases hi : i = 0
        · rw [if_pos hi, if_pos ⟨hi, hz⟩]
          exact e64 _
        · rw [if_neg hi, if_neg (fun h => hi h.1)]
          exact e64 _
theorem c_find123 (ok : OkP π) (hp : p_letters = nI (gL π)) {fo fs : Nat → Int32} {fp fse x3 : Int32} {S : Nat} (hS : S < 2 ^ gL π) {k109 : Int32 → Int32 → (Nat → Int32) → (Nat → Int32) → (Nat → Int32) → Int32 → Int32 → Option ((Nat → Int32) × (Nat → Int32) × (Nat → Int32) × Int32 × Int32)} (hs : ∀ l o, l < gL π → o < gL π → fs (l * 6 + o) = nI (sm π σ l o)) {ft : Nat → Int32} (ht : ∀ S' l, S' < S → l < gL π → ft (S' * 6 + l) = nI (VV π σ S' l)) : ∃ ft', f_X5_find_123 s_gone p_letters p_length p_words k109 FU x3 (nI S) 0 fo fs ft fp fse = k109 x3 (nI (S + 1)) fo fs ft' fp fse ∧ ∀ S' l, S' < S + 1 → l < gL π → ft' (S' * 6 + l) = nI (VV π σ S' l) := by
  have hL := ok.2.1
  have h64 := pow6 (gL π) hL
  obtain ⟨c', e, q⟩ := loopR (A := Unit) (C := Nat → Int32) (F := fun m c x => f_X5_find_123 s_gone p_letters p_length p_words k109 m x3 (nI S) x fo fs c fp fse) (B := gL π) (step := fun _ _ => ()) (fin := fun c => k109 x3 (nI (S + 1)) fo fs c fp fse) (Q := fun l' _ c => ∀ S' l, (S' < S ∨ (S' = S ∧ l < l')) → l < gL π → c (S' * 6 + l) = nI (VV π σ S' l)) (fun m c => by
      show f_X5_find_123 s_gone p_letters p_length p_words k109 (m + 1) x3 (nI S) (nI (gL π)) fo fs c fp fse = _
      rw [f_X5_find_123, hp, if_pos (Int32.le_refl _), nI_1]) (fun m _ c l hl hc => by
      have hw : ∀ o, o < 6 → S.testBit o = true → f_X5_worth fs c (obI (some l)) (nI o) (nI S) = some (nI (wf π σ (some l) S o)) := fun o ho hb => by
        have ho2 := lt_set ok hS hb
        exact c_worth (by omega) ho (fun j hj => by cases hj; exact ⟨by omega, hs l o hl ho2⟩) (hc _ _ (Or.inl (st_lt S (by omega) o ho hb)) ho2)
      have hbest := c_best (π := π) (σ := σ) (bf := some l) (by omega) hw
      have hbest : f_X5_bestBehind fs c (nI l) (nI S) = some (obI (argm (wf π σ (some l) S) S)) := hbest
      have hV : VV π σ S l = obV (wf π σ (some l) S) (argm (wf π σ (some l) S) S) := by rw [VV_eq (by omega), argm_V]
      refine ⟨upd c (S * 6 + l) (nI (VV π σ S l)), ?_, fun S' l' h h2 => ?_⟩
      · show f_X5_find_123 s_gone p_letters p_length p_words k109 (m + 1) x3 (nI S) (nI l) fo fs c fp fse = f_X5_find_123 s_gone p_letters p_length p_words k109 m x3 (nI S) (nI (l + 1)) fo fs _ fp fse
        rw [f_X5_find_123, if_neg (by rw [hp, nI_leJ (by omega) (by omega)]; omega), hbest, b1_s, show (nI S * 6) + nI l = nI (S * 6 + l) by rw [show (6 : Int32) = nI 6 from rfl, nI_mul, nI_add], ixb_nI (by omega) (by omega), nI_cl (by omega), nI_1, hV]
        cases ha : argm (wf π σ (some l) S) S with
        | none =>
          show (if (-1 : Int32) = -1 then _ else _) = _
          rw [if_pos rfl, if_pos rfl]; rfl
        | some p =>
          obtain ⟨hp2, hp6⟩ := argm_ok ha
          have hw2 := hw p hp6 hp2
          have hw2 : f_X5_worth fs c (nI l) (nI p) (nI S) = some (nI (wf π σ (some l) S p)) := hw2
          show (if nI p = -1 then _ else b1 (f_X5_worth fs c (nI l) (nI p) (nI S)) _) = _
          rw [ite_M (by omega), hw2, b1_s, if_pos rfl]; rfl
      · by_cases h3 : S' * 6 + l' = S * 6 + l
        · have h4 : S' = S ∧ l' = l := by omega
          rw [h3, upd_s, h4.1, h4.2]
        · rw [upd_n h3]
          exact hc S' l' (by omega) h2) (gL π) 0 FU () ft (by omega) (FU_gt (by omega)) (fun S' l h h2 => ht S' l (by omega) h2)
  exact ⟨c', e, fun S' l h h2 => q S' l (by omega) h2⟩
theorem c_find109 (ok : OkP π) (hp : p_letters = nI (gL π)) {fo fs ft : Nat → Int32} {fp fse : Int32} (hs : ∀ l o, l < gL π → o < gL π → fs (l * 6 + o) = nI (sm π σ l o)) : ∃ fo' ft', f_X5_find_109 s_gone p_letters p_length p_words FU (nI (eSet π σ)) 0 fo fs ft fp fse = some (fo', fs, ft', nI (ordr π σ 6 none (eSet π σ)).length, nI (obV (wf π σ none (eSet π σ)) (argm (wf π σ none (eSet π σ)) (eSet π σ)))) ∧ ∀ t, t < (ordr π σ 6 none (eSet π σ)).length → fo' t = nI ((ordr π σ 6 none (eSet π σ)).getD t 0) := by
  have hL := ok.2.1
  have h64 := pow6 (gL π) hL
  obtain ⟨c', e, q⟩ := loopR (A := Unit) (C := Nat → Int32) (F := fun m c x => f_X5_find_109 s_gone p_letters p_length p_words m (nI (eSet π σ)) x fo fs c fp fse) (B := 2 ^ gL π) (step := fun _ _ => ()) (fin := fun c => b3 (f_X5_choose fo fs c fp fse (nI (eSet π σ))) (fun c3 c4 c5 => some (c3, fs, c, c4, c5))) (Q := fun S _ c => ∀ S' l, S' < S → l < gL π → c (S' * 6 + l) = nI (VV π σ S' l)) (fun m c => by
      show f_X5_find_109 s_gone p_letters p_length p_words (m + 1) (nI (eSet π σ)) (nI (2 ^ gL π)) fo fs c fp fse = _
      rw [f_X5_find_109, hp, shl6 _ hL, if_pos (Int32.le_refl _)]) (fun m _ c S hS hc => by
      obtain ⟨ft', e1, q1⟩ := c_find123 (σ := σ) (s_gone := s_gone) (p_length := p_length) (p_words := p_words) (fo := fo) (fp := fp) (fse := fse) (x3 := nI (eSet π σ)) (k109 := f_X5_find_109 s_gone p_letters p_length p_words m) ok hp hS hs hc
      refine ⟨ft', ?_, q1⟩
      show f_X5_find_109 s_gone p_letters p_length p_words (m + 1) (nI (eSet π σ)) (nI S) fo fs c fp fse = f_X5_find_109 s_gone p_letters p_length p_words m (nI (eSet π σ)) (nI (S + 1)) fo fs ft' fp fse
      rw [f_X5_find_109, if_neg (by rw [hp, shl6 _ hL, nI_leJ (by omega) (by omega)]; omega)]
      exact e1) (2 ^ gL π) 0 FU () ft (by omega) (FU_gt (by omega)) (fun S' l h _ => absurd h (Nat.not_lt_zero _))
  have hE := eSet_lt π σ
  have hpc := pc6 (eSet π σ) (by omega)
  obtain ⟨fo', e2, q2, -⟩ := c_choose17 (n1 := nI (eSet π σ)) ok hs q 6 none (eSet π σ) 0 FU fo 0 hE (fun l hl => by cases hl) hpc (by omega) (FU_gt (by omega))
  refine ⟨fo', c', Eq.trans e ?_, fun t ht => by have := q2 t ht; rw [Nat.zero_add] at this; exact this⟩
  have e3 : f_X5_choose fo fs c' fp fse (nI (eSet π σ)) = _ := e2
  show b3 (f_X5_choose fo fs c' fp fse (nI (eSet π σ))) _ = _
  rw [e3, b3_s, Nat.zero_add]
  by_cases hz : eSet π σ = 0
  · rw [if_neg (fun h => h.2 hz), hz, argm_zero]; rfl
  · rw [if_pos ⟨rfl, hz⟩]
theorem c_find38 (hS : RS π σ (s_year, s_wet, s_lost, s_eaten, s_tied, s_ripeMany, s_gone, s_place, s_heard, s_many, s_lying, s_ripe)) (hP : RPc π (p_beds, p_letters, p_readers, p_far, p_drain, p_length, p_words, p_home)) (ok : OkP π) (os : OkS π σ) {fo ft : Nat → Int32} {fp fse x3 : Int32} {l : Nat} (hl : l < gL π) {k5 : Int32 → Int32 → (Nat → Int32) → (Nat → Int32) → (Nat → Int32) → Int32 → Int32 → Option ((Nat → Int32) × (Nat → Int32) × (Nat → Int32) × Int32 × Int32)} {fs : Nat → Int32} (hs : ∀ l' o, l' < l → o < gL π → fs (l' * 6 + o) = nI (sm π σ l' o)) : ∃ fs', f_X5_find_38 s_gone p_letters p_length p_words k5 FU x3 (nI l) 0 fo fs ft fp fse = k5 x3 (nI (l + 1)) fo fs' ft fp fse ∧ ∀ l' o, l' < l + 1 → o < gL π → fs' (l' * 6 + o) = nI (sm π σ l' o) := by
  have hL := ok.2.1
  have hp := hP.2.1
  have h1 := (ok.2.2.2.2.1 l hl).2.1
  have h8 := (ok.2.2.2.2.1 l hl).2.2.1
  have hle := (hP.2.2.2.2.1 l hl).2.1
  have hwd := (ok.2.2.2.2.1 l hl).2.2.2 (gLe π l - 1) (by omega)
  obtain ⟨c', e, q⟩ := loopR (A := Unit) (C := Nat → Int32) (F := fun m c x => f_X5_find_38 s_gone p_letters p_length p_words k5 m x3 (nI l) x fo c ft fp fse) (B := gL π) (step := fun _ _ => ()) (fin := fun c => k5 x3 (nI (l + 1)) fo c ft fp fse) (Q := fun o' _ c => ∀ l' o, (l' < l ∨ (l' = l ∧ o < o')) → o < gL π → c (l' * 6 + o) = nI (sm π σ l' o)) (fun m c => by
      show f_X5_find_38 s_gone p_letters p_length p_words k5 (m + 1) x3 (nI l) (nI (gL π)) fo c ft fp fse = _
      rw [f_X5_find_38, hp, if_pos (Int32.le_refl _), nI_1]) (fun m _ c o ho hc => by
      refine ⟨upd c (l * 6 + o) (nI (sm π σ l o)), ?_, fun l' o' h h2 => ?_⟩
      · show f_X5_find_38 s_gone p_letters p_length p_words k5 (m + 1) x3 (nI l) (nI o) fo c ft fp fse = f_X5_find_38 s_gone p_letters p_length p_words k5 m x3 (nI l) (nI (o + 1)) fo _ ft fp fse
        rw [f_X5_find_38, if_neg (by rw [hp, nI_leJ (by omega) (by omega)]; omega), ixb_nI (by omega) (by omega), if_pos rfl, nI_cl (by omega), hle, show nI (gLe π l) - 1 = nI (gLe π l - 1) from nI_sub (a := gLe π l) (b := 1) (by omega), c_wordAt hP ok hl (by omega), b1_s, c_nextOf hS hP ok os ho, b1_s, show (nI l * 6) + nI o = nI (l * 6 + o) by rw [show (6 : Int32) = nI 6 from rfl, nI_mul, nI_add], ixb_nI (by omega) (by omega), nI_cl (by omega), nI_1]
        unfold gNext sm
        by_cases hz : gLeft π σ o = 0
        · rw [if_pos hz, ite_M (by omega), if_pos rfl, if_neg (fun h => h.1 hz)]; rfl
        · have hg : gGo σ o < gLe π o := by unfold gLeft at hz; omega
          have hw2 := (ok.2.2.2.2.1 o ho).2.2.2 (gGo σ o) hg
          rw [if_neg hz, ite_eq (by omega) (by omega)]
          by_cases hw : gWd π l (gLe π l - 1) = gWd π o (gGo σ o)
          · rw [if_pos hw, if_pos rfl, if_pos ⟨hz, hw⟩]; rfl
          · rw [if_neg hw, if_pos rfl, if_neg (fun h => hw h.2)]; rfl
      · by_cases h3 : l' * 6 + o' = l * 6 + o
        · have h4 : l' = l ∧ o' = o := by omega
          rw [h3, upd_s, h4.1, h4.2]
        · rw [upd_n h3]
          exact hc l' o' (by omega) h2) (gL π) 0 FU () fs (by omega) (FU_gt (by omega)) (fun l' o h h2 => hs l' o (by omega) h2)
  exact ⟨c', e, fun l' o h h2 => q l' o (by omega) h2⟩
/-- what STUFF comes to -/
def stfV (π : Pg) (σ : Sg) : Nat := obV (wf π σ none (eSet π σ)) (argm (wf π σ none (eSet π σ)) (eSet π σ))
def stfL (π : Pg) (σ : Sg) : List Nat := ordr π σ 6 none (eSet π σ)
theorem c_find (hS : RS π σ (s_year, s_wet, s_lost, s_eaten, s_tied, s_ripeMany, s_gone, s_place, s_heard, s_many, s_lying, s_ripe)) (hP : RPc π (p_beds, p_letters, p_readers, p_far, p_drain, p_length, p_words, p_home)) (ok : OkP π) (os : OkS π σ) (fo fs ft : Nat → Int32) (fp fse : Int32) : ∃ fo' fs' ft', f_X5_find fo fs ft fp fse s_gone p_letters p_length p_words = some (fo', fs', ft', nI (stfL π σ).length, nI (stfV π σ)) ∧ ∀ t, t < (stfL π σ).length → fo' t = nI ((stfL π σ).getD t 0) := by
  have hL := ok.2.1
  have hp := hP.2.1
  unfold f_X5_find
  obtain ⟨⟨c1, c2⟩, e, q1, q2⟩ := loopR (A := Nat) (C := Int32 × (Nat → Int32)) (F := fun m c x => f_X5_find_5 s_gone p_letters p_length p_words m c.1 x fo c.2 ft fp fse) (B := gL π) (step := fun l a => a ||| (if gLeft π σ l = 0 then 0 else 2 ^ l)) (fin := fun c => f_X5_find_109 s_gone p_letters p_length p_words FU c.1 0 fo c.2 ft fp fse) (Q := fun l a c => c.1 = nI a ∧ ∀ l' o, l' < l → o < gL π → c.2 (l' * 6 + o) = nI (sm π σ l' o)) (fun m c => by
      show f_X5_find_5 s_gone p_letters p_length p_words (m + 1) c.1 (nI (gL π)) fo c.2 ft fp fse = _
      rw [f_X5_find_5, hp, if_pos (Int32.le_refl _)]) (fun m a c l hl hc => by
      obtain ⟨c1, c2⟩ := c
      obtain ⟨rfl, hc⟩ := (hc : c1 = nI a ∧ ∀ l' o, l' < l → o < gL π → c2 (l' * 6 + o) = nI (sm π σ l' o))
      have h8 : gLeft π σ l ≤ 8 := by have := (ok.2.2.2.2.1 l hl).2.2.1; unfold gLeft; omega
      obtain ⟨fs', e1, q1⟩ := c_find38 (fo := fo) (ft := ft) (fp := fp) (fse := fse) (x3 := nI (a ||| (if gLeft π σ l = 0 then 0 else 2 ^ l))) (k5 := f_X5_find_5 s_gone p_letters p_length p_words m) hS hP ok os hl hc
      refine ⟨(nI (a ||| (if gLeft π σ l = 0 then 0 else 2 ^ l)), fs'), ?_, rfl, q1⟩
      show f_X5_find_5 s_gone p_letters p_length p_words (m + 1) (nI a) (nI l) fo c2 ft fp fse = f_X5_find_5 s_gone p_letters p_length p_words m (nI (a ||| (if gLeft π σ l = 0 then 0 else 2 ^ l))) (nI (l + 1)) fo fs' ft fp fse
      rw [← e1, f_X5_find_5, if_neg (by rw [hp, nI_leJ (by omega) (by omega)]; omega), c_leftOf hS hP ok os hl, b1_s, ite_le0 (by omega), shl6 l (by omega), nI_or, or0]
      by_cases hz : gLeft π σ l = 0
      · rw [if_pos hz, if_pos hz, Nat.or_zero]
      · rw [if_neg hz, if_neg hz]) (gL π) 0 FU 0 (0, fs) (by omega) (FU_gt (by omega)) ⟨rfl, fun l' o h _ => absurd h (Nat.not_lt_zero _)⟩
  have q1 : c1 = nI (eSet π σ) := q1
  subst q1
  obtain ⟨fo', ft', e2, q3⟩ := c_find109 (s_gone := s_gone) (p_length := p_length) (p_words := p_words) (fo := fo) (ft := ft) (fp := fp) (fse := fse) ok hp q2
  exact ⟨fo', c2, ft', Eq.trans e e2, q3⟩
end KS

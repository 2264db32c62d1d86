/-! ===== how many bits: shared; she ===== -/
theorem bt_nI (k i : Nat) : bt (nI k) i = (decide (i < 32) && k.testBit i) := by
  show (BitVec.ofNat 32 k).getLsbD i = _
  rw [BitVec.getLsbD_ofNat]
theorem nI_and (a b : Nat) : nI a &&& nI b = nI (a &&& b) := by
  apply b_ext
  intro i hi
  rw [b_and, bt_nI, bt_nI, bt_nI, Nat.testBit_and, decide_eq_true hi, Bool.true_and, Bool.true_and, Bool.true_and]
theorem nI_ushr {a s : Nat} (ha : a < 2147483648) (hs : s < 32) : ((nI a).toUInt32 >>> ((nI s).toUInt32 &&& Int32.toUInt32 31)).toInt32 = nI (a >>> s) := by
  apply b_ext
  intro i hi
  rw [b_ushr s hs, bt_nI, bt_nI, Nat.testBit_shiftRight, decide_eq_true hi, Bool.true_and]
  by_cases h : s + i < 32
  · rw [decide_eq_true h, Bool.true_and]
  · rw [decide_eq_false h, Bool.false_and, Nat.testBit_lt_two_pow]
    exact Nat.lt_of_lt_of_le (Nat.lt_trans ha (by decide : (2147483648 : Nat) < 2 ^ 32)) (Nat.pow_le_pow_right (by decide) (by omega))
def bcV (u : Nat) : Nat := Nat.land (Nat.add u (Nat.shiftRight u 16)) 63
def bcU (t : Nat) : Nat := bcV (Nat.add t (Nat.shiftRight t 8))
def bcT (z : Nat) : Nat := bcU (Nat.land (Nat.add z (Nat.shiftRight z 4)) 252645135)
def bcZ (y : Nat) : Nat := bcT (Nat.add (Nat.land y 858993459) (Nat.land (Nat.shiftRight y 2) 858993459))
def bcY (k : Nat) : Nat := bcZ (Nat.sub k (Nat.land (Nat.shiftRight k 1) 1431655765))
def on4 (k : Nat) : Nat := Nat.add (Nat.add (Nat.mod k 2) (Nat.mod (Nat.div k 2) 2)) (Nat.add (Nat.mod (Nat.div k 4) 2) (Nat.mod (Nat.div k 8) 2))
def on16 (k : Nat) : Nat := Nat.add (Nat.add (on4 k) (on4 (Nat.div k 16))) (Nat.add (on4 (Nat.div k 256)) (on4 (Nat.div k 4096)))
def allB (f : Nat → Bool) : Nat → Bool
  | 0 => true
  | n + 1 => and (f n) (allB f n)
theorem allB_at {f : Nat → Bool} : ∀ {n : Nat}, allB f n = true → ∀ k, k < n → f k = true := by
  intro n
  induction n with
  | zero => intro _ k hk; omega
  | succ n ih =>
    intro h k hk
    have h : and (f n) (allB f n) = true := h
    rw [Bool.and_eq_true] at h
    by_cases e : k = n
    · rw [e]; exact h.1
    · exact ih h.2 k (by omega)
def oneB (k : Nat) : Bool := Nat.beq (bcY k) (on16 k)
theorem bcAll : allB (fun a => allB (fun b => oneB (Nat.add (Nat.mul 256 a) b)) 256) 256 = true := by decide +kernel
theorem bcY_on {k : Nat} (h : k < 65536) : bcY k = on16 k := by
  have h1 := allB_at bcAll (k / 256) (by omega)
  have h2 := allB_at h1 (k % 256) (by omega)
  have e : Nat.add (Nat.mul 256 (k / 256)) (k % 256) = k := Nat.div_add_mod k 256
  rw [e] at h2
  exact Nat.eq_of_beq_eq_true h2
def bcV' (u : Int32) : Int32 := (u + (u.toUInt32 >>> ((16 : Int32).toUInt32 &&& Int32.toUInt32 31)).toInt32) &&& 63
def bcU' (t : Int32) : Int32 := bcV' (t + (t.toUInt32 >>> ((8 : Int32).toUInt32 &&& Int32.toUInt32 31)).toInt32)
def bcT' (z : Int32) : Int32 := bcU' ((z + (z.toUInt32 >>> ((4 : Int32).toUInt32 &&& Int32.toUInt32 31)).toInt32) &&& 252645135)
def bcZ' (y : Int32) : Int32 := bcT' ((y &&& 858993459) + ((y.toUInt32 >>> ((2 : Int32).toUInt32 &&& Int32.toUInt32 31)).toInt32 &&& 858993459))
theorem bc_st (n : Int32) : f_J6_bitCount_0f7a4 n = some (bcZ' (n - ((n.toUInt32 >>> ((1 : Int32).toUInt32 &&& Int32.toUInt32 31)).toInt32 &&& 1431655765))) := rfl
theorem land_lt {a b N : Nat} (h : a < N) : a &&& b < N := Nat.lt_of_le_of_lt Nat.and_le_left h
theorem shr_le (a s : Nat) : a >>> s ≤ a := by rw [Nat.shiftRight_eq_div_pow]; exact Nat.div_le_self _ _
theorem bcV_n {u : Nat} (h : u < 1000000) : bcV' (nI u) = nI (bcV u) := by
  unfold bcV'
  rw [show (16 : Int32) = nI 16 from rfl, nI_ushr (by omega) (by omega), nI_add, show (63 : Int32) = nI 63 from rfl, nI_and]
  rfl
theorem bcU_n {t : Nat} (h : t < 500000) : bcU' (nI t) = nI (bcU t) := by
  have h2 := shr_le t 8
  unfold bcU'
  rw [show (8 : Int32) = nI 8 from rfl, nI_ushr (by omega) (by omega), nI_add, bcV_n (by omega)]
  rfl
theorem bcT_n {z : Nat} (h : z < 200000) : bcT' (nI z) = nI (bcT z) := by
  have h2 := shr_le z 4
  have h3 : (z + z >>> 4) &&& 252645135 < 500000 := land_lt (by omega)
  unfold bcT'
  rw [show (4 : Int32) = nI 4 from rfl, nI_ushr (by omega) (by omega), nI_add, show (252645135 : Int32) = nI 252645135 from rfl, nI_and, bcU_n h3]
  rfl
theorem bcZ_n {y : Nat} (h : y < 65536) : bcZ' (nI y) = nI (bcZ y) := by
  have h2 := shr_le y 2
  have h3 : y &&& 858993459 < 65536 := land_lt h
  have h4 : y >>> 2 &&& 858993459 < 65536 := land_lt (by omega)
  unfold bcZ'
  rw [show (2 : Int32) = nI 2 from rfl, nI_ushr (by omega) (by omega), show (858993459 : Int32) = nI 858993459 from rfl, nI_and, nI_and, nI_add, bcT_n (by omega)]
  rfl
theorem bc16 {k : Nat} (h : k < 65536) : f_J6_bitCount_0f7a4 (nI k) = some (nI (on16 k)) := by
  have h2 := shr_le k 1
  have h4 : k >>> 1 &&& 1431655765 ≤ k := Nat.le_trans Nat.and_le_left h2
  rw [bc_st, show (1 : Int32) = nI 1 from rfl, nI_ushr (by omega) (by omega), show (1431655765 : Int32) = nI 1431655765 from rfl, nI_and, nI_sub h4, bcZ_n (by omega), ← bcY_on h]
  rfl
theorem bit_nI {k i : Nat} (hi : i < 32) : (nI k >>> (nI i &&& 31)) &&& 1 = nI (k / 2 ^ i % 2) := by
  rw [and_one, b_sshr i hi _ (i := 0) (by decide), if_pos (show i + 0 < 32 from hi), bt_nI, decide_eq_true (by omega), Bool.true_and, Nat.add_zero, Nat.testBit_eq_decide_div_mod_eq]
  have h2 : k / 2 ^ i % 2 < 2 := Nat.mod_lt _ (by decide)
  by_cases h : k / 2 ^ i % 2 = 1
  · rw [decide_eq_true h, h]; rfl
  · rw [decide_eq_false h, show k / 2 ^ i % 2 = 0 by omega]; rfl
theorem ones16 (k : Nat) : onesS (nI k) = nI (on16 k) := by
  have h := itN_congr (s1 := fun i (a : Int32) => a + ((nI k >>> (nI i &&& 31)) &&& 1)) (s2 := fun i a => a + nI (k / 2 ^ i % 2)) (B := 16) (fun i a hi => by
    show a + ((nI k >>> (nI i &&& 31)) &&& 1) = a + nI (k / 2 ^ i % 2)
    rw [bit_nI (by omega)]) 16 0 0 rfl
  have h2 : onesS (nI k) = itN (fun i a => a + nI (k / 2 ^ i % 2)) 16 0 0 := h
  have q := loopR (A := Nat) (C := Int32) (R := Int32) (F := fun n q x => if n = 0 then none else some q) (B := 0) (step := fun _ a => a) (fin := some) (Q := fun _ _ _ => True) (fun n q => rfl) (fun n a q k hk _ => absurd hk (by omega)) 0 0 1 0 0 rfl (by omega) trivial
  have g : ∀ (d i a : Nat), itN (fun i (a : Int32) => a + nI (k / 2 ^ i % 2)) d i (nI a) = nI (itN (fun i a => a + k / 2 ^ i % 2) d i a) := by
    intro d
    induction d with
    | zero => intro i a; rfl
    | succ d ih => intro i a; show itN _ d (i + 1) (nI a + nI (k / 2 ^ i % 2)) = nI (itN _ d (i + 1) (a + k / 2 ^ i % 2)); rw [nI_add]; exact ih _ _
  rw [h2, show (0 : Int32) = nI 0 from rfl, g]
  congr 1
  show 0 + k / 2 ^ 0 % 2 + k / 2 ^ 1 % 2 + k / 2 ^ 2 % 2 + k / 2 ^ 3 % 2 + k / 2 ^ 4 % 2 + k / 2 ^ 5 % 2 + k / 2 ^ 6 % 2 + k / 2 ^ 7 % 2 + k / 2 ^ 8 % 2 + k / 2 ^ 9 % 2 + k / 2 ^ 10 % 2 + k / 2 ^ 11 % 2 + k / 2 ^ 12 % 2 + k / 2 ^ 13 % 2 + k / 2 ^ 14 % 2 + k / 2 ^ 15 % 2 = ((k % 2 + k / 2 % 2) + (k / 4 % 2 + k / 8 % 2) + ((k / 16 % 2 + k / 16 / 2 % 2) + (k / 16 / 4 % 2 + k / 16 / 8 % 2))) + (((k / 256 % 2 + k / 256 / 2 % 2) + (k / 256 / 4 % 2 + k / 256 / 8 % 2)) + ((k / 4096 % 2 + k / 4096 / 2 % 2) + (k / 4096 / 4 % 2 + k / 4096 / 8 % 2)))
  simp only [Nat.div_div_eq_div_mul, Nat.reducePow, Nat.reduceMul, Nat.div_one]
  omega
/-- what was heard are words: sixteen bits -/
def OkH (π : Pg) (σ : Sg) : Prop := ∀ r, r < gR π → ∃ k, k < 65536 ∧ gHe σ r = nI k
theorem nI_or (a b : Nat) : nI a ||| nI b = nI (a ||| b) := by
  apply b_ext
  intro i hi
  rw [b_or, bt_nI, bt_nI, bt_nI, Nat.testBit_or, decide_eq_true hi, Bool.true_and, Bool.true_and, Bool.true_and]
theorem or16 {x y : Int32} (hx : ∃ k, k < 65536 ∧ x = nI k) (hy : ∃ k, k < 65536 ∧ y = nI k) : ∃ k, k < 65536 ∧ x ||| y = nI k := by
  obtain ⟨a, ha, rfl⟩ := hx
  obtain ⟨b, hb, rfl⟩ := hy
  exact ⟨a ||| b, Nat.or_lt_two_pow (n := 16) ha hb, nI_or a b⟩
theorem one16 : ∀ w, w < 16 → (1 : Int32) <<< (nI w &&& 31) = nI (2 ^ w) := by decide +kernel
theorem bits16 : ∀ (L : List Nat) (a : Int32), (∀ w ∈ L, w < 16) → (∃ k, k < 65536 ∧ a = nI k) → ∃ k, k < 65536 ∧ L.foldl orB a = nI k := by
  intro L
  induction L with
  | nil => intro a _ h; exact h
  | cons w L ih =>
    intro a hL h
    rw [List.foldl_cons]
    refine ih _ (fun x hx => hL x (List.mem_cons_of_mem _ hx)) (or16 h ⟨2 ^ w, ?_, one16 w (hL w List.mem_cons_self)⟩)
    have hw := hL w List.mem_cons_self
    exact Nat.lt_of_lt_of_le (Nat.pow_lt_pow_right (by decide) hw) (by decide)
section KH
variable {π : Pg} {σ : Sg} {s_year s_wet s_lost s_eaten s_tied s_ripeMany : Int32} {s_gone s_place s_heard s_many s_lying s_ripe : Nat → Int32}
variable {p_beds p_letters p_readers : Int32} {p_far p_drain p_length p_words p_home : Nat → Int32}
variable {m_s m_now m_bed m_letter m_reader m_refused : Nat → Int32} {m_beds m_letters m_readers m_thrown x_missing x_misused : Int32} {r_n : Nat} {r_v : Nat → Int32}
theorem nexts16 (ok : OkP π) : ∃ k, k < 65536 ∧ nexts π σ = nI k := by
  refine itN_inv (step := fun k a => a ||| (if gLeft π σ k = 0 then (0 : Int32) else (1 : Int32) <<< (gNext π σ k &&& 31))) (P := fun _ a => ∃ k, k < 65536 ∧ a = nI k) (B := gL π) (fun l a hl ha => ?_) (gL π) 0 0 (by omega) ⟨0, by decide, rfl⟩
  refine or16 ha ?_
  by_cases h : gLeft π σ l = 0
  · rw [if_pos h]; exact ⟨0, by decide, rfl⟩
  · rw [if_neg h]
    unfold gNext
    rw [if_neg h]
    have hw := (ok.2.2.2.2.1 l hl).2.2.2 (gGo σ l) (by unfold gLeft at h; omega)
    exact ⟨2 ^ gWd π l (gGo σ l), Nat.lt_of_lt_of_le (Nat.pow_lt_pow_right (by decide) hw) (by decide), one16 _ hw⟩
theorem okH_begin : OkH π (oBegin π) := fun r _ => ⟨0, by decide, rfl⟩
theorem okH_he {τ : Sg} (h : OkH π σ) (e : ∀ r, gHe τ r = gHe σ r) : OkH π τ := fun r hr => by rw [e]; exact h r hr
theorem okH_go (os : OkS π σ) (h : OkH π σ) {r b : Nat} : OkH π (oGo r b σ) := fun q hq => by
  show ∃ k, k < 65536 ∧ fup (gHe σ) r (gHe σ r ||| bitsOf (gLy σ b)) q = nI k
  by_cases e : q = r
  · subst e
    rw [fup_s]
    exact or16 (h q hq) (bits16 _ _ (os.2.2.2.2.1 b).2.2 ⟨0, by decide, rfl⟩)
  · rw [fup_n e]; exact h q hq
theorem okH_blow (ok : OkP π) {N : Nat} (h : OkH π σ) : OkH π (oBlow π N σ).2 := by
  refine itN_inv (step := oBlow1 π N) (P := fun _ q => OkH π q.2) (B := gR π) (fun r q hr hq => ?_) (gR π) 0 (false, σ) (by omega) h
  show OkH π (oBlow1 π N r q).2
  unfold oBlow1
  by_cases e : gFa π (gPl q.2 r) ≤ N
  · rw [if_pos e]
    intro p hp
    show ∃ k, k < 65536 ∧ fup (gHe q.2) r (gHe q.2 r ||| nexts π q.2) p = nI k
    by_cases e2 : p = r
    · subst e2; rw [fup_s]; exact or16 (hq p hp) (nexts16 ok)
    · rw [fup_n e2]; exact hq p hp
  · rw [if_neg e]; exact hq
theorem k_shared (hS : RS π σ (s_year, s_wet, s_lost, s_eaten, s_tied, s_ripeMany, s_gone, s_place, s_heard, s_many, s_lying, s_ripe)) (hM : RM π σ m_now) (hP : RPc π (p_beds, p_letters, p_readers, p_far, p_drain, p_length, p_words, p_home)) (hQ : RPm π m_beds m_letters m_readers m_bed m_letter m_reader) (ok : OkP π) (oh : OkH π σ) (hc : RC x_missing x_misused m_refused) (n1 n2 : Int32) :
    ∃ ex r mi rf, f_X9_shared x_missing s_heard p_readers n1 n2 = some (ex, r, mi) ∧ f_X10_shared m_thrown m_refused m_readers m_now n1 n2 = some (r, if ex = 0 then 0 else 1, rf) ∧ (ex = 0 ∨ ex = 1) ∧ RC mi x_misused rf := by
  have h5 := ok.2.2.1
  unfold f_X9_shared f_X10_shared
  rw [c_one, hP.2.2.1, hQ.2.2.1, m_isR _ (by omega)]
  by_cases h : 0 ≤ n1 ∧ n1 < nI (gR π)
  case neg =>
    refine ⟨1, 0, x_missing + 1, upd m_refused 0 (m_refused 0 + 1), ?_, ?_, Or.inr rfl, rc_mi hc⟩
    · rw [if_neg h]; rfl
    · rw [if_neg h]; rfl
  rw [if_pos h, if_pos h, b2_s, if_pos rfl, c_one, b3_s, if_neg (show ¬ (1 : Int32) = 0 by decide), m_isR _ (by omega)]
  by_cases h2 : 0 ≤ n2 ∧ n2 < nI (gR π)
  case neg =>
    refine ⟨1, 0, x_missing + 1, upd m_refused 0 (m_refused 0 + 1), ?_, ?_, Or.inr rfl, rc_mi hc⟩
    · rw [if_neg h2]; rfl
    · rw [if_neg h2]; rfl
  obtain ⟨a, ha, rfl⟩ := inL (B := gR π) (by omega) h.1 h.2
  obtain ⟨b, hb, rfl⟩ := inL (B := gR π) (by omega) h2.1 h2.2
  obtain ⟨x, hx, ex⟩ := oh a ha
  obtain ⟨y, hy, ey⟩ := oh b hb
  have e1 := (hS.2.2.2.2.2.2.2.2.1 a ha).trans ex
  have e2 := (hS.2.2.2.2.2.2.2.2.1 b hb).trans ey
  have e3 := (hM.2.2.2.2.2.2.2.2.1 a ha).trans ex
  have e4 := (hM.2.2.2.2.2.2.2.2.1 b hb).trans ey
  refine ⟨0, nI (on16 (x &&& y)), x_missing, m_refused, ?_, ?_, Or.inl rfl, hc⟩
  · rw [if_pos h2, b2_s, if_pos rfl, ixb_nI (by omega) (by omega), if_pos rfl, ixb_nI (by omega) (by omega), if_pos rfl, nI_cl (by omega), nI_cl (by omega), e1, e2, nI_and, bc16 (land_lt hx), b1_s]
  · rw [if_pos h2, b3_s, if_neg (show ¬ (1 : Int32) = 0 by decide), show (95 : Int32) + nI a = nI (95 + a) from nI_add 95 a, show (95 : Int32) + nI b = nI (95 + b) from nI_add 95 b, ixb_nI (by omega) (by omega), if_pos rfl, ixb_nI (by omega) (by omega), if_pos rfl, nI_cl (by omega), nI_cl (by omega), e3, e4, nI_and, ones_all, ones16, b1_s]
    rfl
end KH

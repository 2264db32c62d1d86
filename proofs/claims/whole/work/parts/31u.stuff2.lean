/-! ===== stuff: the model ===== -/
theorem st_anI {S E o : Nat} (hS : S < 64) (ho : o < 6) : ((nI S &&& nI E) &&& ((1 : Int32) <<< (nI o &&& 31)) = 0) ↔ ¬ (S.testBit o = true ∧ E.testBit o = true) := by
  have h1 : S &&& E < 64 := Nat.lt_of_le_of_lt Nat.and_le_left hS
  have h2 : 2 ^ o ≤ 64 := pow6 o (by omega)
  have h3 : 0 < 2 ^ o := Nat.pow_pos (by decide)
  rw [nI_and, shl6 o (by omega), nI_and, st_an _ h1 o ho, Nat.testBit_and, ← Bool.and_eq_true]
  by_cases h : (S.testBit o && E.testBit o) = true
  · rw [if_pos h]
    refine ⟨fun h9 => ?_, fun h9 => absurd h h9⟩
    have h9 : nI (2 ^ o) = nI 0 := h9
    rw [nI_eq (by omega) (by decide)] at h9
    omega
  · rw [if_neg h]
    exact ⟨fun _ => h, fun _ => rfl⟩
/-- what the model's table holds of the sets below S, and of S below l -/
def RMb (π : Pg) (σ : Sg) (S l : Nat) (mb : Nat → Int32) : Prop := ∀ S' l', SubE π σ S' → gLeft π σ l' ≠ 0 → l' < gL π → (S' < S ∨ (S' = S ∧ l' < l)) → mb (64 * l' + S') = nI (VV π σ S' l')
section KT
variable {π : Pg} {σ : Sg} {m_s m_now m_bed m_letter m_reader m_refused m_stuffing : Nat → Int32} {m_beds m_letters m_readers m_thrown m_stuffedMany : Int32}
theorem m_seamOf (hS : RM π σ m_s) (hQ : RPm π m_beds m_letters m_readers m_bed m_letter m_reader) (ok : OkP π) (os : OkS π σ) {l o : Nat} (hl : l < gL π) (ho : o < gL π) (h1 : gLeft π σ l ≠ 0) (h2 : gLeft π σ o ≠ 0) : f_X10_seamOf m_letter m_s (nI l) (nI o) = some (nI (sm π σ l o)) := by
  have hg := os.2.2.1 l hl
  have hL8 := (ok.2.2.2.2.1 l hl).2.2.1
  have e1 : gGo σ l + (gLeft π σ l - 1) = gLe π l - 1 := by unfold gLeft at h1 ⊢; omega
  have hlt : gLeft π σ l ≤ gLe π l := by unfold gLeft; omega
  have hgo : gGo σ o < gLe π o := by unfold gLeft at h2; omega
  have hw1 := (ok.2.2.2.2.1 l hl).2.2.2 (gLe π l - 1) (by unfold gLeft at h1; omega)
  have hw2 := (ok.2.2.2.2.1 o ho).2.2.2 (gGo σ o) hgo
  unfold f_X10_seamOf sm
  rw [m_leftOf hS hQ ok os hl, b1_s, show nI (gLeft π σ l) - 1 = nI (gLeft π σ l - 1) from nI_sub (a := gLeft π σ l) (b := 1) (by omega), m_wordOf hS hQ ok os hl (by omega), b1_s, show (0 : Int32) = nI 0 from rfl, m_wordOf hS hQ ok os ho (by omega), b1_s, e1, Nat.add_zero, ite_eq (by omega) (by omega)]
  by_cases hw : gWd π l (gLe π l - 1) = gWd π o (gGo σ o)
  · rw [if_pos hw, if_pos ⟨h2, hw⟩]; rfl
  · rw [if_neg hw, if_neg (fun h => hw h.2)]
theorem m_someLeft (hS : RM π σ m_s) (hQ : RPm π m_beds m_letters m_readers m_bed m_letter m_reader) (ok : OkP π) (os : OkS π σ) : f_X10_someLeft m_letter m_letters m_s = some (nI (eSet π σ)) := by
  have hL := ok.2.1
  unfold f_X10_someLeft
  obtain ⟨c', e, q⟩ := loopR (A := Nat) (C := Int32) (F := fun m c x => f_X10_someLeft_4 m_letter m_letters m_s m c x) (B := gL π) (step := fun l a => a ||| (if gLeft π σ l = 0 then 0 else 2 ^ l)) (fin := some) (Q := fun _ a c => c = nI a) (fun m c => by
      show f_X10_someLeft_4 m_letter m_letters m_s (m + 1) c (nI (gL π)) = _
      rw [f_X10_someLeft_4, hQ.2.1, if_pos (Int32.le_refl _)]) (fun m a c l hl hc => by
      have hc : c = nI a := hc
      subst hc
      have h8 : gLeft π σ l ≤ 8 := by have := (ok.2.2.2.2.1 l hl).2.2.1; unfold gLeft; omega
      refine ⟨nI (a ||| (if gLeft π σ l = 0 then 0 else 2 ^ l)), ?_, rfl⟩
      show f_X10_someLeft_4 m_letter m_letters m_s (m + 1) (nI a) (nI l) = f_X10_someLeft_4 m_letter m_letters m_s m _ (nI (l + 1))
      rw [f_X10_someLeft_4, if_neg (by rw [hQ.2.1, nI_leJ (by omega) (by omega)]; omega), m_leftOf hS hQ ok os hl, b1_s, ite_le0 (by omega), shl6 l (by omega), nI_or, or0, nI_1]
      by_cases hz : gLeft π σ l = 0
      · rw [if_pos hz, if_pos hz, Nat.or_zero]
      · rw [if_neg hz, if_neg hz]) (gL π) 0 FU 0 0 (by omega) (FU_gt (by omega)) rfl
  have q : c' = nI (eSet π σ) := q
  rw [← q]; exact e
theorem m_lay28 (hS : RM π σ m_s) (hQ : RPm π m_beds m_letters m_readers m_bed m_letter m_reader) (ok : OkP π) (os : OkS π σ) {S l : Nat} (hS64 : S < 64) (hl : l < gL π) {k7 : Int32 → Int32 → (Nat → Int32) → (Nat → Int32) → Int32 → Option (Int32 × (Nat → Int32) × (Nat → Int32) × Int32)} {k14 : Int32 → Int32 → Int32 → (Nat → Int32) → (Nat → Int32) → Int32 → Option (Int32 × (Nat → Int32) × (Nat → Int32) × Int32)} {mb : Nat → Int32} (hm : RMb π σ S l mb) : ∃ mb', f_X10_laysSeams_28 m_letter m_letters m_s k7 k14 FU (nI (eSet π σ)) (nI S) (nI l) 0 0 mb m_stuffing m_stuffedMany = k14 (nI (eSet π σ)) (nI S) (nI (l + 1)) mb' m_stuffing m_stuffedMany ∧ RMb π σ S (l + 1) mb' := by
  have hL := ok.2.1
  have h8 : ∀ o, o < gL π → gLeft π σ o ≤ 8 := fun o ho => by have := (ok.2.2.2.2.1 o ho).2.2.1; unfold gLeft; omega
  have hfin : ∀ (m : Nat) (c : Int32), f_X10_laysSeams_28 m_letter m_letters m_s k7 k14 (m + 1) (nI (eSet π σ)) (nI S) (nI l) c (nI (gL π)) mb m_stuffing m_stuffedMany = k14 (nI (eSet π σ)) (nI S) (nI (l + 1)) (upd mb (64 * l + S) c) m_stuffing m_stuffedMany := by
    intro m c
    rw [f_X10_laysSeams_28, hQ.2.1, if_pos (Int32.le_refl _), st_ix S hS64 l (by omega), ixb_nI (by omega) (by omega), if_pos rfl, nI_1, nI_cl (by omega)]
  obtain ⟨c', e, q⟩ := loopR (A := Nat) (C := Int32) (F := fun m c x => f_X10_laysSeams_28 m_letter m_letters m_s k7 k14 m (nI (eSet π σ)) (nI S) (nI l) c x mb m_stuffing m_stuffedMany) (B := gL π) (step := fun o a => if S.testBit o then max a (wf π σ (some l) S o) else a) (fin := fun c => k14 (nI (eSet π σ)) (nI S) (nI (l + 1)) (upd mb (64 * l + S) c) m_stuffing m_stuffedMany) (Q := fun _ a c => a ≤ 100 ∧ (SubE π σ S → gLeft π σ l ≠ 0 → c = nI a)) hfin (fun m a c o ho hc => by
      obtain ⟨ha, hc⟩ := hc
      have hwl := wf_le (π := π) (σ := σ) (bf := some l) hS64 (show o < 6 by omega)
      have hcl := st_le S hS64 o (by omega)
      have hb100 : (if S.testBit o then max a (wf π σ (some l) S o) else a) ≤ 100 := by
        by_cases hb : S.testBit o = true
        · rw [if_pos hb]; exact Nat.max_le.mpr ⟨ha, by omega⟩
        · rw [if_neg hb]; exact ha
      have e0 : f_X10_laysSeams_28 m_letter m_letters m_s k7 k14 (m + 1) (nI (eSet π σ)) (nI S) (nI l) c (nI o) mb m_stuffing m_stuffedMany = (if ((nI S &&& nI (eSet π σ)) &&& ((1 : Int32) <<< (nI o &&& 31))) = 0 then f_X10_laysSeams_28 m_letter m_letters m_s k7 k14 m (nI (eSet π σ)) (nI S) (nI l) c (nI (o + 1)) mb m_stuffing m_stuffedMany else b1 (f_X10_leftOf m_letter m_s (nI l)) (fun v2 => if v2 = 0 then f_X10_laysSeams_28 m_letter m_letters m_s k7 k14 m (nI (eSet π σ)) (nI S) (nI l) c (nI (o + 1)) mb m_stuffing m_stuffedMany else b1 (f_X10_seamOf m_letter m_s (nI l) (nI o)) (fun v3 => if (v3 + mb (64 * o + clr S o)) ≤ c then f_X10_laysSeams_28 m_letter m_letters m_s k7 k14 m (nI (eSet π σ)) (nI S) (nI l) c (nI (o + 1)) mb m_stuffing m_stuffedMany else f_X10_laysSeams_28 m_letter m_letters m_s k7 k14 m (nI (eSet π σ)) (nI S) (nI l) (v3 + mb (64 * o + clr S o)) (nI (o + 1)) mb m_stuffing m_stuffedMany))) := by
        rw [f_X10_laysSeams_28, if_neg (by rw [hQ.2.1, nI_leJ (by omega) (by omega)]; omega), st_clr S hS64 o (by omega), st_ix (clr S o) (by omega) o (by omega), nI_1, ixb_nI (by omega) (by omega), nI_cl (by omega)]
        simp only [if_true]
      show ∃ c', f_X10_laysSeams_28 m_letter m_letters m_s k7 k14 (m + 1) (nI (eSet π σ)) (nI S) (nI l) c (nI o) mb m_stuffing m_stuffedMany = f_X10_laysSeams_28 m_letter m_letters m_s k7 k14 m (nI (eSet π σ)) (nI S) (nI l) c' (nI (o + 1)) mb m_stuffing m_stuffedMany ∧ _ ∧ _
      rw [e0]
      by_cases hb : S.testBit o = true ∧ (eSet π σ).testBit o = true
      · have hz := ((eSet_bit π σ o).mp hb.2).2
        rw [if_neg (fun h => (st_anI hS64 (by omega)).mp h hb), m_leftOf hS hQ ok os hl, b1_s, ite_eq0 (by have := h8 l hl; omega)]
        by_cases hl0 : gLeft π σ l = 0
        · rw [if_pos hl0]
          exact ⟨c, rfl, hb100, fun _ h => absurd hl0 h⟩
        · rw [if_neg hl0, m_seamOf hS hQ ok os hl ho hl0 hz, b1_s]
          have hv : SubE π σ S → nI (sm π σ l o) + mb (64 * o + clr S o) = nI (wf π σ (some l) S o) := fun hsub => by
            rw [hm (clr S o) o (subE_clr hS64 (by omega) hsub) hz ho (Or.inl (st_lt S hS64 o (by omega) hb.1)), nI_add]
            rfl
          by_cases hle : nI (sm π σ l o) + mb (64 * o + clr S o) ≤ c
          · rw [if_pos hle]
            refine ⟨c, rfl, hb100, fun hsub hl1 => ?_⟩
            rw [hv hsub, hc hsub hl1, nI_leI (by omega) (by omega)] at hle
            rw [hc hsub hl1, if_pos hb.1, Nat.max_eq_left hle]
          · rw [if_neg hle]
            refine ⟨_, rfl, hb100, fun hsub hl1 => ?_⟩
            rw [hv hsub, hc hsub hl1, nI_leI (by omega) (by omega)] at hle
            rw [hv hsub, if_pos hb.1, Nat.max_eq_right (by omega)]
      · rw [if_pos ((st_anI hS64 (by omega)).mpr hb)]
        refine ⟨c, rfl, hb100, fun hsub hl1 => ?_⟩
        have hnb : ¬ S.testBit o = true := fun h => hb ⟨h, (eSet_bit π σ o).mpr (hsub o h)⟩
        rw [hc hsub hl1, if_neg hnb]) (gL π) 0 FU 0 0 (by omega) (FU_gt (by omega)) ⟨Nat.zero_le _, fun _ _ => rfl⟩
  refine ⟨upd mb (64 * l + S) c', e, fun S' l' hsub hl1 hl2 h => ?_⟩
  by_cases h3 : 64 * l' + S' = 64 * l + S
  · have h4 : l' = l ∧ S' = S := by omega
    obtain ⟨rfl, rfl⟩ := h4
    rw [upd_s, q.2 hsub hl1, VV_eq hS64]
    congr 1
    rw [show 6 = gL π + (6 - gL π) by omega, itN_app]
    exact (itN_skip (6 - gL π) (0 + gL π) _ (fun i b h1 h2 => by
      show (if S'.testBit i then _ else b) = b
      rw [if_neg (fun h9 => absurd (hsub i h9).1 (by omega))])).symm
  · rw [upd_n h3]
    exact hm S' l' hsub hl1 hl2 (by omega)
theorem m_lay14 (hS : RM π σ m_s) (hQ : RPm π m_beds m_letters m_readers m_bed m_letter m_reader) (ok : OkP π) (os : OkS π σ) {S : Nat} (hS64 : S < 64) {k7 : Int32 → Int32 → (Nat → Int32) → (Nat → Int32) → Int32 → Option (Int32 × (Nat → Int32) × (Nat → Int32) × Int32)} {mb : Nat → Int32} (hm : RMb π σ S 0 mb) : ∃ mb', f_X10_laysSeams_14 m_letter m_letters m_s k7 FU (nI (eSet π σ)) (nI S) 0 mb m_stuffing m_stuffedMany = k7 (nI (eSet π σ)) (nI (S + 1)) mb' m_stuffing m_stuffedMany ∧ RMb π σ (S + 1) 0 mb' := by
  have hL := ok.2.1
  obtain ⟨c', e, q⟩ := loopR (A := Unit) (C := Nat → Int32) (F := fun m c x => f_X10_laysSeams_14 m_letter m_letters m_s k7 m (nI (eSet π σ)) (nI S) x c m_stuffing m_stuffedMany) (B := gL π) (step := fun _ _ => ()) (fin := fun c => k7 (nI (eSet π σ)) (nI (S + 1)) c m_stuffing m_stuffedMany) (Q := fun l _ c => RMb π σ S l c) (fun m c => by
      show f_X10_laysSeams_14 m_letter m_letters m_s k7 (m + 1) (nI (eSet π σ)) (nI S) (nI (gL π)) c m_stuffing m_stuffedMany = _
      rw [f_X10_laysSeams_14, hQ.2.1, if_pos (Int32.le_refl _), nI_1]) (fun m _ c l hl hc => by
      obtain ⟨mb', e1, q1⟩ := m_lay28 (m_stuffing := m_stuffing) (m_stuffedMany := m_stuffedMany) (k7 := k7) (k14 := f_X10_laysSeams_14 m_letter m_letters m_s k7 m) hS hQ ok os hS64 hl hc
      refine ⟨mb', ?_, q1⟩
      show f_X10_laysSeams_14 m_letter m_letters m_s k7 (m + 1) (nI (eSet π σ)) (nI S) (nI l) c m_stuffing m_stuffedMany = f_X10_laysSeams_14 m_letter m_letters m_s k7 m (nI (eSet π σ)) (nI S) (nI (l + 1)) mb' m_stuffing m_stuffedMany
      rw [f_X10_laysSeams_14, if_neg (by rw [hQ.2.1, nI_leJ (by omega) (by omega)]; omega)]
      exact e1) (gL π) 0 FU () mb (by omega) (FU_gt (by omega)) hm
  exact ⟨c', e, fun S' l' hsub hl1 hl2 h => q S' l' hsub hl1 hl2 (by omega)⟩
theorem m_lay256 {k147 : Int32 → Int32 → Int32 → (Nat → Int32) → (Nat → Int32) → Int32 → Option (Int32 × (Nat → Int32) × (Nat → Int32) × Int32)} {S p i : Nat} (hS : S < 64) (hp : p < 6) (hi : i < 6) {y0 : Int32} {mb st : Nat → Int32} : f_X10_laysSeams_256 m_letter m_letters m_s k147 (nI S) (nI p) y0 mb st (nI i) = k147 (nI (clr S p)) (nI p) y0 mb (upd st i (nI p)) (nI (i + 1)) := by
  unfold f_X10_laysSeams_256
  rw [ixb_nI (by omega) (by omega), if_pos rfl, st_clr S hS p hp, nI_1, nI_cl (by omega)]
theorem m_lay160 (hS : RM π σ m_s) (hQ : RPm π m_beds m_letters m_readers m_bed m_letter m_reader) (ok : OkP π) (os : OkS π σ) {k147 : Int32 → Int32 → Int32 → (Nat → Int32) → (Nat → Int32) → Int32 → Option (Int32 × (Nat → Int32) × (Nat → Int32) × Int32)} {S p i : Nat} {bf : Option Nat} (hS64 : S < 64) (hsub : SubE π σ S) (hbf : ∀ l, bf = some l → l < gL π ∧ gLeft π σ l ≠ 0) (hi : i < 6) {sum : Int32} {mb st : Nat → Int32} (hm : ∀ o, o < gL π → S.testBit o = true → mb (64 * o + clr S o) = nI (VV π σ (clr S o) o)) (ha : argm (wf π σ bf S) S = some p) : f_X10_laysSeams_160 m_letter m_letters m_s k147 FU (nI S) (obI bf) sum (-1) (-1) 0 mb st (nI i) = k147 (nI (clr S p)) (nI p) (if sum = -1 then nI (wf π σ bf S p) else sum) mb (upd st i (nI p)) (nI (i + 1)) := by
  have hL := ok.2.1
  have hp := argm_ok ha
  let mv : Option Nat → Int32 := fun a => match a with
    | none => -1
    | some p => nI (wf π σ bf S p)
  obtain ⟨⟨c1, c2⟩, e, q1, q2, -⟩ := loopR (A := Option Nat) (C := Int32 × Int32) (F := fun m c x => f_X10_laysSeams_160 m_letter m_letters m_s k147 m (nI S) (obI bf) sum c.1 c.2 x mb st (nI i)) (B := gL π) (step := stA (wf π σ bf S) S) (fin := fun c => if sum = (-1) then f_X10_laysSeams_256 m_letter m_letters m_s k147 (nI S) c.1 c.2 mb st (nI i) else f_X10_laysSeams_256 m_letter m_letters m_s k147 (nI S) c.1 sum mb st (nI i)) (Q := fun _ a c => c.1 = obI a ∧ c.2 = mv a ∧ ∀ p, a = some p → S.testBit p = true ∧ p < 6) (fun m c => by
      show f_X10_laysSeams_160 m_letter m_letters m_s k147 (m + 1) (nI S) (obI bf) sum c.1 c.2 (nI (gL π)) mb st (nI i) = _
      rw [f_X10_laysSeams_160, hQ.2.1, if_pos (Int32.le_refl _)]) (fun m a c o ho hc => by
      obtain ⟨c1, c2⟩ := c
      obtain ⟨rfl, rfl, hok⟩ := (hc : c1 = obI a ∧ c2 = mv a ∧ ∀ p, a = some p → S.testBit p = true ∧ p < 6)
      refine ⟨(obI (stA (wf π σ bf S) S o a), mv (stA (wf π σ bf S) S o a)), ?_, rfl, rfl, stA_ok (by omega) hok⟩
      show f_X10_laysSeams_160 m_letter m_letters m_s k147 (m + 1) (nI S) (obI bf) sum (obI a) (mv a) (nI o) mb st (nI i) = f_X10_laysSeams_160 m_letter m_letters m_s k147 m (nI S) (obI bf) sum (obI (stA (wf π σ bf S) S o a)) (mv (stA (wf π σ bf S) S o a)) (nI (o + 1)) mb st (nI i)
      have hcl := st_le S hS64 o (by omega)
      have hwl := wf_le (π := π) (σ := σ) (bf := bf) hS64 (show o < 6 by omega)
      rw [f_X10_laysSeams_160, if_neg (by rw [hQ.2.1, nI_leJ (by omega) (by omega)]; omega), st_bit S hS64 o (by omega), nI_1]
      by_cases hb : S.testBit o = true
      · have e197 : ∀ y : Nat, y + VV π σ (clr S o) o = wf π σ bf S o → f_X10_laysSeams_197 m_letter m_letters m_s k147 (f_X10_laysSeams_160 m_letter m_letters m_s k147 m) (nI S) (obI bf) sum (obI a) (mv a) (nI o) (nI y) mb st (nI i) = f_X10_laysSeams_160 m_letter m_letters m_s k147 m (nI S) (obI bf) sum (obI (stA (wf π σ bf S) S o a)) (mv (stA (wf π σ bf S) S o a)) (nI (o + 1)) mb st (nI i) := by
          intro y hy
          unfold f_X10_laysSeams_197
          rw [st_clr S hS64 o (by omega), st_ix (clr S o) (by omega) o (by omega), ixb_nI (by omega) (by omega), if_pos rfl, nI_cl (by omega), hm o ho hb, nI_add, hy, nI_1]
          unfold stA
          rw [if_pos hb]
          cases a with
          | none =>
            show (if (-1 : Int32) < nI (wf π σ bf S o) then _ else _) = _
            rw [if_pos (by
              rw [Int32.lt_iff_toInt_lt, nI_toInt (by omega)]
              have h2 : (-1 : Int32).toInt = -1 := by decide
              omega)]
            rfl
          | some p =>
            have hwp := wf_le (π := π) (σ := σ) (bf := bf) hS64 (hok p rfl).2
            show (if nI (wf π σ bf S p) < nI (wf π σ bf S o) then _ else _) = f_X10_laysSeams_160 m_letter m_letters m_s k147 m (nI S) (obI bf) sum (obI (if wf π σ bf S o ≤ wf π σ bf S p then some p else some o)) (mv (if wf π σ bf S o ≤ wf π σ bf S p then some p else some o)) (nI (o + 1)) mb st (nI i)
            rw [ite_lt (by omega) (by omega)]
            by_cases hc : wf π σ bf S o ≤ wf π σ bf S p
            · rw [if_neg (by omega), if_pos hc]
            · rw [if_pos (by omega), if_neg hc]; rfl
        rw [if_pos hb, if_neg (by decide)]
        cases bf with
        | none =>
          show (if (-1 : Int32) = -1 then f_X10_laysSeams_197 m_letter m_letters m_s k147 (f_X10_laysSeams_160 m_letter m_letters m_s k147 m) (nI S) (-1) sum (obI a) (mv a) (nI o) (nI 0) mb st (nI i) else _) = _
          rw [if_pos rfl]
          exact e197 0 rfl
        | some l =>
          obtain ⟨hl, hl0⟩ := hbf l rfl
          show (if nI l = -1 then _ else b1 (f_X10_seamOf m_letter m_s (nI l) (nI o)) _) = _
          rw [ite_M (by omega), m_seamOf hS hQ ok os hl ho hl0 (hsub o hb).2, b1_s]
          exact e197 (sm π σ l o) rfl
      · rw [if_neg hb, if_pos rfl]
        unfold stA
        rw [if_neg hb]) (gL π) 0 FU none (-1, -1) (by omega) (FU_gt (by omega)) ⟨rfl, rfl, fun p hp => by cases hp⟩
  have eL : itN (stA (wf π σ bf S) S) (gL π) 0 none = argm (wf π σ bf S) S := by
    unfold argm
    rw [show 6 = gL π + (6 - gL π) by omega, itN_app]
    exact (itN_skip (6 - gL π) (0 + gL π) _ (fun j b h1 h2 => by
      unfold stA
      rw [if_neg (fun h9 => absurd (hsub j h9).1 (by omega))])).symm
  rw [eL, ha] at q1 q2
  have q1 : c1 = nI p := q1
  have q2 : c2 = nI (wf π σ bf S p) := q2
  subst q1
  subst q2
  refine Eq.trans e ?_
  show (if sum = -1 then f_X10_laysSeams_256 m_letter m_letters m_s k147 (nI S) (nI p) (nI (wf π σ bf S p)) mb st (nI i) else f_X10_laysSeams_256 m_letter m_letters m_s k147 (nI S) (nI p) sum mb st (nI i)) = _
  rw [m_lay256 hS64 hp.2 hi, m_lay256 hS64 hp.2 hi]
  by_cases h : sum = -1
  · rw [if_pos h, if_pos h]
  · rw [if_neg h, if_neg h]
theorem m_lay147 (hS : RM π σ m_s) (hQ : RPm π m_beds m_letters m_readers m_bed m_letter m_reader) (ok : OkP π) (os : OkS π σ) {mb : Nat → Int32} (hm : ∀ S l, SubE π σ S → S ≤ eSet π σ → gLeft π σ l ≠ 0 → l < gL π → mb (64 * l + S) = nI (VV π σ S l)) : ∀ (d : Nat) (bf : Option Nat) (S i m : Nat) (sum : Int32) (st : Nat → Int32), S < 64 → S ≤ eSet π σ → SubE π σ S → (∀ l, bf = some l → l < gL π ∧ gLeft π σ l ≠ 0) → pcN S ≤ d → pcN S + i ≤ 6 → d < m → ∃ st', f_X10_laysSeams_147 m_letter m_letters m_s m (nI S) (obI bf) sum mb st (nI i) = some (if sum = -1 then nI (obV (wf π σ bf S) (argm (wf π σ bf S) S)) else sum, mb, st', nI (i + (ordr π σ d bf S).length)) ∧ (∀ t, t < (ordr π σ d bf S).length → st' (i + t) = nI ((ordr π σ d bf S).getD t 0)) ∧ ∀ t, t < i → st' t = st t := by
  have hL := ok.2.1
  have hbase : ∀ (bf : Option Nat) (i m : Nat) (sum : Int32) (st : Nat → Int32), f_X10_laysSeams_147 m_letter m_letters m_s (m + 1) (nI 0) (obI bf) sum mb st (nI i) = some (if sum = -1 then nI (obV (wf π σ bf 0) (argm (wf π σ bf 0) 0)) else sum, mb, st, nI (i + 0)) := by
    intro bf i m sum st
    rw [f_X10_laysSeams_147, if_pos (show nI 0 = 0 from rfl), argm_zero]
    by_cases h : sum = -1
    · rw [if_pos h, if_pos h]; rfl
    · rw [if_neg h, if_neg h]; rfl
  intro d
  induction d with
  | zero =>
    intro bf S i m sum st hS64 hSE hsub hbf hd h6 hm2
    obtain ⟨m, rfl⟩ : ∃ j, m = j + 1 := ⟨m - 1, by omega⟩
    have hz : S = 0 := by
      refine st_zero hS64 (fun o ho => ?_)
      by_cases hb : S.testBit o = true
      · have := st_pc S hS64 o ho hb; omega
      · exact Bool.eq_false_iff.mpr hb
    subst hz
    exact ⟨st, hbase bf i m sum st, fun t ht => absurd ht (Nat.not_lt_zero _), fun _ _ => rfl⟩
  | succ d ih =>
    intro bf S i m sum st hS64 hSE hsub hbf hd h6 hm2
    obtain ⟨m, rfl⟩ : ∃ j, m = j + 1 := ⟨m - 1, by omega⟩
    by_cases hz : S = 0
    · subst hz
      have e0 : ordr π σ (d + 1) bf 0 = [] := by
        unfold ordr
        rw [argm_zero]
      rw [e0]
      exact ⟨st, hbase bf i m sum st, fun t ht => absurd ht (Nat.not_lt_zero _), fun _ _ => rfl⟩
    · cases ha : argm (wf π σ bf S) S with
      | none => exact absurd (argm_none hS64 ha) hz
      | some p =>
        obtain ⟨hp, hp6⟩ := argm_ok ha
        have hpc := st_pc S hS64 p hp6 hp
        have hcl := st_lt S hS64 p hp6 hp
        have hwp := wf_le (π := π) (σ := σ) (bf := bf) hS64 hp6
        have eo : ordr π σ (d + 1) bf S = p :: ordr π σ d (some p) (clr S p) := by
          show (match argm (wf π σ bf S) S with
            | none => []
            | some p => p :: ordr π σ d (some p) (clr S p)) = _
          rw [ha]
        have e1 := m_lay160 (k147 := f_X10_laysSeams_147 m_letter m_letters m_s m) (i := i) (sum := sum) (st := st) hS hQ ok os hS64 hsub hbf (by omega) (fun o ho hb => hm (clr S o) o (subE_clr hS64 (by omega) hsub) (Nat.le_trans (st_le S hS64 o (by omega)) hSE) (hsub o hb).2 ho) ha
        obtain ⟨st', e2, q1, q2⟩ := ih (some p) (clr S p) (i + 1) m (if sum = -1 then nI (wf π σ bf S p) else sum) (upd st i (nI p)) (by omega) (by omega) (subE_clr hS64 hp6 hsub) (fun l hl => by cases hl; exact hsub p hp) (by omega) (by omega) (by omega)
        refine ⟨st', ?_, fun t ht => ?_, fun t ht => ?_⟩
        · rw [f_X10_laysSeams_147, if_neg (by rw [show (0 : Int32) = nI 0 from rfl, nI_eqI (by omega) (by omega)]; exact hz), e1]
          refine Eq.trans e2 ?_
          have hne : ¬ (if sum = -1 then nI (wf π σ bf S p) else sum) = -1 := by
            by_cases h : sum = -1
            · rw [if_pos h, nI_neM (by omega)]; exact fun h => h
            · rw [if_neg h]; exact h
          rw [if_neg hne, eo, List.length_cons, show i + 1 + (ordr π σ d (some p) (clr S p)).length = i + ((ordr π σ d (some p) (clr S p)).length + 1) by omega]
          rfl
        · rw [eo] at ht ⊢
          rw [List.length_cons] at ht
          cases t with
          | zero => rw [Nat.add_zero, q2 i (by omega), upd_s]; rfl
          | succ t => rw [show i + (t + 1) = i + 1 + t by omega, q1 t (by omega)]; rfl
        · rw [q2 t (by omega), upd_n (by omega)]
theorem m_laysSeams (hS : RM π σ m_s) (hQ : RPm π m_beds m_letters m_readers m_bed m_letter m_reader) (ok : OkP π) (os : OkS π σ) (mb st : Nat → Int32) (sm0 : Int32) : ∃ mb' st', f_X10_laysSeams m_letter m_letters m_s mb st sm0 = some (nI (stfV π σ), mb', st', nI (stfL π σ).length) ∧ ∀ t, t < (stfL π σ).length → st' t = nI ((stfL π σ).getD t 0) := by
  have hL := ok.2.1
  have h64 := pow6 (gL π) hL
  have hE := eSet_lt π σ
  unfold f_X10_laysSeams
  rw [m_someLeft hS hQ ok os, b1_s]
  obtain ⟨c', e, q⟩ := loopR (A := Unit) (C := Nat → Int32) (F := fun m c x => f_X10_laysSeams_7 m_letter m_letters m_s m (nI (eSet π σ)) x c st sm0) (B := eSet π σ + 1) (step := fun _ _ => ()) (fin := fun c => f_X10_laysSeams_147 m_letter m_letters m_s FU (nI (eSet π σ)) (-1) (-1) c st 0) (Q := fun S _ c => RMb π σ S 0 c) (fun m c => by
      show f_X10_laysSeams_7 m_letter m_letters m_s (m + 1) (nI (eSet π σ)) (nI (eSet π σ + 1)) c st sm0 = _
      rw [f_X10_laysSeams_7, if_pos ((nI_ltI (by omega) (by omega)).mpr (Nat.lt_succ_self _))]) (fun m _ c S hS2 hc => by
      obtain ⟨mb', e1, q1⟩ := m_lay14 (m_stuffing := st) (m_stuffedMany := sm0) (k7 := f_X10_laysSeams_7 m_letter m_letters m_s m) (S := S) hS hQ ok os (by omega) hc
      refine ⟨mb', ?_, q1⟩
      show f_X10_laysSeams_7 m_letter m_letters m_s (m + 1) (nI (eSet π σ)) (nI S) c st sm0 = f_X10_laysSeams_7 m_letter m_letters m_s m (nI (eSet π σ)) (nI (S + 1)) mb' st sm0
      rw [f_X10_laysSeams_7, if_neg (by rw [nI_ltJ (by omega) (by omega)]; omega)]
      exact e1) (eSet π σ + 1) 0 FU () mb (by omega) (FU_gt (by omega)) (fun S' l' _ _ _ h => absurd h (by omega))
  obtain ⟨st', e2, q1, -⟩ := m_lay147 (mb := c') hS hQ ok os (fun S l h1 h2 h3 h4 => q S l h1 h3 h4 (Or.inl (Nat.lt_succ_of_le h2))) 6 none (eSet π σ) 0 FU (-1) st (by omega) (Nat.le_refl _) (fun o ho => (eSet_bit π σ o).mp ho) (fun l hl => by cases hl) (pc6 _ (by omega)) (by have := pc6 (eSet π σ) (by omega); omega) (FU_gt (by omega))
  refine ⟨c', st', Eq.trans e (Eq.trans e2 ?_), fun t ht => by have := q1 t ht; rw [Nat.zero_add] at this; exact this⟩
  rw [if_pos rfl, Nat.zero_add]
  rfl
end KT
section KU
variable {π : Pg} {σ : Sg} {s_year s_wet s_lost s_eaten s_tied s_ripeMany : Int32} {s_gone s_place s_heard s_many s_lying s_ripe : Nat → Int32}
variable {p_beds p_letters p_readers : Int32} {p_far p_drain p_length p_words p_home : Nat → Int32}
variable {m_s m_now m_bed m_letter m_reader m_refused m_stuffing m_mostBy f_order f_seam f_toCome : Nat → Int32} {m_beds m_letters m_readers m_thrown x_missing x_misused m_stuffedMany f_places f_seams : Int32}
theorem k_stuff (hS : RS π σ (s_year, s_wet, s_lost, s_eaten, s_tied, s_ripeMany, s_gone, s_place, s_heard, s_many, s_lying, s_ripe)) (hM : RM π σ m_now) (hP : RPc π (p_beds, p_letters, p_readers, p_far, p_drain, p_length, p_words, p_home)) (hQ : RPm π m_beds m_letters m_readers m_bed m_letter m_reader) (ok : OkP π) (os : OkS π σ) :
    ∃ r fo fs ft fp fse s2 mb st sm, f_X9_stuff s_gone f_order f_seam f_toCome f_places f_seams p_letters p_length p_words = some (r, fo, fs, ft, fp, fse) ∧ f_X10_stuff m_thrown m_letter m_letters m_now m_s m_mostBy m_stuffing m_stuffedMany = some (r, 0, s2, mb, st, sm) := by
  unfold f_X9_stuff f_X10_stuff
  obtain ⟨m2, e2, hT⟩ := m_take (m_s := m_s) ok os hM
  obtain ⟨fo, fs, ft, e1, q1⟩ := c_find hS hP ok os f_order f_seam f_toCome f_places f_seams
  obtain ⟨mb, st, e3, q3⟩ := m_laysSeams hT hQ ok os m_mostBy m_stuffing m_stuffedMany
  refine ⟨_, fo, fs, ft, _, _, m2, mb, st, _, by rw [e1, b5_s], by rw [e2, b1_s, e3, b4_s]⟩
theorem k_stuffed (hS : RS π σ (s_year, s_wet, s_lost, s_eaten, s_tied, s_ripeMany, s_gone, s_place, s_heard, s_many, s_lying, s_ripe)) (hM : RM π σ m_now) (hP : RPc π (p_beds, p_letters, p_readers, p_far, p_drain, p_length, p_words, p_home)) (hQ : RPm π m_beds m_letters m_readers m_bed m_letter m_reader) (ok : OkP π) (os : OkS π σ) (hc : RC x_missing x_misused m_refused) (n1 : Int32) :
    ∃ ex r mu fo fs ft fp fse rf s2 mb st sm, f_X9_stuffed x_misused s_gone f_order f_seam f_toCome f_places f_seams p_letters p_length p_words n1 = some (ex, r, mu, fo, fs, ft, fp, fse) ∧ f_X10_stuffed m_thrown m_refused m_letter m_letters m_now m_s m_mostBy m_stuffing m_stuffedMany n1 = some (r, if ex = 0 then 0 else 1, rf, s2, mb, st, sm) ∧ (ex = 0 ∨ ex = 2) ∧ RC x_missing mu rf := by
  unfold f_X9_stuffed f_X10_stuffed
  rw [c_place]
  by_cases h : 0 ≤ n1
  case neg =>
    refine ⟨2, 0, x_misused + 1, f_order, f_seam, f_toCome, f_places, f_seams, upd m_refused 1 (m_refused 1 + 1), m_s, m_mostBy, m_stuffing, m_stuffedMany, ?_, ?_, Or.inr rfl, rc_mu hc⟩
    · rw [if_neg h]; rfl
    · rw [if_pos (Int32.not_le.mp h)]; rfl
  obtain ⟨m2, e2, hT⟩ := m_take (m_s := m_s) ok os hM
  obtain ⟨fo, fs, ft, e1, q1⟩ := c_find hS hP ok os f_order f_seam f_toCome f_places f_seams
  obtain ⟨mb, st, e3, q3⟩ := m_laysSeams hT hQ ok os m_mostBy m_stuffing m_stuffedMany
  have hlen : (stfL π σ).length ≤ 6 := by
    have h64 := pow6 (gL π) ok.2.1
    have hE := eSet_lt π σ
    have hl : ∀ (d : Nat) (bf : Option Nat) (S : Nat), (ordr π σ d bf S).length ≤ d := by
      intro d
      induction d with
      | zero => intro bf S; exact Nat.le_refl _
      | succ d ih =>
        intro bf S
        unfold ordr
        cases ha : argm (wf π σ bf S) S with
        | none => exact Nat.zero_le _
        | some p => exact Nat.succ_le_succ (ih _ _)
    exact hl 6 none _
  refine ⟨0, if nI (stfL π σ).length ≤ n1 then -1 else fo n1.toNatClampNeg, x_misused, fo, fs, ft, nI (stfL π σ).length, nI (stfV π σ), m_refused, m2, mb, st, nI (stfL π σ).length, ?_, ?_, Or.inl rfl, hc⟩
  · rw [if_pos h, b2_s, if_pos rfl, e1, b5_s]
    by_cases h2 : nI (stfL π σ).length ≤ n1
    · rw [if_pos h2, if_pos h2]
    · obtain ⟨t, ht, rfl⟩ := inL (by omega) h (Int32.not_le.mp h2)
      rw [if_neg h2, if_neg h2, if_neg (by rw [show (6 : Int32) = nI 6 from rfl, nI_leJ (by omega) (by omega)]; omega), ixb_nI (by omega) (by omega), if_pos rfl]
  · rw [if_neg (Int32.not_lt.mpr h)]
    unfold f_X10_stuffed_15
    rw [m_may1, b3_s, if_neg (show ¬ (1 : Int32) = 0 by decide), e2, b1_s, e3, b4_s]
    by_cases h2 : nI (stfL π σ).length ≤ n1
    · rw [if_pos h2, if_pos h2]; rfl
    · obtain ⟨t, ht, rfl⟩ := inL (by omega) h (Int32.not_le.mp h2)
      rw [if_neg h2, if_neg h2, ixb_nI (by omega) (by omega), if_pos rfl, nI_cl (by omega), q1 t ht, q3 t ht]
      rfl
end KU

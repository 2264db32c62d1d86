/-! ===== what changes the state: in plain words ===== -/
def fup {A : Type} (f : Nat → A) (k : Nat) (v : A) : Nat → A := fun j => if j = k then v else f j
theorem fup_s {A : Type} (f : Nat → A) (k : Nat) (v : A) : fup f k v k = v := if_pos rfl
theorem fup_n {A : Type} {f : Nat → A} {k j : Nat} {v : A} (h : j ≠ k) : fup f k v j = f j := if_neg h
theorem getD_sn {L : List Nat} {w k : Nat} (h : k < L.length) : (L ++ [w]).getD k 0 = L.getD k 0 := by
  rw [List.getD_eq_getElem?_getD, List.getElem?_append_left h, ← List.getD_eq_getElem?_getD]
theorem getD_la {L : List Nat} {w : Nat} : (L ++ [w]).getD L.length 0 = w := by
  rw [List.getD_eq_getElem?_getD, List.getElem?_append_right (Nat.le_refl _), Nat.sub_self]; rfl
theorem getD_dr {L : List Nat} {k : Nat} : (L.drop 1).getD k 0 = L.getD (k + 1) 0 := by
  rw [List.getD_eq_getElem?_getD, List.getElem?_drop, Nat.add_comm, ← List.getD_eq_getElem?_getD]
theorem getD_co {L : List Nat} {w k : Nat} : (w :: L).getD (k + 1) 0 = L.getD k 0 := rfl
theorem cpb_nI {sp dp m n0 n1 : Nat} (h1 : sp + m ≤ n0) (h2 : dp + m ≤ n1) (h3 : n0 < 2147483648) (h4 : n1 < 2147483648) : cpb (nI sp) (nI dp) (nI m) n0 n1 = true := by
  unfold cpb
  rw [nI_clamp (n := sp) (by omega), nI_clamp (n := dp) (by omega), nI_clamp (n := m) (by omega)]
  simp [nI_pos' (n := sp) (by omega), nI_pos' (n := dp) (by omega), nI_pos' (n := m) (by omega), h1, h2]
def oGrow (rp : List Nat) (w : Nat) : List Nat := (if rp.length = 60 then rp.drop 1 else rp) ++ [w]
def oYear1 (b : Nat) (σ : Sg) : Sg := match gLy σ b with
  | [] => σ
  | w :: r => (σ.1, gTi σ, gGo σ, gPl σ, gHe σ, fup (gLy σ) b r, oGrow (gRp σ) w)
def oYear (π : Pg) (σ : Sg) : Sg := ((gYr σ + 1, gWt σ / 2, gLo σ, gEa σ), (itN oYear1 (gB π) 0 σ).2)
def oEat (b : Nat) (σ : Sg) : Sg := ((gYr σ, gWt σ, gLo σ, gEa σ + (gLy σ b).length), gTi σ, gGo σ, gPl σ, gHe σ, fup (gLy σ) b [], gRp σ)
def oGo (r b : Nat) (σ : Sg) : Sg := (σ.1, gTi σ, gGo σ, fup (gPl σ) r b, fup (gHe σ) r (gHe σ r ||| bitsOf (gLy σ b)), gLy σ, gRp σ)
/-- one word runs out of a letter -/
def oDrop (π : Pg) (l : Nat) (σ : Sg) : Sg := if (gLy σ (gDr π l)).length < 12 then (σ.1, gTi σ, fup (gGo σ) l (gGo σ l + 1), gPl σ, gHe σ, fup (gLy σ) (gDr π l) (gLy σ (gDr π l) ++ [gWd π l (gGo σ l)]), gRp σ) else ((gYr σ, gWt σ, gLo σ + 1, gEa σ), gTi σ, fup (gGo σ) l (gGo σ l + 1), gPl σ, gHe σ, gLy σ, gRp σ)
def oRun (π : Pg) (l n : Nat) (σ : Sg) : Sg := itN (fun _ τ => oDrop π l τ) n 0 σ
def oTie (l : Nat) (σ : Sg) : Sg := (σ.1, fup (gTi σ) l (!gTi σ l), gGo σ, gPl σ, gHe σ, gLy σ, gRp σ)
/-- a wind for one reader: has he heard anything new? -/
def oBlow1 (π : Pg) (N r : Nat) (q : Bool × Sg) : Bool × Sg := if gFa π (gPl q.2 r) ≤ N then (q.1 || decide ((nexts π q.2 &&& (gHe q.2 r ^^^ -1)) ≠ 0), (q.2.1, gTi q.2, gGo q.2, gPl q.2, fup (gHe q.2) r (gHe q.2 r ||| nexts π q.2), gLy q.2, gRp q.2)) else q
def oBlow (π : Pg) (N : Nat) (σ : Sg) : Bool × Sg := itN (oBlow1 π N) (gR π) 0 (false, σ)
section OC
variable {π : Pg} {σ : Sg} {s_year s_wet s_lost s_eaten s_tied s_ripeMany : Int32} {s_gone s_place s_heard s_many s_lying s_ripe : Nat → Int32}
variable {p_beds p_letters p_readers : Int32} {p_far p_drain p_length p_words p_home : Nat → Int32}
theorem c_ripen {rp : List Nat} {w : Nat} (h1 : s_ripeMany = nI rp.length) (h2 : ∀ k, k < rp.length → s_ripe k = nI (rp.getD k 0)) (h3 : rp.length ≤ 60) : ∃ rm ri, f_X4_ripen s_ripeMany s_ripe (nI w) = some (rm, ri) ∧ rm = nI (oGrow rp w).length ∧ ∀ k, k < (oGrow rp w).length → ri k = nI ((oGrow rp w).getD k 0) := by
  subst h1
  have e60 : (60 : Int32) = nI 60 := rfl
  have e59 : (59 : Int32) = nI 59 := rfl
  unfold f_X4_ripen oGrow
  by_cases h : rp.length = 60
  · rw [if_neg (by rw [h]; decide), if_pos h]
    have hl : (rp.drop 1).length = 59 := by rw [List.length_drop, h]
    rw [show (1 : Int32) = nI 1 from rfl, show (0 : Int32) = nI 0 from rfl, e59, cpb_nI (by decide) (by decide) (by decide) (by decide), if_pos rfl]
    unfold f_X4_ripen_30
    simp (disch := omega) only [lit, ixb_nI, nI_cl, if_true, nI_add]
    refine ⟨_, _, rfl, by rw [List.length_append, hl]; rfl, fun k hk => ?_⟩
    rw [List.length_append, hl] at hk
    have hk' : k < 60 := hk
    rw [upd_at]
    by_cases h9 : k = 59
    · rw [if_pos h9, h9, ← hl, getD_la]
    · rw [if_neg h9, getD_sn (by omega), getD_dr]
      show (if 0 ≤ k ∧ k < 0 + 59 then s_ripe (1 + (k - 0)) else s_ripe k) = _
      rw [if_pos ⟨Nat.zero_le _, by omega⟩, h2 _ (by omega)]
      congr 2
      omega
  · rw [if_pos (by rw [e60, nI_ltJ (by omega) (by decide)]; omega), if_neg h]
    unfold f_X4_ripen_30
    simp (disch := omega) only [lit, ixb_nI, nI_cl, if_true, nI_add]
    refine ⟨_, _, rfl, by rw [List.length_append]; rfl, fun k hk => ?_⟩
    rw [List.length_append] at hk
    have hk' : k < rp.length + 1 := hk
    rw [upd_at]
    by_cases h9 : k = rp.length
    · rw [if_pos h9, h9, getD_la]
    · rw [if_neg h9, getD_sn (by omega), h2 _ (by omega)]
end OC

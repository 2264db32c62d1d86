/-! ===== the model's saved states: what can be undone, images ===== -/
def OkT (π : Pg) (σ : Sg) : Prop := OkS π σ ∧ OkH π σ ∧ gYr σ ≤ 400
/-- the rows of what can be undone, the latest first -/
def RPa (π : Pg) : List Sg → (Nat → Int32) → Prop
  | [], _ => True
  | τ :: L, past => RM π τ (fun k => past (165 * L.length + k)) ∧ RPa π L past
def OkL2 (π : Pg) (L : List Sg) : Prop := ∀ τ ∈ L, OkT π τ
/-- the rows of the images, the latest first -/
def RIm (π : Pg) : List (Sg × List Sg) → (Nat → Int32) → Prop
  | [], _ => True
  | (τ, L) :: I, img => RM π τ (fun k => img (2806 * I.length + k)) ∧ RPa π L (fun k => img (2806 * I.length + 165 + k)) ∧ img (2806 * I.length + 2805) = nI L.length ∧ RIm π I img
def OkI (π : Pg) (I : List (Sg × List Sg)) : Prop := ∀ p ∈ I, OkT π p.1 ∧ OkL2 π p.2 ∧ p.2.length ≤ 16
theorem okL_tl {π : Pg} {τ : Sg} {L : List Sg} (h : OkL2 π (τ :: L)) : OkT π τ ∧ OkL2 π L := ⟨h τ (List.mem_cons_self ..), fun x hx => h x (List.mem_cons_of_mem _ hx)⟩
theorem okI_tl {π : Pg} {p : Sg × List Sg} {I : List (Sg × List Sg)} (h : OkI π (p :: I)) : (OkT π p.1 ∧ OkL2 π p.2 ∧ p.2.length ≤ 16) ∧ OkI π I := ⟨h p (List.mem_cons_self ..), fun x hx => h x (List.mem_cons_of_mem _ hx)⟩
theorem RPa_congr {π : Pg} (ok : OkP π) {p1 p2 : Nat → Int32} : ∀ (L : List Sg), OkL2 π L → RPa π L p1 → (∀ i, i < 165 * L.length → p2 i = p1 i) → RPa π L p2 := by
  intro L
  induction L with
  | nil => intro _ _ _; trivial
  | cons τ L ih =>
    intro hok h e
    rw [List.length_cons] at e
    exact ⟨RM_congr ok (okL_tl hok).1.1 h.1 (fun i hi => e _ (by omega)), ih (okL_tl hok).2 h.2 (fun i hi => e i (by omega))⟩
theorem RIm_congr {π : Pg} (ok : OkP π) {p1 p2 : Nat → Int32} : ∀ (I : List (Sg × List Sg)), OkI π I → RIm π I p1 → (∀ i, i < 2806 * I.length → p2 i = p1 i) → RIm π I p2 := by
  intro I
  induction I with
  | nil => intro _ _ _; trivial
  | cons p I ih =>
    obtain ⟨τ, L⟩ := p
    intro hok h e
    rw [List.length_cons] at e
    obtain ⟨h1, h2, h3, h4⟩ := h
    obtain ⟨⟨o1, o2, o3⟩, o4⟩ := okI_tl hok
    have o3 : L.length ≤ 16 := o3
    exact ⟨RM_congr ok o1.1 h1 (fun i hi => e _ (by omega)), RPa_congr ok L o2 h2 (fun i hi => e _ (by omega)), (e _ (by omega)).trans h3, ih o4 h4 (fun i hi => e i (by omega))⟩
section SV
variable {π : Pg} {σ τ : Sg} {m_now m_past m_image m_refused : Nat → Int32} {m_thrown m_works m_refusedSteps m_images m_taped : Int32}
theorem m_undo0 : f_X10_undo m_thrown (nI 0) m_refusedSteps m_now m_past = some (-1, 0, nI 0, m_refusedSteps, m_now) := rfl
theorem m_undo1 (ok : OkP π) {L : List Sg} (hL : OkL2 π (τ :: L)) (h16 : L.length < 16) (h : RPa π (τ :: L) m_past) : ∃ now', f_X10_undo m_thrown (nI (L.length + 1)) m_refusedSteps m_now m_past = some (nI L.length, 0, nI L.length, 0, now') ∧ RM π τ now' := by
  unfold f_X10_undo
  rw [ite_eq0 (by omega), if_neg (Nat.succ_ne_zero _), show nI (L.length + 1) - 1 = nI L.length from nI_sub (a := L.length + 1) (b := 1) (by omega)]
  obtain ⟨c', e, q⟩ := loopR (A := Unit) (C := Nat → Int32) (F := fun m c x => f_X10_undo_26 m_past m x 0 (nI L.length) m_refusedSteps c) (B := 165) (step := fun _ _ => ()) (fin := fun c => some (nI L.length, 0, nI L.length, 0, c)) (Q := fun k _ c => ∀ i, i < k → c i = m_past (165 * L.length + i)) (fun m c => by
      show f_X10_undo_26 m_past (m + 1) (nI 165) 0 (nI L.length) m_refusedSteps c = _
      rw [f_X10_undo_26, if_pos (by decide)]) (fun m _ c k hk hc => by
      refine ⟨upd c k (m_past (165 * L.length + k)), ?_, fun i hi => ?_⟩
      · show f_X10_undo_26 m_past (m + 1) (nI k) 0 (nI L.length) m_refusedSteps c = f_X10_undo_26 m_past m (nI (k + 1)) 0 (nI L.length) m_refusedSteps _
        rw [f_X10_undo_26, if_neg (by rw [show (165 : Int32) = nI 165 from rfl, nI_leJ (by omega) (by omega)]; omega), show (165 : Int32) * nI L.length + nI k = nI (165 * L.length + k) by rw [show (165 : Int32) = nI 165 from rfl, nI_mul, nI_add], ixb_nI (by omega) (by omega), if_pos rfl, ixb_nI (by omega) (by omega), if_pos rfl, nI_cl (by omega), nI_cl (by omega), nI_1]
      · by_cases h9 : i = k
        · rw [h9, upd_s]
        · rw [upd_n h9]; exact hc i (by omega)) 165 0 FU () m_now (by omega) (FU_gt (by omega)) (fun i hi => absurd hi (Nat.not_lt_zero _))
  exact ⟨c', e, RM_congr ok (okL_tl hL).1.1 h.1 q⟩
theorem m_keep {n : Nat} {r_v : Nat → Int32} {b s : Nat} (hb : b + s ≤ 8418) (hs : s ≤ n) (hn : n < 100000) : ∃ img, f_X10_keepsRow m_image n r_v (nI b) (nI s) 1 = some (nI (b + s), img, r_v) ∧ ∀ i, img i = if b ≤ i ∧ i < b + s then r_v (i - b) else m_image i := by
  unfold f_X10_keepsRow
  obtain ⟨c', e, q⟩ := loopR (A := Unit) (C := Nat → Int32) (F := fun m c x => f_X10_keepsRow_3 n (nI b) (nI s) 1 m x c r_v) (B := s) (step := fun _ _ => ()) (fin := fun c => some (nI (b + s), c, r_v)) (Q := fun k _ c => ∀ i, c i = if b ≤ i ∧ i < b + k then r_v (i - b) else m_image i) (fun m c => by
      show f_X10_keepsRow_3 n (nI b) (nI s) 1 (m + 1) (nI s) c r_v = _
      rw [f_X10_keepsRow_3, if_pos (Int32.le_refl _), nI_add]) (fun m _ c k hk hc => by
      refine ⟨upd c (b + k) (r_v k), ?_, fun i => ?_⟩
      · show f_X10_keepsRow_3 n (nI b) (nI s) 1 (m + 1) (nI k) c r_v = f_X10_keepsRow_3 n (nI b) (nI s) 1 m (nI (k + 1)) _ r_v
        rw [f_X10_keepsRow_3, if_neg (by rw [nI_leJ (by omega) (by omega)]; omega), if_neg (by decide), nI_add, ixb_nI (by omega) (by omega), if_pos rfl, ixb_nI (by omega) (by omega), if_pos rfl, nI_cl (by omega), nI_cl (by omega), nI_1]
      · by_cases h9 : i = b + k
        · rw [h9, upd_s, if_pos ⟨by omega, by omega⟩, show b + k - b = k by omega]
        · rw [upd_n h9, hc i]
          by_cases h8 : b ≤ i ∧ i < b + k
          · rw [if_pos h8, if_pos ⟨h8.1, by omega⟩]
          · rw [if_neg h8, if_neg (fun h => h8 ⟨h.1, by omega⟩)]) s 0 FU () m_image (by omega) (FU_gt (by omega)) (fun i => by rw [if_neg (by omega)])
  exact ⟨c', e, q⟩
theorem m_back {n : Nat} {r_v : Nat → Int32} {b s : Nat} (hb : b + s ≤ 8418) (hs : s ≤ n) (hn : n < 100000) : ∃ v, f_X10_keepsRow m_image n r_v (nI b) (nI s) 0 = some (nI (b + s), m_image, v) ∧ ∀ i, i < s → v i = m_image (b + i) := by
  unfold f_X10_keepsRow
  obtain ⟨c', e, q⟩ := loopR (A := Unit) (C := Nat → Int32) (F := fun m c x => f_X10_keepsRow_3 n (nI b) (nI s) 0 m x m_image c) (B := s) (step := fun _ _ => ()) (fin := fun c => some (nI (b + s), m_image, c)) (Q := fun k _ c => ∀ i, i < k → c i = m_image (b + i)) (fun m c => by
      show f_X10_keepsRow_3 n (nI b) (nI s) 0 (m + 1) (nI s) m_image c = _
      rw [f_X10_keepsRow_3, if_pos (Int32.le_refl _), nI_add]) (fun m _ c k hk hc => by
      refine ⟨upd c k (m_image (b + k)), ?_, fun i hi => ?_⟩
      · show f_X10_keepsRow_3 n (nI b) (nI s) 0 (m + 1) (nI k) m_image c = f_X10_keepsRow_3 n (nI b) (nI s) 0 m (nI (k + 1)) m_image _
        rw [f_X10_keepsRow_3, if_neg (by rw [nI_leJ (by omega) (by omega)]; omega), if_pos rfl, nI_add, ixb_nI (by omega) (by omega), if_pos rfl, ixb_nI (by omega) (by omega), if_pos rfl, nI_cl (by omega), nI_cl (by omega), nI_1]
      · by_cases h9 : i = k
        · rw [h9, upd_s]
        · rw [upd_n h9]; exact hc i (by omega)) s 0 FU () r_v (by omega) (FU_gt (by omega)) (fun i hi => absurd hi (Nat.not_lt_zero _))
  exact ⟨c', e, q⟩
theorem m_image3 : f_X10_image m_thrown m_works m_now m_past m_image (nI 3) = some (-1, 0, m_works, m_now, m_past, m_image, nI 3) := rfl
theorem m_image1 (ok : OkP π) (os : OkT π σ) (hM : RM π σ m_now) {L : List Sg} (hL : OkL2 π L) (h16 : L.length ≤ 16) (h : RPa π L m_past) {I : List (Sg × List Sg)} (h3 : I.length < 3) (hI : OkI π I) (hR : RIm π I m_image) (hw : m_works = nI L.length) : ∃ img, f_X10_image m_thrown m_works m_now m_past m_image (nI I.length) = some (nI (I.length + 1), 0, m_works, m_now, m_past, img, nI (I.length + 1)) ∧ RIm π ((σ, L) :: I) img := by
  obtain ⟨i1, e1, q1⟩ := m_keep (m_image := m_image) (n := 165) (r_v := m_now) (b := 2806 * I.length) (s := 165) (by omega) (by omega) (by omega)
  obtain ⟨i2, e2, q2⟩ := m_keep (m_image := i1) (n := 2640) (r_v := m_past) (b := 2806 * I.length + 165) (s := 2640) (by omega) (by omega) (by omega)
  refine ⟨upd i2 (2806 * I.length + 2805) m_works, ?_, ?_⟩
  · unfold f_X10_image f_X10_keepsAll
    rw [show (3 : Int32) = nI 3 from rfl, ite_eq (by omega) (by omega), if_neg (by omega), show (2806 : Int32) * nI I.length = nI (2806 * I.length) from nI_mul 2806 _, show (165 : Int32) = nI 165 from rfl, show (2640 : Int32) = nI 2640 from rfl, e1, b3_s, e2, b3_s, if_neg (by decide), ixb_nI (by omega) (by omega), if_pos rfl, b4_s, nI_1, nI_cl (by omega)]
  · refine ⟨RM_congr ok os.1 hM (fun i hi => ?_), RPa_congr ok L hL h (fun i hi => ?_), ?_, RIm_congr ok I hI hR (fun i hi => ?_)⟩
    · rw [upd_n (by omega), q2, if_neg (by omega), q1, if_pos ⟨by omega, by omega⟩, show 2806 * I.length + i - 2806 * I.length = i by omega]
    · rw [upd_n (by omega), q2, if_pos ⟨by omega, by omega⟩, show 2806 * I.length + 165 + i - (2806 * I.length + 165) = i by omega]
    · rw [upd_s, hw]
    · rw [upd_n (by omega), q2, if_neg (by omega), q1, if_neg (by omega)]
theorem m_restore0 : f_X10_restore m_thrown m_works m_refusedSteps m_now m_past m_image (nI 0) = some (-1, 0, m_works, m_refusedSteps, m_now, m_past, m_image, nI 0) := rfl
theorem m_restore1 (ok : OkP π) {L : List Sg} {I : List (Sg × List Sg)} (h3 : I.length < 3) (hI : OkI π ((τ, L) :: I)) (hR : RIm π ((τ, L) :: I) m_image) : ∃ now' past', f_X10_restore m_thrown m_works m_refusedSteps m_now m_past m_image (nI (I.length + 1)) = some (nI I.length, 0, nI L.length, 0, now', past', m_image, nI I.length) ∧ RM π τ now' ∧ RPa π L past' ∧ RIm π I m_image := by
  obtain ⟨h1, h2, h4, h5⟩ := hR
  obtain ⟨⟨o1, o2, o3⟩, o4⟩ := okI_tl hI
  have o3 : L.length ≤ 16 := o3
  obtain ⟨v1, e1, q1⟩ := m_back (m_image := m_image) (n := 165) (r_v := m_now) (b := 2806 * I.length) (s := 165) (by omega) (by omega) (by omega)
  obtain ⟨v2, e2, q2⟩ := m_back (m_image := m_image) (n := 2640) (r_v := m_past) (b := 2806 * I.length + 165) (s := 2640) (by omega) (by omega) (by omega)
  refine ⟨v1, v2, ?_, RM_congr ok o1.1 h1 (fun i hi => q1 i hi), RPa_congr ok L o2 h2 (fun i hi => q2 i (by omega)), h5⟩
  unfold f_X10_restore f_X10_keepsAll
  rw [ite_eq0 (by omega), if_neg (Nat.succ_ne_zero _), show nI (I.length + 1) - 1 = nI I.length from nI_sub (a := I.length + 1) (b := 1) (by omega), show (2806 : Int32) * nI I.length = nI (2806 * I.length) from nI_mul 2806 _, show (165 : Int32) = nI 165 from rfl, show (2640 : Int32) = nI 2640 from rfl, e1, b3_s, e2, b3_s, if_pos rfl, ixb_nI (by omega) (by omega), if_pos rfl, b4_s, nI_cl (by omega), h4]
theorem m_count (n1 : Int32) : f_X10_count m_thrown m_taped m_works m_images n1 = some (if n1 = 0 then m_images else if n1 = 1 then m_taped else if n1 = 2 then m_works else -1, 0) := by
  unfold f_X10_count
  by_cases h0 : n1 = 0
  · rw [if_pos h0, if_pos h0]
  · rw [if_neg h0, if_neg h0]
    by_cases h1 : n1 = 1
    · rw [if_pos h1, if_pos h1]
    · rw [if_neg h1, if_neg h1]
      by_cases h2 : n1 = 2
      · rw [if_pos h2, if_pos h2]
      · rw [if_neg h2, if_neg h2]
end SV

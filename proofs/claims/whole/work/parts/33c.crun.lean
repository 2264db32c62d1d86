/-! ===== how the class does a work ===== -/
abbrev Rt : Type := Int32 × (Nat → Int32) × Int32 × Int32 × Int32 × Int32 × Int32 × Int32 × Int32 × Int32 × (Nat → Int32) × (Nat → Int32) × (Nat → Int32) × (Nat → Int32) × (Nat → Int32) × (Nat → Int32) × (Nat → Int32) × (Nat → Int32)
def Ans (π : Pg) (xs : Xt) (r : Option Rt) : Prop := ∃ rd y w lo ea ti rm go pl he ma ly ri va st, r = some (nI xs.2.1, rd, nI xs.1, nI xs.2.2.1, y, w, lo, ea, ti, rm, go, pl, he, ma, ly, ri, va, st) ∧ RS π xs.2.2.2 (y, w, lo, ea, ti, rm, go, pl, he, ma, ly, ri) ∧ OkT π xs.2.2.2
def GoW (π : Pg) (K F S : Nat → Int32) (W : Nat) (p_beds p_letters p_readers : Int32) (p_far p_drain p_length p_words l_code : Nat → Int32) (l_length : Int32) (i t : Nat) (rd : Nat → Int32) (x xs : Xt) : Prop := ∀ (m : Nat) (y w lo ea ti rm : Int32) (go pl he ma ly ri va st : Nat → Int32), RS π x.2.2.2 (y, w, lo, ea, ti, rm, go, pl, he, ma, ly, ri) → OkT π x.2.2.2 → 7000 ≤ m + t → Ans π xs (f_X8_perform_19 K F S (nI W) p_beds p_letters p_readers p_far p_drain p_length p_words l_code l_length m (nI x.2.1) (nI i) (nI t) rd (nI x.1) (nI x.2.2.1) y w lo ea ti rm go pl he ma ly ri va st)
section WC
variable {π : Pg} {c : List Tk} {K F S : Nat → Int32} {W : Nat} {p_beds p_letters p_readers : Int32} {p_far p_drain p_length p_words p_home l_code : Nat → Int32} {l_length : Int32}
theorem go_end {t : Nat} {rd : Nat → Int32} {x : Xt} (hW : W ≤ 150) (ht : t ≤ 6300) : GoW π K F S W p_beds p_letters p_readers p_far p_drain p_length p_words l_code l_length W t rd x x := by
  intro m y w lo ea ti rm go pl he ma ly ri va st hS hT hm
  obtain ⟨m, rfl⟩ : ∃ j, m = j + 1 := ⟨m - 1, by omega⟩
  rw [f_X8_perform_19, if_neg (show ¬ (1000000 : Int32) ≤ nI t by rw [show (1000000 : Int32) = nI 1000000 from rfl, nI_leJ (by omega) (by omega)]; omega), if_neg (Int32.not_lt.mpr (nI_pos' (n := W) (by omega))), ite_le (a := W) (b := W) (by omega) (by omega), if_pos (Nat.le_refl W)]
  exact ⟨rd, y, w, lo, ea, ti, rm, go, pl, he, ma, ly, ri, va, st, rfl, hS, hT⟩
theorem go_stop {i t : Nat} {rd : Nat → Int32} {x : Xt} (hW : W ≤ 150) (hi : i < W) (ht : t ≤ 6300) (hk : ¬ K i = 7) (hx : 200 ≤ x.1) (hx2 : x.1 ≤ 200) : GoW π K F S W p_beds p_letters p_readers p_far p_drain p_length p_words l_code l_length i t rd x x := by
  intro m y w lo ea ti rm go pl he ma ly ri va st hS hT hm
  obtain ⟨m, rfl⟩ : ∃ j, m = j + 1 := ⟨m - 1, by omega⟩
  rw [f_X8_perform_19, if_neg (show ¬ (1000000 : Int32) ≤ nI t by rw [show (1000000 : Int32) = nI 1000000 from rfl, nI_leJ (by omega) (by omega)]; omega), if_neg (Int32.not_lt.mpr (nI_pos' (n := i) (by omega))), ite_le (a := W) (b := i) (by omega) (by omega), if_neg (show ¬ W ≤ i by omega), if_neg (show ¬ (150 : Int32) ≤ nI (i) by rw [show (150 : Int32) = nI 150 from rfl, nI_leJ (by omega) (by omega)]; omega), ixb_nI (a := i) (by omega) (by omega), if_pos rfl, nI_cl (a := i) (by omega), if_neg hk, show (200 : Int32) = nI 200 from rfl, ite_lt (by omega) (by omega), if_neg (by omega)]
  exact ⟨rd, y, w, lo, ea, ti, rm, go, pl, he, ma, ly, ri, va, st, rfl, hS, hT⟩
theorem go_step (hP : RPc π (p_beds, p_letters, p_readers, p_far, p_drain, p_length, p_words, p_home)) (ok : OkP π) (hR : RLc c l_code l_length) (okl : OkL c) {s : St} (hs : OkSt π s) {i t : Nat} {rd : Nat → Int32} {x xs : Xt} (hW : W ≤ 150) (hi : i < W) (ht : t ≤ 6300) (hl : lyC K F S s i) (hx : x.1 < 200) (hg : GoW π K F S W p_beds p_letters p_readers p_far p_drain p_length p_words l_code l_length (i + 1) (t + 1) rd (exSt π c s x) xs) : GoW π K F S W p_beds p_letters p_readers p_far p_drain p_length p_words l_code l_length i t rd x xs := by
  intro m y w lo ea ti rm go pl he ma ly ri va st hS hT hm
  obtain ⟨m, rfl⟩ : ∃ j, m = j + 1 := ⟨m - 1, by omega⟩
  have h5 := hs.1
  obtain ⟨l1, l2, l3⟩ := hl
  have k7 : ¬ K i = 7 := by rw [l1, show (7 : Int32) = nI 7 from rfl, nI_eq (by omega) (by omega)]; omega
  have k6 : ¬ K i = 6 := by rw [l1, show (6 : Int32) = nI 6 from rfl, nI_eq (by omega) (by omega)]; omega
  obtain ⟨y2, w2, lo2, ea2, ti2, rm2, go2, pl2, he2, ma2, ly2, ri2, va2, st2, e1, q1⟩ := c_isDone (l_values := va) (l_stack := st) hS hP ok hT hR okl hs (show i < 150 by omega) l1 l2 l3
  rw [f_X8_perform_19, if_neg (show ¬ (1000000 : Int32) ≤ nI t by rw [show (1000000 : Int32) = nI 1000000 from rfl, nI_leJ (by omega) (by omega)]; omega), if_neg (Int32.not_lt.mpr (nI_pos' (n := i) (by omega))), ite_le (a := W) (b := i) (by omega) (by omega), if_neg (show ¬ W ≤ i by omega), if_neg (show ¬ (150 : Int32) ≤ nI (i) by rw [show (150 : Int32) = nI 150 from rfl, nI_leJ (by omega) (by omega)]; omega), ixb_nI (a := i) (by omega) (by omega), if_pos rfl, nI_cl (a := i) (by omega), if_neg k7, show (200 : Int32) = nI 200 from rfl, ite_lt (by omega) (by omega), if_pos hx, if_pos rfl, if_neg k6, e1, b15_s, nI_1, nI_1, nI_1, nI_1, nI_1]
  have hok : OkT π (doSt π c s x.2.2.2).2 := okT_do ok hs (by obtain ⟨_, _, _, _, _, _, _, _, _, h9⟩ := c_pour (l_values := va) (l_stack := st) hS hP ok hT.1 hR okl (N := s.2.1) (by have := hs.2.1; omega); exact h9) hT
  have hg := hg m y2 w2 lo2 ea2 ti2 rm2 go2 pl2 he2 ma2 ly2 ri2 va2 st2 q1 hok (by omega)
  by_cases hd : (doSt π c s x.2.2.2).1 = true
  · have e2 : exSt π c s x = (x.1 + 1, x.2.1 + 1, x.2.2.1, (doSt π c s x.2.2.2).2) := by unfold exSt; rw [if_pos hd, if_pos hd]; rfl
    rw [e2] at hg
    rw [if_pos hd, if_neg (show ¬ (1 : Int32) = 0 by decide)]
    exact hg
  · have e2 : exSt π c s x = (x.1 + 1, x.2.1, x.2.2.1 + 1, (doSt π c s x.2.2.2).2) := by unfold exSt; rw [if_neg hd, if_neg hd]; rfl
    rw [e2] at hg
    rw [if_neg hd, if_pos rfl]
    exact hg
theorem go_again {i t a e : Nat} {rd : Nat → Int32} {x xs : Xt} (hW : W ≤ 150) (hi : i < W) (ht : t ≤ 6300) (he : e < 1000) (ha : a ≤ 30) (hk : K i = 6) (hf : F i = nI a) (hs : S i = nI e) (hx : x.1 < 200) (hg : GoW π K F S W p_beds p_letters p_readers p_far p_drain p_length p_words l_code l_length (if a = 0 then e + 1 else i + 1) (t + 1) (upd rd i (nI a)) (x.1 + 1, x.2) xs) : GoW π K F S W p_beds p_letters p_readers p_far p_drain p_length p_words l_code l_length i t rd x xs := by
  intro m y w lo ea ti rm go pl he ma ly ri va st hS hT hm
  obtain ⟨m, rfl⟩ : ∃ j, m = j + 1 := ⟨m - 1, by omega⟩
  rw [f_X8_perform_19, if_neg (show ¬ (1000000 : Int32) ≤ nI t by rw [show (1000000 : Int32) = nI 1000000 from rfl, nI_leJ (by omega) (by omega)]; omega), if_neg (Int32.not_lt.mpr (nI_pos' (n := i) (by omega))), ite_le (a := W) (b := i) (by omega) (by omega), if_neg (show ¬ W ≤ i by omega), if_neg (show ¬ (150 : Int32) ≤ nI (i) by rw [show (150 : Int32) = nI 150 from rfl, nI_leJ (by omega) (by omega)]; omega), ixb_nI (a := i) (by omega) (by omega), if_pos rfl, nI_cl (a := i) (by omega), hk, if_neg (show ¬ (6 : Int32) = 7 by decide), show (200 : Int32) = nI 200 from rfl, ite_lt (by omega) (by omega), if_pos hx, if_pos rfl, if_pos rfl, if_pos rfl, if_pos rfl, if_pos rfl, if_pos rfl, hf, hs, ite_le0 (by omega), nI_1, nI_1, nI_1, nI_1]
  have hg := hg m y w lo ea ti rm go pl he ma ly ri va st hS hT (by omega)
  by_cases h0 : a = 0
  · rw [if_pos h0] at hg
    rw [if_pos h0]
    exact hg
  · rw [if_neg h0] at hg
    rw [if_neg h0]
    exact hg
theorem go_loop {i t k e : Nat} {rd : Nat → Int32} {x xs : Xt} (hW : W ≤ 150) (he : e < W) (hi : i < 150) (ht : t ≤ 6300) (hk : k ≤ 40) (hK : K e = 7) (hf : F e = nI i) (hr : rd i = nI (k + 1)) (hg : GoW π K F S W p_beds p_letters p_readers p_far p_drain p_length p_words l_code l_length (if k = 0 then e + 1 else i + 1) (t + 1) (upd rd i (nI k)) x xs) : GoW π K F S W p_beds p_letters p_readers p_far p_drain p_length p_words l_code l_length e t rd x xs := by
  intro m y w lo ea ti rm go pl he ma ly ri va st hS hT hm
  obtain ⟨m, rfl⟩ : ∃ j, m = j + 1 := ⟨m - 1, by omega⟩
  have hg := hg m y w lo ea ti rm go pl he ma ly ri va st hS hT (by omega)
  have ea : f_X8_afterRound F rd (nI e) = some (nI (if k = 0 then e + 1 else i + 1), upd rd i (nI k)) := by
    unfold f_X8_afterRound
    rw [ixb_nI (a := e) (by omega) (by omega), if_pos rfl, nI_cl (a := e) (by omega), hf, if_neg (Int32.not_lt.mpr (nI_pos' (n := i) (by omega))), show (150 : Int32) = nI 150 from rfl, ite_lt (by omega) (by omega), if_pos hi, ixb_nI (a := i) (by omega) (by omega), if_pos rfl, if_pos rfl, if_pos rfl, nI_cl (a := i) (by omega), hr, show nI (k + 1) - 1 = nI k from nI_sub (a := k + 1) (b := 1) (by omega), upd_s, ite_le0 (by omega), nI_1, nI_1]
    by_cases h0 : k = 0
    · rw [if_pos h0, if_pos h0]
    · rw [if_neg h0, if_neg h0]
  rw [f_X8_perform_19, if_neg (show ¬ (1000000 : Int32) ≤ nI t by rw [show (1000000 : Int32) = nI 1000000 from rfl, nI_leJ (by omega) (by omega)]; omega), if_neg (Int32.not_lt.mpr (nI_pos' (n := e) (by omega))), ite_le (a := W) (b := e) (by omega) (by omega), if_neg (show ¬ W ≤ e by omega), if_neg (show ¬ (150 : Int32) ≤ nI (e) by rw [show (150 : Int32) = nI 150 from rfl, nI_leJ (by omega) (by omega)]; omega), ixb_nI (a := e) (by omega) (by omega), if_pos rfl, nI_cl (a := e) (by omega), if_pos hK, ea, b2_s, nI_1]
  exact hg
end WC

/-! ===== the tape as a text; the book ===== -/
def ByT (tb : Nat → Int32) : Prop := ∀ i, (tb i).toInt8.toInt32 = tb i
theorem and255 (x : Int32) : ∃ k, k < 256 ∧ x &&& 255 = nI k := by
  refine ⟨(x &&& 255).toBitVec.toNat, ?_, ?_⟩
  · rw [Int32.toBitVec_and, BitVec.toNat_and]
    exact Nat.lt_of_le_of_lt Nat.and_le_right (by decide)
  · apply Int32.toBitVec_inj.mp
    show _ = BitVec.ofNat 32 (x &&& 255).toBitVec.toNat
    rw [BitVec.ofNat_toNat, BitVec.setWidth_eq]
theorem by32 {x : Int32} (h : x.toInt8.toInt32 = x) (h2 : x &&& 255 = 32) : x = 32 := by
  have e : (x &&& 255).toInt8 = x.toInt8 := by
    apply Int8.toBitVec_inj.mp
    rw [Int32.toBitVec_toInt8, Int32.toBitVec_toInt8, Int32.toBitVec_and]
    apply BitVec.eq_of_getLsbD_eq
    intro i hi
    have hb : (255 : Int32).toBitVec.getLsbD i = true := (by decide : ∀ i, i < 8 → (255 : Int32).toBitVec.getLsbD i = true) i hi
    rw [BitVec.getLsbD_signExtend, BitVec.getLsbD_signExtend, if_pos (by omega), if_pos (by omega), BitVec.getLsbD_and, hb, Bool.and_true]
  rw [← h, ← e, h2]
  decide
theorem text_of {T N : Nat} {tb mt : Nat → Int32} (h : RT T tb mt) (hb : ByT tb) (hN : N ≤ T) : ∃ tx, RTx tx N tb mt := by
  refine ⟨fun i => (mt i).toNatClampNeg, by have := h.1; omega, fun i hi => ?_⟩
  have e := h.2 i (by omega)
  obtain ⟨k, hk, e2⟩ := and255 (tb i)
  have e3 : mt i = nI k := e.symm.trans e2
  show (mt i).toNatClampNeg < 256 ∧ tb i &&& 255 = nI (mt i).toNatClampNeg ∧ (tb i = 32 ↔ (mt i).toNatClampNeg = 32) ∧ mt i = nI (mt i).toNatClampNeg
  rw [e3, nI_cl (by omega)]
  refine ⟨hk, e2, ⟨fun h9 => ?_, fun h9 => by32 (hb i) (by rw [e2, h9]; rfl)⟩, rfl⟩
  rw [h9] at e2
  have e2 : nI 32 = nI k := e2
  rw [nI_eq (by decide) (by omega)] at e2
  exact e2.symm
theorem RT_le {T T2 : Nat} {tb mt : Nat → Int32} (h : RT T tb mt) (h2 : T2 ≤ T) : RT T2 tb mt := ⟨by have := h.1; omega, fun i hi => h.2 i (by omega)⟩
theorem c_text {mu n1 : Int32} {T M : Nat} (hT : T ≤ 600) (hM : M ≤ 600) : f_X9_needText mu (nI T) n1 (nI M) = if 0 ≤ n1 ∧ n1 ≤ nI (min M T) then some (0, mu) else some (2, mu + 1) := by
  unfold f_X9_needText
  rw [imin_nI (by omega) (by omega), c_range]
  by_cases h : 0 ≤ n1 ∧ n1 ≤ nI (min M T)
  · rw [if_pos h, b2_s, if_pos rfl]
  · rw [if_neg h, b2_s, if_neg (by decide)]
section TB
variable {tx : Nat → Nat} {N : Nat} {tb mt : Nat → Int32} {x_missing x_misused : Int32}
theorem c_bookF {te n1 x3 ln ca cs ck cp : Int32} {bl : Nat → Int32} {m : Nat} (hk : ck ≠ 0) : f_X0_read_6 tb te n1 (m + 1) x3 bl ln ca cs ck cp = some (bl, ln, ca, cs, ck, cp) := by
  rw [f_X0_read_6, c_isAtEndF hk, b3_s, if_neg (show ¬ (1 : Int32) = 0 by decide)]
  by_cases h : (60 : Int32) ≤ x3
  · rw [if_pos h]
  · rw [if_neg h]
theorem m_book128F {n1 x4 : Int32} {k67 : Int32 → Int32 → (Nat → Int32) → Int32 → Int32 → Int32 → Int32 → Int32 → Int32 → Int32 → (Nat → Int32) → (Nat → Int32) → Int32 → Option (Int32 × Int32 × (Nat → Int32) × Int32 × Int32 × Int32 × Int32 × Int32 × Int32 × Int32 × (Nat → Int32) × (Nat → Int32) × Int32)} {x2 th tp mk op fa wr be : Int32} {rf nb bk : Nat → Int32} {f q : Nat} (hf : f ≤ 600) : f_X10_book_128 mt be n1 k67 x2 x4 th rf tp (nI N) (nI q) (nI f) mk op fa nb bk wr = f_X10_book_168 mt be n1 x2 th rf tp (nI N) (nI q) (nI f) mk op fa nb bk wr := by
  unfold f_X10_book_128
  have e1 : f_X10_readNumber (nI N) (nI q) (nI f) mk mt 0 16 = some (0, nI q, nI f, mk) := by
    unfold f_X10_readNumber
    rw [m_fine0 hf, b1_s, if_pos rfl]
  rw [e1, b4_s, m_signF hf, b3_s, m_fine0 hf, b1_s, if_pos rfl]
theorem L_book (h : RTx tx N tb mt) (hN : N ≤ 60) {B : Nat} (hB : B ≤ 6) {n1 th tp op fa wr : Int32} {rf bk : Nat → Int32} : ∀ (d i m m2 r p q : Nat) (bl nb : Nat → Int32) (cs mk : Int32), p ≤ N → q ≤ N → sk tx N p = r → sk tx N q = r → N - r ≤ d → i ≤ r → d + 1 < m → d + 1 < m2 → (∀ b, b < 6 → nb b = bl b) → ∃ s' bl' nb' L L2 ca' cs' ck' cp' ma' mb' mk', f_X0_read_6 tb (nI N) (nI B) m (nI i) bl (nI i) (nI p) cs 0 (-1) = some (bl', nI L, ca', cs', ck', cp') ∧ f_X10_book_67 mt (nI B) n1 m2 (nI i) th rf tp (nI N) (nI q) (-1) mk op fa nb bk wr = f_X10_book_168 mt (nI B) n1 (nI L2) th rf tp (nI N) ma' mb' mk' op fa nb' bk wr ∧ RT2 tx N s' ca' ck' cp' ma' mb' mk' ∧ (∀ r', s' = .inl r' → L2 = L ∧ ∀ b, b < 6 → nb' b = bl' b) := by
  have h6 := h.1
  intro d
  induction d with
  | zero =>
    intro i m m2 r p q bl nb cs mk hp hq ep eq hd hi hm hm2 hnb
    obtain ⟨m, rfl⟩ : ∃ j, m = j + 1 := ⟨m - 1, by omega⟩
    obtain ⟨m2, rfl⟩ : ∃ j, m2 = j + 1 := ⟨m2 - 1, by omega⟩
    have hr := sk_le (tx := tx) hp
    rw [f_X0_read_6, f_X10_book_67, m_fine1, b1_s, if_neg (show ¬ (1 : Int32) = 0 by decide), m_isMore h hq, b2_s, c_isAtEnd h hp, b3_s, ep, eq, if_neg (show ¬ r < N by omega), if_neg (show ¬ r < N by omega), if_pos rfl, if_neg (show ¬ (1 : Int32) = 0 by decide)]
    by_cases h60 : (60 : Int32) ≤ nI i
    · rw [if_pos h60]
      exact ⟨.inl r, bl, nb, i, i, _, _, _, _, _, _, _, rfl, rfl, ⟨rfl, rfl, rfl, ⟨p, hp, rfl, ep⟩, r, by omega, rfl, by rw [← ep, sk_sk]⟩, fun _ _ => ⟨rfl, hnb⟩⟩
    · rw [if_neg h60]
      exact ⟨.inl r, bl, nb, i, i, _, _, _, _, _, _, _, rfl, rfl, ⟨rfl, rfl, rfl, ⟨r, by omega, rfl, by rw [← ep, sk_sk]⟩, r, by omega, rfl, by rw [← ep, sk_sk]⟩, fun _ _ => ⟨rfl, hnb⟩⟩
  | succ d ih =>
    intro i m m2 r p q bl nb cs mk hp hq ep eq hd hi hm hm2 hnb
    obtain ⟨m, rfl⟩ : ∃ j, m = j + 1 := ⟨m - 1, by omega⟩
    obtain ⟨m2, rfl⟩ : ∃ j, m2 = j + 1 := ⟨m2 - 1, by omega⟩
    have hr := sk_le (tx := tx) hp
    have er : sk tx N r = r := by rw [← ep, sk_sk]
    by_cases hrN : r < N
    case neg =>
      rw [f_X0_read_6, f_X10_book_67, m_fine1, b1_s, if_neg (show ¬ (1 : Int32) = 0 by decide), m_isMore h hq, b2_s, c_isAtEnd h hp, b3_s, ep, eq, if_neg hrN, if_neg hrN, if_pos rfl, if_neg (show ¬ (1 : Int32) = 0 by decide)]
      by_cases h60 : (60 : Int32) ≤ nI i
      · rw [if_pos h60]
        exact ⟨.inl r, bl, nb, i, i, _, _, _, _, _, _, _, rfl, rfl, ⟨rfl, rfl, rfl, ⟨p, hp, rfl, ep⟩, r, by omega, rfl, er⟩, fun _ _ => ⟨rfl, hnb⟩⟩
      · rw [if_neg h60]
        exact ⟨.inl r, bl, nb, i, i, _, _, _, _, _, _, _, rfl, rfl, ⟨rfl, rfl, rfl, ⟨r, by omega, rfl, er⟩, r, by omega, rfl, er⟩, fun _ _ => ⟨rfl, hnb⟩⟩
    have h60 : ¬ (60 : Int32) ≤ nI i := by rw [show (60 : Int32) = nI 60 from rfl, nI_leJ (by omega) (by omega)]; omega
    have hS : RT2 tx N (.inl r) (nI r) 0 (-1) (nI r) (-1) mk := by have := rt_at (tx := tx) (mk := mk) (show r ≤ N by omega); rw [er] at this; exact this
    obtain ⟨v, s1, ca1, cs1, ck1, cp1, ma1, mb1, mk1, e1, e2, hS1, ha1, hv1, hc1, -, hz1⟩ := L_num (cs := nI r) h (lo := 0) (B := B) (by omega) (by omega) hS
    have e1 : f_X7_number tb (nI N) (nI r) (nI r) 0 (-1) 0 (nI B - 1) = _ := e1
    have e2 : f_X10_readNumber (nI N) (nI r) (-1) mk mt 0 (nI B - 1) = _ := e2
    rw [f_X0_read_6, f_X10_book_67, m_fine1, b1_s, if_neg (show ¬ (1 : Int32) = 0 by decide), m_isMore h hq, b2_s, c_isAtEnd h hp, b3_s, ep, eq, if_neg h60, if_pos hrN, if_pos hrN, if_pos rfl, if_neg (show ¬ (1 : Int32) = 0 by decide), m_here h (show r ≤ N by omega), b2_s, er, e1, b5_s, e2, b4_s]
    cases s1 with
    | inr x =>
      obtain ⟨k, f⟩ := x
      obtain ⟨g1, g3, gf, rfl, rfl, rfl, rfl, q1, hq1, rfl⟩ := hS1
      have hk := ne0 g1 g3
      obtain rfl := hz1 _ rfl
      obtain ⟨m, rfl⟩ : ∃ j, m = j + 1 := ⟨m - 1, by omega⟩
      have en : f_X7_number tb (nI N) ca1 cs1 (nI k) (nI f) 0 16 = some (0, ca1, cs1, nI k, nI f) := by
        unfold f_X7_number
        rw [c_peekF hk, b3_s, show f_X7_isDigit (-1) = some 0 from rfl, b1_s, if_pos rfl]
        unfold f_X7_blame
        rw [if_neg hk]
        rfl
      rw [m_fine0 (by omega), b1_s, if_pos rfl, m_book128F (by omega), if_neg (show ¬ nI 0 < 0 by decide), if_neg (show ¬ (6 : Int32) ≤ nI 0 by decide), show ixb (nI 0) 6 = true from rfl, if_pos rfl, en, b5_s, if_pos rfl, show (59 : Int32) = nI 59 from rfl, c_needF hk (by decide), b4_s, c_bookF hk]
      unfold f_X0_read_52 f_X7_blame
      rw [if_neg hk, b2_s]
      by_cases hb1 : bl (nI 0).toNatClampNeg = -1
      · rw [if_pos hb1, nI_1]
        exact ⟨.inr (k, f), _, nb, i + 1, i, _, _, _, _, _, _, _, rfl, rfl, rt_f g1 g3 gf hq1, fun _ hr => by cases hr⟩
      · rw [if_neg hb1]
        exact ⟨.inr (k, f), _, nb, i, i, _, _, _, _, _, _, _, rfl, rfl, rt_f g1 g3 gf hq1, fun _ hr => by cases hr⟩
    | inl r1 =>
      have hv := hv1 r1 rfl
      have hr1 := ha1.2 r r1 rfl rfl
      obtain rfl := hc1 r rfl
      have hS1' := hS1
      obtain ⟨rfl, rfl, rfl, ⟨p1, hp1, rfl, ep1⟩, q1, hq1, rfl, eq1⟩ := hS1
      rw [m_fine1, b1_s, if_neg (show ¬ (1 : Int32) = 0 by decide), if_neg (Int32.not_lt.mpr (nI_pos' (by omega))), show (6 : Int32) = nI 6 from rfl, ite_le (by omega) (by omega), if_neg (by omega), ixb_nI (by omega) (by omega), if_pos rfl, if_pos rfl, nI_cl (by omega), hnb v (by omega)]
      by_cases hb1 : bl v = -1
      case neg =>
        rw [if_neg hb1, if_neg hb1]
        unfold f_X0_read_52 f_X7_blame
        rw [if_pos rfl, b2_s, show f_X10_wrong (-1) mk1 2 (nI r) = some (nI r, 2) from rfl, b2_s, m_book128F (by omega)]
        exact ⟨.inr (2, r), bl, nb, i, i, _, _, _, _, _, _, _, rfl, rfl, rt_f (by omega) (by omega) (by omega) hq1, fun _ hr => by cases hr⟩
      case pos =>
        rw [if_pos hb1, if_pos hb1]
        obtain ⟨w, s2, ca2, cs2, ck2, cp2, ma2, mb2, mk2, e3, e4, hS2, ha2, hv2, hc2, -, hz2⟩ := L_num (cs := nI r) h (lo := 0) (B := 17) (by omega) (by omega) hS1'
        have e3 : f_X7_number tb (nI N) (nI p1) (nI r) 0 (-1) 0 16 = _ := e3
        have e4 : f_X10_readNumber (nI N) (nI q1) (-1) mk1 mt 0 16 = _ := e4
        obtain ⟨s3, ca3, cs3, ck3, cp3, ma3, mb3, mk3, e5, e6, hS3, ha3, -⟩ := L_need (cs := cs2) h (c := 59) (by omega) (by omega) hS2
        have e5 : f_X7_need tb (nI N) ca2 cs2 ck2 cp2 59 = _ := e5
        have e6 : f_X10_sign (nI N) ma2 mb2 mk2 mt 59 = _ := e6
        unfold f_X10_book_128
        rw [e3, b5_s, e5, b4_s, e4, b4_s, e6, b3_s, nI_1, if_pos rfl]
        cases s3 with
        | inr x =>
          obtain ⟨k, f⟩ := x
          obtain ⟨g1, g3, gf, rfl, rfl, rfl, rfl, q3, hq3, rfl⟩ := hS3
          have hk := ne0 g1 g3
          obtain ⟨m, rfl⟩ : ∃ j, m = j + 1 := ⟨m - 1, by omega⟩
          rw [c_bookF hk, m_fine0 (by omega), b1_s, if_pos rfl]
          exact ⟨.inr (k, f), _, nb, i + 1, i, _, _, _, _, _, _, _, rfl, rfl, rt_f g1 g3 gf hq3, fun _ hr => by cases hr⟩
        | inl r3 =>
          have hr3 : r1 < r3 := by
            cases s2 with
            | inr x => have := ha3.1 x rfl; cases this
            | inl r2 => have a := ha2.2 r1 r2 rfl rfl; have b := ha3.2 r2 r3 rfl rfl; omega
          obtain ⟨rfl, rfl, rfl, ⟨p3, hp3, rfl, ep3⟩, q3, hq3, rfl, eq3⟩ := hS3
          have hr3N : r3 ≤ N := by have := sk_le (tx := tx) hp3; omega
          obtain ⟨s', bl', nb', L, L2, ca', cs', ck', cp', ma', mb', mk', f1, f2, f3, f4⟩ := ih (i + 1) m m2 r3 p3 q3 (upd bl v (nI w)) (upd nb v (nI w)) cs3 mk3 hp3 hq3 ep3 eq3 (by omega) (by omega) (by omega) (by omega) (fun b hb => by
            by_cases e : b = v
            · rw [e, upd_s, upd_s]
            · rw [upd_n e, upd_n e]; exact hnb b hb)
          rw [m_fine1, b1_s, if_neg (show ¬ (1 : Int32) = 0 by decide), ixb_nI (by omega) (by omega), if_pos rfl, nI_cl (by omega)]
          exact ⟨s', bl', nb', L, L2, ca', cs', ck', cp', ma', mb', mk', f1, f2, f3, f4⟩
end TB

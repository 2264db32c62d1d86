/-! ===== a work's text: rows of steps ===== -/
theorem szs_app {E : Type} (f : E → Nat) : ∀ (L : List E) (e : E), szs f (e :: L) = f e + szs f L := fun _ _ => rfl
theorem lays_congr {E : Type} {L1 L2 : E → Nat → Prop} {sz : E → Nat} : ∀ (L : List E) (i : Nat), (∀ e ∈ L, ∀ j, i ≤ j → j + sz e ≤ i + szs sz L → L1 e j → L2 e j) → lays L1 sz L i → lays L2 sz L i := by
  intro L
  induction L with
  | nil => intro i _ _; trivial
  | cons e r ih =>
    intro i h hl
    refine ⟨h e (List.mem_cons_self ..) i (Nat.le_refl _) (by show i + sz e ≤ i + (sz e + szs sz r); omega) hl.1, ih (i + sz e) (fun x hx j h1 h2 => h x (List.mem_cons_of_mem _ hx) j (by omega) (by show j + sz x ≤ i + (sz e + szs sz r); omega)) hl.2⟩
theorem LC_congr {K F S K2 F2 S2 : Nat → Int32} : ∀ (n : Nat) (e : PE n) (i : Nat), (∀ q, i ≤ q → q < i + szC n e → K2 q = K q ∧ F2 q = F q ∧ S2 q = S q) → LC K F S n e i → LC K2 F2 S2 n e i := by
  intro n
  induction n with
  | zero =>
    intro e i h hl
    have h := h i (Nat.le_refl _) (Nat.lt_succ_self _)
    obtain ⟨a, b, c⟩ : lyC K F S e i := hl
    exact (show lyC K2 F2 S2 e i from ⟨h.1.trans a, h.2.1.trans b, h.2.2.trans c⟩)
  | succ n ih =>
    intro e i h hl
    revert h hl
    cases (e : St ⊕ (Nat × List (PE n))) with
    | inl t =>
      intro h hl
      have h := h i (Nat.le_refl _) (Nat.lt_succ_self _)
      obtain ⟨a, b, c⟩ : lyC K F S t i := hl
      exact (show lyC K2 F2 S2 t i from ⟨h.1.trans a, h.2.1.trans b, h.2.2.trans c⟩)
    | inr p =>
      intro h hl
      have h : ∀ q, i ≤ q → q < i + (2 + szs (szC n) p.2) → K2 q = K q ∧ F2 q = F q ∧ S2 q = S q := h
      obtain ⟨a1, a2, a3, a4, a5, a6⟩ : K i = 6 ∧ F i = nI p.1 ∧ S i = nI (i + 1 + szs (szC n) p.2) ∧ lays (LC K F S n) (szC n) p.2 (i + 1) ∧ K (i + 1 + szs (szC n) p.2) = 7 ∧ F (i + 1 + szs (szC n) p.2) = nI i := hl
      have h0 := h i (Nat.le_refl _) (by omega)
      have h9 := h (i + 1 + szs (szC n) p.2) (by omega) (by omega)
      exact (show K2 i = 6 ∧ F2 i = nI p.1 ∧ S2 i = nI (i + 1 + szs (szC n) p.2) ∧ lays (LC K2 F2 S2 n) (szC n) p.2 (i + 1) ∧ K2 (i + 1 + szs (szC n) p.2) = 7 ∧ F2 (i + 1 + szs (szC n) p.2) = nI i from ⟨h0.1.trans a1, h0.2.1.trans a2, h0.2.2.trans a3, lays_congr _ _ (fun e he j h1 h2 => ih e j (fun q hq1 hq2 => h q (by omega) (by omega))) a4, h9.1.trans a5, h9.2.1.trans a6⟩)
theorem LM_congr {P P2 : Nat → Int32} : ∀ (n : Nat) (e : PE n) (i : Nat), (∀ q, i ≤ q → q < i + szM n e → P2 q = P q) → LM P n e i → LM P2 n e i := by
  intro n
  induction n with
  | zero =>
    intro e i h hl
    have h : ∀ q, i ≤ q → q < i + 3 → P2 q = P q := h
    obtain ⟨a, b, c⟩ : lyM P e i := hl
    exact (show lyM P2 e i from ⟨(h _ (by omega) (by omega)).trans a, (h _ (by omega) (by omega)).trans b, (h _ (by omega) (by omega)).trans c⟩)
  | succ n ih =>
    intro e i h hl
    revert h hl
    cases (e : St ⊕ (Nat × List (PE n))) with
    | inl t =>
      intro h hl
      have h : ∀ q, i ≤ q → q < i + 3 → P2 q = P q := h
      obtain ⟨a, b, c⟩ : lyM P t i := hl
      exact (show lyM P2 t i from ⟨(h _ (by omega) (by omega)).trans a, (h _ (by omega) (by omega)).trans b, (h _ (by omega) (by omega)).trans c⟩)
    | inr p =>
      intro h hl
      have h : ∀ q, i ≤ q → q < i + (3 + szs (szM n) p.2) → P2 q = P q := h
      obtain ⟨a1, a2, a3, a4⟩ : P i = 6 ∧ P (i + 1) = nI p.1 ∧ P (i + 2) = nI (i + 3 + szs (szM n) p.2) ∧ lays (LM P n) (szM n) p.2 (i + 3) := hl
      exact (show P2 i = 6 ∧ P2 (i + 1) = nI p.1 ∧ P2 (i + 2) = nI (i + 3 + szs (szM n) p.2) ∧ lays (LM P2 n) (szM n) p.2 (i + 3) from ⟨(h _ (by omega) (by omega)).trans a1, (h _ (by omega) (by omega)).trans a2, (h _ (by omega) (by omega)).trans a3, lays_congr _ _ (fun e he j h1 h2 => ih e j (fun q hq1 hq2 => h q (by omega) (by omega))) a4⟩)
theorem rt_mix {tx : Nat → Nat} {N : Nat} {x : Nat × Nat} {ca ck cp ma mb mk ca2 ck2 cp2 ma2 mb2 mk2 : Int32} (h1 : RT2 tx N (.inr x) ca ck cp ma mb mk) (h2 : RT2 tx N (.inr x) ca2 ck2 cp2 ma2 mb2 mk2) : RT2 tx N (.inr x) ca ck cp ma2 mb2 mk2 := by
  obtain ⟨k, f⟩ := x
  obtain ⟨a1, a2, a3, a4, a5, -, -, -⟩ := h1
  obtain ⟨-, -, -, -, -, b6, b7, b8⟩ := h2
  exact ⟨a1, a2, a3, a4, a5, b6, b7, b8⟩
def PSt (π : Pg) (tx : Nat → Nat) (N : Nat) (tb mt : Nat → Int32) (p_beds p_letters p_readers m_beds m_letters m_readers : Int32) (n o D E : Nat) : Prop := ∀ (r ci mi : Nat) (K F S P : Nat → Int32) (ca cs ma mk : Int32), ci ≤ r → mi ≤ r → RT2 tx N (.inl r) ca 0 (-1) ma (-1) mk → PSr π tx N tb n o r ci mi K F S P (f_X8_readStep D K F S (nI ci) tb (nI N) ca cs 0 (-1) p_beds p_letters p_readers (nI o)) (f_X10_readStep E (nI N) ma (-1) mk (nI o) mt m_beds m_letters m_readers P (nI mi))
section WX
variable {π : Pg} {tx : Nat → Nat} {N : Nat} {tb mt : Nat → Int32} {p_beds p_letters p_readers m_beds m_letters m_readers : Int32}
theorem c_steps3F {q1 q2 q3} {te n1 x4 len ca cs ck cp : Int32} {K F S : Nat → Int32} {m : Nat} (hk : ck ≠ 0) : f_X8_readSteps_3 q1 q2 q3 tb te p_beds p_letters p_readers n1 (m + 1) x4 K F S len ca cs ck cp = some (K, F, S, len, ca, cs, ck, cp) := by
  rw [f_X8_readSteps_3, c_isAtEndF hk, b3_s, if_neg (show ¬ (1 : Int32) = 0 by decide)]
  by_cases h : (150 : Int32) ≤ x4
  · rw [if_pos h]
  · rw [if_neg h]
theorem m_again32F {k1 k2} {x2 ma mk op nsz : Int32} {P : Nat → Int32} {f m : Nat} (hf : f ≤ 600) : f_X10_readAgain_32 k1 k2 (nI N) mt m_beds m_letters m_readers (m + 1) x2 ma (nI f) mk op P nsz = f_X10_readAgain_55 k1 k2 (nI N) mt m_beds m_letters m_readers x2 ma (nI f) mk op P nsz := by
  rw [f_X10_readAgain_32, m_fine0 hf, b1_s, if_pos rfl]
theorem L_aloop {x2 : Int32} (h : RTx tx N tb mt) (hN : N ≤ 150) {n o D E : Nat} {q1x q3 k2} (hSt : PSt π tx N tb mt p_beds p_letters p_readers m_beds m_letters m_readers n o D E) : ∀ (d i m m2 r ci mi : Nat) (K F S P : Nat → Int32) (ca cs ma mk : Int32), N - r ≤ d → d + 2 < m → d + 2 < m2 → ci ≤ r → mi ≤ r → i ≤ r → RT2 tx N (.inl r) ca 0 (-1) ma (-1) mk → ∃ s' K' F' S' len' ca1 cs1 ck1 cp1 ca2 cs2 ck2 cp2 ma1 mb1 mk1 op1 P' nsz ma2 mb2 mk2, f_X8_readSteps_3 q1x (f_X8_readStep D) q3 tb (nI N) p_beds p_letters p_readers (nI o) m (nI i) K F S (nI ci) ca cs 0 (-1) = some (K', F', S', len', ca1, cs1, ck1, cp1) ∧ f_X7_need tb (nI N) ca1 cs1 ck1 cp1 93 = some (ca2, cs2, ck2, cp2) ∧ f_X10_readAgain_32 (f_X10_readStep E) k2 (nI N) mt m_beds m_letters m_readers m2 x2 ma (-1) mk (nI o) P (nI mi) = f_X10_readAgain_55 (f_X10_readStep E) k2 (nI N) mt m_beds m_letters m_readers x2 ma1 mb1 mk1 op1 P' nsz ∧ f_X10_sign (nI N) ma1 mb1 mk1 mt 93 = some (ma2, mb2, mk2) ∧ RT2 tx N s' ca2 ck2 cp2 ma2 mb2 mk2 ∧ (∃ k, k ≤ 150 ∧ len' = nI k) ∧ ∀ r', s' = .inl r' → r < r' ∧ op1 = nI o ∧ ∃ L : List (PE n), (∀ e ∈ L, OkE π n e) ∧ len' = nI (ci + szs (szC n) L) ∧ nsz = nI (mi + szs (szM n) L) ∧ lays (LC K' F' S' n) (szC n) L ci ∧ lays (LM P' n) (szM n) L mi ∧ (∀ q, q < ci → K' q = K q ∧ F' q = F q ∧ S' q = S q) ∧ (∀ q, q < mi → P' q = P q) ∧ ci + szs (szC n) L < r' ∧ mi + szs (szM n) L < r' := by
  have h6 := h.1
  intro d
  induction d with
  | zero =>
    intro i m m2 r ci mi K F S P ca cs ma mk hd hm hm2 hci hmi hi hS
    exact (by
        obtain ⟨m, rfl⟩ : ∃ j, m = j + 2 := ⟨m - 2, by omega⟩
        obtain ⟨m2, rfl⟩ : ∃ j, m2 = j + 2 := ⟨m2 - 2, by omega⟩
        have hSS := hS
        obtain ⟨-, -, -, ⟨p, hp, rfl, ep⟩, q, hq, rfl, eq⟩ := hS
        have hr := sk_le (tx := tx) hp
        rw [ep] at hr
        have er : sk tx N r = r := by rw [← ep, sk_sk]
        have hSr : RT2 tx N (.inl r) (nI r) 0 (-1) (nI r) (-1) mk := ⟨rfl, rfl, rfl, ⟨r, hr, rfl, er⟩, r, hr, rfl, er⟩
        have hend := c_isAtEnd (cs := cs) h hp
        rw [ep] at hend
        have hq0 := m_here h hq
        rw [eq] at hq0
        have hmore := m_isMore h hq
        rw [eq] at hmore
        have hv : ¬ vM tx N r = 93 := fun h9 => by have := ((vM_eq h (c := 93) (by omega) (by omega)).mp h9).1; omega
        have hnil : wrd tx N r = [] := by unfold wrd; rw [show N - r = 0 by omega]; rfl
        obtain ⟨s1, K1, F1, S1, len1, ca1, cs1, ck1, cp1, ca2, cs2, ck2, cp2, ma1, mb1, mk1, op1, P1, nsz1, g1, g2, g3, g4, g5, g6, g7⟩ := hSt r ci mi K F S P (nI r) (nI r) (nI r) mk hci hmi hSr
        obtain rfl := g6 hnil
        have g4' := g4
        obtain ⟨-, -, gf, -, -, rfl, rfl, q1, hq1, rfl⟩ := g4
        have em : f_X10_readAgain_32 (f_X10_readStep E) k2 (nI N) mt m_beds m_letters m_readers (m2 + 2) x2 (nI q) (-1) mk (nI o) P (nI mi) = f_X10_readAgain_55 (f_X10_readStep E) k2 (nI N) mt m_beds m_letters m_readers x2 (nI q1) (nI r) (nI 1) op1 P1 nsz1 := by
          rw [f_X10_readAgain_32, m_fine1, b1_s, if_neg (show ¬ (1 : Int32) = 0 by decide), hq0, b2_s, if_neg hv, g3, b6_s, m_again32F (by omega)]
        have hcl : ∃ ca9 cs9, f_X8_readSteps_3 q1x (f_X8_readStep D) q3 tb (nI N) p_beds p_letters p_readers (nI o) (m + 2) (nI i) K F S (nI ci) (nI p) cs 0 (-1) = some (K, F, S, nI ci, ca9, cs9, 0, -1) ∧ RT2 tx N (.inl r) ca9 0 (-1) (nI q) (-1) mk := by
          by_cases h150 : (150 : Int32) ≤ nI i
          · exact ⟨nI p, cs, by rw [f_X8_readSteps_3, if_pos h150], hSS⟩
          · exact ⟨nI r, nI r, by rw [f_X8_readSteps_3, if_neg h150, hend, if_neg (show ¬ r < N by omega), b3_s, if_neg (show ¬ (1 : Int32) = 0 by decide)], rfl, rfl, rfl, ⟨r, hr, rfl, er⟩, q, hq, rfl, eq⟩
        obtain ⟨ca9, cs9, e9, hS9⟩ := hcl
        obtain ⟨s3, ca3, cs3, ck3, cp3, ma3, mb3, mk3, f1, f2, hS3, ha3, hn3⟩ := L_need (cs := cs9) h (c := 93) (by omega) (by omega) hS9
        obtain rfl := hn3 r rfl (fun h9 => by omega)
        exact ⟨.inr (1, r), K, F, S, nI ci, ca9, cs9, 0, -1, ca3, cs3, ck3, cp3, nI q1, nI r, nI 1, op1, P1, nsz1, nI q1, nI r, nI 1, e9, f1, em, m_signF (by omega), rt_mix hS3 g4', ⟨ci, by omega, rfl⟩, fun _ hr' => by cases hr'⟩)
  | succ d ih =>
    intro i m m2 r ci mi K F S P ca cs ma mk hd hm hm2 hci hmi hi hS
    by_cases hrN : r < N
    case neg => exact (by
        obtain ⟨m, rfl⟩ : ∃ j, m = j + 2 := ⟨m - 2, by omega⟩
        obtain ⟨m2, rfl⟩ : ∃ j, m2 = j + 2 := ⟨m2 - 2, by omega⟩
        have hSS := hS
        obtain ⟨-, -, -, ⟨p, hp, rfl, ep⟩, q, hq, rfl, eq⟩ := hS
        have hr := sk_le (tx := tx) hp
        rw [ep] at hr
        have er : sk tx N r = r := by rw [← ep, sk_sk]
        have hSr : RT2 tx N (.inl r) (nI r) 0 (-1) (nI r) (-1) mk := ⟨rfl, rfl, rfl, ⟨r, hr, rfl, er⟩, r, hr, rfl, er⟩
        have hend := c_isAtEnd (cs := cs) h hp
        rw [ep] at hend
        have hq0 := m_here h hq
        rw [eq] at hq0
        have hmore := m_isMore h hq
        rw [eq] at hmore
        have hv : ¬ vM tx N r = 93 := fun h9 => by have := ((vM_eq h (c := 93) (by omega) (by omega)).mp h9).1; omega
        have hnil : wrd tx N r = [] := by unfold wrd; rw [show N - r = 0 by omega]; rfl
        obtain ⟨s1, K1, F1, S1, len1, ca1, cs1, ck1, cp1, ca2, cs2, ck2, cp2, ma1, mb1, mk1, op1, P1, nsz1, g1, g2, g3, g4, g5, g6, g7⟩ := hSt r ci mi K F S P (nI r) (nI r) (nI r) mk hci hmi hSr
        obtain rfl := g6 hnil
        have g4' := g4
        obtain ⟨-, -, gf, -, -, rfl, rfl, q1, hq1, rfl⟩ := g4
        have em : f_X10_readAgain_32 (f_X10_readStep E) k2 (nI N) mt m_beds m_letters m_readers (m2 + 2) x2 (nI q) (-1) mk (nI o) P (nI mi) = f_X10_readAgain_55 (f_X10_readStep E) k2 (nI N) mt m_beds m_letters m_readers x2 (nI q1) (nI r) (nI 1) op1 P1 nsz1 := by
          rw [f_X10_readAgain_32, m_fine1, b1_s, if_neg (show ¬ (1 : Int32) = 0 by decide), hq0, b2_s, if_neg hv, g3, b6_s, m_again32F (by omega)]
        have hcl : ∃ ca9 cs9, f_X8_readSteps_3 q1x (f_X8_readStep D) q3 tb (nI N) p_beds p_letters p_readers (nI o) (m + 2) (nI i) K F S (nI ci) (nI p) cs 0 (-1) = some (K, F, S, nI ci, ca9, cs9, 0, -1) ∧ RT2 tx N (.inl r) ca9 0 (-1) (nI q) (-1) mk := by
          by_cases h150 : (150 : Int32) ≤ nI i
          · exact ⟨nI p, cs, by rw [f_X8_readSteps_3, if_pos h150], hSS⟩
          · exact ⟨nI r, nI r, by rw [f_X8_readSteps_3, if_neg h150, hend, if_neg (show ¬ r < N by omega), b3_s, if_neg (show ¬ (1 : Int32) = 0 by decide)], rfl, rfl, rfl, ⟨r, hr, rfl, er⟩, q, hq, rfl, eq⟩
        obtain ⟨ca9, cs9, e9, hS9⟩ := hcl
        obtain ⟨s3, ca3, cs3, ck3, cp3, ma3, mb3, mk3, f1, f2, hS3, ha3, hn3⟩ := L_need (cs := cs9) h (c := 93) (by omega) (by omega) hS9
        obtain rfl := hn3 r rfl (fun h9 => by omega)
        exact ⟨.inr (1, r), K, F, S, nI ci, ca9, cs9, 0, -1, ca3, cs3, ck3, cp3, nI q1, nI r, nI 1, op1, P1, nsz1, nI q1, nI r, nI 1, e9, f1, em, m_signF (by omega), rt_mix hS3 g4', ⟨ci, by omega, rfl⟩, fun _ hr' => by cases hr'⟩)
    by_cases h93 : tx r = 93
    case pos => exact (by
        obtain ⟨m, rfl⟩ : ∃ j, m = j + 2 := ⟨m - 2, by omega⟩
        obtain ⟨m2, rfl⟩ : ∃ j, m2 = j + 2 := ⟨m2 - 2, by omega⟩
        have hSS := hS
        obtain ⟨-, -, -, ⟨p, hp, rfl, ep⟩, q, hq, rfl, eq⟩ := hS
        have hr := sk_le (tx := tx) hp
        rw [ep] at hr
        have er : sk tx N r = r := by rw [← ep, sk_sk]
        have hSr : RT2 tx N (.inl r) (nI r) 0 (-1) (nI r) (-1) mk := ⟨rfl, rfl, rfl, ⟨r, hr, rfl, er⟩, r, hr, rfl, er⟩
        have hend := c_isAtEnd (cs := cs) h hp
        rw [ep] at hend
        have hq0 := m_here h hq
        rw [eq] at hq0
        have hmore := m_isMore h hq
        rw [eq] at hmore
        have hv : vM tx N r = 93 := (vM_eq h (c := 93) (by omega) (by omega)).mpr ⟨hrN, h93⟩
        have h150 : ¬ (150 : Int32) ≤ nI i := by rw [show (150 : Int32) = nI 150 from rfl, nI_leJ (by omega) (by omega)]; omega
        have hpk := c_peek (st := nI r) h hr
        rw [er] at hpk
        have hvc : vC tx N r = 93 := by unfold vC; rw [if_pos hrN, h93]; rfl
        obtain ⟨s3, ca3, cs3, ck3, cp3, ma3, mb3, mk3, f1, f2, hS3, ha3, hn3⟩ := L_need (cs := nI r) h (c := 93) (by omega) (by omega) hSr
        refine ⟨s3, K, F, S, nI ci, nI r, nI r, 0, -1, ca3, cs3, ck3, cp3, nI r, -1, mk, nI o, P, nI mi, ma3, mb3, mk3, ?_, f1, ?_, f2, hS3, ⟨ci, by omega, rfl⟩, fun r' hr' => ?_⟩
        · rw [f_X8_readSteps_3, if_neg h150, hend, if_pos hrN, b3_s, if_pos rfl, hpk, b3_s, if_pos hvc]
        · rw [f_X10_readAgain_32, m_fine1, b1_s, if_neg (show ¬ (1 : Int32) = 0 by decide), hq0, b2_s, if_pos hv]
        · have hlt := ha3.2 r r' rfl hr'
          exact ⟨hlt, rfl, [], fun _ h9 => (by cases h9), rfl, rfl, trivial, trivial, fun _ _ => ⟨rfl, rfl, rfl⟩, fun _ _ => rfl, by show ci + 0 < r'; omega, by show mi + 0 < r'; omega⟩)
    exact (by
        obtain ⟨m, rfl⟩ : ∃ j, m = j + 2 := ⟨m - 2, by omega⟩
        obtain ⟨m2, rfl⟩ : ∃ j, m2 = j + 2 := ⟨m2 - 2, by omega⟩
        have hSS := hS
        obtain ⟨-, -, -, ⟨p, hp, rfl, ep⟩, q, hq, rfl, eq⟩ := hS
        have hr := sk_le (tx := tx) hp
        rw [ep] at hr
        have er : sk tx N r = r := by rw [← ep, sk_sk]
        have hSr : RT2 tx N (.inl r) (nI r) 0 (-1) (nI r) (-1) mk := ⟨rfl, rfl, rfl, ⟨r, hr, rfl, er⟩, r, hr, rfl, er⟩
        have hend := c_isAtEnd (cs := cs) h hp
        rw [ep] at hend
        have hq0 := m_here h hq
        rw [eq] at hq0
        have hmore := m_isMore h hq
        rw [eq] at hmore
        have h150 : ¬ (150 : Int32) ≤ nI i := by rw [show (150 : Int32) = nI 150 from rfl, nI_leJ (by omega) (by omega)]; omega
        have hv : ¬ vM tx N r = 93 := fun h9 => h93 ((vM_eq h (c := 93) (by omega) (by omega)).mp h9).2
        have hpk := c_peek (st := nI r) h hr
        rw [er] at hpk
        have hvc : ¬ vC tx N r = 93 := by
          have hb := (h.2 r hrN).1
          unfold vC
          rw [if_pos hrN, show (93 : Int32) = nI 93 from rfl, nI_eq (by omega) (by omega)]
          exact h93
        obtain ⟨s1, K1, F1, S1, len1, ca1, cs1, ck1, cp1, ca2, cs2, ck2, cp2, ma1, mb1, mk1, op1, P1, nsz1, g1, g2, g3, g4, g5, g6, g7⟩ := hSt r ci mi K F S P (nI r) (nI r) (nI r) mk hci hmi hSr
        have ec : f_X8_readSteps_3 q1x (f_X8_readStep D) q3 tb (nI N) p_beds p_letters p_readers (nI o) (m + 2) (nI i) K F S (nI ci) (nI p) cs 0 (-1) = f_X8_readSteps_3 q1x (f_X8_readStep D) q3 tb (nI N) p_beds p_letters p_readers (nI o) (m + 1) (nI (i + 1)) K1 F1 S1 len1 ca2 cs2 ck2 cp2 := by
          rw [f_X8_readSteps_3, if_neg h150, hend, if_pos hrN, b3_s, if_pos rfl, hpk, b3_s, if_neg hvc, g1, b8_s, g2, b4_s, nI_1]
        have em : f_X10_readAgain_32 (f_X10_readStep E) k2 (nI N) mt m_beds m_letters m_readers (m2 + 2) x2 (nI q) (-1) mk (nI o) P (nI mi) = f_X10_readAgain_32 (f_X10_readStep E) k2 (nI N) mt m_beds m_letters m_readers (m2 + 1) x2 ma1 mb1 mk1 op1 P1 nsz1 := by
          rw [f_X10_readAgain_32, m_fine1, b1_s, if_neg (show ¬ (1 : Int32) = 0 by decide), hq0, b2_s, if_neg hv, g3, b6_s]
        cases s1 with
        | inr x =>
          have g4' := g4
          obtain ⟨k, f⟩ := x
          obtain ⟨k1, k3, gf, rfl, rfl, rfl, rfl, q1, hq1, rfl⟩ := g4
          have hk := ne0 k1 k3
          refine ⟨.inr (k, f), K1, F1, S1, len1, ca2, cs2, nI k, nI f, ca2, cs2, nI k, nI f, nI q1, nI f, nI k, op1, P1, nsz1, nI q1, nI f, nI k, ec.trans (c_steps3F hk), ?_, ?_, m_signF (by omega), g4', g5, fun _ hr' => by cases hr'⟩
          · exact c_needF hk (by decide)
          · rw [em, m_again32F (by omega)]
        | inl r1 =>
          obtain ⟨a1, rfl, e, a3, rfl, rfl, a6, a7, a8, a9, a10, a11⟩ := g7 r1 rfl
          have g4' := g4
          obtain ⟨rfl, rfl, rfl, -, -⟩ := g4
          obtain ⟨s2, K2, F2, S2, len2, ca3, cs3, ck3, cp3, ca4, cs4, ck4, cp4, ma3, mb3, mk3, op3, P3, nsz3, ma4, mb4, mk4, f1, f2, f3, f4, hS4, f6, f7⟩ := ih (i + 1) (m + 1) (m2 + 1) r1 (ci + szC n e) (mi + szM n e) K1 F1 S1 P1 ca2 cs2 ma1 mk1 (by omega) (by omega) (by omega) a10 a11 (by omega) g4'
          refine ⟨s2, K2, F2, S2, len2, ca3, cs3, ck3, cp3, ca4, cs4, ck4, cp4, ma3, mb3, mk3, op3, P3, nsz3, ma4, mb4, mk4, ec.trans f1, f2, em.trans f3, f4, hS4, f6, fun r' hr' => ?_⟩
          obtain ⟨b1, b2, L, b3, b4, b5, b6, b7, b8, b9, b10, b11⟩ := f7 r' hr'
          have z1 := szC_pos n e
          have z2 := szM_pos n e
          refine ⟨by omega, b2, e :: L, fun x hx => ?_, ?_, ?_, ⟨LC_congr n e ci (fun q h1 h2 => b8 q h2) a6, b6⟩, ⟨LM_congr n e mi (fun q h1 h2 => b9 q h2) a7, b7⟩, fun q hq => ?_, fun q hq => (b9 q (by omega)).trans (a9 q hq), ?_, ?_⟩
          · rcases List.mem_cons.mp hx with rfl | hx
            · exact a3
            · exact b3 x hx
          · rw [b4, szs_app]; congr 1; omega
          · rw [b5, szs_app]; congr 1; omega
          · obtain ⟨x1, x2, x3⟩ := b8 q (by omega)
            obtain ⟨y1, y2, y3⟩ := a8 q hq
            exact ⟨x1.trans y1, x2.trans y2, x3.trans y3⟩
          · rw [szs_app]; omega
          · rw [szs_app]; omega)
theorem L_tloop {n1 th tp fa m_codes wk rst bg dn rfn : Int32} {m_bed m_letter m_code m_ofCode rf st fc stp now ss past : Nat → Int32} (h : RTx tx N tb mt) (hN : N ≤ 150) {n o D : Nat} {q1x q3} (hSt : PSt π tx N tb mt p_beds p_letters p_readers m_beds m_letters m_readers n o D 30) : ∀ (d i m m2 r ci mi : Nat) (K F S P : Nat → Int32) (ca cs ma mk : Int32), N - r ≤ d → d + 2 < m → d + 2 < m2 → ci ≤ r → mi ≤ r → i ≤ r → RT2 tx N (.inl r) ca 0 (-1) ma (-1) mk → ∃ s' K' F' S' len' ca1 cs1 ck1 cp1 ca2 cs2 ck2 cp2 ma1 mb1 mk1 op1 P' nsz, f_X8_readSteps_3 q1x (f_X8_readStep D) q3 tb (nI N) p_beds p_letters p_readers (nI o) m (nI i) K F S (nI ci) ca cs 0 (-1) = some (K', F', S', len', ca1, cs1, ck1, cp1) ∧ f_X7_needEnd tb (nI N) ca1 cs1 ck1 cp1 = some (ca2, cs2, ck2, cp2) ∧ f_X10_work_68 mt m_bed m_letter m_beds m_letters m_readers m_code m_ofCode m_codes n1 m2 th rf tp (nI N) ma (-1) mk (nI o) fa st fc P stp (nI mi) wk rst bg dn rfn now ss past = f_X10_work_89 mt m_bed m_letter m_beds m_letters m_readers m_code m_ofCode m_codes n1 th rf tp (nI N) ma1 mb1 mk1 op1 fa st fc P' stp nsz wk rst bg dn rfn now ss past ∧ RT2 tx N s' ca2 ck2 cp2 ma1 mb1 mk1 ∧ (∃ k, k ≤ 150 ∧ len' = nI k) ∧ ∀ r', s' = .inl r' → r ≤ r' ∧ op1 = nI o ∧ ∃ L : List (PE n), (∀ e ∈ L, OkE π n e) ∧ len' = nI (ci + szs (szC n) L) ∧ nsz = nI (mi + szs (szM n) L) ∧ lays (LC K' F' S' n) (szC n) L ci ∧ lays (LM P' n) (szM n) L mi ∧ (∀ q, q < ci → K' q = K q ∧ F' q = F q ∧ S' q = S q) ∧ (∀ q, q < mi → P' q = P q) ∧ ci + szs (szC n) L ≤ r' ∧ mi + szs (szM n) L ≤ r' := by
  have h6 := h.1
  intro d
  induction d with
  | zero =>
    intro i m m2 r ci mi K F S P ca cs ma mk hd hm hm2 hci hmi hi hS
    exact (by
        obtain ⟨m, rfl⟩ : ∃ j, m = j + 2 := ⟨m - 2, by omega⟩
        obtain ⟨m2, rfl⟩ : ∃ j, m2 = j + 2 := ⟨m2 - 2, by omega⟩
        have hSS := hS
        obtain ⟨-, -, -, ⟨p, hp, rfl, ep⟩, q, hq, rfl, eq⟩ := hS
        have hr := sk_le (tx := tx) hp
        rw [ep] at hr
        have er : sk tx N r = r := by rw [← ep, sk_sk]
        have hSr : RT2 tx N (.inl r) (nI r) 0 (-1) (nI r) (-1) mk := ⟨rfl, rfl, rfl, ⟨r, hr, rfl, er⟩, r, hr, rfl, er⟩
        have hend := c_isAtEnd (cs := cs) h hp
        rw [ep] at hend
        have hq0 := m_here h hq
        rw [eq] at hq0
        have hmore := m_isMore h hq
        rw [eq] at hmore
        have em : f_X10_work_68 mt m_bed m_letter m_beds m_letters m_readers m_code m_ofCode m_codes n1 (m2 + 2) th rf tp (nI N) (nI q) (-1) mk (nI o) fa st fc P stp (nI mi) wk rst bg dn rfn now ss past = f_X10_work_89 mt m_bed m_letter m_beds m_letters m_readers m_code m_ofCode m_codes n1 th rf tp (nI N) (nI r) (-1) mk (nI o) fa st fc P stp (nI mi) wk rst bg dn rfn now ss past := by
          rw [f_X10_work_68, m_fine1, b1_s, if_neg (show ¬ (1 : Int32) = 0 by decide), hmore, b2_s, if_neg (show ¬ r < N by omega), if_pos rfl]
        have hcl : ∃ ca9 cs9, f_X8_readSteps_3 q1x (f_X8_readStep D) q3 tb (nI N) p_beds p_letters p_readers (nI o) (m + 2) (nI i) K F S (nI ci) (nI p) cs 0 (-1) = some (K, F, S, nI ci, ca9, cs9, 0, -1) ∧ ∃ p9, p9 ≤ N ∧ ca9 = nI p9 ∧ sk tx N p9 = r := by
          by_cases h150 : (150 : Int32) ≤ nI i
          · exact ⟨nI p, cs, by rw [f_X8_readSteps_3, if_pos h150], p, hp, rfl, ep⟩
          · exact ⟨nI r, nI r, by rw [f_X8_readSteps_3, if_neg h150, hend, if_neg (show ¬ r < N by omega), b3_s, if_neg (show ¬ (1 : Int32) = 0 by decide)], r, hr, rfl, er⟩
        obtain ⟨ca9, cs9, e9, p9, hp9, rfl, ep9⟩ := hcl
        have hend9 := c_isAtEnd (cs := cs9) h hp9
        rw [ep9, if_neg (show ¬ r < N by omega)] at hend9
        refine ⟨.inl r, K, F, S, nI ci, nI p9, cs9, 0, -1, nI r, nI r, 0, -1, nI r, -1, mk, nI o, P, nI mi, e9, ?_, em, hSr, ⟨ci, by omega, rfl⟩, fun r' hr' => ?_⟩
        · unfold f_X7_needEnd
          rw [hend9, b3_s, if_neg (show ¬ (1 : Int32) = 0 by decide)]
        · cases hr'
          exact ⟨Nat.le_refl _, rfl, [], fun _ h9 => (by cases h9), rfl, rfl, trivial, trivial, fun _ _ => ⟨rfl, rfl, rfl⟩, fun _ _ => rfl, hci, hmi⟩)
  | succ d ih =>
    intro i m m2 r ci mi K F S P ca cs ma mk hd hm hm2 hci hmi hi hS
    by_cases hrN : r < N
    case neg => exact (by
        obtain ⟨m, rfl⟩ : ∃ j, m = j + 2 := ⟨m - 2, by omega⟩
        obtain ⟨m2, rfl⟩ : ∃ j, m2 = j + 2 := ⟨m2 - 2, by omega⟩
        have hSS := hS
        obtain ⟨-, -, -, ⟨p, hp, rfl, ep⟩, q, hq, rfl, eq⟩ := hS
        have hr := sk_le (tx := tx) hp
        rw [ep] at hr
        have er : sk tx N r = r := by rw [← ep, sk_sk]
        have hSr : RT2 tx N (.inl r) (nI r) 0 (-1) (nI r) (-1) mk := ⟨rfl, rfl, rfl, ⟨r, hr, rfl, er⟩, r, hr, rfl, er⟩
        have hend := c_isAtEnd (cs := cs) h hp
        rw [ep] at hend
        have hq0 := m_here h hq
        rw [eq] at hq0
        have hmore := m_isMore h hq
        rw [eq] at hmore
        have em : f_X10_work_68 mt m_bed m_letter m_beds m_letters m_readers m_code m_ofCode m_codes n1 (m2 + 2) th rf tp (nI N) (nI q) (-1) mk (nI o) fa st fc P stp (nI mi) wk rst bg dn rfn now ss past = f_X10_work_89 mt m_bed m_letter m_beds m_letters m_readers m_code m_ofCode m_codes n1 th rf tp (nI N) (nI r) (-1) mk (nI o) fa st fc P stp (nI mi) wk rst bg dn rfn now ss past := by
          rw [f_X10_work_68, m_fine1, b1_s, if_neg (show ¬ (1 : Int32) = 0 by decide), hmore, b2_s, if_neg (show ¬ r < N by omega), if_pos rfl]
        have hcl : ∃ ca9 cs9, f_X8_readSteps_3 q1x (f_X8_readStep D) q3 tb (nI N) p_beds p_letters p_readers (nI o) (m + 2) (nI i) K F S (nI ci) (nI p) cs 0 (-1) = some (K, F, S, nI ci, ca9, cs9, 0, -1) ∧ ∃ p9, p9 ≤ N ∧ ca9 = nI p9 ∧ sk tx N p9 = r := by
          by_cases h150 : (150 : Int32) ≤ nI i
          · exact ⟨nI p, cs, by rw [f_X8_readSteps_3, if_pos h150], p, hp, rfl, ep⟩
          · exact ⟨nI r, nI r, by rw [f_X8_readSteps_3, if_neg h150, hend, if_neg (show ¬ r < N by omega), b3_s, if_neg (show ¬ (1 : Int32) = 0 by decide)], r, hr, rfl, er⟩
        obtain ⟨ca9, cs9, e9, p9, hp9, rfl, ep9⟩ := hcl
        have hend9 := c_isAtEnd (cs := cs9) h hp9
        rw [ep9, if_neg (show ¬ r < N by omega)] at hend9
        refine ⟨.inl r, K, F, S, nI ci, nI p9, cs9, 0, -1, nI r, nI r, 0, -1, nI r, -1, mk, nI o, P, nI mi, e9, ?_, em, hSr, ⟨ci, by omega, rfl⟩, fun r' hr' => ?_⟩
        · unfold f_X7_needEnd
          rw [hend9, b3_s, if_neg (show ¬ (1 : Int32) = 0 by decide)]
        · cases hr'
          exact ⟨Nat.le_refl _, rfl, [], fun _ h9 => (by cases h9), rfl, rfl, trivial, trivial, fun _ _ => ⟨rfl, rfl, rfl⟩, fun _ _ => rfl, hci, hmi⟩)
    by_cases h93 : tx r = 93
    case pos => exact (by
        obtain ⟨m, rfl⟩ : ∃ j, m = j + 2 := ⟨m - 2, by omega⟩
        obtain ⟨m2, rfl⟩ : ∃ j, m2 = j + 2 := ⟨m2 - 2, by omega⟩
        have hSS := hS
        obtain ⟨-, -, -, ⟨p, hp, rfl, ep⟩, q, hq, rfl, eq⟩ := hS
        have hr := sk_le (tx := tx) hp
        rw [ep] at hr
        have er : sk tx N r = r := by rw [← ep, sk_sk]
        have hSr : RT2 tx N (.inl r) (nI r) 0 (-1) (nI r) (-1) mk := ⟨rfl, rfl, rfl, ⟨r, hr, rfl, er⟩, r, hr, rfl, er⟩
        have hend := c_isAtEnd (cs := cs) h hp
        rw [ep] at hend
        have hq0 := m_here h hq
        rw [eq] at hq0
        have hmore := m_isMore h hq
        rw [eq] at hmore
        have h150 : ¬ (150 : Int32) ≤ nI i := by rw [show (150 : Int32) = nI 150 from rfl, nI_leJ (by omega) (by omega)]; omega
        have hpk := c_peek (st := nI r) h hr
        rw [er] at hpk
        have hvc : vC tx N r = 93 := by unfold vC; rw [if_pos hrN, h93]; rfl
        have hnil : wrd tx N r = [] := by
          unfold wrd
          obtain ⟨dd, hdd⟩ : ∃ dd, N - r = dd + 1 := ⟨N - r - 1, by omega⟩
          rw [hdd]
          unfold wRun
          rw [h93]
          rfl
        obtain ⟨s1, K1, F1, S1, len1, ca1, cs1, ck1, cp1, ca2, cs2, ck2, cp2, ma1, mb1, mk1, op1, P1, nsz1, g1, g2, g3, g4, g5, g6, g7⟩ := hSt r ci mi K F S P (nI r) (nI r) (nI r) mk hci hmi hSr
        obtain rfl := g6 hnil
        obtain ⟨-, -, gf, -, -, rfl, rfl, q1, hq1, rfl⟩ := g4
        refine ⟨.inr (1, r), K, F, S, nI ci, nI r, nI r, 0, -1, nI r, nI r, 1, nI r, nI q1, nI r, nI 1, op1, P1, nsz1, ?_, ?_, ?_, rt_f (by omega) (by omega) hr hq1, ⟨ci, by omega, rfl⟩, fun _ hr' => by cases hr'⟩
        · rw [f_X8_readSteps_3, if_neg h150, hend, if_pos hrN, b3_s, if_pos rfl, hpk, b3_s, if_pos hvc]
        · unfold f_X7_needEnd
          have hend9 := c_isAtEnd (cs := nI r) h hr
          rw [er, if_pos hrN] at hend9
          rw [hend9, b3_s, if_pos rfl]
          rfl
        · rw [f_X10_work_68, m_fine1, b1_s, if_neg (show ¬ (1 : Int32) = 0 by decide), hmore, b2_s, if_pos hrN, if_neg (show ¬ (1 : Int32) = 0 by decide), g3, b6_s, f_X10_work_68, m_fine0 (by omega), b1_s, if_pos rfl])
    exact (by
        obtain ⟨m, rfl⟩ : ∃ j, m = j + 2 := ⟨m - 2, by omega⟩
        obtain ⟨m2, rfl⟩ : ∃ j, m2 = j + 2 := ⟨m2 - 2, by omega⟩
        have hSS := hS
        obtain ⟨-, -, -, ⟨p, hp, rfl, ep⟩, q, hq, rfl, eq⟩ := hS
        have hr := sk_le (tx := tx) hp
        rw [ep] at hr
        have er : sk tx N r = r := by rw [← ep, sk_sk]
        have hSr : RT2 tx N (.inl r) (nI r) 0 (-1) (nI r) (-1) mk := ⟨rfl, rfl, rfl, ⟨r, hr, rfl, er⟩, r, hr, rfl, er⟩
        have hend := c_isAtEnd (cs := cs) h hp
        rw [ep] at hend
        have hq0 := m_here h hq
        rw [eq] at hq0
        have hmore := m_isMore h hq
        rw [eq] at hmore
        have h150 : ¬ (150 : Int32) ≤ nI i := by rw [show (150 : Int32) = nI 150 from rfl, nI_leJ (by omega) (by omega)]; omega
        have hv : ¬ vM tx N r = 93 := fun h9 => h93 ((vM_eq h (c := 93) (by omega) (by omega)).mp h9).2
        have hpk := c_peek (st := nI r) h hr
        rw [er] at hpk
        have hvc : ¬ vC tx N r = 93 := by
          have hb := (h.2 r hrN).1
          unfold vC
          rw [if_pos hrN, show (93 : Int32) = nI 93 from rfl, nI_eq (by omega) (by omega)]
          exact h93
        obtain ⟨s1, K1, F1, S1, len1, ca1, cs1, ck1, cp1, ca2, cs2, ck2, cp2, ma1, mb1, mk1, op1, P1, nsz1, g1, g2, g3, g4, g5, g6, g7⟩ := hSt r ci mi K F S P (nI r) (nI r) (nI r) mk hci hmi hSr
        have ec : f_X8_readSteps_3 q1x (f_X8_readStep D) q3 tb (nI N) p_beds p_letters p_readers (nI o) (m + 2) (nI i) K F S (nI ci) (nI p) cs 0 (-1) = f_X8_readSteps_3 q1x (f_X8_readStep D) q3 tb (nI N) p_beds p_letters p_readers (nI o) (m + 1) (nI (i + 1)) K1 F1 S1 len1 ca2 cs2 ck2 cp2 := by
          rw [f_X8_readSteps_3, if_neg h150, hend, if_pos hrN, b3_s, if_pos rfl, hpk, b3_s, if_neg hvc, g1, b8_s, g2, b4_s, nI_1]
        have em : f_X10_work_68 mt m_bed m_letter m_beds m_letters m_readers m_code m_ofCode m_codes n1 (m2 + 2) th rf tp (nI N) (nI q) (-1) mk (nI o) fa st fc P stp (nI mi) wk rst bg dn rfn now ss past = f_X10_work_68 mt m_bed m_letter m_beds m_letters m_readers m_code m_ofCode m_codes n1 (m2 + 1) th rf tp (nI N) ma1 mb1 mk1 op1 fa st fc P1 stp nsz1 wk rst bg dn rfn now ss past := by
          rw [f_X10_work_68, m_fine1, b1_s, if_neg (show ¬ (1 : Int32) = 0 by decide), hmore, b2_s, if_pos hrN, if_neg (show ¬ (1 : Int32) = 0 by decide), g3, b6_s]
        cases s1 with
        | inr x =>
          have g4' := g4
          obtain ⟨k, f⟩ := x
          obtain ⟨k1, k3, gf, rfl, rfl, rfl, rfl, q1, hq1, rfl⟩ := g4
          have hk := ne0 k1 k3
          refine ⟨.inr (k, f), K1, F1, S1, len1, ca2, cs2, nI k, nI f, ca2, cs2, nI k, nI f, nI q1, nI f, nI k, op1, P1, nsz1, ec.trans (c_steps3F hk), ?_, ?_, g4', g5, fun _ hr' => by cases hr'⟩
          · unfold f_X7_needEnd; rw [c_isAtEndF hk, b3_s, if_neg (show ¬ (1 : Int32) = 0 by decide)]
          · rw [em, f_X10_work_68, m_fine0 (by omega), b1_s, if_pos rfl]
        | inl r1 =>
          obtain ⟨a1, rfl, e, a3, rfl, rfl, a6, a7, a8, a9, a10, a11⟩ := g7 r1 rfl
          have g4' := g4
          obtain ⟨rfl, rfl, rfl, -, -⟩ := g4
          obtain ⟨s2, K2, F2, S2, len2, ca3, cs3, ck3, cp3, ca4, cs4, ck4, cp4, ma3, mb3, mk3, op3, P3, nsz3, f1, f2, f3, hS4, f6, f7⟩ := ih (i + 1) (m + 1) (m2 + 1) r1 (ci + szC n e) (mi + szM n e) K1 F1 S1 P1 ca2 cs2 ma1 mk1 (by omega) (by omega) (by omega) a10 a11 (by omega) g4'
          refine ⟨s2, K2, F2, S2, len2, ca3, cs3, ck3, cp3, ca4, cs4, ck4, cp4, ma3, mb3, mk3, op3, P3, nsz3, ec.trans f1, f2, em.trans f3, hS4, f6, fun r' hr' => ?_⟩
          obtain ⟨b1, b2, L, b3, b4, b5, b6, b7, b8, b9, b10, b11⟩ := f7 r' hr'
          have z1 := szC_pos n e
          have z2 := szM_pos n e
          refine ⟨by omega, b2, e :: L, fun x hx => ?_, ?_, ?_, ⟨LC_congr n e ci (fun q h1 h2 => b8 q h2) a6, b6⟩, ⟨LM_congr n e mi (fun q h1 h2 => b9 q h2) a7, b7⟩, fun q hq => ?_, fun q hq => (b9 q (by omega)).trans (a9 q hq), ?_, ?_⟩
          · rcases List.mem_cons.mp hx with rfl | hx
            · exact a3
            · exact b3 x hx
          · rw [b4, szs_app]; congr 1; omega
          · rw [b5, szs_app]; congr 1; omega
          · obtain ⟨x1, x2, x3⟩ := b8 q (by omega)
            obtain ⟨y1, y2, y3⟩ := a8 q hq
            exact ⟨x1.trans y1, x2.trans y2, x3.trans y3⟩
          · rw [szs_app]; omega
          · rw [szs_app]; omega)
end WX

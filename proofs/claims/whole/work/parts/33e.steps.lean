/-! ===== a work's text: its steps ===== -/
def stE : (n : Nat) → St → PE n
  | 0 => fun t => t
  | n + 1 => fun t => (Sum.inl t : St ⊕ (Nat × List (PE n)))
theorem stE_sz (n : Nat) (t : St) : szC n (stE n t) = 1 ∧ szM n (stE n t) = 3 := by cases n <;> exact ⟨rfl, rfl⟩
theorem stE_ok {π : Pg} {n : Nat} {t : St} (h : OkSt π t) : OkE π n (stE n t) := by cases n <;> exact h
theorem stE_c {K F S : Nat → Int32} {n i : Nat} {t : St} (h : lyC K F S t i) : LC K F S n (stE n t) i := by cases n <;> exact h
theorem stE_m {P : Nat → Int32} {n i : Nat} {t : St} (h : lyM P t i) : LM P n (stE n t) i := by cases n <;> exact h
theorem chs_work : chs 30 = chs 12 ∧ chs 24 = chs 13 ∧ chs 31 = chs 14 ∧ chs 32 = chs 15 ∧ chs 33 = chs 16 ∧ chs 29 = chs 17 ∧ chs 34 = chs 18 ∧ (∀ ti, 12 ≤ ti → ti ≤ 18 → 3 ≤ (chs ti).length) ∧ (chs 18).length = 5 := by
  refine ⟨by decide +kernel, by decide +kernel, by decide +kernel, by decide +kernel, by decide +kernel, by decide +kernel, by decide +kernel, fun ti h1 h2 => ?_, by decide +kernel⟩
  exact (by decide +kernel : ∀ ti, ti < 35 → 12 ≤ ti → ti ≤ 18 → 3 ≤ (chs ti).length) ti (by omega) h1 h2
abbrev Ct : Type := (Nat → Int32) × (Nat → Int32) × (Nat → Int32) × Int32 × Int32 × Int32 × Int32 × Int32
abbrev Mw : Type := Int32 × Int32 × Int32 × Int32 × (Nat → Int32) × Int32
def PSr (π : Pg) (tx : Nat → Nat) (N : Nat) (tb : Nat → Int32) (n o r ci mi : Nat) (K F S P : Nat → Int32) (X : Option Ct) (Y : Option Mw) : Prop := ∃ s' K' F' S' len' ca1 cs1 ck1 cp1 ca cs ck cp ma mb mk op P' nsz, X = some (K', F', S', len', ca1, cs1, ck1, cp1) ∧ f_X7_need tb (nI N) ca1 cs1 ck1 cp1 59 = some (ca, cs, ck, cp) ∧ Y = some (ma, mb, mk, op, P', nsz) ∧ RT2 tx N s' ca ck cp ma mb mk ∧ (∃ k, k ≤ 150 ∧ len' = nI k) ∧ (wrd tx N r = [] → s' = .inr (1, r)) ∧ ∀ r', s' = .inl r' → r < r' ∧ op = nI o ∧ ∃ e : PE n, OkE π n e ∧ len' = nI (ci + szC n e) ∧ nsz = nI (mi + szM n e) ∧ LC K' F' S' n e ci ∧ LM P' n e mi ∧ (∀ q, q < ci → K' q = K q ∧ F' q = F q ∧ S' q = S q) ∧ (∀ q, q < mi → P' q = P q) ∧ ci + szC n e ≤ r' ∧ mi + szM n e ≤ r'
section WT
variable {π : Pg} {tx : Nat → Nat} {N : Nat} {tb mt : Nat → Int32} {ca cs ck cp ma mb mk : Int32} {K F S P : Nat → Int32}
theorem addF {n1 n2 n3 : Int32} (k : Nat) (hk : k ≤ 150) : ∃ K' F' S' k', f_X8_add K F S (nI k) n1 n2 n3 = some (K', F', S', nI k') ∧ k' ≤ 150 := by
  unfold f_X8_add
  rw [show (150 : Int32) = nI 150 from rfl, ite_le (by omega) (by omega)]
  by_cases h : 150 ≤ k
  · rw [if_pos h]; exact ⟨K, F, S, k, rfl, hk⟩
  · rw [if_neg h, ixb_nI (by omega) (by omega), if_pos rfl, if_pos rfl, if_pos rfl, nI_1]; exact ⟨_, _, _, k + 1, rfl, by omega⟩
theorem add1 {ci : Nat} (h : ci < 150) (n1 n2 n3 : Int32) : f_X8_add K F S (nI ci) n1 n2 n3 = some (upd K ci n1, upd F ci n2, upd S ci n3, nI (ci + 1)) := by
  unfold f_X8_add
  rw [show (150 : Int32) = nI 150 from rfl, ite_le (by omega) (by omega), if_neg (by omega), ixb_nI (by omega) (by omega), if_pos rfl, if_pos rfl, if_pos rfl, nI_1, nI_cl (by omega)]
theorem tells1 {mi : Nat} (h : mi + 3 ≤ 150) (n1 n2 n3 : Int32) : f_X10_tellsStep (-1) P (nI mi) n1 n2 n3 = some (upd (upd (upd P mi n1) (mi + 1) n2) (mi + 2) n3, nI (mi + 3)) := by
  have c2 : nI mi + 2 = nI (mi + 2) := nI_add mi 2
  have c3 : nI mi + 3 = nI (mi + 3) := nI_add mi 3
  unfold f_X10_tellsStep
  rw [m_fine1, b1_s, if_neg (show ¬ (1 : Int32) = 0 by decide), nI_1, c2, c3, ixb_nI (a := mi) (by omega) (by omega), ixb_nI (a := mi + 1) (by omega) (by omega), ixb_nI (a := mi + 2) (by omega) (by omega), if_pos rfl, if_pos rfl, if_pos rfl, nI_cl (by omega), nI_cl (by omega), nI_cl (by omega)]
theorem tellsF {f : Nat} (hf : f ≤ 600) {nsz n1 n2 n3 : Int32} : f_X10_tellsStep (nI f) P nsz n1 n2 n3 = some (P, nsz) := by
  unfold f_X10_tellsStep
  rw [m_fine0 hf, b1_s, if_pos rfl]
/-- a step more, and its sign -/
theorem L_stp (h : RTx tx N tb mt) (hN : N ≤ 150) {n o r ci mi e : Nat} {t : St} {s : Ts} {len nsz : Int32} (hrw : r < e) (hw3 : r + 3 ≤ e) (hci : ci ≤ r) (hmi : mi ≤ r) (hlen : len = nI ci) (hnsz : nsz = nI mi) (hS : RT2 tx N s ca ck cp ma mb mk) (hs : ∀ r', s = .inl r' → e ≤ r' ∧ OkSt π t) (hnw : wrd tx N r ≠ []) : ∃ K' F' S' len' P' nsz', f_X8_add K F S len (nI t.1) (nI t.2.1) (nI t.2.2) = some (K', F', S', len') ∧ f_X10_tellsStep mb P nsz (nI t.1) (nI t.2.1) (nI t.2.2) = some (P', nsz') ∧ PSr π tx N tb n o r ci mi K F S P (some (K', F', S', len', ca, cs, ck, cp)) (b3 (f_X10_sign (nI N) ma mb mk mt 59) (fun c1 c2 c3 => some (c1, c2, c3, nI o, P', nsz'))) := by
  have h6 := h.1
  subst hlen
  subst hnsz
  obtain ⟨s3, ca3, cs3, ck3, cp3, ma3, mb3, mk3, e1, e2, hS3, ha3, -⟩ := L_need (cs := cs) h (c := 59) (by omega) (by omega) hS
  have e1 : f_X7_need tb (nI N) ca cs ck cp 59 = _ := e1
  have e2 : f_X10_sign (nI N) ma mb mk mt 59 = _ := e2
  cases s with
  | inr x =>
    obtain ⟨k, f⟩ := x
    obtain rfl := ha3.1 _ rfl
    obtain ⟨g1, g3, gf, rfl, rfl, rfl, rfl, q, hq, rfl⟩ := hS
    have hcN : ci ≤ 150 := by
      have := wrd_le (tx := tx) (N := N) (r := r)
      by_cases hrN : r ≤ N
      · omega
      · exfalso
        apply hnw
        unfold wrd
        rw [show N - r = 0 by omega]
        rfl
    obtain ⟨K', F', S', k', a1, a2⟩ := addF (K := K) (F := F) (S := S) (n1 := nI t.1) (n2 := nI t.2.1) (n3 := nI t.2.2) ci hcN
    refine ⟨K', F', S', nI k', P, nI mi, a1, tellsF (by omega), ?_⟩
    rw [e2, b3_s]
    exact ⟨.inr (k, f), K', F', S', nI k', _, _, _, _, ca3, cs3, ck3, cp3, ma3, mb3, mk3, nI o, P, nI mi, rfl, e1, rfl, hS3, ⟨k', a2, rfl⟩, fun hw => absurd hw hnw, fun _ hr => by cases hr⟩
  | inl r1 =>
    obtain ⟨hle, hok⟩ := hs r1 rfl
    obtain ⟨rfl, rfl, rfl, ⟨p, hp, rfl, ep⟩, -⟩ := hS
    have hr1 := sk_le (tx := tx) hp
    refine ⟨_, _, _, _, _, _, add1 (by omega) _ _ _, tells1 (by omega) _ _ _, ?_⟩
    rw [e2, b3_s]
    refine ⟨s3, _, _, _, _, _, _, _, _, ca3, cs3, ck3, cp3, ma3, mb3, mk3, nI o, _, _, rfl, e1, rfl, hS3, ⟨ci + 1, by omega, rfl⟩, fun hw => absurd hw hnw, fun r' hr' => ?_⟩
    have hlt := ha3.2 r1 r' rfl hr'
    obtain ⟨z1, z2⟩ := stE_sz n t
    refine ⟨by omega, rfl, stE n t, stE_ok hok, by rw [z1], by rw [z2], stE_c ⟨upd_s _ _ _, upd_s _ _ _, upd_s _ _ _⟩, stE_m ⟨?_, ?_, upd_s _ _ _⟩, fun q hq => ⟨upd_n (by omega), upd_n (by omega), upd_n (by omega)⟩, fun q hq => ?_, by rw [z1]; omega, by rw [z2]; omega⟩
    · rw [upd_n (by omega), upd_n (by omega), upd_s]
    · rw [upd_n (by omega), upd_s]
    · rw [upd_n (by omega), upd_n (by omega), upd_n (by omega)]
theorem m_stepOf {W : List Nat} (hW : okW W) : f_X10_stepOf (wcode W) = some (if W = chs 12 then 0 else if W = chs 13 then 1 else if W = chs 14 then 2 else if W = chs 15 then 3 else if W = chs 16 then 4 else if W = chs 17 then 5 else if W = chs 18 then 6 else -1) := by
  obtain ⟨d0, d1, d2, d3, d4, d5, d6, -, -⟩ := chs_work
  unfold f_X10_stepOf
  rw [m_of (by decide), b1_s, ite_w hW (by decide), d0]
  by_cases w0 : W = chs 12
  · rw [if_pos w0, if_pos w0]
  rw [if_neg w0, if_neg w0]
  rw [m_of (by decide), b1_s, ite_w hW (by decide), d1]
  by_cases w1 : W = chs 13
  · rw [if_pos w1, if_pos w1]
  rw [if_neg w1, if_neg w1]
  rw [m_of (by decide), b1_s, ite_w hW (by decide), d2]
  by_cases w2 : W = chs 14
  · rw [if_pos w2, if_pos w2]
  rw [if_neg w2, if_neg w2]
  rw [m_of (by decide), b1_s, ite_w hW (by decide), d3]
  by_cases w3 : W = chs 15
  · rw [if_pos w3, if_pos w3]
  rw [if_neg w3, if_neg w3]
  rw [m_of (by decide), b1_s, ite_w hW (by decide), d4]
  by_cases w4 : W = chs 16
  · rw [if_pos w4, if_pos w4]
  rw [if_neg w4, if_neg w4]
  rw [m_of (by decide), b1_s, ite_w hW (by decide), d5]
  by_cases w5 : W = chs 17
  · rw [if_pos w5, if_pos w5]
  rw [if_neg w5, if_neg w5]
  rw [m_of (by decide), b1_s, ite_w hW (by decide), d6]
  by_cases w6 : W = chs 18
  · rw [if_pos w6, if_pos w6]
  rw [if_neg w6, if_neg w6]
end WT

/-! ===== summers: the model ===== -/
theorem yr_blow (π : Pg) (N : Nat) (σ : Sg) : gYr (oBlow π N σ).2 = gYr σ := by
  refine itN_inv (step := oBlow1 π N) (P := fun _ p => gYr p.2 = gYr σ) (B := gR π) (fun r p _ hp => ?_) (gR π) 0 (false, σ) (by omega) rfl
  show gYr (oBlow1 π N r p).2 = gYr σ
  unfold oBlow1
  by_cases e : gFa π (gPl p.2 r) ≤ N
  · rw [if_pos e]; exact hp
  · rw [if_neg e]; exact hp
theorem yr_pour (π : Pg) (c : List Tk) (N : Nat) (σ : Sg) : gYr (oPour π c N σ) = gYr σ := by
  refine itN_inv (step := oPour1 π c N) (P := fun _ p => gYr p = gYr σ) (B := gL π) (fun l p _ hp => ?_) (gL π) 0 (oWet N σ) (by omega) rfl
  show gYr (oPour1 π c N l p) = gYr σ
  unfold oPour1
  by_cases e : gTi p l = true
  · rw [if_pos e]; exact hp
  · rw [if_neg e]; exact ((run_keep π l _ 0 p).2.2).trans hp
theorem yr_walk (π : Pg) (p : Int32 × Sg) : gYr (oWalk π p).2 = gYr p.2 := by
  unfold oWalk
  by_cases h : gR π = 0
  · rw [if_pos h]
  · rw [if_neg h]
    show gYr (if gPl p.2 (dk p.1 % gR π) = dk (nxt p.1) % gB π then p.2 else oGo (dk p.1 % gR π) (dk (nxt p.1) % gB π) p.2) = _
    by_cases h2 : gPl p.2 (dk p.1 % gR π) = dk (nxt p.1) % gB π
    · rw [if_pos h2]
    · rw [if_neg h2]; rfl
theorem yr_half (π : Pg) (c : List Tk) (q : Int32) (p : Int32 × Sg) : gYr (oHalf π c q p).2 = gYr p.2 := by
  unfold oHalf
  rw [yr_walk]
  by_cases h : q ≤ nI (dk p.1 % 16)
  · rw [if_pos h]; exact yr_blow _ _ _
  · rw [if_neg h]; exact yr_pour _ _ _ _
theorem okS_walk {π : Pg} (ok : OkP π) {p : Int32 × Sg} (os : OkS π p.2) : OkS π (oWalk π p).2 := by
  unfold oWalk
  by_cases h : gR π = 0
  · rw [if_pos h]; exact os
  · have hh := ok.2.2.2.2.2 0 (by omega)
    rw [if_neg h]
    show OkS π (if gPl p.2 (dk p.1 % gR π) = dk (nxt p.1) % gB π then p.2 else oGo (dk p.1 % gR π) (dk (nxt p.1) % gB π) p.2)
    by_cases h2 : gPl p.2 (dk p.1 % gR π) = dk (nxt p.1) % gB π
    · rw [if_pos h2]; exact os
    · rw [if_neg h2]; exact okS_go os (Nat.mod_lt _ (by omega))
section KO
variable {π : Pg} {σ : Sg}
variable {m_s m_now m_bed m_letter m_reader m_refused : Nat → Int32} {m_beds m_letters m_readers m_thrown x_missing x_misused : Int32}
variable {c : List Tk} {m_code m_ofCode m_stack m_facts : Nat → Int32} {m_codes : Int32}
theorem m_half58 {n1 q n3 x4 u : Int32} {k12 : Int32 → (Nat → Int32) → (Nat → Int32) → (Nat → Int32) → Int32 → Option ((Nat → Int32) × (Nat → Int32) × (Nat → Int32) × Int32)} (hS : RM π σ m_s) (hQ : RPm π m_beds m_letters m_readers m_bed m_letter m_reader) (ok : OkP π) (os : OkS π σ) : ∃ m2, f_X10_summerGoes_58 m_bed m_letter m_beds m_letters m_readers m_code m_ofCode m_codes m_now n1 q n3 k12 x4 m_stack m_facts m_s u = f_X10_summerGoes_90 m_bed m_letter m_beds m_letters m_readers m_code m_ofCode m_codes m_now n1 q n3 k12 x4 m_stack m_facts m2 (oWalk π (u, σ)).1 ∧ RM π (oWalk π (u, σ)).2 m2 := by
  have h5 := ok.2.2.1
  have h6 := ok.1
  have hg0 : m_readers = nI (gR π) := hQ.2.2.1
  have hg1 : m_beds = nI (gB π) := hQ.1
  unfold f_X10_summerGoes_58 oWalk
  by_cases h : gR π = 0
  · rw [if_pos (show m_readers ≤ 0 by rw [hg0, h]; decide), if_pos h]
    exact ⟨m_s, rfl, hS⟩
  · have hh := ok.2.2.2.2.2 0 (by omega)
    have hr : dk u % gR π < gR π := Nat.mod_lt _ (by omega)
    have hb : dk (nxt u) % gB π < gB π := Nat.mod_lt _ (by omega)
    have d1 : f_X10_draws u m_readers = some (nI (dk u % gR π), nxt u) := by rw [hg0]; exact m_draws u (by omega) (by omega)
    have d2 : f_X10_draws (nxt u) m_beds = some (nI (dk (nxt u) % gB π), nxt (nxt u)) := by rw [hg1]; exact m_draws (nxt u) (by omega) (by omega)
    obtain ⟨m2, e, q2⟩ := m_isWalked hS ok os hr (b := dk (nxt u) % gB π) (by omega)
    rw [if_neg (show ¬ m_readers ≤ 0 by rw [hg0, show (0 : Int32) = nI 0 from rfl, nI_leI (by omega) (by omega)]; omega), if_neg h, d1, b2_s, d2, b2_s, e, b2_s]
    exact ⟨m2, rfl, q2⟩
theorem m_half {n1 q n3 x4 u : Int32} {m : Nat} (hx : ¬ 2 * n3 ≤ x4) (hS : RM π σ m_s) (hQ : RPm π m_beds m_letters m_readers m_bed m_letter m_reader) (ok : OkP π) (os : OkS π σ) (hR : RLm c m_code m_ofCode m_codes) (okl : OkL c) : ∃ st fa m2, f_X10_summerGoes_12 m_bed m_letter m_beds m_letters m_readers m_code m_ofCode m_codes m_now n1 q n3 (m + 1) x4 m_stack m_facts m_s u = f_X10_summerGoes_90 m_bed m_letter m_beds m_letters m_readers m_code m_ofCode m_codes m_now n1 q n3 (f_X10_summerGoes_12 m_bed m_letter m_beds m_letters m_readers m_code m_ofCode m_codes m_now n1 q n3 m) x4 st fa m2 (oHalf π c q (u, σ)).1 ∧ RM π (oHalf π c q (u, σ)).2 m2 ∧ OkS π (oHalf π c q (u, σ)).2 := by
  have h30 : dk (nxt u) % 30 < 30 := Nat.mod_lt _ (by decide)
  have h20 : dk (nxt u) % 20 < 20 := Nat.mod_lt _ (by decide)
  have d1 : f_X10_draws u 16 = some (nI (dk u % 16), nxt u) := m_draws u (by decide) (by decide)
  have d2 : f_X10_draws (nxt u) 30 = some (nI (dk (nxt u) % 30), nxt (nxt u)) := m_draws (nxt u) (by decide) (by decide)
  have d3 : f_X10_draws (nxt u) 20 = some (nI (dk (nxt u) % 20), nxt (nxt u)) := m_draws (nxt u) (by decide) (by decide)
  rw [f_X10_summerGoes_12, if_neg hx, d1, b2_s, d2, b2_s, d3, b2_s, show (1 : Int32) + nI (dk (nxt u) % 30) = nI (dk (nxt u) % 30 + 1) by rw [show (1 : Int32) = nI 1 from rfl, nI_add, Nat.add_comm], show (1 : Int32) + nI (dk (nxt u) % 20) = nI (dk (nxt u) % 20 + 1) by rw [show (1 : Int32) = nI 1 from rfl, nI_add, Nat.add_comm]]
  unfold oHalf
  show ∃ st fa m2, (if q ≤ nI (dk u % 16) then _ else _) = _ ∧ RM π (oWalk π (if q ≤ nI (dk u % 16) then _ else _)).2 m2 ∧ OkS π (oWalk π (if q ≤ nI (dk u % 16) then _ else _)).2
  by_cases h : q ≤ nI (dk u % 16)
  · rw [if_pos h, if_pos h]
    obtain ⟨m2, e, q2⟩ := m_isBlown (N := dk (nxt u) % 30 + 1) hS hQ ok os (by omega)
    rw [e, b2_s]
    obtain ⟨m3, e3, q3⟩ := m_half58 (n1 := n1) (q := q) (n3 := n3) (x4 := x4) (u := nxt (nxt u)) (m_now := m_now) (m_code := m_code) (m_ofCode := m_ofCode) (m_codes := m_codes) (m_stack := m_stack) (m_facts := m_facts) (k12 := f_X10_summerGoes_12 m_bed m_letter m_beds m_letters m_readers m_code m_ofCode m_codes m_now n1 q n3 m) q2 hQ ok (okS_blow os)
    exact ⟨_, _, m3, e3, q3, okS_walk ok (okS_blow os)⟩
  · rw [if_neg h, if_neg h]
    obtain ⟨st2, fa2, m2, e, q2, o2⟩ := m_pours (m_stack := m_stack) (m_facts := m_facts) (N := dk (nxt u) % 20 + 1) hS hQ ok os hR okl (by omega)
    rw [e, b3_s]
    obtain ⟨m3, e3, q3⟩ := m_half58 (n1 := n1) (q := q) (n3 := n3) (x4 := x4) (u := nxt (nxt u)) (m_now := m_now) (m_code := m_code) (m_ofCode := m_ofCode) (m_codes := m_codes) (m_stack := st2) (m_facts := fa2) (k12 := f_X10_summerGoes_12 m_bed m_letter m_beds m_letters m_readers m_code m_ofCode m_codes m_now n1 q n3 m) q2 hQ ok o2
    exact ⟨_, _, m3, e3, q3, okS_walk ok o2⟩
theorem m_summer12 {n1 q n3 : Int32} {N : Nat} (hn : n3 = nI N) (hN : N ≤ 48) (hQ : RPm π m_beds m_letters m_readers m_bed m_letter m_reader) (ok : OkP π) (hR : RLm c m_code m_ofCode m_codes) (okl : OkL c) : ∀ (d k m : Nat) (p : Int32 × Sg) (st fa ms : Nat → Int32), k + d = N → 2 * d < m → OkS π p.2 → gYr p.2 ≤ 400 + k → RM π p.2 ms →
    ∃ st2 fa2 ms2, f_X10_summerGoes_12 m_bed m_letter m_beds m_letters m_readers m_code m_ofCode m_codes m_now n1 q n3 m (nI (2 * k)) st fa ms p.1 = some (st2, fa2, ms2, (itN (fun _ p => oSum π c q p) d k p).1) ∧ RM π (itN (fun _ p => oSum π c q p) d k p).2 ms2 := by
  subst hn
  intro d
  induction d with
  | zero =>
    intro k m p st fa ms hk hm os hy hS
    obtain ⟨m, rfl⟩ : ∃ j, m = j + 1 := ⟨m - 1, by omega⟩
    obtain rfl : k = N := by omega
    rw [f_X10_summerGoes_12, show (2 : Int32) * nI k = nI (2 * k) from nI_mul 2 k, if_pos (Int32.le_refl _)]
    exact ⟨_, _, _, rfl, hS⟩
  | succ d ih =>
    intro k m p st fa ms hk hm os hy hS
    obtain ⟨m, rfl⟩ : ∃ j, m = j + 1 + 1 := ⟨m - 2, by omega⟩
    obtain ⟨u, σ⟩ := p
    have hy : gYr σ ≤ 400 + k := hy
    have hx1 : ¬ (2 : Int32) * nI N ≤ nI (2 * k) := by rw [show (2 : Int32) * nI N = nI (2 * N) from nI_mul 2 N, nI_leI (by omega) (by omega)]; omega
    have hx2 : ¬ (2 : Int32) * nI N ≤ nI (2 * k + 1) := by rw [show (2 : Int32) * nI N = nI (2 * N) from nI_mul 2 N, nI_leI (by omega) (by omega)]; omega
    have p1 : nI (2 * k) - nI (2 * k) / 2 * 2 = nI 0 := by rw [show (2 : Int32) = nI 2 from rfl, nI_div (by omega) (by omega), nI_mul, nI_sub (by omega)]; congr 1; omega
    have p2 : nI (2 * k + 1) - nI (2 * k + 1) / 2 * 2 = nI 1 := by rw [show (2 : Int32) = nI 2 from rfl, nI_div (by omega) (by omega), nI_mul, nI_sub (by omega)]; congr 1; omega
    obtain ⟨st2, fa2, m2, e2, q2, o2⟩ := m_half (n1 := n1) (q := q) (n3 := nI N) (m := m + 1) (u := u) (m_now := m_now) (m_stack := st) (m_facts := fa) hx1 hS hQ ok os hR okl
    obtain ⟨st3, fa3, m3, e3, q3, o3⟩ := m_half (n1 := n1) (q := q) (n3 := nI N) (m := m) (u := (oHalf π c q (u, σ)).1) (m_now := m_now) (m_stack := st2) (m_facts := fa2) hx2 q2 hQ ok o2 hR okl
    have hy3 : gYr (oHalf π c q (oHalf π c q (u, σ))).2 = gYr σ := (yr_half π c q _).trans (yr_half π c q (u, σ))
    obtain ⟨m4, e4, q4⟩ := m_passes q3 hQ ok o3
    have o4 := okS_year' o3 (Y := 400 + k) (by rw [hy3]; exact hy) (by omega)
    obtain ⟨st5, fa5, ms5, e5, q5⟩ := ih (k + 1) m (oSum π c q (u, σ)) st3 fa3 m4 (by omega) (by omega) o4.1 o4.2 q4
    refine ⟨st5, fa5, ms5, ?_, q5⟩
    refine e2.trans ?_
    unfold f_X10_summerGoes_90
    rw [p1, if_neg (by decide), nI_1]
    refine e3.trans ?_
    unfold f_X10_summerGoes_90
    rw [p2, if_pos (show nI 1 = 1 from rfl), e4, b1_s, nI_1, show 2 * k + 1 + 1 = 2 * (k + 1) by omega]
    exact e5
theorem m_heardAny (hS : RM π σ m_s) (hp : m_readers = nI (gR π)) (ok : OkP π) : f_X10_heardAny m_readers m_s = some (orI (gHe σ) (gR π)) := by
  have h5 := ok.2.2.1
  unfold f_X10_heardAny
  refine loopF (F := fun n a x => f_X10_heardAny_4 m_readers m_s n a x) (B := gR π) (step := fun r a => a ||| gHe σ r) (fin := some) (fun n a => ?_) (fun n a r hr => ?_) (gR π) 0 FU 0 (by omega) (FU_gt (by omega))
  · show f_X10_heardAny_4 m_readers m_s (n + 1) a (nI (gR π)) = _
    rw [f_X10_heardAny_4, hp, if_pos (Int32.le_refl _)]
  · show f_X10_heardAny_4 m_readers m_s (n + 1) a (nI r) = f_X10_heardAny_4 m_readers m_s n _ (nI (r + 1))
    have hhe := hS.2.2.2.2.2.2.2.2.1 r hr
    rw [f_X10_heardAny_4, hp]
    simp (disch := omega) only [nI_leJ]
    rw [if_neg (by omega), show (95 : Int32) + nI r = nI (95 + r) from nI_add 95 r, ixb_nI (by omega) (by omega), if_pos rfl, nI_cl (by omega), hhe, nI_1]
end KO

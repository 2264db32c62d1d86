/-! ===== the law's text: the loops of products and sums ===== -/
section LW
variable {tx : Nat → Nat} {N : Nat} {tb mt : Nat → Int32}
theorem L_pend (h : RTx tx N tb mt) {o i m m2 p q r : Nat} {q1 q2 q3 q4 k1 k2 k3 k4} {code nc no : Nat → Int32} {len ncs cs mk op : Int32} (hp : p ≤ N) (hq : q ≤ N) (ep : sk tx N p = r) (eq : sk tx N q = r) (hn : ∀ b, b = 42 ∨ b = 47 ∨ b = 37 → ¬ (r < N ∧ tx r = b)) : ∃ ca' cs', f_X1_readProduct_8 q1 q2 q3 q4 tb (nI N) (nI o) (m + 1) (nI i) code len (nI p) cs 0 (-1) = some (code, len, ca', cs', 0, -1) ∧ f_X10_readProduct_4 k1 k2 k3 k4 (nI N) mt (m2 + 1) (nI q) (-1) mk op nc no ncs = some (nI r, -1, mk, op, nc, no, ncs) ∧ RT2 tx N (.inl r) ca' 0 (-1) (nI r) (-1) mk := by
  have hr := sk_le (tx := tx) hp
  rw [ep] at hr
  have er : sk tx N r = r := by rw [← ep, sk_sk]
  have hH : f_X10_here (nI N) (nI r) mt = some (vM tx N r, nI r) := by
    have := m_here h hr
    rw [er] at this
    exact this
  have hq0 := m_here h hq
  rw [eq] at hq0
  have em : f_X10_readProduct_4 k1 k2 k3 k4 (nI N) mt (m2 + 1) (nI q) (-1) mk op nc no ncs = some (nI r, -1, mk, op, nc, no, ncs) := by
    rw [f_X10_readProduct_4, m_fine1, b1_s, if_neg (show ¬ (1 : Int32) = 0 by decide), hq0, b2_s, if_neg (show ¬ vM tx N r = 42 from fun h9 => hn 42 (by omega) ((vM_eq h (c := 42) (by omega) (by omega)).mp h9)), hH, b2_s, if_neg (show ¬ vM tx N r = 47 from fun h9 => hn 47 (by omega) ((vM_eq h (c := 47) (by omega) (by omega)).mp h9)), hH, b2_s, if_neg (show ¬ vM tx N r = 37 from fun h9 => hn 37 (by omega) ((vM_eq h (c := 37) (by omega) (by omega)).mp h9))]
  by_cases h150 : (150 : Int32) ≤ nI i
  · refine ⟨nI p, cs, ?_, em, rfl, rfl, rfl, ⟨p, hp, rfl, ep⟩, r, hr, rfl, er⟩
    rw [f_X1_readProduct_8, if_pos h150]
  · refine ⟨nI r, nI r, ?_, em, rfl, rfl, rfl, ⟨r, hr, rfl, er⟩, r, hr, rfl, er⟩
    have h1 := c_takesC (st := cs) (c := 42) h (by omega) hp
    rw [ep, if_neg (hn 42 (by omega))] at h1
    have h1 : f_X7_takes tb (nI N) (nI p) cs 0 42 = some (0, nI r, nI r) := h1
    have h2 := c_takesC (st := nI r) (c := 47) h (by omega) hr
    rw [er, if_neg (hn 47 (by omega))] at h2
    have h2 : f_X7_takes tb (nI N) (nI r) (nI r) 0 47 = some (0, nI r, nI r) := h2
    have h3 := c_takesC (st := nI r) (c := 37) h (by omega) hr
    rw [er, if_neg (hn 37 (by omega))] at h3
    have h3 : f_X7_takes tb (nI N) (nI r) (nI r) 0 37 = some (0, nI r, nI r) := h3
    rw [f_X1_readProduct_8, if_neg h150, h1, b3_s, if_pos rfl, h2, b3_s, if_pos rfl, h3, b3_s, if_pos rfl]
    unfold f_X1_readProduct_58
    rw [if_pos rfl]
theorem L_send (h : RTx tx N tb mt) {o i m m2 p q r : Nat} {q1 q2 q3 q4 k1 k2 k3 k4} {code nc no : Nat → Int32} {len ncs cs mk op : Int32} (hp : p ≤ N) (hq : q ≤ N) (ep : sk tx N p = r) (eq : sk tx N q = r) (hn : ∀ b, b = 43 ∨ b = 45 → ¬ (r < N ∧ tx r = b)) : ∃ ca' cs', f_X1_readSum_8 q1 q2 q3 q4 tb (nI N) (nI o) (m + 1) (nI i) code len (nI p) cs 0 (-1) = some (code, len, ca', cs', 0, -1) ∧ f_X10_readSum_4 k1 k2 k3 k4 (nI N) mt (m2 + 1) (nI q) (-1) mk op nc no ncs = some (nI r, -1, mk, op, nc, no, ncs) ∧ RT2 tx N (.inl r) ca' 0 (-1) (nI r) (-1) mk := by
  have hr := sk_le (tx := tx) hp
  rw [ep] at hr
  have er : sk tx N r = r := by rw [← ep, sk_sk]
  have hH : f_X10_here (nI N) (nI r) mt = some (vM tx N r, nI r) := by
    have := m_here h hr
    rw [er] at this
    exact this
  have hq0 := m_here h hq
  rw [eq] at hq0
  have em : f_X10_readSum_4 k1 k2 k3 k4 (nI N) mt (m2 + 1) (nI q) (-1) mk op nc no ncs = some (nI r, -1, mk, op, nc, no, ncs) := by
    rw [f_X10_readSum_4, m_fine1, b1_s, if_neg (show ¬ (1 : Int32) = 0 by decide), hq0, b2_s, if_neg (show ¬ vM tx N r = 43 from fun h9 => hn 43 (by omega) ((vM_eq h (c := 43) (by omega) (by omega)).mp h9)), hH, b2_s, if_neg (show ¬ vM tx N r = 45 from fun h9 => hn 45 (by omega) ((vM_eq h (c := 45) (by omega) (by omega)).mp h9))]
  by_cases h150 : (150 : Int32) ≤ nI i
  · refine ⟨nI p, cs, ?_, em, rfl, rfl, rfl, ⟨p, hp, rfl, ep⟩, r, hr, rfl, er⟩
    rw [f_X1_readSum_8, if_pos h150]
  · refine ⟨nI r, nI r, ?_, em, rfl, rfl, rfl, ⟨r, hr, rfl, er⟩, r, hr, rfl, er⟩
    have h1 := c_takesC (st := cs) (c := 43) h (by omega) hp
    rw [ep, if_neg (hn 43 (by omega))] at h1
    have h1 : f_X7_takes tb (nI N) (nI p) cs 0 43 = some (0, nI r, nI r) := h1
    have h2 := c_takesC (st := nI r) (c := 45) h (by omega) hr
    rw [er, if_neg (hn 45 (by omega))] at h2
    have h2 : f_X7_takes tb (nI N) (nI r) (nI r) 0 45 = some (0, nI r, nI r) := h2
    rw [f_X1_readSum_8, if_neg h150, h1, b3_s, if_pos rfl, h2, b3_s, if_pos rfl]
    unfold f_X1_readSum_44
    rw [if_pos rfl]
theorem L_pmid (h : RTx tx N tb mt) (hN : N ≤ 150) {o i m m2 p q r kk b : Nat} {q1 q2 q3 q4 k1 k2 k3 k4} {code nc no : Nat → Int32} {len ncs cs mk op : Int32} (hp : p ≤ N) (hq : q ≤ N) (ep : sk tx N p = r) (eq : sk tx N q = r) (hr : r < N) (hi : i < 150) (hb : tx r = b) (hk : (b = 42 ∧ kk = 4) ∨ (b = 47 ∧ kk = 5) ∨ (b = 37 ∧ kk = 8)) : f_X1_readProduct_8 q1 q2 q3 q4 tb (nI N) (nI o) (m + 1) (nI i) code len (nI p) cs 0 (-1) = b6 (q3 code len tb (nI N) (nI (r + 1)) (nI r) 0 (-1) (nI o)) (fun c1 c2 c3 c4 c5 c6 => b2 (f_X1_add c1 c2 (encC (kk, 0))) (fun c7 c8 => f_X1_readProduct_8 q1 q2 q3 q4 tb (nI N) (nI o) m (nI (i + 1)) c7 c8 c3 c4 c5 c6)) ∧ f_X10_readProduct_4 k1 k2 k3 k4 (nI N) mt (m2 + 1) (nI q) (-1) mk op nc no ncs = b7 (k3 (nI N) (nI (r + 1)) (-1) mk op mt nc no ncs) (fun c1 c2 c3 c4 c5 c6 c7 => b3 (f_X10_emit c2 c5 c6 c7 (nI kk) 0) (fun c8 c9 c10 => f_X10_readProduct_4 k1 k2 k3 k4 (nI N) mt m2 c1 c2 c3 c4 c8 c9 c10)) := by
  have er : sk tx N r = r := by rw [← ep, sk_sk]
  have hH : f_X10_here (nI N) (nI r) mt = some (vM tx N r, nI r) := by
    have := m_here h (show r ≤ N by omega)
    rw [er] at this
    exact this
  have hq0 := m_here h hq
  rw [eq] at hq0
  have h150 : ¬ (150 : Int32) ≤ nI i := by rw [show (150 : Int32) = nI 150 from rfl, nI_leJ (by omega) (by omega)]; omega
  have hV : ∀ x, 1 ≤ x → x < 256 → (vM tx N r = nI x ↔ x = b) := fun x h1 h2 => by
    rw [vM_eq h h1 h2]
    exact ⟨fun h => by omega, fun h => ⟨hr, by omega⟩⟩
  have hC : ∀ (x : Nat) (st : Int32), x < 256 → f_X7_takes tb (nI N) (nI r) st 0 (nI x) = some (if x = b then (1, nI (r + 1), nI r) else (0, nI r, nI r)) := by
    intro x st hx
    have := c_takesC (st := st) (c := x) h hx (show r ≤ N by omega)
    rw [er] at this
    rw [this]
    by_cases e : x = b
    · rw [if_pos e, if_pos ⟨hr, by omega⟩]
    · rw [if_neg e, if_neg (fun h9 => e (by omega))]
  have h1 : f_X7_takes tb (nI N) (nI p) cs 0 (nI 42) = some (if 42 = b then (1, nI (r + 1), nI r) else (0, nI r, nI r)) := by
    have := c_takesC (st := cs) (c := 42) h (by omega) hp
    rw [ep] at this
    rw [this]
    by_cases e : 42 = b
    · rw [if_pos e, if_pos ⟨hr, by omega⟩]
    · rw [if_neg e, if_neg (fun h9 => e (by omega))]
  have h1 : f_X7_takes tb (nI N) (nI p) cs 0 42 = _ := h1
  have v1 : vM tx N r = 42 ↔ 42 = b := hV 42 (by omega) (by omega)
  have h2 : f_X7_takes tb (nI N) (nI r) (nI r) 0 47 = _ := hC 47 (nI r) (by omega)
  have v2 : vM tx N r = 47 ↔ 47 = b := hV 47 (by omega) (by omega)
  have h3 : f_X7_takes tb (nI N) (nI r) (nI r) 0 37 = _ := hC 37 (nI r) (by omega)
  have v3 : vM tx N r = 37 ↔ 37 = b := hV 37 (by omega) (by omega)
  rcases hk with ⟨hb1, rfl⟩ | ⟨hb1, rfl⟩ | ⟨hb1, rfl⟩
  · refine ⟨?_, ?_⟩
    · rw [f_X1_readProduct_8, if_neg h150, h1, if_pos (show 42 = b by omega), b3_s, if_neg (show ¬ (1 : Int32) = 0 by decide)]
      unfold f_X1_readProduct_58
      rw [if_neg (by decide), nI_1]
      rfl
    · rw [f_X10_readProduct_4, m_fine1, b1_s, if_neg (show ¬ (1 : Int32) = 0 by decide), hq0, b2_s, if_pos (show vM tx N r = 42 from v1.mpr (by omega))]
      unfold f_X10_readProduct_38
      rw [hH, b2_s, if_pos (show vM tx N r = 42 from v1.mpr (by omega))]
      unfold f_X10_readProduct_66
      rw [nI_1]
      rfl
  · refine ⟨?_, ?_⟩
    · rw [f_X1_readProduct_8, if_neg h150, h1, if_neg (show ¬ 42 = b by omega), b3_s, if_pos rfl, h2, if_pos (show 47 = b by omega), b3_s, if_neg (show ¬ (1 : Int32) = 0 by decide)]
      unfold f_X1_readProduct_58
      rw [if_neg (by decide), nI_1]
      rfl
    · rw [f_X10_readProduct_4, m_fine1, b1_s, if_neg (show ¬ (1 : Int32) = 0 by decide), hq0, b2_s, if_neg (show ¬ vM tx N r = 42 from fun h9 => absurd (v1.mp h9) (by omega)), hH, b2_s, if_pos (show vM tx N r = 47 from v2.mpr (by omega))]
      unfold f_X10_readProduct_38
      rw [hH, b2_s, if_neg (show ¬ vM tx N r = 42 from fun h9 => absurd (v1.mp h9) (by omega)), hH, b2_s, if_pos (show vM tx N r = 47 from v2.mpr (by omega))]
      unfold f_X10_readProduct_66
      rw [nI_1]
      rfl
  · refine ⟨?_, ?_⟩
    · rw [f_X1_readProduct_8, if_neg h150, h1, if_neg (show ¬ 42 = b by omega), b3_s, if_pos rfl, h2, if_neg (show ¬ 47 = b by omega), b3_s, if_pos rfl, h3, if_pos (show 37 = b by omega), b3_s, if_neg (show ¬ (1 : Int32) = 0 by decide)]
      unfold f_X1_readProduct_58
      rw [if_neg (by decide), nI_1]
      rfl
    · rw [f_X10_readProduct_4, m_fine1, b1_s, if_neg (show ¬ (1 : Int32) = 0 by decide), hq0, b2_s, if_neg (show ¬ vM tx N r = 42 from fun h9 => absurd (v1.mp h9) (by omega)), hH, b2_s, if_neg (show ¬ vM tx N r = 47 from fun h9 => absurd (v2.mp h9) (by omega)), hH, b2_s, if_pos (show vM tx N r = 37 from v3.mpr (by omega))]
      unfold f_X10_readProduct_38
      rw [hH, b2_s, if_neg (show ¬ vM tx N r = 42 from fun h9 => absurd (v1.mp h9) (by omega)), hH, b2_s, if_neg (show ¬ vM tx N r = 47 from fun h9 => absurd (v2.mp h9) (by omega))]
      unfold f_X10_readProduct_66
      rw [nI_1]
      rfl
theorem L_smid (h : RTx tx N tb mt) (hN : N ≤ 150) {o i m m2 p q r kk b : Nat} {q1 q2 q3 q4 k1 k2 k3 k4} {code nc no : Nat → Int32} {len ncs cs mk op : Int32} (hp : p ≤ N) (hq : q ≤ N) (ep : sk tx N p = r) (eq : sk tx N q = r) (hr : r < N) (hi : i < 150) (hb : tx r = b) (hk : (b = 43 ∧ kk = 2) ∨ (b = 45 ∧ kk = 3)) : f_X1_readSum_8 q1 q2 q3 q4 tb (nI N) (nI o) (m + 1) (nI i) code len (nI p) cs 0 (-1) = b6 (q2 code len tb (nI N) (nI (r + 1)) (nI r) 0 (-1) (nI o)) (fun c1 c2 c3 c4 c5 c6 => b2 (f_X1_add c1 c2 (encC (kk, 0))) (fun c7 c8 => f_X1_readSum_8 q1 q2 q3 q4 tb (nI N) (nI o) m (nI (i + 1)) c7 c8 c3 c4 c5 c6)) ∧ f_X10_readSum_4 k1 k2 k3 k4 (nI N) mt (m2 + 1) (nI q) (-1) mk op nc no ncs = b7 (k2 (nI N) (nI (r + 1)) (-1) mk op mt nc no ncs) (fun c1 c2 c3 c4 c5 c6 c7 => b3 (f_X10_emit c2 c5 c6 c7 (nI kk) 0) (fun c8 c9 c10 => f_X10_readSum_4 k1 k2 k3 k4 (nI N) mt m2 c1 c2 c3 c4 c8 c9 c10)) := by
  have er : sk tx N r = r := by rw [← ep, sk_sk]
  have hH : f_X10_here (nI N) (nI r) mt = some (vM tx N r, nI r) := by
    have := m_here h (show r ≤ N by omega)
    rw [er] at this
    exact this
  have hq0 := m_here h hq
  rw [eq] at hq0
  have h150 : ¬ (150 : Int32) ≤ nI i := by rw [show (150 : Int32) = nI 150 from rfl, nI_leJ (by omega) (by omega)]; omega
  have hV : ∀ x, 1 ≤ x → x < 256 → (vM tx N r = nI x ↔ x = b) := fun x h1 h2 => by
    rw [vM_eq h h1 h2]
    exact ⟨fun h => by omega, fun h => ⟨hr, by omega⟩⟩
  have hC : ∀ (x : Nat) (st : Int32), x < 256 → f_X7_takes tb (nI N) (nI r) st 0 (nI x) = some (if x = b then (1, nI (r + 1), nI r) else (0, nI r, nI r)) := by
    intro x st hx
    have := c_takesC (st := st) (c := x) h hx (show r ≤ N by omega)
    rw [er] at this
    rw [this]
    by_cases e : x = b
    · rw [if_pos e, if_pos ⟨hr, by omega⟩]
    · rw [if_neg e, if_neg (fun h9 => e (by omega))]
  have h1 : f_X7_takes tb (nI N) (nI p) cs 0 (nI 43) = some (if 43 = b then (1, nI (r + 1), nI r) else (0, nI r, nI r)) := by
    have := c_takesC (st := cs) (c := 43) h (by omega) hp
    rw [ep] at this
    rw [this]
    by_cases e : 43 = b
    · rw [if_pos e, if_pos ⟨hr, by omega⟩]
    · rw [if_neg e, if_neg (fun h9 => e (by omega))]
  have h1 : f_X7_takes tb (nI N) (nI p) cs 0 43 = _ := h1
  have v1 : vM tx N r = 43 ↔ 43 = b := hV 43 (by omega) (by omega)
  have h2 : f_X7_takes tb (nI N) (nI r) (nI r) 0 45 = _ := hC 45 (nI r) (by omega)
  have v2 : vM tx N r = 45 ↔ 45 = b := hV 45 (by omega) (by omega)
  rcases hk with ⟨hb1, rfl⟩ | ⟨hb1, rfl⟩
  · refine ⟨?_, ?_⟩
    · rw [f_X1_readSum_8, if_neg h150, h1, if_pos (show 43 = b by omega), b3_s, if_neg (show ¬ (1 : Int32) = 0 by decide)]
      unfold f_X1_readSum_44
      rw [if_neg (by decide), nI_1]
      rfl
    · rw [f_X10_readSum_4, m_fine1, b1_s, if_neg (show ¬ (1 : Int32) = 0 by decide), hq0, b2_s, if_pos (show vM tx N r = 43 from v1.mpr (by omega))]
      unfold f_X10_readSum_29
      rw [hH, b2_s, if_pos (show vM tx N r = 43 from v1.mpr (by omega))]
      unfold f_X10_readSum_43
      rw [nI_1]
      rfl
  · refine ⟨?_, ?_⟩
    · rw [f_X1_readSum_8, if_neg h150, h1, if_neg (show ¬ 43 = b by omega), b3_s, if_pos rfl, h2, if_pos (show 45 = b by omega), b3_s, if_neg (show ¬ (1 : Int32) = 0 by decide)]
      unfold f_X1_readSum_44
      rw [if_neg (by decide), nI_1]
      rfl
    · rw [f_X10_readSum_4, m_fine1, b1_s, if_neg (show ¬ (1 : Int32) = 0 by decide), hq0, b2_s, if_neg (show ¬ vM tx N r = 43 from fun h9 => absurd (v1.mp h9) (by omega)), hH, b2_s, if_pos (show vM tx N r = 45 from v2.mpr (by omega))]
      unfold f_X10_readSum_29
      rw [hH, b2_s, if_neg (show ¬ vM tx N r = 43 from fun h9 => absurd (v1.mp h9) (by omega))]
      unfold f_X10_readSum_43
      rw [nI_1]
      rfl
theorem L_ploop (h : RTx tx N tb mt) (hN : N ≤ 150) {o : Nat} (ho : o ≤ 6) {q1 q2 q3 q4 k1 k2 k3 k4} (hU : PY tx N tb mt o (19 - 3 * o) q3 k3) : ∀ (d i m m2 : Nat) (s : Ts) (c : List Tk) (code nc no : Nat → Int32) (len ncs ca cs ck cp ma mb mk op : Int32), d + 1 < m → d + 1 < m2 → RT2 tx N s ca ck cp ma mb mk → (∃ k, k ≤ 150 ∧ len = nI k) → (∀ r, s = .inl r → op = nI o ∧ RLs c code len nc no ncs ∧ c.length ≤ r ∧ N - r ≤ d ∧ i ≤ r) → ∃ s' c' code' len' ca' cs' ck' cp' ma' mb' mk' op' nc' no' ncs', f_X1_readProduct_8 q1 q2 q3 q4 tb (nI N) (nI o) m (nI i) code len ca cs ck cp = some (code', len', ca', cs', ck', cp') ∧ f_X10_readProduct_4 k1 k2 k3 k4 (nI N) mt m2 ma mb mk op nc no ncs = some (ma', mb', mk', op', nc', no', ncs') ∧ RT2 tx N s' ca' ck' cp' ma' mb' mk' ∧ ((∀ x, s = .inr x → s' = .inr x) ∧ ∀ r r', s = .inl r → s' = .inl r' → r ≤ r') ∧ (∃ k, k ≤ 150 ∧ len' = nI k) ∧ ∀ r', s' = .inl r' → op' = nI o ∧ RLs c' code' len' nc' no' ncs' ∧ ∃ t, c' = c ++ t ∧ (∀ r, s = .inl r → t.length + r ≤ r') ∧ ∀ d, d + (20 - 3 * o) ≤ 32 → chT t (d + 1) (d + 1) := by
  have h6 := h.1
  have hfault : ∀ (i m m2 : Nat) (x : Nat × Nat) (c : List Tk) (code nc no : Nat → Int32) (len ncs ca cs ck cp ma mb mk op : Int32), RT2 tx N (.inr x) ca ck cp ma mb mk → (∃ k, k ≤ 150 ∧ len = nI k) → ∃ s' c' code' len' ca' cs' ck' cp' ma' mb' mk' op' nc' no' ncs', f_X1_readProduct_8 q1 q2 q3 q4 tb (nI N) (nI o) (m + 1) (nI i) code len ca cs ck cp = some (code', len', ca', cs', ck', cp') ∧ f_X10_readProduct_4 k1 k2 k3 k4 (nI N) mt (m2 + 1) ma mb mk op nc no ncs = some (ma', mb', mk', op', nc', no', ncs') ∧ RT2 tx N s' ca' ck' cp' ma' mb' mk' ∧ ((∀ y, (Sum.inr x : Ts) = .inr y → s' = .inr y) ∧ ∀ r r', (Sum.inr x : Ts) = .inl r → s' = .inl r' → r ≤ r') ∧ (∃ k, k ≤ 150 ∧ len' = nI k) ∧ ∀ r', s' = .inl r' → op' = nI o ∧ RLs c' code' len' nc' no' ncs' ∧ ∃ t, c' = c ++ t ∧ (∀ r, (Sum.inr x : Ts) = .inl r → t.length + r ≤ r') ∧ ∀ d, d + (20 - 3 * o) ≤ 32 → chT t (d + 1) (d + 1) := by
    intro i m m2 x c code nc no len ncs ca cs ck cp ma mb mk op hS hl
    obtain ⟨k, f⟩ := x
    have hS' := hS
    obtain ⟨g1, g3, gf, rfl, rfl, rfl, rfl, q, hq, rfl⟩ := hS
    rw [c_prod8F (ne0 g1 g3), m_prod4F (by omega)]
    exact ⟨.inr (k, f), c, code, len, ca, cs, nI k, nI f, nI q, nI f, nI k, op, nc, no, ncs, rfl, rfl, hS', ⟨fun _ h => h, fun _ _ h _ => (by cases h)⟩, hl, fun _ hr => by cases hr⟩
  intro d
  induction d with
  | zero =>
    intro i m m2 s c code nc no len ncs ca cs ck cp ma mb mk op hm hm2 hS hl hR
    obtain ⟨m, rfl⟩ : ∃ j, m = j + 1 := ⟨m - 1, by omega⟩
    obtain ⟨m2, rfl⟩ : ∃ j, m2 = j + 1 := ⟨m2 - 1, by omega⟩
    cases s with
    | inr x => exact hfault i m m2 x c code nc no len ncs ca cs ck cp ma mb mk op hS hl
    | inl r =>
      obtain ⟨rfl, hR, hc, hd, hi⟩ := hR r rfl
      obtain ⟨rfl, rfl, rfl, ⟨p, hp, rfl, ep⟩, q, hq, rfl, eq⟩ := hS
      have hr := sk_le (tx := tx) hp
      exact (by
        obtain ⟨ca', cs', e1, e2, e3⟩ := L_pend (q1 := q1) (q2 := q2) (q3 := q3) (q4 := q4) (k1 := k1) (k2 := k2) (k3 := k3) (k4 := k4) (o := o) (i := i) (m := m) (m2 := m2) (code := code) (nc := nc) (no := no) (len := len) (ncs := ncs) (cs := cs) (mk := mk) (op := nI o) h hp hq ep eq (fun b _ h9 => absurd h9.1 (by omega))
        exact ⟨.inl r, c, code, len, ca', cs', 0, -1, nI r, -1, mk, nI o, nc, no, ncs, e1, e2, e3, ⟨fun _ h => (by cases h), fun a b ha hb => by cases ha; cases hb; exact Nat.le_refl _⟩, hl, fun r' hr' => ⟨rfl, hR, [], (List.append_nil c).symm, fun r2 hr2 => (by cases hr2; cases hr'; exact Nat.le_of_eq (Nat.zero_add r)), fun _ _ => rfl⟩⟩)
  | succ d ih =>
    intro i m m2 s c code nc no len ncs ca cs ck cp ma mb mk op hm hm2 hS hl hR
    obtain ⟨m, rfl⟩ : ∃ j, m = j + 1 := ⟨m - 1, by omega⟩
    obtain ⟨m2, rfl⟩ : ∃ j, m2 = j + 1 := ⟨m2 - 1, by omega⟩
    cases s with
    | inr x => exact hfault i m m2 x c code nc no len ncs ca cs ck cp ma mb mk op hS hl
    | inl r =>
      obtain ⟨rfl, hR, hc, hd, hi⟩ := hR r rfl
      obtain ⟨rfl, rfl, rfl, ⟨p, hp, rfl, ep⟩, q, hq, rfl, eq⟩ := hS
      have hr := sk_le (tx := tx) hp
      by_cases hrN : r < N
      case neg => exact (by
        obtain ⟨ca', cs', e1, e2, e3⟩ := L_pend (q1 := q1) (q2 := q2) (q3 := q3) (q4 := q4) (k1 := k1) (k2 := k2) (k3 := k3) (k4 := k4) (o := o) (i := i) (m := m) (m2 := m2) (code := code) (nc := nc) (no := no) (len := len) (ncs := ncs) (cs := cs) (mk := mk) (op := nI o) h hp hq ep eq (fun b _ h9 => absurd h9.1 hrN)
        exact ⟨.inl r, c, code, len, ca', cs', 0, -1, nI r, -1, mk, nI o, nc, no, ncs, e1, e2, e3, ⟨fun _ h => (by cases h), fun a b ha hb => by cases ha; cases hb; exact Nat.le_refl _⟩, hl, fun r' hr' => ⟨rfl, hR, [], (List.append_nil c).symm, fun r2 hr2 => (by cases hr2; cases hr'; exact Nat.le_of_eq (Nat.zero_add r)), fun _ _ => rfl⟩⟩)
      exact (by
        by_cases hop : ∃ kk, (tx r = 42 ∧ kk = 4) ∨ (tx r = 47 ∧ kk = 5) ∨ (tx r = 37 ∧ kk = 8)
        case neg => exact (by
        obtain ⟨ca', cs', e1, e2, e3⟩ := L_pend (q1 := q1) (q2 := q2) (q3 := q3) (q4 := q4) (k1 := k1) (k2 := k2) (k3 := k3) (k4 := k4) (o := o) (i := i) (m := m) (m2 := m2) (code := code) (nc := nc) (no := no) (len := len) (ncs := ncs) (cs := cs) (mk := mk) (op := nI o) h hp hq ep eq (fun b hb h9 => hop (by have h8 := h9.2; rcases hb with rfl | rfl | rfl; exact ⟨4, Or.inl ⟨h8, rfl⟩⟩; exact ⟨5, Or.inr (Or.inl ⟨h8, rfl⟩)⟩; exact ⟨8, Or.inr (Or.inr (⟨h8, rfl⟩))⟩))
        exact ⟨.inl r, c, code, len, ca', cs', 0, -1, nI r, -1, mk, nI o, nc, no, ncs, e1, e2, e3, ⟨fun _ h => (by cases h), fun a b ha hb => by cases ha; cases hb; exact Nat.le_refl _⟩, hl, fun r' hr' => ⟨rfl, hR, [], (List.append_nil c).symm, fun r2 hr2 => (by cases hr2; cases hr'; exact Nat.le_of_eq (Nat.zero_add r)), fun _ _ => rfl⟩⟩)
        obtain ⟨kk, hkk⟩ := hop
        obtain ⟨e1, e2⟩ := L_pmid (q1 := q1) (q2 := q2) (q3 := q3) (q4 := q4) (k1 := k1) (k2 := k2) (k3 := k3) (k4 := k4) (o := o) (i := i) (m := m) (m2 := m2) (kk := kk) (code := code) (nc := nc) (no := no) (len := len) (ncs := ncs) (cs := cs) (mk := mk) (op := nI o) h hN hp hq ep eq hrN (by omega) rfl hkk
        have hk2 : 2 ≤ kk ∧ kk ≤ 8 := by omega
        have hS1 := rt_at (tx := tx) (mk := mk) (show r + 1 ≤ N by omega)
        have hge := sk_ge (tx := tx) (N := N) (p := r + 1)
        obtain ⟨s1, c1, code1, len1, ca1, cs1, ck1, cp1, ma1, mb1, mk1, op1, nc1, no1, ncs1, f1, f2, hS2, ha2, hl2, hR2⟩ := hU (.inl (sk tx N (r + 1))) c code nc no len ncs (nI (r + 1)) (nI r) 0 (-1) (nI (r + 1)) (-1) mk (nI o) hS1 hl (fun r' hr' => by cases hr'; exact ⟨rfl, hR, by omega⟩)
        have hc2 : ∀ r1, s1 = .inl r1 → RLs c1 code1 len1 nc1 no1 ncs1 ∧ c1.length < r1 ∧ r < r1 := by
          intro r1 hr1
          obtain ⟨g1, g2, t, g3, g4, g5⟩ := hR2 r1 hr1
          have a := ha2.2 _ r1 rfl hr1
          have b := g4 _ rfl
          have e : c1.length = c.length + t.length := by rw [g3, List.length_append]
          exact ⟨g2, by omega, by omega⟩
        obtain ⟨code2, len2, nc2, no2, ncs2, f3, f4, hl3, hR3⟩ := L_tok (t := ((kk, 0) : Tk)) (c := c1) h hN hS2 hl2 (fun r1 hr1 => ⟨(hc2 r1 hr1).1, (hc2 r1 hr1).2.1⟩)
        have f4 : f_X10_emit mb1 nc1 no1 ncs1 (nI kk) 0 = _ := f4
        obtain ⟨s3, c3, code3, len3, ca3, cs3, ck3, cp3, ma3, mb3, mk3, op3, nc3, no3, ncs3, f5, f6, hS4, ha4, hl4, hR4⟩ := ih (i + 1) m m2 s1 (c1 ++ [(kk, 0)]) code2 nc2 no2 len2 ncs2 ca1 cs1 ck1 cp1 ma1 mb1 mk1 op1 (by omega) (by omega) hS2 hl3 (fun r1 hr1 => ⟨(hR2 r1 hr1).1, hR3 r1 hr1, by have := (hc2 r1 hr1).2.1; rw [List.length_append]; exact this, by have := (hc2 r1 hr1).2.2; omega, by have := (hc2 r1 hr1).2.2; omega⟩)
        refine ⟨s3, c3, code3, len3, ca3, cs3, ck3, cp3, ma3, mb3, mk3, op3, nc3, no3, ncs3, ?_, ?_, hS4, ⟨fun _ h => (by cases h), fun a b ha hb => ?_⟩, hl4, fun r3 hr3 => ?_⟩
        · rw [e1, f1, b6_s, f3, b2_s, f5]
        · rw [e2, f2, b7_s, f4, b3_s, f6]
        · cases ha
          cases s1 with
          | inr x => have := ha4.1 x rfl; rw [hb] at this; cases this
          | inl r1 => have a1 := ha4.2 r1 b rfl hb; have a2 := (hc2 r1 rfl).2.2; omega
        · cases s1 with
          | inr x => have := ha4.1 x rfl; rw [hr3] at this; cases this
          | inl r1 =>
            obtain ⟨g1, g2, t, g3, g4, g5⟩ := hR2 r1 rfl
            obtain ⟨k1, k2, u, k3, k4, k5⟩ := hR4 r3 hr3
            refine ⟨k1, k2, t ++ [(kk, 0)] ++ u, by rw [k3, g3, List.append_assoc, List.append_assoc, List.append_assoc], fun r2 hr2 => ?_, fun d hd => ?_⟩
            · cases hr2
              have a1 := g4 _ rfl
              have a2 := k4 r1 rfl
              rw [List.length_append, List.length_append]
              show t.length + 1 + u.length + r ≤ r3
              omega
            · exact chT_app _ _ (d + 1) (d + 1) (d + 1) (chT_app _ _ (d + 1) (d + 2) (d + 1) (g5 (d + 1) (by omega)) (chT_op hk2.1 hk2.2 (by omega))) (k5 d hd))
theorem L_sloop (h : RTx tx N tb mt) (hN : N ≤ 150) {o : Nat} (ho : o ≤ 6) {q1 q2 q3 q4 k1 k2 k3 k4} (hU : PY tx N tb mt o (20 - 3 * o) q2 k2) : ∀ (d i m m2 : Nat) (s : Ts) (c : List Tk) (code nc no : Nat → Int32) (len ncs ca cs ck cp ma mb mk op : Int32), d + 1 < m → d + 1 < m2 → RT2 tx N s ca ck cp ma mb mk → (∃ k, k ≤ 150 ∧ len = nI k) → (∀ r, s = .inl r → op = nI o ∧ RLs c code len nc no ncs ∧ c.length ≤ r ∧ N - r ≤ d ∧ i ≤ r) → ∃ s' c' code' len' ca' cs' ck' cp' ma' mb' mk' op' nc' no' ncs', f_X1_readSum_8 q1 q2 q3 q4 tb (nI N) (nI o) m (nI i) code len ca cs ck cp = some (code', len', ca', cs', ck', cp') ∧ f_X10_readSum_4 k1 k2 k3 k4 (nI N) mt m2 ma mb mk op nc no ncs = some (ma', mb', mk', op', nc', no', ncs') ∧ RT2 tx N s' ca' ck' cp' ma' mb' mk' ∧ ((∀ x, s = .inr x → s' = .inr x) ∧ ∀ r r', s = .inl r → s' = .inl r' → r ≤ r') ∧ (∃ k, k ≤ 150 ∧ len' = nI k) ∧ ∀ r', s' = .inl r' → op' = nI o ∧ RLs c' code' len' nc' no' ncs' ∧ ∃ t, c' = c ++ t ∧ (∀ r, s = .inl r → t.length + r ≤ r') ∧ ∀ d, d + (21 - 3 * o) ≤ 32 → chT t (d + 1) (d + 1) := by
  have h6 := h.1
  have hfault : ∀ (i m m2 : Nat) (x : Nat × Nat) (c : List Tk) (code nc no : Nat → Int32) (len ncs ca cs ck cp ma mb mk op : Int32), RT2 tx N (.inr x) ca ck cp ma mb mk → (∃ k, k ≤ 150 ∧ len = nI k) → ∃ s' c' code' len' ca' cs' ck' cp' ma' mb' mk' op' nc' no' ncs', f_X1_readSum_8 q1 q2 q3 q4 tb (nI N) (nI o) (m + 1) (nI i) code len ca cs ck cp = some (code', len', ca', cs', ck', cp') ∧ f_X10_readSum_4 k1 k2 k3 k4 (nI N) mt (m2 + 1) ma mb mk op nc no ncs = some (ma', mb', mk', op', nc', no', ncs') ∧ RT2 tx N s' ca' ck' cp' ma' mb' mk' ∧ ((∀ y, (Sum.inr x : Ts) = .inr y → s' = .inr y) ∧ ∀ r r', (Sum.inr x : Ts) = .inl r → s' = .inl r' → r ≤ r') ∧ (∃ k, k ≤ 150 ∧ len' = nI k) ∧ ∀ r', s' = .inl r' → op' = nI o ∧ RLs c' code' len' nc' no' ncs' ∧ ∃ t, c' = c ++ t ∧ (∀ r, (Sum.inr x : Ts) = .inl r → t.length + r ≤ r') ∧ ∀ d, d + (21 - 3 * o) ≤ 32 → chT t (d + 1) (d + 1) := by
    intro i m m2 x c code nc no len ncs ca cs ck cp ma mb mk op hS hl
    obtain ⟨k, f⟩ := x
    have hS' := hS
    obtain ⟨g1, g3, gf, rfl, rfl, rfl, rfl, q, hq, rfl⟩ := hS
    rw [c_sum8F (ne0 g1 g3), m_sum4F (by omega)]
    exact ⟨.inr (k, f), c, code, len, ca, cs, nI k, nI f, nI q, nI f, nI k, op, nc, no, ncs, rfl, rfl, hS', ⟨fun _ h => h, fun _ _ h _ => (by cases h)⟩, hl, fun _ hr => by cases hr⟩
  intro d
  induction d with
  | zero =>
    intro i m m2 s c code nc no len ncs ca cs ck cp ma mb mk op hm hm2 hS hl hR
    obtain ⟨m, rfl⟩ : ∃ j, m = j + 1 := ⟨m - 1, by omega⟩
    obtain ⟨m2, rfl⟩ : ∃ j, m2 = j + 1 := ⟨m2 - 1, by omega⟩
    cases s with
    | inr x => exact hfault i m m2 x c code nc no len ncs ca cs ck cp ma mb mk op hS hl
    | inl r =>
      obtain ⟨rfl, hR, hc, hd, hi⟩ := hR r rfl
      obtain ⟨rfl, rfl, rfl, ⟨p, hp, rfl, ep⟩, q, hq, rfl, eq⟩ := hS
      have hr := sk_le (tx := tx) hp
      exact (by
        obtain ⟨ca', cs', e1, e2, e3⟩ := L_send (q1 := q1) (q2 := q2) (q3 := q3) (q4 := q4) (k1 := k1) (k2 := k2) (k3 := k3) (k4 := k4) (o := o) (i := i) (m := m) (m2 := m2) (code := code) (nc := nc) (no := no) (len := len) (ncs := ncs) (cs := cs) (mk := mk) (op := nI o) h hp hq ep eq (fun b _ h9 => absurd h9.1 (by omega))
        exact ⟨.inl r, c, code, len, ca', cs', 0, -1, nI r, -1, mk, nI o, nc, no, ncs, e1, e2, e3, ⟨fun _ h => (by cases h), fun a b ha hb => by cases ha; cases hb; exact Nat.le_refl _⟩, hl, fun r' hr' => ⟨rfl, hR, [], (List.append_nil c).symm, fun r2 hr2 => (by cases hr2; cases hr'; exact Nat.le_of_eq (Nat.zero_add r)), fun _ _ => rfl⟩⟩)
  | succ d ih =>
    intro i m m2 s c code nc no len ncs ca cs ck cp ma mb mk op hm hm2 hS hl hR
    obtain ⟨m, rfl⟩ : ∃ j, m = j + 1 := ⟨m - 1, by omega⟩
    obtain ⟨m2, rfl⟩ : ∃ j, m2 = j + 1 := ⟨m2 - 1, by omega⟩
    cases s with
    | inr x => exact hfault i m m2 x c code nc no len ncs ca cs ck cp ma mb mk op hS hl
    | inl r =>
      obtain ⟨rfl, hR, hc, hd, hi⟩ := hR r rfl
      obtain ⟨rfl, rfl, rfl, ⟨p, hp, rfl, ep⟩, q, hq, rfl, eq⟩ := hS
      have hr := sk_le (tx := tx) hp
      by_cases hrN : r < N
      case neg => exact (by
        obtain ⟨ca', cs', e1, e2, e3⟩ := L_send (q1 := q1) (q2 := q2) (q3 := q3) (q4 := q4) (k1 := k1) (k2 := k2) (k3 := k3) (k4 := k4) (o := o) (i := i) (m := m) (m2 := m2) (code := code) (nc := nc) (no := no) (len := len) (ncs := ncs) (cs := cs) (mk := mk) (op := nI o) h hp hq ep eq (fun b _ h9 => absurd h9.1 hrN)
        exact ⟨.inl r, c, code, len, ca', cs', 0, -1, nI r, -1, mk, nI o, nc, no, ncs, e1, e2, e3, ⟨fun _ h => (by cases h), fun a b ha hb => by cases ha; cases hb; exact Nat.le_refl _⟩, hl, fun r' hr' => ⟨rfl, hR, [], (List.append_nil c).symm, fun r2 hr2 => (by cases hr2; cases hr'; exact Nat.le_of_eq (Nat.zero_add r)), fun _ _ => rfl⟩⟩)
      exact (by
        by_cases hop : ∃ kk, (tx r = 43 ∧ kk = 2) ∨ (tx r = 45 ∧ kk = 3)
        case neg => exact (by
        obtain ⟨ca', cs', e1, e2, e3⟩ := L_send (q1 := q1) (q2 := q2) (q3 := q3) (q4 := q4) (k1 := k1) (k2 := k2) (k3 := k3) (k4 := k4) (o := o) (i := i) (m := m) (m2 := m2) (code := code) (nc := nc) (no := no) (len := len) (ncs := ncs) (cs := cs) (mk := mk) (op := nI o) h hp hq ep eq (fun b hb h9 => hop (by have h8 := h9.2; rcases hb with rfl | rfl; exact ⟨2, Or.inl ⟨h8, rfl⟩⟩; exact ⟨3, Or.inr (⟨h8, rfl⟩)⟩))
        exact ⟨.inl r, c, code, len, ca', cs', 0, -1, nI r, -1, mk, nI o, nc, no, ncs, e1, e2, e3, ⟨fun _ h => (by cases h), fun a b ha hb => by cases ha; cases hb; exact Nat.le_refl _⟩, hl, fun r' hr' => ⟨rfl, hR, [], (List.append_nil c).symm, fun r2 hr2 => (by cases hr2; cases hr'; exact Nat.le_of_eq (Nat.zero_add r)), fun _ _ => rfl⟩⟩)
        obtain ⟨kk, hkk⟩ := hop
        obtain ⟨e1, e2⟩ := L_smid (q1 := q1) (q2 := q2) (q3 := q3) (q4 := q4) (k1 := k1) (k2 := k2) (k3 := k3) (k4 := k4) (o := o) (i := i) (m := m) (m2 := m2) (kk := kk) (code := code) (nc := nc) (no := no) (len := len) (ncs := ncs) (cs := cs) (mk := mk) (op := nI o) h hN hp hq ep eq hrN (by omega) rfl hkk
        have hk2 : 2 ≤ kk ∧ kk ≤ 8 := by omega
        have hS1 := rt_at (tx := tx) (mk := mk) (show r + 1 ≤ N by omega)
        have hge := sk_ge (tx := tx) (N := N) (p := r + 1)
        obtain ⟨s1, c1, code1, len1, ca1, cs1, ck1, cp1, ma1, mb1, mk1, op1, nc1, no1, ncs1, f1, f2, hS2, ha2, hl2, hR2⟩ := hU (.inl (sk tx N (r + 1))) c code nc no len ncs (nI (r + 1)) (nI r) 0 (-1) (nI (r + 1)) (-1) mk (nI o) hS1 hl (fun r' hr' => by cases hr'; exact ⟨rfl, hR, by omega⟩)
        have hc2 : ∀ r1, s1 = .inl r1 → RLs c1 code1 len1 nc1 no1 ncs1 ∧ c1.length < r1 ∧ r < r1 := by
          intro r1 hr1
          obtain ⟨g1, g2, t, g3, g4, g5⟩ := hR2 r1 hr1
          have a := ha2.2 _ r1 rfl hr1
          have b := g4 _ rfl
          have e : c1.length = c.length + t.length := by rw [g3, List.length_append]
          exact ⟨g2, by omega, by omega⟩
        obtain ⟨code2, len2, nc2, no2, ncs2, f3, f4, hl3, hR3⟩ := L_tok (t := ((kk, 0) : Tk)) (c := c1) h hN hS2 hl2 (fun r1 hr1 => ⟨(hc2 r1 hr1).1, (hc2 r1 hr1).2.1⟩)
        have f4 : f_X10_emit mb1 nc1 no1 ncs1 (nI kk) 0 = _ := f4
        obtain ⟨s3, c3, code3, len3, ca3, cs3, ck3, cp3, ma3, mb3, mk3, op3, nc3, no3, ncs3, f5, f6, hS4, ha4, hl4, hR4⟩ := ih (i + 1) m m2 s1 (c1 ++ [(kk, 0)]) code2 nc2 no2 len2 ncs2 ca1 cs1 ck1 cp1 ma1 mb1 mk1 op1 (by omega) (by omega) hS2 hl3 (fun r1 hr1 => ⟨(hR2 r1 hr1).1, hR3 r1 hr1, by have := (hc2 r1 hr1).2.1; rw [List.length_append]; exact this, by have := (hc2 r1 hr1).2.2; omega, by have := (hc2 r1 hr1).2.2; omega⟩)
        refine ⟨s3, c3, code3, len3, ca3, cs3, ck3, cp3, ma3, mb3, mk3, op3, nc3, no3, ncs3, ?_, ?_, hS4, ⟨fun _ h => (by cases h), fun a b ha hb => ?_⟩, hl4, fun r3 hr3 => ?_⟩
        · rw [e1, f1, b6_s, f3, b2_s, f5]
        · rw [e2, f2, b7_s, f4, b3_s, f6]
        · cases ha
          cases s1 with
          | inr x => have := ha4.1 x rfl; rw [hb] at this; cases this
          | inl r1 => have a1 := ha4.2 r1 b rfl hb; have a2 := (hc2 r1 rfl).2.2; omega
        · cases s1 with
          | inr x => have := ha4.1 x rfl; rw [hr3] at this; cases this
          | inl r1 =>
            obtain ⟨g1, g2, t, g3, g4, g5⟩ := hR2 r1 rfl
            obtain ⟨k1, k2, u, k3, k4, k5⟩ := hR4 r3 hr3
            refine ⟨k1, k2, t ++ [(kk, 0)] ++ u, by rw [k3, g3, List.append_assoc, List.append_assoc, List.append_assoc], fun r2 hr2 => ?_, fun d hd => ?_⟩
            · cases hr2
              have a1 := g4 _ rfl
              have a2 := k4 r1 rfl
              rw [List.length_append, List.length_append]
              show t.length + 1 + u.length + r ≤ r3
              omega
            · exact chT_app _ _ (d + 1) (d + 1) (d + 1) (chT_app _ _ (d + 1) (d + 2) (d + 1) (g5 (d + 1) (by omega)) (chT_op hk2.1 hk2.2 (by omega))) (k5 d hd))
end LW

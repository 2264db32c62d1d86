/-! ===== both readers side by side ===== -/
abbrev Ts : Type := Nat ⊕ (Nat × Nat)
def RT2 (tx : Nat → Nat) (N : Nat) : Ts → Int32 → Int32 → Int32 → Int32 → Int32 → Int32 → Prop
  | .inl r, ca, ck, cp, ma, mb, _ => ck = 0 ∧ cp = -1 ∧ mb = -1 ∧ (∃ p, p ≤ N ∧ ca = nI p ∧ sk tx N p = r) ∧ ∃ q, q ≤ N ∧ ma = nI q ∧ sk tx N q = r
  | .inr (k, f), _, ck, cp, ma, mb, mz => 1 ≤ k ∧ k ≤ 3 ∧ f ≤ N ∧ ck = nI k ∧ cp = nI f ∧ mb = nI f ∧ mz = nI k ∧ ∃ q, q ≤ N ∧ ma = nI q
/-- the text is read on, or stays where its fault is -/
def adv (s s' : Ts) : Prop := (∀ x, s = .inr x → s' = .inr x) ∧ ∀ r r', s = .inl r → s' = .inl r' → r < r'
theorem adv_inr {x : Nat × Nat} : adv (.inr x) (.inr x) := ⟨fun _ h => h, fun _ _ h _ => by cases h⟩
theorem adv_f {r : Nat} {x : Nat × Nat} : adv (.inl r) (.inr x) := ⟨fun _ h => (by cases h), fun _ _ _ h => by cases h⟩
theorem adv_r {r r' : Nat} (h : r < r') : adv (.inl r) (.inl r') := ⟨fun _ h => (by cases h), fun _ _ h1 h2 => by cases h1; cases h2; exact h⟩
section TZ
variable {tx : Nat → Nat} {N : Nat} {tb mt : Nat → Int32} {ca cs ck cp ma mb mk : Int32}
theorem rt_at {e : Nat} (he : e ≤ N) : RT2 tx N (.inl (sk tx N e)) (nI e) 0 (-1) (nI e) (-1) mk := ⟨rfl, rfl, rfl, ⟨e, he, rfl, rfl⟩, e, he, rfl, rfl⟩
theorem rt_two {e g : Nat} (he : e ≤ N) (hg : g ≤ N) (h : sk tx N e = sk tx N g) : RT2 tx N (.inl (sk tx N e)) (nI e) 0 (-1) (nI g) (-1) mk := ⟨rfl, rfl, rfl, ⟨e, he, rfl, rfl⟩, g, hg, rfl, h.symm⟩
theorem rt_f {k f q : Nat} (h1 : 1 ≤ k) (h3 : k ≤ 3) (hf : f ≤ N) (hq : q ≤ N) : RT2 tx N (.inr (k, f)) ca (nI k) (nI f) (nI q) (nI f) (nI k) := ⟨h1, h3, hf, rfl, rfl, rfl, rfl, q, hq, rfl⟩
theorem ne0 {k : Nat} (h1 : 1 ≤ k) (h3 : k ≤ 3) : nI k ≠ 0 := fun h => by
  have h : nI k = nI 0 := h
  rw [nI_eq (by omega) (by decide)] at h
  omega
theorem c_isAtNum (h : RTx tx N tb mt) {p : Nat} (hp : p ≤ N) : f_X7_isAtNumber tb (nI N) (nI p) cs 0 = some (if sk tx N p < N ∧ isDg (tx (sk tx N p)) = true then 1 else 0, nI (sk tx N p), nI (sk tx N p)) := by
  unfold f_X7_isAtNumber
  rw [c_peek h hp, b3_s, c_digit h (Or.inl rfl), b1_s]
  by_cases hd : sk tx N p < N ∧ isDg (tx (sk tx N p)) = true
  · rw [if_pos hd]; rfl
  · rw [if_neg hd]; rfl
theorem c_isAtNumF {te : Int32} (hk : ck ≠ 0) : f_X7_isAtNumber tb te ca cs ck = some (0, ca, cs) := by
  unfold f_X7_isAtNumber
  rw [c_peekF hk, b3_s]
  rfl
theorem c_isAtEnd (h : RTx tx N tb mt) {p : Nat} (hp : p ≤ N) : f_X7_isAtEnd tb (nI N) (nI p) cs 0 = some (if sk tx N p < N then 0 else 1, nI (sk tx N p), nI (sk tx N p)) := by
  have h6 := h.1
  unfold f_X7_isAtEnd
  rw [c_peek h hp, b3_s]
  unfold vC
  by_cases hr : sk tx N p < N
  · have hb := (h.2 _ hr).1
    rw [if_pos hr, ite_M (by omega), if_pos hr]
  · rw [if_neg hr, if_pos rfl, if_neg hr]
theorem c_isAtEndF {te : Int32} (hk : ck ≠ 0) : f_X7_isAtEnd tb te ca cs ck = some (1, ca, cs) := by
  unfold f_X7_isAtEnd
  rw [c_peekF hk, b3_s]
  rfl
theorem m_isMore (h : RTx tx N tb mt) {p : Nat} (hp : p ≤ N) : f_X10_isMore (nI N) (nI p) mt = some (if sk tx N p < N then 1 else 0, nI (sk tx N p)) := by
  have h6 := h.1
  have hs := sk_le (tx := tx) hp
  unfold f_X10_isMore
  rw [m_here h hp, b2_s, ite_le (by omega) (by omega)]
  by_cases hr : sk tx N p < N
  · rw [if_neg (by omega), if_pos hr]
  · rw [if_pos (by omega), if_neg hr]
theorem m_fine0 {f : Nat} (hf : f ≤ 600) : f_X10_fine (nI f) = some 0 := by
  unfold f_X10_fine
  rw [ite_M (by omega)]
theorem m_fine1 : f_X10_fine (-1) = some 1 := rfl
theorem L_num (h : RTx tx N tb mt) {lo B : Nat} (hlo : lo ≤ 1) (hB : B ≤ 1000) {s : Ts} (hS : RT2 tx N s ca ck cp ma mb mk) : ∃ v s' ca' cs' ck' cp' ma' mb' mk', f_X7_number tb (nI N) ca cs ck cp (nI lo) (nI B - 1) = some (nI v, ca', cs', ck', cp') ∧ f_X10_readNumber (nI N) ma mb mk mt (nI lo) (nI B - 1) = some (nI v, ma', mb', mk') ∧ RT2 tx N s' ca' ck' cp' ma' mb' mk' ∧ adv s s' ∧ (∀ r', s' = .inl r' → lo ≤ v ∧ v < B) ∧ (∀ r, s = .inl r → cs' = nI r) ∧ (∀ r, s = .inl r → ¬ (r < N ∧ isDg (tx r) = true) → s' = .inr (1, r)) ∧ (∀ x, s' = .inr x → v = 0) := by
  have h6 := h.1
  cases s with
  | inl r =>
    obtain ⟨rfl, rfl, rfl, ⟨p, hp, rfl, rfl⟩, q, hq, rfl, e⟩ := hS
    have hs := sk_le (tx := tx) hp
    rw [c_number h hlo hB hp, m_number h hlo hB hq, e]
    by_cases hd : sk tx N p < N ∧ isDg (tx (sk tx N p)) = true
    · have hg := num_gt hd.1 hd.2
      rw [if_pos hd, if_pos hd]
      by_cases hv : lo ≤ (num tx N (sk tx N p)).1 ∧ (num tx N (sk tx N p)).1 < B
      · rw [if_pos hv, if_pos hv]
        exact ⟨_, .inl (sk tx N (num tx N (sk tx N p)).2), _, _, _, _, _, _, _, rfl, rfl, rt_at hg.2, adv_r (Nat.lt_of_lt_of_le hg.1 sk_ge), fun _ _ => hv, fun r hr => (by cases hr; rfl), fun r hr hn => (by cases hr; exact absurd hd hn), fun x hx => by cases hx⟩
      · rw [if_neg hv, if_neg hv]
        exact ⟨0, .inr (2, sk tx N p), _, _, _, _, _, _, _, rfl, rfl, rt_f (by omega) (by omega) hs hg.2, adv_f, fun _ hr => (by cases hr), fun r hr => (by cases hr; rfl), fun r hr hn => (by cases hr; exact absurd hd hn), fun _ _ => rfl⟩
    · rw [if_neg hd, if_neg hd]
      exact ⟨0, .inr (1, sk tx N p), _, _, _, _, _, _, _, rfl, rfl, rt_f (by omega) (by omega) hs hs, adv_f, fun _ hr => (by cases hr), fun r hr => (by cases hr; rfl), fun r hr hn => (by cases hr; rfl), fun _ _ => rfl⟩
  | inr x =>
    obtain ⟨k, f⟩ := x
    obtain ⟨h1, h3, hf, rfl, rfl, rfl, rfl, q, hq, rfl⟩ := hS
    have hk := ne0 h1 h3
    refine ⟨0, .inr (k, f), ca, cs, nI k, nI f, nI q, nI f, nI k, ?_, ?_, rt_f h1 h3 hf hq, adv_inr, fun _ hr => (by cases hr), fun _ hr => (by cases hr), fun _ hr => (by cases hr), fun _ _ => rfl⟩
    · unfold f_X7_number
      rw [c_peekF hk, b3_s, show f_X7_isDigit (-1) = some 0 from rfl, b1_s, if_pos rfl]
      unfold f_X7_blame
      rw [if_neg hk]
      rfl
    · unfold f_X10_readNumber
      rw [m_fine0 (by omega), b1_s, if_pos rfl]
      rfl
theorem c_needI (h : RTx tx N tb mt) {c p : Nat} (hc : c < 256) (hp : p ≤ N) : f_X7_need tb (nI N) (nI p) cs 0 (-1) (nI c) = some (if sk tx N p < N ∧ tx (sk tx N p) = c then (nI (sk tx N p + 1), nI (sk tx N p), 0, -1) else (nI (sk tx N p), nI (sk tx N p), 1, nI (sk tx N p))) := by
  unfold f_X7_need
  rw [c_peek h hp, b3_s, nI_1]
  unfold vC
  by_cases hr : sk tx N p < N
  · have hb := (h.2 _ hr).1
    rw [if_pos hr, ite_eq (by omega) (by omega)]
    by_cases h2 : tx (sk tx N p) = c
    · rw [if_pos h2, if_pos ⟨hr, h2⟩]
    · rw [if_neg h2, if_neg (fun h9 => h2 h9.2)]; rfl
  · rw [if_neg hr, if_neg (fun h9 => by rw [nI_neM' (by omega)] at h9; exact h9), if_neg (fun h9 => hr h9.1)]; rfl
theorem c_needF {te n : Int32} (hk : ck ≠ 0) (hn : n ≠ -1) : f_X7_need tb te ca cs ck cp n = some (ca, cs, ck, cp) := by
  unfold f_X7_need
  rw [c_peekF hk, b3_s, if_neg (fun h => hn h.symm)]
  unfold f_X7_blame
  rw [if_neg hk]
  rfl
theorem m_signI (h : RTx tx N tb mt) {c q : Nat} (h0 : 1 ≤ c) (hc : c < 256) (hq : q ≤ N) : f_X10_sign (nI N) (nI q) (-1) mk mt (nI c) = some (if sk tx N q < N ∧ tx (sk tx N q) = c then (nI (sk tx N q + 1), -1, mk) else (nI (sk tx N q), nI (sk tx N q), 1)) := by
  have h6 := h.1
  have hs := sk_le (tx := tx) hq
  unfold f_X10_sign
  rw [m_fine1, b1_s, if_neg (by decide), m_here h hq, b2_s]
  have e24 : ∀ a : Nat, f_X10_sign_24 (nI N) mt (nI c) (nI a) (-1) mk = some (nI (a + 1), -1, mk) := fun a => by
    unfold f_X10_sign_24
    rw [m_fine1, b1_s, if_neg (by decide), nI_1]
  have e25 : ∀ a f : Nat, f ≤ 600 → f_X10_sign_24 (nI N) mt (nI c) (nI a) (nI f) 1 = some (nI a, nI f, 1) := fun a f hf => by
    unfold f_X10_sign_24
    rw [m_fine0 hf, b1_s, if_pos rfl]
  unfold vM
  by_cases hr : sk tx N q < N
  · have hb := (h.2 _ hr).1
    rw [if_pos hr, ite_eq (by omega) (by omega)]
    by_cases h2 : tx (sk tx N q) = c
    · rw [if_pos h2, if_pos ⟨hr, h2⟩, e24]
    · rw [if_neg h2, if_neg (fun h9 => h2 h9.2)]
      exact e25 _ _ (by omega)
  · rw [if_neg hr, if_neg (fun h9 => by have h9 : nI 0 = nI c := h9; rw [nI_eq (by decide) (by omega)] at h9; omega), if_neg (fun h9 => hr h9.1)]
    exact e25 _ _ (by omega)
theorem m_signF {n : Int32} {f q : Nat} (hf : f ≤ 600) : f_X10_sign (nI N) (nI q) (nI f) mk mt n = some (nI q, nI f, mk) := by
  unfold f_X10_sign
  rw [m_fine0 hf, b1_s, if_pos rfl]
  unfold f_X10_sign_24
  rw [m_fine0 hf, b1_s, if_pos rfl]
theorem L_need (h : RTx tx N tb mt) {c : Nat} (h0 : 1 ≤ c) (hc : c < 256) {s : Ts} (hS : RT2 tx N s ca ck cp ma mb mk) : ∃ s' ca' cs' ck' cp' ma' mb' mk', f_X7_need tb (nI N) ca cs ck cp (nI c) = some (ca', cs', ck', cp') ∧ f_X10_sign (nI N) ma mb mk mt (nI c) = some (ma', mb', mk') ∧ RT2 tx N s' ca' ck' cp' ma' mb' mk' ∧ adv s s' ∧ (∀ r, s = .inl r → ¬ (r < N ∧ tx r = c) → s' = .inr (1, r)) := by
  have h6 := h.1
  cases s with
  | inl r =>
    obtain ⟨rfl, rfl, rfl, ⟨p, hp, rfl, rfl⟩, q, hq, rfl, e⟩ := hS
    have hs := sk_le (tx := tx) hp
    rw [c_needI h hc hp, m_signI h h0 hc hq, e]
    by_cases hd : sk tx N p < N ∧ tx (sk tx N p) = c
    · rw [if_pos hd, if_pos hd]
      exact ⟨.inl (sk tx N (sk tx N p + 1)), _, _, _, _, _, _, _, rfl, rfl, rt_at (by omega), adv_r (Nat.lt_of_lt_of_le (Nat.lt_succ_self _) sk_ge), fun r hr hn => by cases hr; exact absurd hd hn⟩
    · rw [if_neg hd, if_neg hd]
      exact ⟨.inr (1, sk tx N p), _, _, _, _, _, _, _, rfl, rfl, rt_f (by omega) (by omega) hs hs, adv_f, fun r hr hn => by cases hr; rfl⟩
  | inr x =>
    obtain ⟨k, f⟩ := x
    obtain ⟨h1, h3, hf, rfl, rfl, rfl, rfl, q, hq, rfl⟩ := hS
    exact ⟨.inr (k, f), ca, cs, nI k, nI f, nI q, nI f, nI k, c_needF (ne0 h1 h3) (fun h9 => by rw [nI_neM (by omega)] at h9; exact h9), m_signF (by omega), rt_f h1 h3 hf hq, adv_inr, fun _ hr => by cases hr⟩
end TZ

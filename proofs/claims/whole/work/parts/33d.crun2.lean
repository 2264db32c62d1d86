/-! ===== how the class does a work: lists of steps ===== -/
section WD
variable {π : Pg} {c : List Tk} {K F S : Nat → Int32} {W : Nat} {p_beds p_letters p_readers : Int32} {p_far p_drain p_length p_words p_home l_code : Nat → Int32} {l_length : Int32}
theorem c_goL (hP : RPc π (p_beds, p_letters, p_readers, p_far, p_drain, p_length, p_words, p_home)) (ok : OkP π) (hR : RLc c l_code l_length) (okl : OkL c) (hW : W ≤ 150) : ∀ (n : Nat) (L : List (PE n)) (i j : Nat) (rd : Nat → Int32) (Kf : Xt → Xt) (P : Nat), lays (LC K F S n) (szC n) L i → (∀ e ∈ L, OkE π n e) → i + szs (szC n) L = j → j ≤ W → (∀ y, 200 ≤ y.1 → Kf y = y) → (∀ (t : Nat) (rd' : Nat → Int32) (y : Xt), (∀ q, q < i ∨ j ≤ q → rd' q = rd q) → t + P ≤ 31 * y.1 → y.1 ≤ 200 → GoW π K F S W p_beds p_letters p_readers p_far p_drain p_length p_words l_code l_length j t rd' y (Kf y)) → ∀ (t : Nat) (x : Xt), t + P ≤ 31 * x.1 → x.1 ≤ 200 → GoW π K F S W p_beds p_letters p_readers p_far p_drain p_length p_words l_code l_length i t rd x (Kf (exL (exE π c n) L x)) := by
  intro n
  induction n with
  | zero =>
    intro L
    induction L with
    | nil =>
      intro i j rd Kf P hl hok hj hjW hK hc t x ht hx
      obtain rfl : i = j := hj
      exact hc t rd x (fun _ _ => rfl) ht hx
    | cons e r ih =>
      intro i j rd Kf P hl hok hj hjW hK hc t x ht hx
      have hj : i + (1 + szs (szC 0) r) = j := hj
      have hoke : OkSt π e := hok e (List.mem_cons_self ..)
      have hle : lyC K F S e i := hl.1
      by_cases h200 : 200 ≤ x.1
      · rw [exL_full _ _ h200, hK x h200]
        refine go_stop hW (by omega) (by omega) ?_ h200 hx
        have h5 := hoke.1
        rw [hle.1, show (7 : Int32) = nI 7 from rfl, nI_eq (by omega) (by omega)]
        omega
      · rw [show exL (exE π c 0) (e :: r) x = exL (exE π c 0) r (exSt π c e x) from if_neg h200]
        refine go_step hP ok hR okl hoke hW (by omega) (by omega) hle (by omega) ?_
        exact ih (i + 1) j rd Kf P hl.2 (fun e he => hok e (List.mem_cons_of_mem _ he)) (by omega) hjW hK (fun t rd' y hr => hc t rd' y (fun q hq => hr q (by omega))) (t + 1) _ (by show t + 1 + P ≤ 31 * (x.1 + 1); omega) (by show x.1 + 1 ≤ 200; omega)
  | succ n ihn =>
    intro L
    induction L with
    | nil =>
      intro i j rd Kf P hl hok hj hjW hK hc t x ht hx
      obtain rfl : i = j := hj
      exact hc t rd x (fun _ _ => rfl) ht hx
    | cons e r ih =>
      intro i j rd Kf P hl hok hj hjW hK hc t x ht hx
      have hj : i + (szC (n + 1) e + szs (szC (n + 1)) r) = j := hj
      have hpos := szC_pos (n + 1) e
      have hoke := hok e (List.mem_cons_self ..)
      have hle := hl.1
      have hlr := hl.2
      have hokr : ∀ e ∈ r, OkE π (n + 1) e := fun e he => hok e (List.mem_cons_of_mem _ he)
      have hex : exL (exE π c (n + 1)) (e :: r) x = if 200 ≤ x.1 then x else exL (exE π c (n + 1)) r (exE π c (n + 1) e x) := rfl
      rw [hex]
      clear hex hl hok
      revert hj hpos hoke hle hlr
      generalize e = e0
      cases (e0 : St ⊕ (Nat × List (PE n))) with
      | inl s =>
        intro hj hpos hoke hle hlr
        have hj : i + (1 + szs (szC (n + 1)) r) = j := hj
        have hoke : OkSt π s := hoke
        have hle : lyC K F S s i := hle
        by_cases h200 : 200 ≤ x.1
        · rw [if_pos h200, hK x h200]
          refine go_stop hW (by omega) (by omega) ?_ h200 hx
          have h5 := hoke.1
          rw [hle.1, show (7 : Int32) = nI 7 from rfl, nI_eq (by omega) (by omega)]
          omega
        · rw [if_neg h200]
          refine go_step hP ok hR okl hoke hW (by omega) (by omega) hle (by omega) ?_
          exact ih (i + 1) j rd Kf P hlr hokr (by omega) hjW hK (fun t rd' y hr => hc t rd' y (fun q hq => hr q (by omega))) (t + 1) _ (by show t + 1 + P ≤ 31 * (x.1 + 1); omega) (by show x.1 + 1 ≤ 200; omega)
      | inr p =>
        obtain ⟨a, b⟩ := p
        intro hj hpos hoke hle hlr
        have hj : i + (2 + szs (szC n) b + szs (szC (n + 1)) r) = j := hj
        obtain ⟨ha, hb⟩ : a ≤ 30 ∧ ∀ b1 ∈ b, OkE π n b1 := hoke
        obtain ⟨l1, l2, l3, l4, l5, l6⟩ : K i = 6 ∧ F i = nI a ∧ S i = nI (i + 1 + szs (szC n) b) ∧ lays (LC K F S n) (szC n) b (i + 1) ∧ K (i + 1 + szs (szC n) b) = 7 ∧ F (i + 1 + szs (szC n) b) = nI i := hle
        have hlr : lays (LC K F S (n + 1)) (szC (n + 1)) r (i + (2 + szs (szC n) b)) := hlr
        by_cases h200 : 200 ≤ x.1
        · rw [if_pos h200, hK x h200]
          exact go_stop hW (by omega) (by omega) (by rw [l1]; decide) h200 hx
        · rw [if_neg h200]
          show GoW π K F S W p_beds p_letters p_readers p_far p_drain p_length p_words l_code l_length i t rd x (Kf (exL (exE π c (n + 1)) r (rep (exL (exE π c n) b) a (x.1 + 1, x.2))))
          generalize hee : i + 1 + szs (szC n) b = ee at l3 l5 l6
          -- what comes behind the end
          have hK2 : ∀ y, 200 ≤ y.1 → Kf (exL (exE π c (n + 1)) r y) = y := fun y hy => by rw [exL_full _ _ hy, hK y hy]
          have hrest : ∀ (t : Nat) (rd' : Nat → Int32) (y : Xt), (∀ q, q < i ∨ ee + 1 ≤ q → rd' q = rd q) → t + P ≤ 31 * y.1 → y.1 ≤ 200 → GoW π K F S W p_beds p_letters p_readers p_far p_drain p_length p_words l_code l_length (ee + 1) t rd' y (Kf (exL (exE π c (n + 1)) r y)) := by
            intro t rd' y hr ht hy
            exact ih (ee + 1) j rd' Kf P (by rw [show ee + 1 = i + (2 + szs (szC n) b) by omega]; exact hlr) hokr (by omega) hjW hK (fun t2 rd2 y2 hr2 => hc t2 rd2 y2 (fun q hq => by rw [hr2 q (by omega), hr q (by omega)])) t y ht hy
          have hloop : ∀ (k : Nat), 1 ≤ k → k ≤ 30 → ∀ (t : Nat) (rd' : Nat → Int32) (y : Xt), rd' i = nI k → (∀ q, q < i ∨ ee + 1 ≤ q → rd' q = rd q) → t + (P + k) ≤ 31 * y.1 → y.1 ≤ 200 → GoW π K F S W p_beds p_letters p_readers p_far p_drain p_length p_words l_code l_length (i + 1) t rd' y (Kf (exL (exE π c (n + 1)) r (rep (exL (exE π c n) b) k y))) := by
            intro k
            induction k with
            | zero => intro h1; exact absurd h1 (by omega)
            | succ k ihk =>
              intro _ hk30 t rd' y hri hr ht hy
              rw [← rep_succ]
              refine ihn b (i + 1) ee rd' (fun z => Kf (exL (exE π c (n + 1)) r (rep (exL (exE π c n) b) k z))) (P + (k + 1)) l4 hb (by omega) (by omega) (fun z hz => by show Kf (exL (exE π c (n + 1)) r (rep (exL (exE π c n) b) k z)) = z; rw [rep_full _ _ hz, hK2 z hz]) (fun t2 rd2 z hr2 ht2 hz => ?_) t y ht hy
              have hri2 : rd2 i = nI (k + 1) := by rw [hr2 i (by omega)]; exact hri
              refine go_loop (k := k) hW (by omega) (by omega) (by omega) (by omega) l5 l6 hri2 ?_
              have hup : ∀ q, q < i ∨ ee + 1 ≤ q → upd rd2 i (nI k) q = rd q := fun q hq => by rw [upd_n (by omega), hr2 q (by omega), hr q hq]
              by_cases hk0 : k = 0
              · subst hk0
                rw [if_pos rfl]
                exact hrest (t2 + 1) _ z hup (by omega) hz
              · rw [if_neg hk0]
                exact ihk (by omega) (by omega) (t2 + 1) _ z (upd_s _ _ _) hup (by omega) hz
          refine go_again hW (by omega) (by omega) (by omega) ha l1 l2 l3 (by omega) ?_
          have hup : ∀ q, q < i ∨ ee + 1 ≤ q → upd rd i (nI a) q = rd q := fun q hq => upd_n (by omega)
          by_cases ha0 : a = 0
          · subst ha0
            rw [if_pos rfl]
            exact hrest (t + 1) _ (x.1 + 1, x.2) hup (by show t + 1 + P ≤ 31 * (x.1 + 1); omega) (by show x.1 + 1 ≤ 200; omega)
          · rw [if_neg ha0]
            exact hloop a (by omega) ha (t + 1) _ (x.1 + 1, x.2) (upd_s _ _ _) hup (by show t + 1 + (P + a) ≤ 31 * (x.1 + 1); omega) (by show x.1 + 1 ≤ 200; omega)
theorem c_perform {σ : Sg} {L : List (PE 6)} {s_year s_wet s_lost s_eaten s_tied s_ripeMany w_begun w_refused : Int32} {s_gone s_place s_heard s_many s_lying s_ripe w_rounds l_values l_stack : Nat → Int32} (hS : RS π σ (s_year, s_wet, s_lost, s_eaten, s_tied, s_ripeMany, s_gone, s_place, s_heard, s_many, s_lying, s_ripe)) (hP : RPc π (p_beds, p_letters, p_readers, p_far, p_drain, p_length, p_words, p_home)) (ok : OkP π) (os : OkT π σ) (hR : RLc c l_code l_length) (okl : OkL c) (hW : W ≤ 150) (hl : lays (LC K F S 6) (szC 6) L 0) (hok : ∀ e ∈ L, OkE π 6 e) (hj : szs (szC 6) L = W) : Ans π (exL (exE π c 6) L (0, 0, 0, σ)) (f_X8_perform K F S w_rounds (nI W) w_begun w_refused s_year s_wet s_lost s_eaten s_tied s_ripeMany s_gone s_place s_heard s_many s_lying s_ripe p_beds p_letters p_readers p_far p_drain p_length p_words l_code l_values l_stack l_length) := by
  have h := c_goL (K := K) (F := F) (S := S) (W := W) hP ok hR okl hW 6 L 0 W w_rounds (fun x => x) 0 hl hok (by omega) (Nat.le_refl _) (fun _ _ => rfl) (fun t rd y _ ht hy => go_end hW (by omega)) 0 (0, 0, 0, σ) (Nat.le_refl _) (Nat.zero_le _)
  exact h FU s_year s_wet s_lost s_eaten s_tied s_ripeMany s_gone s_place s_heard s_many s_lying s_ripe l_values l_stack hS os (by have := FU_big; omega)
end WD

/-! ===== a work as a tree, how it is done ===== -/
def PE : Nat → Type
  | 0 => St
  | n + 1 => St ⊕ (Nat × List (PE n))
def szs {E : Type} (f : E → Nat) : List E → Nat
  | [] => 0
  | e :: r => f e + szs f r
def szC : (n : Nat) → PE n → Nat
  | 0 => fun _ => 1
  | n + 1 => fun e => Sum.elim (fun _ => 1) (fun p => 2 + szs (szC n) p.2) (e : St ⊕ (Nat × List (PE n)))
def szM : (n : Nat) → PE n → Nat
  | 0 => fun _ => 3
  | n + 1 => fun e => Sum.elim (fun _ => 3) (fun p => 3 + szs (szM n) p.2) (e : St ⊕ (Nat × List (PE n)))
abbrev Xt : Type := Nat × Nat × Nat × Sg
def exSt (π : Pg) (c : List Tk) (t : St) (x : Xt) : Xt := (x.1 + 1, x.2.1 + (if (doSt π c t x.2.2.2).1 then 1 else 0), x.2.2.1 + (if (doSt π c t x.2.2.2).1 then 0 else 1), (doSt π c t x.2.2.2).2)
def exL {E : Type} (f : E → Xt → Xt) : List E → Xt → Xt
  | [], x => x
  | e :: r, x => if 200 ≤ x.1 then x else exL f r (f e x)
def rep (f : Xt → Xt) : Nat → Xt → Xt
  | 0, x => x
  | k + 1, x => if 200 ≤ x.1 then x else rep f k (f x)
def exE (π : Pg) (c : List Tk) : (n : Nat) → PE n → Xt → Xt
  | 0 => fun t x => exSt π c t x
  | n + 1 => fun e x => Sum.elim (fun t => exSt π c t x) (fun p => rep (exL (exE π c n) p.2) p.1 (x.1 + 1, x.2)) (e : St ⊕ (Nat × List (PE n)))
def OkE (π : Pg) : (n : Nat) → PE n → Prop
  | 0 => fun t => OkSt π t
  | n + 1 => fun e => Sum.elim (fun t => OkSt π t) (fun p => p.1 ≤ 30 ∧ ∀ b ∈ p.2, OkE π n b) (e : St ⊕ (Nat × List (PE n)))
def lays {E : Type} (L : E → Nat → Prop) (sz : E → Nat) : List E → Nat → Prop
  | [], _ => True
  | e :: r, i => L e i ∧ lays L sz r (i + sz e)
def lyC (K F S : Nat → Int32) (t : St) (i : Nat) : Prop := K i = nI t.1 ∧ F i = nI t.2.1 ∧ S i = nI t.2.2
def LC (K F S : Nat → Int32) : (n : Nat) → PE n → Nat → Prop
  | 0 => fun t i => lyC K F S t i
  | n + 1 => fun e i => Sum.elim (fun t => lyC K F S t i) (fun p => K i = 6 ∧ F i = nI p.1 ∧ S i = nI (i + 1 + szs (szC n) p.2) ∧ lays (LC K F S n) (szC n) p.2 (i + 1) ∧ K (i + 1 + szs (szC n) p.2) = 7 ∧ F (i + 1 + szs (szC n) p.2) = nI i) (e : St ⊕ (Nat × List (PE n)))
def lyM (P : Nat → Int32) (t : St) (i : Nat) : Prop := P i = nI t.1 ∧ P (i + 1) = nI t.2.1 ∧ P (i + 2) = nI t.2.2
def LM (P : Nat → Int32) : (n : Nat) → PE n → Nat → Prop
  | 0 => fun t i => lyM P t i
  | n + 1 => fun e i => Sum.elim (fun t => lyM P t i) (fun p => P i = 6 ∧ P (i + 1) = nI p.1 ∧ P (i + 2) = nI (i + 3 + szs (szM n) p.2) ∧ lays (LM P n) (szM n) p.2 (i + 3)) (e : St ⊕ (Nat × List (PE n)))
theorem exL_full {E : Type} (f : E → Xt → Xt) (L : List E) {x : Xt} (h : 200 ≤ x.1) : exL f L x = x := by
  cases L with
  | nil => rfl
  | cons e r => exact if_pos h
theorem rep_full (f : Xt → Xt) (k : Nat) {x : Xt} (h : 200 ≤ x.1) : rep f k x = x := by
  cases k with
  | zero => rfl
  | succ k => exact if_pos h
theorem rep_succ {E : Type} (f : E → Xt → Xt) (L : List E) (k : Nat) (x : Xt) : rep (exL f L) k (exL f L x) = rep (exL f L) (k + 1) x := by
  show _ = if 200 ≤ x.1 then x else rep (exL f L) k (exL f L x)
  by_cases h : 200 ≤ x.1
  · rw [if_pos h, exL_full f L h, rep_full _ k h]
  · rw [if_neg h]
section WR
variable {π : Pg} {c : List Tk} {m_bed m_letter m_reader m_code m_ofCode : Nat → Int32} {m_beds m_letters m_readers m_codes : Int32}
/-- the model's row of what is done -/
def MR (π : Pg) (x : Xt) (bg dn rf : Int32) (s : Nat → Int32) : Prop := bg = nI x.1 ∧ dn = nI x.2.1 ∧ rf = nI x.2.2.1 ∧ RM π x.2.2.2 s ∧ OkT π x.2.2.2 ∧ x.1 ≤ 200
theorem m_goSt {q P} {n1 n2 : Int32} (hQ : RPm π m_beds m_letters m_readers m_bed m_letter m_reader) (ok : OkP π) (hR : RLm c m_code m_ofCode m_codes) (okl : OkL c) {t : St} (ht : OkSt π t) {i : Nat} (hi : i + 3 ≤ 150) (hl : lyM P t i) {x : Xt} (hb : x.1 < 200) (hn : ¬ n2 ≤ nI i) {bg dn rf : Int32} {s st fa : Nat → Int32} (hx : MR π x bg dn rf s) (m : Nat) : ∃ st2 fa2 bg2 dn2 rf2 s2, f_X10_goesSteps_2 q m_bed m_letter m_beds m_letters m_readers m_code m_ofCode m_codes P n1 n2 (m + 1) (nI i) st fa bg dn rf s = f_X10_goesSteps_2 q m_bed m_letter m_beds m_letters m_readers m_code m_ofCode m_codes P n1 n2 m (nI (i + 3)) st2 fa2 bg2 dn2 rf2 s2 ∧ MR π (exSt π c t x) bg2 dn2 rf2 s2 := by
  obtain ⟨rfl, rfl, rfl, h1, h2, h3⟩ := hx
  obtain ⟨l1, l2, l3⟩ := hl
  have ht1 := ht.1
  obtain ⟨st2, fa2, s2, e1, e2, e3⟩ := m_isDone (m_stack := st) (m_facts := fa) h1 hQ ok h2 hR okl ht
  have c1 : nI i + 1 = nI (i + 1) := nI_add i 1
  have c2 : nI i + 2 = nI (i + 2) := nI_add i 2
  have c3 : nI i + 3 = nI (i + 3) := nI_add i 3
  rw [f_X10_goesSteps_2, if_neg hn, show (200 : Int32) = nI 200 from rfl, ite_le (by omega) (by omega), if_neg (by omega), c1, c2, c3, ixb_nI (by omega) (by omega), ixb_nI (by omega) (by omega), ixb_nI (by omega) (by omega), if_pos rfl, if_pos rfl, if_pos rfl, if_pos rfl, nI_cl (by omega), nI_cl (by omega), nI_cl (by omega), l1, l2, l3, show (6 : Int32) = nI 6 from rfl, ite_eq (by omega) (by omega), if_neg (by omega), e1, b4_s, nI_1, nI_1, nI_1]
  by_cases hd : (doSt π c t x.2.2.2).1 = true
  · refine ⟨st2, fa2, nI (x.1 + 1), nI (x.2.1 + 1), nI x.2.2.1, s2, ?_, rfl, ?_, ?_, e2, e3, by show x.1 + 1 ≤ 200; omega⟩
    · rw [if_pos hd, if_neg (show ¬ (1 : Int32) = 0 by decide), if_pos rfl]
    · show nI (x.2.1 + 1) = nI (x.2.1 + (if (doSt π c t x.2.2.2).1 then 1 else 0))
      rw [if_pos hd]
    · show nI x.2.2.1 = nI (x.2.2.1 + (if (doSt π c t x.2.2.2).1 then 0 else 1))
      rw [if_pos hd]; rfl
  · refine ⟨st2, fa2, nI (x.1 + 1), nI x.2.1, nI (x.2.2.1 + 1), s2, ?_, rfl, ?_, ?_, e2, e3, by show x.1 + 1 ≤ 200; omega⟩
    · rw [if_neg hd, if_pos rfl, if_pos rfl]
    · show nI x.2.1 = nI (x.2.1 + (if (doSt π c t x.2.2.2).1 then 1 else 0))
      rw [if_neg hd]; rfl
    · show nI (x.2.2.1 + 1) = nI (x.2.2.1 + (if (doSt π c t x.2.2.2).1 then 0 else 1))
      rw [if_neg hd]
theorem szM_pos : ∀ (n : Nat) (e : PE n), 3 ≤ szM n e := by
  intro n e
  cases n with
  | zero => exact Nat.le_refl 3
  | succ n =>
    cases (e : St ⊕ (Nat × List (PE n))) with
    | inl t => exact Nat.le_refl 3
    | inr p => exact Nat.le_add_right 3 _
theorem szC_pos : ∀ (n : Nat) (e : PE n), 1 ≤ szC n e := by
  intro n e
  cases n with
  | zero => exact Nat.le_refl 1
  | succ n =>
    cases (e : St ⊕ (Nat × List (PE n))) with
    | inl t => exact Nat.le_refl 1
    | inr p => show 1 ≤ 2 + szs (szC n) p.2; omega
theorem m_goL {P : Nat → Int32} (hQ : RPm π m_beds m_letters m_readers m_bed m_letter m_reader) (ok : OkP π) (hR : RLm c m_code m_ofCode m_codes) (okl : OkL c) : ∀ (n D : Nat), n < D → ∀ (L : List (PE n)) (i : Nat) (x : Xt) (bg dn rf : Int32) (s st fa : Nat → Int32), lays (LM P n) (szM n) L i → (∀ e ∈ L, OkE π n e) → i + szs (szM n) L ≤ 150 → MR π x bg dn rf s → ∃ st2 fa2 bg2 dn2 rf2 s2, f_X10_goesSteps D m_bed m_letter m_beds m_letters m_readers m_code m_ofCode st m_codes fa P bg dn rf s (nI i) (nI (i + szs (szM n) L)) = some (st2, fa2, bg2, dn2, rf2, s2) ∧ MR π (exL (exE π c n) L x) bg2 dn2 rf2 s2 := by
  intro n
  induction n with
  | zero =>
    intro D hD L i x bg dn rf s st fa hl hok h150 hx
    obtain ⟨D, rfl⟩ : ∃ j, D = j + 1 := ⟨D - 1, by omega⟩
    have main : ∀ (L : List (PE 0)) (i0 i m j : Nat) (x : Xt) (bg dn rf : Int32) (s st fa : Nat → Int32), lays (LM P 0) (szM 0) L i → (∀ e ∈ L, OkE π 0 e) → i + szs (szM 0) L = j → j ≤ 150 → L.length < m → MR π x bg dn rf s → ∃ st2 fa2 bg2 dn2 rf2 s2, f_X10_goesSteps_2 (f_X10_goesSteps D) m_bed m_letter m_beds m_letters m_readers m_code m_ofCode m_codes P (nI i0) (nI j) m (nI i) st fa bg dn rf s = some (st2, fa2, bg2, dn2, rf2, s2) ∧ MR π (exL (exE π c 0) L x) bg2 dn2 rf2 s2 := by
      intro L i0
      induction L with
      | nil =>
        intro i m j x bg dn rf s st fa hl hok hj h150 hm hx
        obtain ⟨m, rfl⟩ : ∃ k, m = k + 1 := ⟨m - 1, by omega⟩
        obtain rfl : i = j := hj
        rw [f_X10_goesSteps_2, if_pos (Int32.le_refl _)]
        exact ⟨_, _, _, _, _, _, rfl, hx⟩
      | cons e r ih =>
        intro i m j x bg dn rf s st fa hl hok hj h150 hm hx
        have hj : i + (3 + szs (szM 0) r) = j := hj
        rw [List.length_cons] at hm
        obtain ⟨m, rfl⟩ : ∃ k, m = k + 1 := ⟨m - 1, by omega⟩
        have hn : ¬ nI j ≤ nI i := by rw [nI_leJ (by omega) (by omega)]; omega
        by_cases h200 : 200 ≤ x.1
        · rw [exL_full _ _ h200]
          have hx' := hx
          obtain ⟨rfl, -, -, -, -, h3⟩ := hx
          rw [f_X10_goesSteps_2, if_neg hn, show (200 : Int32) = nI 200 from rfl, ite_le (by omega) (by omega), if_pos h200]
          exact ⟨_, _, _, _, _, _, rfl, hx'⟩
        · obtain ⟨st2, fa2, bg2, dn2, rf2, s2, e1, e2⟩ := m_goSt (q := f_X10_goesSteps D) (P := P) (n1 := nI i0) (st := st) (fa := fa) hQ ok hR okl (hok e (List.mem_cons_self ..)) (by omega) hl.1 (by omega) hn hx m
          rw [e1, show exL (exE π c 0) (e :: r) x = exL (exE π c 0) r (exSt π c e x) from if_neg h200]
          exact ih (i + 3) m j _ _ _ _ _ _ _ hl.2 (fun e he => hok e (List.mem_cons_of_mem _ he)) (by omega) h150 (by omega) e2
    have hlen : L.length ≤ szs (szM 0) L := by
      clear hl hok h150
      induction L with
      | nil => exact Nat.le_refl _
      | cons e r ih => show r.length + 1 ≤ 3 + szs (szM 0) r; omega
    exact main L i i FU _ x bg dn rf s st fa hl hok rfl h150 (FU_gt (by omega)) hx
  | succ n ihn =>
    intro D hD L i x bg dn rf s st fa hl hok h150 hx
    obtain ⟨D, rfl⟩ : ∃ j, D = j + 1 := ⟨D - 1, by omega⟩
    have main : ∀ (L : List (PE (n + 1))) (i0 i m j : Nat) (x : Xt) (bg dn rf : Int32) (s st fa : Nat → Int32), lays (LM P (n + 1)) (szM (n + 1)) L i → (∀ e ∈ L, OkE π (n + 1) e) → i + szs (szM (n + 1)) L = j → j ≤ 150 → L.length < m → MR π x bg dn rf s → ∃ st2 fa2 bg2 dn2 rf2 s2, f_X10_goesSteps_2 (f_X10_goesSteps D) m_bed m_letter m_beds m_letters m_readers m_code m_ofCode m_codes P (nI i0) (nI j) m (nI i) st fa bg dn rf s = some (st2, fa2, bg2, dn2, rf2, s2) ∧ MR π (exL (exE π c (n + 1)) L x) bg2 dn2 rf2 s2 := by
      intro L i0
      induction L with
      | nil =>
        intro i m j x bg dn rf s st fa hl hok hj h150 hm hx
        obtain ⟨m, rfl⟩ : ∃ k, m = k + 1 := ⟨m - 1, by omega⟩
        obtain rfl : i = j := hj
        rw [f_X10_goesSteps_2, if_pos (Int32.le_refl _)]
        exact ⟨_, _, _, _, _, _, rfl, hx⟩
      | cons e r ih =>
        intro i m j x bg dn rf s st fa hl hok hj h150 hm hx
        have hj : i + (szM (n + 1) e + szs (szM (n + 1)) r) = j := hj
        have hpos := szM_pos (n + 1) e
        rw [List.length_cons] at hm
        obtain ⟨m, rfl⟩ : ∃ k, m = k + 1 := ⟨m - 1, by omega⟩
        have hn : ¬ nI j ≤ nI i := by rw [nI_leJ (by omega) (by omega)]; omega
        by_cases h200 : 200 ≤ x.1
        · rw [exL_full _ _ h200]
          have hx' := hx
          obtain ⟨rfl, -, -, -, -, h3⟩ := hx
          rw [f_X10_goesSteps_2, if_neg hn, show (200 : Int32) = nI 200 from rfl, ite_le (by omega) (by omega), if_pos h200]
          exact ⟨_, _, _, _, _, _, rfl, hx'⟩
        · rw [show exL (exE π c (n + 1)) (e :: r) x = exL (exE π c (n + 1)) r (exE π c (n + 1) e x) from if_neg h200]
          have hoke := hok e (List.mem_cons_self ..)
          have hle := hl.1
          have hlr := hl.2
          revert hpos hj hoke hle hlr
          generalize he : e = e0
          clear he
          cases (e0 : St ⊕ (Nat × List (PE n))) with
          | inl t =>
            intro hj hpos hoke hle hlr
            have hj : i + (3 + szs (szM (n + 1)) r) = j := hj
            obtain ⟨st2, fa2, bg2, dn2, rf2, s2, e1, e2⟩ := m_goSt (q := f_X10_goesSteps D) (P := P) (n1 := nI i0) (st := st) (fa := fa) hQ ok hR okl (t := t) hoke (by omega) hle (by omega) hn hx m
            rw [e1]
            exact ih (i + 3) m j _ _ _ _ _ _ _ hlr (fun e he => hok e (List.mem_cons_of_mem _ he)) (by omega) h150 (by omega) e2
          | inr p =>
            intro hj hpos hoke hle hlr
            obtain ⟨a, b⟩ := p
            have hj : i + (3 + szs (szM n) b + szs (szM (n + 1)) r) = j := hj
            obtain ⟨ha, hb⟩ : a ≤ 30 ∧ ∀ b1 ∈ b, OkE π n b1 := hoke
            obtain ⟨l1, l2, l3, l4⟩ : P i = 6 ∧ P (i + 1) = nI a ∧ P (i + 2) = nI (i + 3 + szs (szM n) b) ∧ lays (LM P n) (szM n) b (i + 3) := hle
            have hlr : lays (LM P (n + 1)) (szM (n + 1)) r (i + (3 + szs (szM n) b)) := hlr
            have c1 : nI i + 1 = nI (i + 1) := nI_add i 1
            have c2 : nI i + 2 = nI (i + 2) := nI_add i 2
            have c3 : nI i + 3 = nI (i + 3) := nI_add i 3
            obtain ⟨rfl, hx2⟩ := hx
            have e0 : f_X10_goesSteps_2 (f_X10_goesSteps D) m_bed m_letter m_beds m_letters m_readers m_code m_ofCode m_codes P (nI i0) (nI j) (m + 1) (nI i) st fa (nI x.1) dn rf s = f_X10_goesSteps_51 (f_X10_goesSteps D) m_bed m_letter m_beds m_letters m_readers m_code m_ofCode m_codes P (nI i0) (nI j) (f_X10_goesSteps_2 (f_X10_goesSteps D) m_bed m_letter m_beds m_letters m_readers m_code m_ofCode m_codes P (nI i0) (nI j) m) FU (nI i) (nI (i + 3 + szs (szM n) b)) 0 st fa (nI (x.1 + 1)) dn rf s := by
              rw [f_X10_goesSteps_2, if_neg hn, show (200 : Int32) = nI 200 from rfl, ite_le (by omega) (by omega), if_neg h200, c2, ixb_nI (a := i) (by omega) (by omega), if_pos rfl, nI_cl (a := i) (by omega), l1, if_pos rfl, ixb_nI (by omega) (by omega), if_pos rfl, nI_cl (by omega), l3, nI_1]
            -- the rounds
            have hrep : ∀ (k idx m9 : Nat) (y : Xt) (bg dn rf : Int32) (s st fa : Nat → Int32), idx + k = a → k < m9 → MR π y bg dn rf s → ∃ st2 fa2 bg2 dn2 rf2 s2, f_X10_goesSteps_51 (f_X10_goesSteps D) m_bed m_letter m_beds m_letters m_readers m_code m_ofCode m_codes P (nI i0) (nI j) (f_X10_goesSteps_2 (f_X10_goesSteps D) m_bed m_letter m_beds m_letters m_readers m_code m_ofCode m_codes P (nI i0) (nI j) m) m9 (nI i) (nI (i + 3 + szs (szM n) b)) (nI idx) st fa bg dn rf s = f_X10_goesSteps_2 (f_X10_goesSteps D) m_bed m_letter m_beds m_letters m_readers m_code m_ofCode m_codes P (nI i0) (nI j) m (nI (i + 3 + szs (szM n) b)) st2 fa2 bg2 dn2 rf2 s2 ∧ MR π (rep (exL (exE π c n) b) k y) bg2 dn2 rf2 s2 := by
              intro k
              induction k with
              | zero =>
                intro idx m9 y bg dn rf s st fa hk hm9 hy
                obtain ⟨m9, rfl⟩ : ∃ k, m9 = k + 1 := ⟨m9 - 1, by omega⟩
                obtain rfl : idx = a := by omega
                rw [f_X10_goesSteps_51, c1, ixb_nI (by omega) (by omega), if_pos rfl, nI_cl (by omega), l2, if_pos (Int32.le_refl _)]
                exact ⟨_, _, _, _, _, _, rfl, hy⟩
              | succ k ihk =>
                intro idx m9 y bg dn rf s st fa hk hm9 hy
                obtain ⟨m9, rfl⟩ : ∃ k, m9 = k + 1 := ⟨m9 - 1, by omega⟩
                have hy' := hy
                obtain ⟨rfl, -, -, -, -, hy3⟩ := hy
                rw [f_X10_goesSteps_51, c1, ixb_nI (by omega) (by omega), if_pos rfl, nI_cl (by omega), l2, ite_le (by omega) (by omega), if_neg (by omega), show (200 : Int32) = nI 200 from rfl, ite_le (by omega) (by omega)]
                by_cases hy200 : 200 ≤ y.1
                · rw [if_pos hy200, rep_full _ _ hy200]
                  exact ⟨_, _, _, _, _, _, rfl, hy'⟩
                · rw [if_neg hy200, c3, nI_1]
                  obtain ⟨st2, fa2, bg2, dn2, rf2, s2, e1, e2⟩ := ihn D (by omega) b (i + 3) y (nI y.1) dn rf s st fa l4 hb (by omega) hy'
                  rw [e1, b6_s, show rep (exL (exE π c n) b) (k + 1) y = rep (exL (exE π c n) b) k (exL (exE π c n) b y) from if_neg hy200]
                  exact ihk (idx + 1) m9 _ _ _ _ _ _ _ (by omega) (by omega) e2
            obtain ⟨st2, fa2, bg2, dn2, rf2, s2, e1, e2⟩ := hrep a 0 FU (x.1 + 1, x.2) (nI (x.1 + 1)) dn rf s st fa (by omega) (FU_gt (by omega)) ⟨rfl, hx2.1, hx2.2.1, hx2.2.2.1, hx2.2.2.2.1, by show x.1 + 1 ≤ 200; omega⟩
            rw [e0]
            have e1 : f_X10_goesSteps_51 (f_X10_goesSteps D) m_bed m_letter m_beds m_letters m_readers m_code m_ofCode m_codes P (nI i0) (nI j) (f_X10_goesSteps_2 (f_X10_goesSteps D) m_bed m_letter m_beds m_letters m_readers m_code m_ofCode m_codes P (nI i0) (nI j) m) FU (nI i) (nI (i + 3 + szs (szM n) b)) 0 st fa (nI (x.1 + 1)) dn rf s = _ := e1
            rw [e1]
            exact ih (i + 3 + szs (szM n) b) m j _ _ _ _ _ _ _ (by rw [Nat.add_assoc]; exact hlr) (fun e he => hok e (List.mem_cons_of_mem _ he)) (by omega) h150 (by omega) e2
    have hlen : L.length ≤ szs (szM (n + 1)) L := by
      clear hl hok h150
      induction L with
      | nil => exact Nat.le_refl _
      | cons e r ih => have := szM_pos (n + 1) e; show r.length + 1 ≤ szM (n + 1) e + szs (szM (n + 1)) r; omega
    exact main L i i FU _ x bg dn rf s st fa hl hok rfl h150 (FU_gt (by omega)) hx
end WR

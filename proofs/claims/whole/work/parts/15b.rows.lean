/-! ===== rows that came later ===== -/
section G2
variable {J : Jt} {Z : Zt} {cc : ByteArray} {nL : Nat} {own : String} {rt : Option FieldType} {R : Room} {n k : Nat} {w w' : va_W} {lv lv' : List (Nat × Value)} {pc : Nat} {st : List Value}
theorem va_ldcwS {p : Program} {l : Launch} {e : Env} {R : Room} {s : State} {m : MethodId} {args : Array Value} {below : List Frame} {meth : Method} {c : Code} {T : State} {locs : List Loc} {cells slots : Nat}
    (X : Stand p l e R s m args below meth c T locs cells slots) (hexec : p.tables.exec = Jvm.exec) {own text : String} {index : Nat} {a : Addr} (hown : s.vm.findClass own = some m.cls)
    (hconst : (Cond.stringRef own index text).before #[] s = true) (hev : (Term.string own index).eval #[] s none [] s = some (.ref a)) {g : JFrame} (hg : g.method = m) (hdg : decode c.code g.pc = .ok (.ldc_w index, 3)) :
    ∀ target, Steps p.tables e below (T.setTop { g with pc := g.pc + 3, stack := .ref a :: g.stack }) target → Steps p.tables e below (T.setTop g) target := by
  obtain ⟨k, cf, i, a', hk, hcf, hcp, -, hr, hev'⟩ := Cond.stringRef_spec hown hconst
  cases hev.symm.trans hev'
  obtain ⟨k', hk', he⟩ := X.warmed.alike.2.2 _ _ hk
  have hr' : k'.resolved[index]? = some (some (.string a)) := by
    rcases X.warmed.entry hk hk' index with h | ⟨h, -⟩
    · rw [h]; exact hr
    · rw [hr] at h; cases h
  intro target hrest
  subst hg
  jvm_step X.here [hexec, hdg, ldc_w.wp_string (e := e) (s := T) (f := g) X.here.top hk' (by rw [he]; exact hcf) hcp hr']
  exact hrest
theorem g_ldcwS (C : Cx J Z cc nL own rt R) {i idx : Nat} {tx : String} (hq : stT[i]? = some (own, idx, tx)) (hd : decode cc pc = .ok (.ldc_w idx, 3)) (kk : G J Z n k w nL lv (pc + 3) (.ref (J.2.2.2.1 i) :: st)) : G J Z n k w nL lv pc st := by
  obtain ⟨l, D, cy, aK, aV⟩ := J
  obtain ⟨p, e, R0, s, m, args, below, meth, c, A, Q⟩ := Z
  obtain ⟨hx, hb, hml, hown, hts, hKX, hr, hlk, hA, rfl⟩ := C
  intro H locs ls hP hD hS hl
  intro T hT X
  obtain ⟨t, a, b⟩ := kk H locs ls hP hD hS hl T hT X
  have hZ := hKX.2.2.1 i _ hq
  exact ⟨t, va_ldcwS X hx hown hZ.1 hZ.2 (g := F0 m pc ls st) rfl (by rw [hb]; exact hd) t a, b⟩
end G2

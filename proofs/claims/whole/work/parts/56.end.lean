/-! ===== the law's own end: places of new cells fall away ===== -/
theorem g_fin {l : Launch} {D : va_G} {cy : Nat → ClassId} {aK aV : Nat → Nat} {p : Program} {e : Env} {R : Room} {s : State} {m : MethodId} {args : Array Value} {below : List Frame} {meth : Method} {c : Code} {A : Nat → Prop} {Q : State → Prop} {n k nL pc : Nat} {w : va_W} {lv : List (Nat × Value)} {st : List Value} (hA : ∀ q, A q → s.heap.size ≤ q) (h : ∀ (H : Heap) (ls : Array Slot), W p l e R s m args below meth c H [] n k Q (F0 m pc ls st)) : G (l, D, cy, aK, aV) (p, e, R, s, m, args, below, meth, c, A, Q) n k w nL lv pc st := by
  intro H locs ls hP hD hS hl T hT X
  exact h H ls T hT (Stand.forget (locs := []) (extra := locs) X (fun y hy => hA _ (hS.2.2 y hy)))

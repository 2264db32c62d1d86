/-! ===== the relation at the start: no garden ===== -/
def pg0 : Pg := ((0, 0, 0), fun _ => 0, fun _ => 0, fun _ => 0, fun _ _ => 0, fun _ => 0)
theorem ok_pg0 : OkP pg0 := ⟨by decide, by decide, by decide, fun _ h => absurd h (Nat.not_lt_zero _), fun _ h => absurd h (Nat.not_lt_zero _), fun _ h => absurd h (Nat.not_lt_zero _)⟩
theorem rpc_pg0 {f g h k m : Nat → Int32} : RPc pg0 (0, 0, 0, f, g, h, k, m) := ⟨rfl, rfl, rfl, fun _ h => absurd h (Nat.not_lt_zero _), fun _ h => absurd h (Nat.not_lt_zero _), fun _ h => absurd h (Nat.not_lt_zero _)⟩
theorem rpm_pg0 {f g h : Nat → Int32} : RPm pg0 0 0 0 f g h := ⟨rfl, rfl, rfl, fun _ h => absurd h (Nat.not_lt_zero _), fun _ h => absurd h (Nat.not_lt_zero _), fun _ h => absurd h (Nat.not_lt_zero _)⟩
theorem rs_pg0 {go pl he ly ri : Nat → Int32} : RS pg0 (oBegin pg0) (0, 0, 0, 0, 0, 0, go, pl, he, fun _ => 0, ly, ri) := ⟨rfl, rfl, rfl, rfl, fun _ h => absurd h (Nat.not_lt_zero _), rfl, fun _ h => absurd h (Nat.not_lt_zero _), fun _ h => absurd h (Nat.not_lt_zero _), fun _ h => absurd h (Nat.not_lt_zero _), fun _ _ => rfl, fun _ _ _ h => absurd h (Nat.not_lt_zero _), fun _ h => absurd h (Nat.not_lt_zero _)⟩
theorem rt_0 : RT 0 (fun _ => 0) (fun _ => 0) := ⟨Nat.zero_le _, fun _ h => absurd h (Nat.not_lt_zero _)⟩
theorem rc_0 : RC 0 0 (fun _ => 0) := ⟨rfl, rfl⟩

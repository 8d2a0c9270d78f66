section TXZo
variable {W : tm_W} {m : Nat → Nat → Int32} {l : Nat → Nat → Int64} {f g : Nat → Int32}
/-! RULES: a text that is not sound stays as it is -/
theorem c60f (C : isC W) {n a p : Nat} {sg : Nat → Nat} (T : txT m n sg) (ha : a ≤ n) (hp : p ≤ 200) (x : Int32) : cl 60 [.ref 0, .int x] (tm W (txC m (a, some p)) l) = some (none, tm W (txC m (a, some p)) l) := by
  have hs : okS n (a, some p) := ⟨ha, fun q h => by cases h; exact hp⟩
  have e1 : cl 251 [.ref 1, .int 111, .int 97] (tm W (txC m (a, some p)) l) = some (some (.int (-1)), tm W (txC m (a, some p)) l) := c251 (l := l) C T (c1 := 111) (c2 := 97) (by decide) (by decide) hs
  have e2 : cl 253 [.ref 1, .int 1, .int 9] (tm W (txC m (a, some p)) l) = some (some (.int (-1)), tm W (txC m (a, some p)) l) := c253_19 (l := l) C T hs
  have e3 : cl 250 [.ref 1, .int 120] (tm W (txC m (a, some p)) l) = some (none, tm W (txC m (a, some p)) l) := c250 (l := l) C T (c := 120) (by decide) hs
  have e4 : cl 254 [.ref 1, .int 0, .int 20] (tm W (txC m (a, some p)) l) = some (some (.int (-1)), tm W (txC m (a, some p)) l) := c254_20 (l := l) C T (lo := 0) (by decide) hs
  rw [q_60, xR0 C, Option.bind_some, if_pos (t_ok C _), e1, kxi_s, if_neg (by decide), q_60_10]
  simp only [xR0 C, t_ok C, e2, e3, e4, c246f C a hp, Option.bind_some, kxi_s, kxv_s, if_true]
  rw [q_60_53, xR0 C, Option.bind_some, if_pos (t_ok C _), c246f C a hp, kxi_s, if_pos rfl]
end TXZo

section TXZp
variable {W : tm_W} {m : Nat → Nat → Int32} {l : Nat → Nat → Int64} {f g : Nat → Int32}
/-! RULES: the cups that were told, as bits -/
theorem mb1 : ∀ k, k < 16 → ∀ c, c < 4 → ((((nI k >>> (nI c &&& 31)) &&& 1) = 1) ↔ k.testBit c = true) := by decide +kernel
theorem mb2 : ∀ k, k < 16 → ∀ c, c < 4 → (((nI k &&& (1 <<< (nI c &&& 31))) = 0) ↔ k.testBit c = false) := by decide +kernel
theorem mb3 : ∀ k, k < 16 → ∀ c, c < 4 → (nI k ||| (1 <<< (nI c &&& 31))) = nI (k ||| 2 ^ c) ∧ (k ||| 2 ^ c) < 16 := by decide +kernel
theorem mb4 : ∀ k, k < 16 → ∀ c, c < 4 → ∀ d, d < 4 → ((k ||| 2 ^ c).testBit d = (k.testBit d || decide (d = c))) := by decide +kernel
theorem j107f (M : isM W) {a p : Nat} (hp : p ≤ 200) (x y : Int32) : dn 107 22 [some (.ref 39), some (.int x), some (.int y)] [] (tm W (txR m (a, some p)) l) = some (some (.int x), tm W (txR m (a, some p)) l) := by
  have h : ¬ enc (some p) = -1 := nI_ne_m1 (by omega)
  rw [q_107_22, u_3 M, Option.bind_some, if_neg h, q_107_38, u_3 M, Option.bind_some, if_neg h]
theorem c107f (M : isM W) {n a p : Nat} {sg : Nat → Nat} (T : txU m n sg) (ha : a ≤ n) (hp : p ≤ 200) (x : Int32) : cl 107 [.ref 39, .int x] (tm W (txR m (a, some p)) l) = some (some (.int x), tm W (txR m (a, some p)) l) := by
  have hs : okS n (a, some p) := ⟨ha, fun q h => by cases h; exact hp⟩
  have h : ¬ enc (some p) = -1 := nI_ne_m1 (by omega)
  have e2 : cl 103 [.ref 39, .int 0, .int 3] (tm W (txR m (a, some p)) l) = some (some (.int (nI 0)), tm W (txR m (a, some p)) l) := c103_03 (l := l) M T hs
  rw [q_107, if_pos (rok M _), e2, kxi_s, u_3 M, Option.bind_some, if_neg h, j107f M hp]
end TXZp

section POP2
theorem pcN_in {X i : Nat} (hi : i < 56) (hX : X < 2 ^ i) : pcN (X + 2 ^ i) = pcN X + 1 := by
  obtain ⟨r, q, hr, hq, e⟩ : ∃ r q, r < 8 ∧ q < 7 ∧ i = 8 * q + r := ⟨i % 8, i / 8, by omega, by omega, by omega⟩
  have hp : 2 ^ r ≤ 128 := by
    have := Nat.pow_le_pow_right (show 0 < 2 by decide) (show r ≤ 7 by omega)
    simpa using this
  have hin := pc_in r hr
  have e2 : 2 ^ i = 2 ^ (8 * q) * 2 ^ r := by rw [e, Nat.pow_add]
  rw [e2] at hX ⊢
  clear e2
  generalize 2 ^ r = p at *
  unfold pcN
  rcases (show q = 0 ∨ q = 1 ∨ q = 2 ∨ q = 3 ∨ q = 4 ∨ q = 5 ∨ q = 6 by omega) with rfl | rfl | rfl | rfl | rfl | rfl | rfl
  · have h0 : (X + 2 ^ (8 * 0) * p) % 256 = X % 256 + p := by omega
    have h1 : (X + 2 ^ (8 * 0) * p) / 256 % 256 = X / 256 % 256 := by omega
    have h2 : (X + 2 ^ (8 * 0) * p) / 65536 % 256 = X / 65536 % 256 := by omega
    have h3 : (X + 2 ^ (8 * 0) * p) / 16777216 % 256 = X / 16777216 % 256 := by omega
    have h4 : (X + 2 ^ (8 * 0) * p) / 4294967296 % 256 = X / 4294967296 % 256 := by omega
    have h5 : (X + 2 ^ (8 * 0) * p) / 1099511627776 % 256 = X / 1099511627776 % 256 := by omega
    have h6 : (X + 2 ^ (8 * 0) * p) / 281474976710656 % 256 = X / 281474976710656 % 256 := by omega
    have h7 : (X + 2 ^ (8 * 0) * p) / 72057594037927936 % 256 = X / 72057594037927936 % 256 := by omega
    have hy : X % 256 < p := by omega
    rw [h0, h1, h2, h3, h4, h5, h6, h7, hin _ hy]
    omega
  · have h0 : (X + 2 ^ (8 * 1) * p) % 256 = X % 256 := by omega
    have h1 : (X + 2 ^ (8 * 1) * p) / 256 % 256 = X / 256 % 256 + p := by omega
    have h2 : (X + 2 ^ (8 * 1) * p) / 65536 % 256 = X / 65536 % 256 := by omega
    have h3 : (X + 2 ^ (8 * 1) * p) / 16777216 % 256 = X / 16777216 % 256 := by omega
    have h4 : (X + 2 ^ (8 * 1) * p) / 4294967296 % 256 = X / 4294967296 % 256 := by omega
    have h5 : (X + 2 ^ (8 * 1) * p) / 1099511627776 % 256 = X / 1099511627776 % 256 := by omega
    have h6 : (X + 2 ^ (8 * 1) * p) / 281474976710656 % 256 = X / 281474976710656 % 256 := by omega
    have h7 : (X + 2 ^ (8 * 1) * p) / 72057594037927936 % 256 = X / 72057594037927936 % 256 := by omega
    have hy : X / 256 % 256 < p := by omega
    rw [h0, h1, h2, h3, h4, h5, h6, h7, hin _ hy]
    omega
  · have h0 : (X + 2 ^ (8 * 2) * p) % 256 = X % 256 := by omega
    have h1 : (X + 2 ^ (8 * 2) * p) / 256 % 256 = X / 256 % 256 := by omega
    have h2 : (X + 2 ^ (8 * 2) * p) / 65536 % 256 = X / 65536 % 256 + p := by omega
    have h3 : (X + 2 ^ (8 * 2) * p) / 16777216 % 256 = X / 16777216 % 256 := by omega
    have h4 : (X + 2 ^ (8 * 2) * p) / 4294967296 % 256 = X / 4294967296 % 256 := by omega
    have h5 : (X + 2 ^ (8 * 2) * p) / 1099511627776 % 256 = X / 1099511627776 % 256 := by omega
    have h6 : (X + 2 ^ (8 * 2) * p) / 281474976710656 % 256 = X / 281474976710656 % 256 := by omega
    have h7 : (X + 2 ^ (8 * 2) * p) / 72057594037927936 % 256 = X / 72057594037927936 % 256 := by omega
    have hy : X / 65536 % 256 < p := by omega
    rw [h0, h1, h2, h3, h4, h5, h6, h7, hin _ hy]
    omega
  · have h0 : (X + 2 ^ (8 * 3) * p) % 256 = X % 256 := by omega
    have h1 : (X + 2 ^ (8 * 3) * p) / 256 % 256 = X / 256 % 256 := by omega
    have h2 : (X + 2 ^ (8 * 3) * p) / 65536 % 256 = X / 65536 % 256 := by omega
    have h3 : (X + 2 ^ (8 * 3) * p) / 16777216 % 256 = X / 16777216 % 256 + p := by omega
    have h4 : (X + 2 ^ (8 * 3) * p) / 4294967296 % 256 = X / 4294967296 % 256 := by omega
    have h5 : (X + 2 ^ (8 * 3) * p) / 1099511627776 % 256 = X / 1099511627776 % 256 := by omega
    have h6 : (X + 2 ^ (8 * 3) * p) / 281474976710656 % 256 = X / 281474976710656 % 256 := by omega
    have h7 : (X + 2 ^ (8 * 3) * p) / 72057594037927936 % 256 = X / 72057594037927936 % 256 := by omega
    have hy : X / 16777216 % 256 < p := by omega
    rw [h0, h1, h2, h3, h4, h5, h6, h7, hin _ hy]
    omega
  · have h0 : (X + 2 ^ (8 * 4) * p) % 256 = X % 256 := by omega
    have h1 : (X + 2 ^ (8 * 4) * p) / 256 % 256 = X / 256 % 256 := by omega
    have h2 : (X + 2 ^ (8 * 4) * p) / 65536 % 256 = X / 65536 % 256 := by omega
    have h3 : (X + 2 ^ (8 * 4) * p) / 16777216 % 256 = X / 16777216 % 256 := by omega
    have h4 : (X + 2 ^ (8 * 4) * p) / 4294967296 % 256 = X / 4294967296 % 256 + p := by omega
    have h5 : (X + 2 ^ (8 * 4) * p) / 1099511627776 % 256 = X / 1099511627776 % 256 := by omega
    have h6 : (X + 2 ^ (8 * 4) * p) / 281474976710656 % 256 = X / 281474976710656 % 256 := by omega
    have h7 : (X + 2 ^ (8 * 4) * p) / 72057594037927936 % 256 = X / 72057594037927936 % 256 := by omega
    have hy : X / 4294967296 % 256 < p := by omega
    rw [h0, h1, h2, h3, h4, h5, h6, h7, hin _ hy]
    omega
  · have h0 : (X + 2 ^ (8 * 5) * p) % 256 = X % 256 := by omega
    have h1 : (X + 2 ^ (8 * 5) * p) / 256 % 256 = X / 256 % 256 := by omega
    have h2 : (X + 2 ^ (8 * 5) * p) / 65536 % 256 = X / 65536 % 256 := by omega
    have h3 : (X + 2 ^ (8 * 5) * p) / 16777216 % 256 = X / 16777216 % 256 := by omega
    have h4 : (X + 2 ^ (8 * 5) * p) / 4294967296 % 256 = X / 4294967296 % 256 := by omega
    have h5 : (X + 2 ^ (8 * 5) * p) / 1099511627776 % 256 = X / 1099511627776 % 256 + p := by omega
    have h6 : (X + 2 ^ (8 * 5) * p) / 281474976710656 % 256 = X / 281474976710656 % 256 := by omega
    have h7 : (X + 2 ^ (8 * 5) * p) / 72057594037927936 % 256 = X / 72057594037927936 % 256 := by omega
    have hy : X / 1099511627776 % 256 < p := by omega
    rw [h0, h1, h2, h3, h4, h5, h6, h7, hin _ hy]
    omega
  · have h0 : (X + 2 ^ (8 * 6) * p) % 256 = X % 256 := by omega
    have h1 : (X + 2 ^ (8 * 6) * p) / 256 % 256 = X / 256 % 256 := by omega
    have h2 : (X + 2 ^ (8 * 6) * p) / 65536 % 256 = X / 65536 % 256 := by omega
    have h3 : (X + 2 ^ (8 * 6) * p) / 16777216 % 256 = X / 16777216 % 256 := by omega
    have h4 : (X + 2 ^ (8 * 6) * p) / 4294967296 % 256 = X / 4294967296 % 256 := by omega
    have h5 : (X + 2 ^ (8 * 6) * p) / 1099511627776 % 256 = X / 1099511627776 % 256 := by omega
    have h6 : (X + 2 ^ (8 * 6) * p) / 281474976710656 % 256 = X / 281474976710656 % 256 + p := by omega
    have h7 : (X + 2 ^ (8 * 6) * p) / 72057594037927936 % 256 = X / 72057594037927936 % 256 := by omega
    have hy : X / 281474976710656 % 256 < p := by omega
    rw [h0, h1, h2, h3, h4, h5, h6, h7, hin _ hy]
    omega
theorem c258 {X : Nat} (hX : X < 2 ^ 56) (h : ia_H) : cl 258 [.long (lN X)] h = some (some (.int (nI (pcN X))), h) := by
  obtain ⟨F, f1, f2, A, B, C, D, E, hle, eA, hA, eB, hB, eC, hC, eD, hD, eE, hE, eF⟩ := swN hX
  have k1 : (6148914691236517205 : Int64) = lN 6148914691236517205 := by decide
  have k2 : (3689348814741910323 : Int64) = lN 3689348814741910323 := by decide
  have k3 : (1085102592571150095 : Int64) = lN 1085102592571150095 := by decide
  have s1 : ((lN X).toUInt64 >>> ((1 : Int32).toInt64.toUInt64 &&& Int64.toUInt64 63)).toInt64 = lN (X / 2 ^ 1) := lN_us (by omega) _ 1 (by decide)
  have s2 : ((lN A).toUInt64 >>> ((2 : Int32).toInt64.toUInt64 &&& Int64.toUInt64 63)).toInt64 = lN (A / 2 ^ 2) := lN_us (by omega) _ 2 (by decide)
  have s4 : ((lN B).toUInt64 >>> ((4 : Int32).toInt64.toUInt64 &&& Int64.toUInt64 63)).toInt64 = lN (B / 2 ^ 4) := lN_us (by omega) _ 4 (by decide)
  have s8 : ((lN C).toUInt64 >>> ((8 : Int32).toInt64.toUInt64 &&& Int64.toUInt64 63)).toInt64 = lN (C / 2 ^ 8) := lN_us (by omega) _ 8 (by decide)
  have s16 : ((lN D).toUInt64 >>> ((16 : Int32).toInt64.toUInt64 &&& Int64.toUInt64 63)).toInt64 = lN (D / 2 ^ 16) := lN_us (by omega) _ 16 (by decide)
  have s32 : ((lN E).toUInt64 >>> ((32 : Int32).toInt64.toUInt64 &&& Int64.toUInt64 63)).toInt64 = lN (E / 2 ^ 32) := lN_us (by omega) _ 32 (by decide)
  rw [q_258, s1, k1, lN_and, lN_sub hle, ← eA, q_258_8, s2, k2, lN_and, lN_and, lN_add, show A / 2 ^ 2 = A / 4 from rfl, ← eB, q_258_18, s4, lN_add, k3, lN_and, show B / 2 ^ 4 = B / 16 from rfl, ← eC, q_258_26, s8, lN_add, show C / 2 ^ 8 = C / 256 from rfl, ← eD, q_258_32, s16, lN_add, show D / 2 ^ 16 = D / 65536 from rfl, ← eE, q_258_38, s32, lN_add, show E / 2 ^ 32 = E / 4294967296 from rfl, ← eF, q_258_44, lN_i, pk_and _ (m := 127) 7 (by decide)]
  have e : (nI F).toBitVec.toNat = F % 2 ^ 32 := rfl
  rw [e, show F % 2 ^ 32 % 2 ^ 7 = F % 128 by omega, f2]
theorem bitL : ∀ i, i < 56 → (1 : Int64) <<< ((nI i).toInt64 &&& 63) = lN (2 ^ i) := by decide +kernel
theorem orL {X i : Nat} (hi : i < 56) (hX : X < 2 ^ i) : lN X ||| ((1 : Int64) <<< ((nI i).toInt64 &&& 63)) = lN (X + 2 ^ i) := by
  rw [bitL i hi, lN_or, Nat.or_comm]
  have := Nat.two_pow_add_eq_or_of_lt hX 1
  rw [Nat.mul_one] at this
  rw [← this, Nat.add_comm]
end POP2

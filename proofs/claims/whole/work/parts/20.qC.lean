section QRC
variable {W : tm_W} {m : Nat → Nat → Int32} {l : Nat → Nat → Int64} {f g : Nat → Int32}
theorem l40 : ((4 : Int32) ≤ 0) = False := by decide
theorem l41 : ((4 : Int32) ≤ 1) = False := by decide
theorem l42 : ((4 : Int32) ≤ 2) = False := by decide
theorem l43 : ((4 : Int32) ≤ 3) = False := by decide
theorem l44 : ((4 : Int32) ≤ 4) = True := by decide
theorem l30 : ((3 : Int32) ≤ 0) = False := by decide
theorem l31 : ((3 : Int32) ≤ 1) = False := by decide
theorem l32 : ((3 : Int32) ≤ 2) = False := by decide
theorem l33 : ((3 : Int32) ≤ 3) = True := by decide
theorem s01 : (0 : Int32) + 1 = 1 := rfl
theorem s12 : (1 : Int32) + 1 = 2 := rfl
theorem s23 : (2 : Int32) + 1 = 3 := rfl
theorem s34 : (3 : Int32) + 1 = 4 := rfl
theorem ix30 (t : Nat) : nI t * 3 + 0 = nI (3 * t) := ix3 t 0
theorem ix31 (t : Nat) : nI t * 3 + 1 = nI (3 * t + 1) := ix3 t 1
theorem ix32 (t : Nat) : nI t * 3 + 2 = nI (3 * t + 2) := ix3 t 2
theorem ixP (a t j : Nat) : (nI a + 3 * nI t) + nI j = nI (a + (3 * t + j)) := by
  rw [show (3 : Int32) * nI t = nI 3 * nI t from rfl, pk_mul, nI_add, nI_add, Nat.add_assoc]
theorem ixp (t j : Nat) : (60 + 3 * nI t) + nI j = nI (60 + (3 * t + j)) := ixP 60 t j
theorem ixp0 (t : Nat) : (60 + 3 * nI t) + 0 = nI (60 + (3 * t)) := ixP 60 t 0
theorem ixp1 (t : Nat) : (60 + 3 * nI t) + 1 = nI (60 + (3 * t + 1)) := ixP 60 t 1
theorem ixp2 (t : Nat) : (60 + 3 * nI t) + 2 = nI (60 + (3 * t + 2)) := ixP 60 t 2
theorem ixpz (t : Nat) : (60 + 3 * nI t) = nI (60 + (3 * t)) := by
  rw [show (3 : Int32) * nI t = nI 3 * nI t from rfl, pk_mul, show (60 : Int32) = nI 60 from rfl, nI_add]
theorem ixq1 (t : Nat) : nI (72 + 3 * t) + 1 = nI (72 + (3 * t + 1)) := nI_1 _
theorem ixq2 (t : Nat) : nI (72 + 3 * t) + 2 = nI (72 + (3 * t + 2)) := nI_add _ 2
theorem ixqz (t : Nat) : (72 + 3 * nI t) = nI (72 + (3 * t)) := by
  rw [show (3 : Int32) * nI t = nI 3 * nI t from rfl, pk_mul, show (72 : Int32) = nI 72 from rfl, nI_add]
theorem ixF (a t j : Nat) : (nI a + 4 * nI t) + nI j = nI (a + (4 * t + j)) := by
  rw [show (4 : Int32) * nI t = nI 4 * nI t from rfl, pk_mul, nI_add, nI_add, Nat.add_assoc]
theorem ixc (t j : Nat) : (12 + 4 * nI t) + nI j = nI (12 + (4 * t + j)) := ixF 12 t j
theorem ixl (t j : Nat) : (108 + 4 * nI t) + nI j = nI (108 + (4 * t + j)) := ixF 108 t j
theorem ixf (t j : Nat) : 4 * nI t + nI j = nI (4 * t + j) := by
  rw [mul4, nI_add]
theorem ixf1 (t : Nat) : 4 * nI t + 1 = nI (4 * t + 1) := ixf t 1
theorem ixf2 (t : Nat) : 4 * nI t + 2 = nI (4 * t + 2) := ixf t 2
theorem ixf3 (t : Nat) : 4 * nI t + 3 = nI (4 * t + 3) := ixf t 3
/-! owed -/
def lfF (g : Nat → Int32) (p : Int32) (N : Nat) : Int32 := fo (fun b a => if g (304 + (8 * b)) = p then a + g (304 + (8 * b + 2)) else a) N 0 0
theorem lf_SR {P N E : Nat} (S : SR f g P N E) (p : Int32) : lfF f p N = lfF g p N := by
  unfold lfF
  refine fo_cong N 0 0 fun b a _ hb => ?_
  rw [show f (304 + (8 * b)) = g (304 + (8 * b)) from S.row (j := 0) (by omega) (by decide), S.row (by omega) (by decide)]
theorem c225' (C : isC W) {N : Nat} (hN : f 1105 = nI N) (hN2 : N ≤ 100) (p : Int32) : cl 225 [.ref 13, .int p] (tm W (wv m 13 f) l) = some (some (.int (lfF f p N)), tm W (wv m 13 f) l) := c225 C.now hN hN2 p
theorem d145 (M : isM W) {N : Nat} (hN : f 1105 = nI N) (hN2 : N ≤ 100) (p : Int32) : ∀ n i a, i + n = N → dn 145 4 [some (.ref 39), some (.int p), some (.int a), some (.int (nI i))] [] (tm W (m1 m 40 f) l) = some (some (.int (fo (fun b a => if f (304 + (8 * b)) = p then a + f (304 + (8 * b + 2)) else a) n i a)), tm W (m1 m 40 f) l)
  | 0, i, a, h => by
    rw [q_145_4, rR0 M, Option.bind_some, wl5 M, Option.bind_some, hN, if_pos (nI_le (by omega) (by omega))]
    rfl
  | n + 1, i, a, h => by
    rw [q_145_4, rR0 M, Option.bind_some, wl5 M, Option.bind_some, hN, if_neg (nI_ge (by omega) (by omega)), if_pos (rok M _), c79_0 M (by omega), kxi_s, fo]
    by_cases hp : f (304 + (8 * i)) = p
    · rw [if_pos hp, if_pos hp, if_pos (rok M _), c79_2 M (by omega), kxi_s, nI_1]
      exact d145 M hN hN2 p n (i + 1) _ (by omega)
    · rw [if_neg hp, if_neg hp, nI_1, Int32.add_zero]
      exact d145 M hN hN2 p n (i + 1) _ (by omega)
theorem c145 (M : isM W) {N : Nat} (hN : f 1105 = nI N) (hN2 : N ≤ 100) (p : Int32) : cl 145 [.ref 39, .int p] (tm W (m1 m 40 f) l) = some (some (.int (lfF f p N)), tm W (m1 m 40 f) l) := by
  rw [q_145]
  exact d145 M hN hN2 p N 0 0 (by omega)
theorem b_owed {j : Nat} (hj : j < 600) (h : Inv j W m l) (x0 : Int32) : Both j W m l 22 130 [.int x0] [.int x0] := by
  obtain ⟨⟨C, M, -⟩, ⟨P, N, E, S, V, hE, hB⟩, -, -, R, -, hrow⟩ := id h
  have p12 := S.P12
  have n100 := S.N100
  rcases arg x0 P (by omega) with ⟨a0, h0, rfl⟩ | h0
  · refine Both_q h (r := lfF (vw m 13) (nI a0) N) (xs := [bmF (bw (vw m 13)) (nI a0) 0 N, bmF (bw (vw m 13)) (nI a0) 1 N, bmF (bw (vw m 13)) (nI a0) 2 N, bmF (bw (vw m 13)) (nI a0) 3 N]) (by simp) ?_ ?_
    · simp only [q_22, xok C, vok C, sok C.now, xR0 C, xR1 C, xR2 C, xR3 C, xR4 C, xR5 C, xR6 C, xR7 C, xR8 C, xR9 C, sR4 C.now, sR5 C.now, sR6 C.now, sR7 C.now, sR8 C.now, sR9 C.now, sR10 C.now, sI0 C.now, sI1 C.now, sI2 C.now, sI3 C.now, kxi_s, kxr_s, kxv_s, Option.bind_some, if_true, if_false, i10, c189w C, List.nil_append, List.cons_append, List.append_nil, c52y C S.f4 S.P12 h0]
      rw [q_22_12]
      simp only [xok C, vok C, sok C.now, xR0 C, xR1 C, xR2 C, xR3 C, xR4 C, xR5 C, xR6 C, xR7 C, xR8 C, xR9 C, sR4 C.now, sR5 C.now, sR6 C.now, sR7 C.now, sR8 C.now, sR9 C.now, sR10 C.now, sI0 C.now, sI1 C.now, sI2 C.now, sI3 C.now, kxi_s, kxr_s, kxv_s, Option.bind_some, if_true, if_false, i10, c189w C, List.nil_append, List.cons_append, List.append_nil, l40, l41, l42, l43, l44, l30, l31, l32, l33, s01, s12, s23, s34, c223' C S.f5 S.N100, w190a C]
      rw [q_22_12]
      simp only [xok C, vok C, sok C.now, xR0 C, xR1 C, xR2 C, xR3 C, xR4 C, xR5 C, xR6 C, xR7 C, xR8 C, xR9 C, sR4 C.now, sR5 C.now, sR6 C.now, sR7 C.now, sR8 C.now, sR9 C.now, sR10 C.now, sI0 C.now, sI1 C.now, sI2 C.now, sI3 C.now, kxi_s, kxr_s, kxv_s, Option.bind_some, if_true, if_false, i10, c189w C, List.nil_append, List.cons_append, List.append_nil, l40, l41, l42, l43, l44, l30, l31, l32, l33, s01, s12, s23, s34, c223' C S.f5 S.N100, w190b C]
      rw [q_22_12]
      simp only [xok C, vok C, sok C.now, xR0 C, xR1 C, xR2 C, xR3 C, xR4 C, xR5 C, xR6 C, xR7 C, xR8 C, xR9 C, sR4 C.now, sR5 C.now, sR6 C.now, sR7 C.now, sR8 C.now, sR9 C.now, sR10 C.now, sI0 C.now, sI1 C.now, sI2 C.now, sI3 C.now, kxi_s, kxr_s, kxv_s, Option.bind_some, if_true, if_false, i10, c189w C, List.nil_append, List.cons_append, List.append_nil, l40, l41, l42, l43, l44, l30, l31, l32, l33, s01, s12, s23, s34, c223' C S.f5 S.N100, w190c C]
      rw [q_22_12]
      simp only [xok C, vok C, sok C.now, xR0 C, xR1 C, xR2 C, xR3 C, xR4 C, xR5 C, xR6 C, xR7 C, xR8 C, xR9 C, sR4 C.now, sR5 C.now, sR6 C.now, sR7 C.now, sR8 C.now, sR9 C.now, sR10 C.now, sI0 C.now, sI1 C.now, sI2 C.now, sI3 C.now, kxi_s, kxr_s, kxv_s, Option.bind_some, if_true, if_false, i10, c189w C, List.nil_append, List.cons_append, List.append_nil, l40, l41, l42, l43, l44, l30, l31, l32, l33, s01, s12, s23, s34, c223' C S.f5 S.N100, w190d C]
      rw [q_22_12]
      simp only [xok C, vok C, sok C.now, xR0 C, xR1 C, xR2 C, xR3 C, xR4 C, xR5 C, xR6 C, xR7 C, xR8 C, xR9 C, sR4 C.now, sR5 C.now, sR6 C.now, sR7 C.now, sR8 C.now, sR9 C.now, sR10 C.now, sI0 C.now, sI1 C.now, sI2 C.now, sI3 C.now, kxi_s, kxr_s, kxv_s, Option.bind_some, if_true, if_false, i10, c189w C, List.nil_append, List.cons_append, List.append_nil, l40, l41, l42, l43, l44, l30, l31, l32, l33, s01, s12, s23, s34, c225' C S.f5 S.N100]
    · rw [bm_SR S, bm_SR S, bm_SR S, bm_SR S, lf_SR S]
      simp only [q_130, rok M, rR0 M, rR1 M, rR2 M, rR4 M, rR6 M, rR7 M, rR8 M, rR9 M, rR11 M, rR16 M, rR17 M, rR24 M, rR25 M, rR26 M, rR27 M, rR28 M, rR29 M, rR30 M, rR32 M, rR33 M, rR34 M, wl4 M, wl5 M, wl6 M, wl7 M, ruw13 M, ruw12 M, kxi_s, kxr_s, kxv_s, Option.bind_some, if_true, if_false, i10, c71a M, c71b M, c71c M, c71d M, c77y M S.g4 S.P12 h0]
      rw [q_130_14]
      simp only [rok M, rR0 M, rR1 M, rR2 M, rR4 M, rR6 M, rR7 M, rR8 M, rR9 M, rR11 M, rR16 M, rR17 M, rR24 M, rR25 M, rR26 M, rR27 M, rR28 M, rR29 M, rR30 M, rR32 M, rR33 M, rR34 M, wl4 M, wl5 M, wl6 M, wl7 M, ruw13 M, ruw12 M, kxi_s, kxr_s, kxv_s, Option.bind_some, if_true, if_false, i10, c71a M, c71b M, c71c M, c71d M, l40, l41, l42, l43, l44, l30, l31, l32, l33, s01, s12, s23, s34, c126 M S.g5 S.N100]
      rw [q_130_14]
      simp only [rok M, rR0 M, rR1 M, rR2 M, rR4 M, rR6 M, rR7 M, rR8 M, rR9 M, rR11 M, rR16 M, rR17 M, rR24 M, rR25 M, rR26 M, rR27 M, rR28 M, rR29 M, rR30 M, rR32 M, rR33 M, rR34 M, wl4 M, wl5 M, wl6 M, wl7 M, ruw13 M, ruw12 M, kxi_s, kxr_s, kxv_s, Option.bind_some, if_true, if_false, i10, c71a M, c71b M, c71c M, c71d M, l40, l41, l42, l43, l44, l30, l31, l32, l33, s01, s12, s23, s34, c126 M S.g5 S.N100]
      rw [q_130_14]
      simp only [rok M, rR0 M, rR1 M, rR2 M, rR4 M, rR6 M, rR7 M, rR8 M, rR9 M, rR11 M, rR16 M, rR17 M, rR24 M, rR25 M, rR26 M, rR27 M, rR28 M, rR29 M, rR30 M, rR32 M, rR33 M, rR34 M, wl4 M, wl5 M, wl6 M, wl7 M, ruw13 M, ruw12 M, kxi_s, kxr_s, kxv_s, Option.bind_some, if_true, if_false, i10, c71a M, c71b M, c71c M, c71d M, l40, l41, l42, l43, l44, l30, l31, l32, l33, s01, s12, s23, s34, c126 M S.g5 S.N100]
      rw [q_130_14]
      simp only [rok M, rR0 M, rR1 M, rR2 M, rR4 M, rR6 M, rR7 M, rR8 M, rR9 M, rR11 M, rR16 M, rR17 M, rR24 M, rR25 M, rR26 M, rR27 M, rR28 M, rR29 M, rR30 M, rR32 M, rR33 M, rR34 M, wl4 M, wl5 M, wl6 M, wl7 M, ruw13 M, ruw12 M, kxi_s, kxr_s, kxv_s, Option.bind_some, if_true, if_false, i10, c71a M, c71b M, c71c M, c71d M, l40, l41, l42, l43, l44, l30, l31, l32, l33, s01, s12, s23, s34, c126 M S.g5 S.N100]
      rw [q_130_14]
      simp only [rok M, rR0 M, rR1 M, rR2 M, rR4 M, rR6 M, rR7 M, rR8 M, rR9 M, rR11 M, rR16 M, rR17 M, rR24 M, rR25 M, rR26 M, rR27 M, rR28 M, rR29 M, rR30 M, rR32 M, rR33 M, rR34 M, wl4 M, wl5 M, wl6 M, wl7 M, ruw13 M, ruw12 M, kxi_s, kxr_s, kxv_s, Option.bind_some, if_true, if_false, i10, c71a M, c71b M, c71c M, c71d M, l40, l41, l42, l43, l44, l30, l31, l32, l33, s01, s12, s23, s34, c145 M S.g5 S.N100]
      rfl
  · refine Both_n h (r := -1) ?_ ?_
    · simp only [q_22, xok C, vok C, sok C.now, xR0 C, xR1 C, xR2 C, xR3 C, xR4 C, xR5 C, xR6 C, xR7 C, xR8 C, xR9 C, sR4 C.now, sR5 C.now, sR6 C.now, sR7 C.now, sR8 C.now, sR9 C.now, sR10 C.now, sI0 C.now, sI1 C.now, sI2 C.now, sI3 C.now, kxi_s, kxr_s, kxv_s, Option.bind_some, if_true, if_false, i10, c189w C, List.nil_append, List.cons_append, List.append_nil, c52n C S.f4 h0]
    · simp only [q_130, rok M, rR0 M, rR1 M, rR2 M, rR4 M, rR6 M, rR7 M, rR8 M, rR9 M, rR11 M, rR16 M, rR17 M, rR24 M, rR25 M, rR26 M, rR27 M, rR28 M, rR29 M, rR30 M, rR32 M, rR33 M, rR34 M, wl4 M, wl5 M, wl6 M, wl7 M, ruw13 M, ruw12 M, kxi_s, kxr_s, kxv_s, Option.bind_some, if_true, if_false, i10, c71a M, c71b M, c71c M, c71d M, c77n M S.g4 S.P12 h0]
/-! cards -/
theorem b_cards {j : Nat} (hj : j < 600) (h : Inv j W m l) (x0 : Int32) : Both j W m l 42 161 [.int x0] [.int x0] := by
  obtain ⟨⟨C, M, -⟩, ⟨P, N, E, S, V, hE, hB⟩, -, -, R, -, hrow⟩ := id h
  have p12 := S.P12
  have n100 := S.N100
  rcases arg x0 P (by omega) with ⟨a0, h0, rfl⟩ | h0
  · refine Both_q h (r := vw m 13 (72 + 3 * a0)) (xs := [vw m 13 (72 + (3 * a0 + 1)), vw m 13 (72 + (3 * a0 + 2))]) (by simp) ?_ ?_
    · simp only [q_42, xok C, vok C, sok C.now, xR0 C, xR1 C, xR2 C, xR3 C, xR4 C, xR5 C, xR6 C, xR7 C, xR8 C, xR9 C, sR4 C.now, sR5 C.now, sR6 C.now, sR7 C.now, sR8 C.now, sR9 C.now, sR10 C.now, sI0 C.now, sI1 C.now, sI2 C.now, sI3 C.now, kxi_s, kxr_s, kxv_s, Option.bind_some, if_true, if_false, i10, c189w C, List.nil_append, List.cons_append, List.append_nil, c52y C S.f4 S.P12 h0, ix30, ix31, ix32, w190a C, w190b C, sl4 C.now (show 3 * a0 < 36 by omega), sl4 C.now (show 3 * a0 + 1 < 36 by omega), sl4 C.now (show 3 * a0 + 2 < 36 by omega)]
    · rw [S.mid (by omega) (by omega), S.mid (by omega) (by omega), S.mid (by omega) (by omega)]
      simp only [q_161, rok M, rR0 M, rR1 M, rR2 M, rR4 M, rR6 M, rR7 M, rR8 M, rR9 M, rR11 M, rR16 M, rR17 M, rR24 M, rR25 M, rR26 M, rR27 M, rR28 M, rR29 M, rR30 M, rR32 M, rR33 M, rR34 M, wl4 M, wl5 M, wl6 M, wl7 M, ruw13 M, ruw12 M, kxi_s, kxr_s, kxv_s, Option.bind_some, if_true, if_false, i10, c71a M, c71b M, c71c M, c71d M, c77y M S.g4 S.P12 h0, ixq1, ixq2, ixqz, wl M (show 72 + 3 * a0 < 1108 by omega), wl M (show 72 + (3 * a0 + 1) < 1108 by omega), wl M (show 72 + (3 * a0 + 2) < 1108 by omega)]
      rfl
  · refine Both_n h (r := -1) ?_ ?_
    · simp only [q_42, xok C, vok C, sok C.now, xR0 C, xR1 C, xR2 C, xR3 C, xR4 C, xR5 C, xR6 C, xR7 C, xR8 C, xR9 C, sR4 C.now, sR5 C.now, sR6 C.now, sR7 C.now, sR8 C.now, sR9 C.now, sR10 C.now, sI0 C.now, sI1 C.now, sI2 C.now, sI3 C.now, kxi_s, kxr_s, kxv_s, Option.bind_some, if_true, if_false, i10, c189w C, List.nil_append, List.cons_append, List.append_nil, c52n C S.f4 h0]
    · simp only [q_161, rok M, rR0 M, rR1 M, rR2 M, rR4 M, rR6 M, rR7 M, rR8 M, rR9 M, rR11 M, rR16 M, rR17 M, rR24 M, rR25 M, rR26 M, rR27 M, rR28 M, rR29 M, rR30 M, rR32 M, rR33 M, rR34 M, wl4 M, wl5 M, wl6 M, wl7 M, ruw13 M, ruw12 M, kxi_s, kxr_s, kxv_s, Option.bind_some, if_true, if_false, i10, c71a M, c71b M, c71c M, c71d M, c77n M S.g4 S.P12 h0]
/-! points -/
theorem c158 (M : isM W) {t : Nat} (ht : t < 4) : cl 158 [.ref 39, .int (nI t)] (tm W (m1 m 40 f) l) = some (some (.int (f (60 + (3 * t)) + 3 * f (60 + (3 * t + 1)))), tm W (m1 m 40 f) l) := by
  rw [q_158, rR0 M, Option.bind_some, ixpz, wl M (by omega), Option.bind_some, Option.bind_some, ← ixpz, ixp1, wl M (by omega), Option.bind_some]
theorem b_points {j : Nat} (hj : j < 600) (h : Inv j W m l) (x0 : Int32) : Both j W m l 40 159 [.int x0] [.int x0] := by
  obtain ⟨⟨C, M, -⟩, ⟨P, N, E, S, V, hE, hB⟩, -, -, R, -, hrow⟩ := id h
  have p12 := S.P12
  have n100 := S.N100
  rcases arg x0 4 (by decide) with ⟨a0, h0, rfl⟩ | h0
  · refine Both_q h (r := vw m 13 (60 + 3 * a0) + 3 * vw m 13 (60 + (3 * a0 + 1))) (xs := [vw m 13 (60 + 3 * a0), vw m 13 (60 + (3 * a0 + 1)), vw m 13 (60 + (3 * a0 + 2))]) (by simp) ?_ ?_
    · simp only [q_40, xok C, vok C, sok C.now, xR0 C, xR1 C, xR2 C, xR3 C, xR4 C, xR5 C, xR6 C, xR7 C, xR8 C, xR9 C, sR4 C.now, sR5 C.now, sR6 C.now, sR7 C.now, sR8 C.now, sR9 C.now, sR10 C.now, sI0 C.now, sI1 C.now, sI2 C.now, sI3 C.now, kxi_s, kxr_s, kxv_s, Option.bind_some, if_true, if_false, i10, c189w C, List.nil_append, List.cons_append, List.append_nil, c50y h0]
      rw [q_40_11]
      simp only [xok C, vok C, sok C.now, xR0 C, xR1 C, xR2 C, xR3 C, xR4 C, xR5 C, xR6 C, xR7 C, xR8 C, xR9 C, sR4 C.now, sR5 C.now, sR6 C.now, sR7 C.now, sR8 C.now, sR9 C.now, sR10 C.now, sI0 C.now, sI1 C.now, sI2 C.now, sI3 C.now, kxi_s, kxr_s, kxv_s, Option.bind_some, if_true, if_false, i10, c189w C, List.nil_append, List.cons_append, List.append_nil, l40, l41, l42, l43, l44, l30, l31, l32, l33, s01, s12, s23, s34, ix30, sl5 C.now (show 3 * a0 < 12 by omega), w190a C]
      rw [q_40_11]
      simp only [xok C, vok C, sok C.now, xR0 C, xR1 C, xR2 C, xR3 C, xR4 C, xR5 C, xR6 C, xR7 C, xR8 C, xR9 C, sR4 C.now, sR5 C.now, sR6 C.now, sR7 C.now, sR8 C.now, sR9 C.now, sR10 C.now, sI0 C.now, sI1 C.now, sI2 C.now, sI3 C.now, kxi_s, kxr_s, kxv_s, Option.bind_some, if_true, if_false, i10, c189w C, List.nil_append, List.cons_append, List.append_nil, l40, l41, l42, l43, l44, l30, l31, l32, l33, s01, s12, s23, s34, ix31, sl5 C.now (show 3 * a0 + 1 < 12 by omega), w190b C]
      rw [q_40_11]
      simp only [xok C, vok C, sok C.now, xR0 C, xR1 C, xR2 C, xR3 C, xR4 C, xR5 C, xR6 C, xR7 C, xR8 C, xR9 C, sR4 C.now, sR5 C.now, sR6 C.now, sR7 C.now, sR8 C.now, sR9 C.now, sR10 C.now, sI0 C.now, sI1 C.now, sI2 C.now, sI3 C.now, kxi_s, kxr_s, kxv_s, Option.bind_some, if_true, if_false, i10, c189w C, List.nil_append, List.cons_append, List.append_nil, l40, l41, l42, l43, l44, l30, l31, l32, l33, s01, s12, s23, s34, ix32, sl5 C.now (show 3 * a0 + 2 < 12 by omega), w190c C]
      rw [q_40_11]
      simp only [xok C, vok C, sok C.now, xR0 C, xR1 C, xR2 C, xR3 C, xR4 C, xR5 C, xR6 C, xR7 C, xR8 C, xR9 C, sR4 C.now, sR5 C.now, sR6 C.now, sR7 C.now, sR8 C.now, sR9 C.now, sR10 C.now, sI0 C.now, sI1 C.now, sI2 C.now, sI3 C.now, kxi_s, kxr_s, kxv_s, Option.bind_some, if_true, if_false, i10, c189w C, List.nil_append, List.cons_append, List.append_nil, l40, l41, l42, l43, l44, l30, l31, l32, l33, s01, s12, s23, s34, c215 C.now h0]
    · rw [S.mid (by omega) (by omega), S.mid (by omega) (by omega), S.mid (by omega) (by omega)]
      simp only [q_159, rok M, rR0 M, rR1 M, rR2 M, rR4 M, rR6 M, rR7 M, rR8 M, rR9 M, rR11 M, rR16 M, rR17 M, rR24 M, rR25 M, rR26 M, rR27 M, rR28 M, rR29 M, rR30 M, rR32 M, rR33 M, rR34 M, wl4 M, wl5 M, wl6 M, wl7 M, ruw13 M, ruw12 M, kxi_s, kxr_s, kxv_s, Option.bind_some, if_true, if_false, i10, c71a M, c71b M, c71c M, c71d M, c76y h0]
      rw [q_159_13]
      simp only [rok M, rR0 M, rR1 M, rR2 M, rR4 M, rR6 M, rR7 M, rR8 M, rR9 M, rR11 M, rR16 M, rR17 M, rR24 M, rR25 M, rR26 M, rR27 M, rR28 M, rR29 M, rR30 M, rR32 M, rR33 M, rR34 M, wl4 M, wl5 M, wl6 M, wl7 M, ruw13 M, ruw12 M, kxi_s, kxr_s, kxv_s, Option.bind_some, if_true, if_false, i10, c71a M, c71b M, c71c M, c71d M, l40, l41, l42, l43, l44, l30, l31, l32, l33, s01, s12, s23, s34, ixp0, wl M (show 60 + 3 * a0 < 1108 by omega)]
      rw [q_159_13]
      simp only [rok M, rR0 M, rR1 M, rR2 M, rR4 M, rR6 M, rR7 M, rR8 M, rR9 M, rR11 M, rR16 M, rR17 M, rR24 M, rR25 M, rR26 M, rR27 M, rR28 M, rR29 M, rR30 M, rR32 M, rR33 M, rR34 M, wl4 M, wl5 M, wl6 M, wl7 M, ruw13 M, ruw12 M, kxi_s, kxr_s, kxv_s, Option.bind_some, if_true, if_false, i10, c71a M, c71b M, c71c M, c71d M, l40, l41, l42, l43, l44, l30, l31, l32, l33, s01, s12, s23, s34, ixp1, wl M (show 60 + (3 * a0 + 1) < 1108 by omega)]
      rw [q_159_13]
      simp only [rok M, rR0 M, rR1 M, rR2 M, rR4 M, rR6 M, rR7 M, rR8 M, rR9 M, rR11 M, rR16 M, rR17 M, rR24 M, rR25 M, rR26 M, rR27 M, rR28 M, rR29 M, rR30 M, rR32 M, rR33 M, rR34 M, wl4 M, wl5 M, wl6 M, wl7 M, ruw13 M, ruw12 M, kxi_s, kxr_s, kxv_s, Option.bind_some, if_true, if_false, i10, c71a M, c71b M, c71c M, c71d M, l40, l41, l42, l43, l44, l30, l31, l32, l33, s01, s12, s23, s34, ixp2, wl M (show 60 + (3 * a0 + 2) < 1108 by omega)]
      rw [q_159_13]
      simp only [rok M, rR0 M, rR1 M, rR2 M, rR4 M, rR6 M, rR7 M, rR8 M, rR9 M, rR11 M, rR16 M, rR17 M, rR24 M, rR25 M, rR26 M, rR27 M, rR28 M, rR29 M, rR30 M, rR32 M, rR33 M, rR34 M, wl4 M, wl5 M, wl6 M, wl7 M, ruw13 M, ruw12 M, kxi_s, kxr_s, kxv_s, Option.bind_some, if_true, if_false, i10, c71a M, c71b M, c71c M, c71d M, l40, l41, l42, l43, l44, l30, l31, l32, l33, s01, s12, s23, s34, c158 M h0]
      rfl
  · refine Both_n h (r := -1) ?_ ?_
    · simp only [q_40, xok C, vok C, sok C.now, xR0 C, xR1 C, xR2 C, xR3 C, xR4 C, xR5 C, xR6 C, xR7 C, xR8 C, xR9 C, sR4 C.now, sR5 C.now, sR6 C.now, sR7 C.now, sR8 C.now, sR9 C.now, sR10 C.now, sI0 C.now, sI1 C.now, sI2 C.now, sI3 C.now, kxi_s, kxr_s, kxv_s, Option.bind_some, if_true, if_false, i10, c189w C, List.nil_append, List.cons_append, List.append_nil, c50n h0]
    · simp only [q_159, rok M, rR0 M, rR1 M, rR2 M, rR4 M, rR6 M, rR7 M, rR8 M, rR9 M, rR11 M, rR16 M, rR17 M, rR24 M, rR25 M, rR26 M, rR27 M, rR28 M, rR29 M, rR30 M, rR32 M, rR33 M, rR34 M, wl4 M, wl5 M, wl6 M, wl7 M, ruw13 M, ruw12 M, kxi_s, kxr_s, kxv_s, Option.bind_some, if_true, if_false, i10, c71a M, c71b M, c71c M, c71d M, c76n h0]
/-! ban -/
theorem lt8 (x : Int32) : (∃ k, k < 8 ∧ x = nI k) ∨ nin x 8 := arg x 8 (by decide)
theorem b_ban {j : Nat} (hj : j < 600) (h : Inv j W m l) (x0 x1 : Int32) : Both j W m l 33 151 [.int x0, .int x1] [.int x0, .int x1] := by
  obtain ⟨⟨C, M, -⟩, ⟨P, N, E, S, V, hE, hB⟩, -, -, R, -, hrow⟩ := id h
  have n100 := S.N100
  rcases arg x0 N (by omega) with ⟨a0, h0, rfl⟩ | h0
  · have c53 := c53y (m := m) (l := l) C S.f5 S.N100 h0
    rcases lt8 x1 with ⟨k, hk, rfl⟩ | hk
    · refine Both_n h (r := vw m 13 (304 + (8 * a0 + k))) ?_ ?_
      · have e1 : (nI k < 0) = False := eq_false (nI_pos (by omega))
        have e2 : (nI k < 8) = True := eq_true (nI_lt (b := 8) hk (by decide))
        simp only [q_33, xok C, vok C, sok C.now, xR0 C, xR1 C, xR2 C, xR3 C, xR4 C, xR5 C, xR6 C, xR7 C, xR8 C, xR9 C, sR4 C.now, sR5 C.now, sR6 C.now, sR7 C.now, sR8 C.now, sR9 C.now, sR10 C.now, sI0 C.now, sI1 C.now, sI2 C.now, sI3 C.now, kxi_s, kxr_s, kxv_s, Option.bind_some, if_true, if_false, i10, c189w C, List.nil_append, List.cons_append, List.append_nil, c53, e1, e2, c216 C.now (show a0 < 100 by omega) hk]
      · rw [S.row h0 hk]
        have e1 := in_y (n := 8) hk (by decide)
        rw [z64, show (nI 8 - 1).toInt64 = 7 by decide] at e1
        simp only [q_151, rok M, rR0 M, rR1 M, rR2 M, rR4 M, rR6 M, rR7 M, rR8 M, rR9 M, rR11 M, rR16 M, rR17 M, rR24 M, rR25 M, rR26 M, rR27 M, rR28 M, rR29 M, rR30 M, rR32 M, rR33 M, rR34 M, wl4 M, wl5 M, wl6 M, wl7 M, ruw13 M, ruw12 M, kxi_s, kxr_s, kxv_s, Option.bind_some, if_true, if_false, i10, c71a M, c71b M, c71c M, c71d M, c78y M S.g5 S.N100 h0, e1, c79 M (show a0 < 100 by omega) hk]
    · refine Both_n h (r := -1) ?_ ?_
      · simp only [q_33, xok C, vok C, sok C.now, xR0 C, xR1 C, xR2 C, xR3 C, xR4 C, xR5 C, xR6 C, xR7 C, xR8 C, xR9 C, sR4 C.now, sR5 C.now, sR6 C.now, sR7 C.now, sR8 C.now, sR9 C.now, sR10 C.now, sI0 C.now, sI1 C.now, sI2 C.now, sI3 C.now, kxi_s, kxr_s, kxv_s, Option.bind_some, if_true, if_false, i10, c189w C, List.nil_append, List.cons_append, List.append_nil, c53]
        rcases hk with hk | hk
        · rw [if_pos hk]
        · rw [if_neg (show ¬ x1 < 8 from Int32.not_lt.mpr hk)]
          split <;> rfl
      · have e1 := in_n (n := 8) hk (by decide)
        rw [z64, show (nI 8 - 1).toInt64 = 7 by decide] at e1
        simp only [q_151, rok M, rR0 M, rR1 M, rR2 M, rR4 M, rR6 M, rR7 M, rR8 M, rR9 M, rR11 M, rR16 M, rR17 M, rR24 M, rR25 M, rR26 M, rR27 M, rR28 M, rR29 M, rR30 M, rR32 M, rR33 M, rR34 M, wl4 M, wl5 M, wl6 M, wl7 M, ruw13 M, ruw12 M, kxi_s, kxr_s, kxv_s, Option.bind_some, if_true, if_false, i10, c71a M, c71b M, c71c M, c71d M, c78y M S.g5 S.N100 h0, e1]
  · refine Both_n h (r := -1) ?_ ?_
    · simp only [q_33, xok C, vok C, sok C.now, xR0 C, xR1 C, xR2 C, xR3 C, xR4 C, xR5 C, xR6 C, xR7 C, xR8 C, xR9 C, sR4 C.now, sR5 C.now, sR6 C.now, sR7 C.now, sR8 C.now, sR9 C.now, sR10 C.now, sI0 C.now, sI1 C.now, sI2 C.now, sI3 C.now, kxi_s, kxr_s, kxv_s, Option.bind_some, if_true, if_false, i10, c189w C, List.nil_append, List.cons_append, List.append_nil, c53n C S.f5 h0]
    · simp only [q_151, rok M, rR0 M, rR1 M, rR2 M, rR4 M, rR6 M, rR7 M, rR8 M, rR9 M, rR11 M, rR16 M, rR17 M, rR24 M, rR25 M, rR26 M, rR27 M, rR28 M, rR29 M, rR30 M, rR32 M, rR33 M, rR34 M, wl4 M, wl5 M, wl6 M, wl7 M, ruw13 M, ruw12 M, kxi_s, kxr_s, kxv_s, Option.bind_some, if_true, if_false, i10, c71a M, c71b M, c71c M, c71d M, c78n M S.g5 S.N100 h0]
end QRC

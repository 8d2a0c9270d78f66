section QRD
variable {W : tm_W} {m : Nat → Nat → Int32} {l : Nat → Nat → Int64} {f g : Nat → Int32}
/-! squad -/
def mbF (f : Nat → Int32) (t : Int32) (P : Nat) : Int32 := fo (fun p a => if f p = t then a ||| (1 <<< (nI p &&& 31)) else a) P 0 0
theorem mb_SR {P N E : Nat} (S : SR f g P N E) (t : Int32) : mbF f t P = mbF g t P := by
  unfold mbF
  refine fo_cong P 0 0 fun b a _ hb => ?_
  rw [S.tm (by omega)]
theorem mb_lt (f : Nat → Int32) (t : Int32) {P : Nat} (hP : P ≤ 12) : ∃ k, k < 4096 ∧ mbF f t P = nI k := mask0 (fun p => f p = t) hP
theorem c207' (C : isC W) {P : Nat} (hP : f 1104 = nI P) (hP2 : P ≤ 12) (t : Int32) : cl 207 [.ref 13, .int t] (tm W (wv m 13 f) l) = some (some (.int (mbF f t P)), tm W (wv m 13 f) l) := c207 C.now hP hP2 t
theorem or0 (x : Int32) : x ||| 0 = x := by
  apply Int32.toBitVec_inj.mp
  simp
theorem d112 (M : isM W) {P : Nat} (hP : f 1104 = nI P) (hP2 : P ≤ 12) (t : Int32) : ∀ n i a, i + n = P → dn 112 12 [some (.ref 39), some (.int t), some (.int a), some (.int (nI i))] [] (tm W (m1 m 40 f) l) = dn 112 12 [some (.ref 39), some (.int t), some (.int (fo (fun p a => if f p = t then a ||| (1 <<< (nI p &&& 31)) else a) n i a)), some (.int (nI P))] [] (tm W (m1 m 40 f) l)
  | 0, i, a, h => by
    rw [show i = P by omega]
    rfl
  | n + 1, i, a, h => by
    rw [q_112_12, rR0 M, Option.bind_some, wl4 M, Option.bind_some, hP, if_neg (nI_ge (by omega) (by omega)), Option.bind_some, zadd, wl M (by omega), Option.bind_some, fo]
    by_cases ht : f i = t
    · rw [if_pos ht, if_pos ht, nI_1]
      exact d112 M hP hP2 t n (i + 1) _ (by omega)
    · rw [if_neg ht, if_neg ht, nI_1, or0]
      exact d112 M hP hP2 t n (i + 1) _ (by omega)
theorem b_squad {j : Nat} (hj : j < 600) (h : Inv j W m l) (x0 : Int32) : Both j W m l 8 112 [.int x0] [.int x0] := by
  obtain ⟨⟨C, M, -⟩, ⟨P, N, E, S, V, hE, hB⟩, -, -, R, -, hrow⟩ := id h
  have p12 := S.P12
  have n100 := S.N100
  rcases arg x0 4 (by decide) with ⟨a0, h0, rfl⟩ | h0
  · obtain ⟨k, hk, ek⟩ := mb_lt (m 40) (nI a0) p12
    refine Both_q h (r := mbF (vw m 13) (nI a0) P) (xs := [swr (mbF (vw m 13) (nI a0) P)]) (by simp) ?_ ?_
    · simp only [q_8, xok C, vok C, sok C.now, xR0 C, xR1 C, xR2 C, xR3 C, xR4 C, xR5 C, xR6 C, xR7 C, xR8 C, xR9 C, sR4 C.now, sR5 C.now, sR6 C.now, sR7 C.now, sR8 C.now, sR9 C.now, sR10 C.now, sI0 C.now, sI1 C.now, sI2 C.now, sI3 C.now, kxi_s, kxr_s, kxv_s, Option.bind_some, if_true, if_false, i10, c189w C, List.nil_append, List.cons_append, List.append_nil, c50y h0, c207' C S.f4 S.P12, c257, w190a C]
    · rw [mb_SR S]
      simp only [q_112, rok M, rR0 M, rR1 M, rR2 M, rR4 M, rR6 M, rR7 M, rR8 M, rR9 M, rR11 M, rR16 M, rR17 M, rR24 M, rR25 M, rR26 M, rR27 M, rR28 M, rR29 M, rR30 M, rR32 M, rR33 M, rR34 M, wl4 M, wl5 M, wl6 M, wl7 M, ruw13 M, ruw12 M, kxi_s, kxr_s, kxv_s, Option.bind_some, if_true, if_false, i10, c71a M, c71b M, c71c M, c71d M, c76y h0]
      rw [show (0 : Int32) = nI 0 from rfl, d112 M S.g4 p12 (nI a0) P 0 _ (by omega), show fo (fun p a => if m 40 p = nI a0 then a ||| (1 <<< (nI p &&& 31)) else a) P 0 (nI 0) = mbF (m 40) (nI a0) P from rfl, ek]
      rw [q_112_12]
      simp only [rok M, rR0 M, rR1 M, rR2 M, rR4 M, rR6 M, rR7 M, rR8 M, rR9 M, rR11 M, rR16 M, rR17 M, rR24 M, rR25 M, rR26 M, rR27 M, rR28 M, rR29 M, rR30 M, rR32 M, rR33 M, rR34 M, wl4 M, wl5 M, wl6 M, wl7 M, ruw13 M, ruw12 M, kxi_s, kxr_s, kxv_s, Option.bind_some, if_true, if_false, i10, c71a M, c71b M, c71c M, c71d M, S.g4, eq_true (Int32.le_refl (nI P)), c72 hk]
      rfl
  · refine Both_n h (r := -1) ?_ ?_
    · simp only [q_8, xok C, vok C, sok C.now, xR0 C, xR1 C, xR2 C, xR3 C, xR4 C, xR5 C, xR6 C, xR7 C, xR8 C, xR9 C, sR4 C.now, sR5 C.now, sR6 C.now, sR7 C.now, sR8 C.now, sR9 C.now, sR10 C.now, sI0 C.now, sI1 C.now, sI2 C.now, sI3 C.now, kxi_s, kxr_s, kxv_s, Option.bind_some, if_true, if_false, i10, c189w C, List.nil_append, List.cons_append, List.append_nil, c50n h0]
    · simp only [q_112, rok M, rR0 M, rR1 M, rR2 M, rR4 M, rR6 M, rR7 M, rR8 M, rR9 M, rR11 M, rR16 M, rR17 M, rR24 M, rR25 M, rR26 M, rR27 M, rR28 M, rR29 M, rR30 M, rR32 M, rR33 M, rR34 M, wl4 M, wl5 M, wl6 M, wl7 M, ruw13 M, ruw12 M, kxi_s, kxr_s, kxv_s, Option.bind_some, if_true, if_false, i10, c71a M, c71b M, c71c M, c71d M, c76n h0]
/-! team -/
def tmS (B : Nat → Int32) (p : Int32) (b : Nat) (s : Int32 × Int32) : Int32 × Int32 := if B (304 + (8 * b)) = p then (s.1 + 1, if B (304 + (8 * b + 2)) ≤ 0 then s.2 else s.2 + 1) else s
theorem d7 (C : isC W) {N : Nat} (hN : f 1105 = nI N) (hN2 : N ≤ 100) (p : Int32) : ∀ n i (s : Int32 × Int32), i + n = N → dn 7 12 [some (.ref 0), some (.int p), some (.int s.1), some (.int s.2), some (.int (nI i))] [] (tm W (wv m 13 f) l) = dn 7 12 [some (.ref 0), some (.int p), some (.int (fo (tmS f p) n i s).1), some (.int (fo (tmS f p) n i s).2), some (.int (nI N))] [] (tm W (wv m 13 f) l)
  | 0, i, s, h => by
    rw [show i = N by omega]
    rfl
  | n + 1, i, s, h => by
    have ih := fun s => d7 C hN hN2 p n (i + 1) s (by omega)
    rw [q_7_12]
    simp only [xok C, vok C, sok C.now, xR0 C, xR1 C, xR2 C, xR3 C, xR4 C, xR5 C, xR6 C, xR7 C, xR8 C, xR9 C, sR4 C.now, sR5 C.now, sR6 C.now, sR7 C.now, sR8 C.now, sR9 C.now, sR10 C.now, sI0 C.now, sI1 C.now, sI2 C.now, sI3 C.now, kxi_s, kxr_s, kxv_s, Option.bind_some, if_true, if_false, i10, c189w C, List.nil_append, List.cons_append, List.append_nil, hN, eq_false (nI_ge (show i < N by omega) (show N < 2 ^ 31 by omega)), c216_0 C.now (show i < 100 by omega), c218 C.now (show i < 100 by omega)]
    rw [fo]
    by_cases c1 : f (304 + (8 * i)) = p
    · by_cases c2 : f (304 + (8 * i + 2)) ≤ 0
      · have e : (tmS f p) i s = (s.1 + 1, s.2) := by simp [tmS, c1, c2]
        rw [e]
        simp only [c1, c2, if_true, if_false, i10, nI_1, Int32.add_zero, or0, Bool.false_eq_true, Bool.true_eq_false]
        exact ih (s.1 + 1, s.2)
      · have e : (tmS f p) i s = (s.1 + 1, s.2 + 1) := by simp [tmS, c1, c2]
        rw [e]
        simp only [c1, c2, if_true, if_false, i10, nI_1, Int32.add_zero, or0, Bool.false_eq_true, Bool.true_eq_false]
        exact ih (s.1 + 1, s.2 + 1)
    · have e : (tmS f p) i s = s := by simp [tmS, c1]
      rw [e]
      simp only [c1, if_true, if_false, i10, nI_1, Int32.add_zero, or0, Bool.false_eq_true, Bool.true_eq_false]
      exact ih s
theorem d111 (M : isM W) {N : Nat} (hN : f 1105 = nI N) (hN2 : N ≤ 100) (p : Int32) : ∀ n i (s : Int32 × Int32), i + n = N → dn 111 15 [some (.ref 39), some (.int p), some (.int s.2), some (.int s.1), some (.int (nI i))] [] (tm W (m1 m 40 f) l) = dn 111 15 [some (.ref 39), some (.int p), some (.int (fo (tmS f p) n i s).2), some (.int (fo (tmS f p) n i s).1), some (.int (nI N))] [] (tm W (m1 m 40 f) l)
  | 0, i, s, h => by
    rw [show i = N by omega]
    rfl
  | n + 1, i, s, h => by
    have ih := fun s => d111 M hN hN2 p n (i + 1) s (by omega)
    rw [q_111_15]
    simp only [rok M, rR0 M, rR1 M, rR2 M, rR4 M, rR6 M, rR7 M, rR8 M, rR9 M, rR11 M, rR16 M, rR17 M, rR24 M, rR25 M, rR26 M, rR27 M, rR28 M, rR29 M, rR30 M, rR32 M, rR33 M, rR34 M, wl4 M, wl5 M, wl6 M, wl7 M, ruw13 M, ruw12 M, kxi_s, kxr_s, kxv_s, Option.bind_some, if_true, if_false, i10, c71a M, c71b M, c71c M, c71d M, hN, eq_false (nI_ge (show i < N by omega) (show N < 2 ^ 31 by omega)), c79_0 M (show i < 100 by omega), c87 M (show i < 100 by omega)]
    rw [fo]
    by_cases c1 : f (304 + (8 * i)) = p
    · by_cases c2 : f (304 + (8 * i + 2)) ≤ 0
      · have e : (tmS f p) i s = (s.1 + 1, s.2) := by simp [tmS, c1, c2]
        rw [e]
        simp only [c1, c2, if_true, if_false, i10, nI_1, Int32.add_zero, or0, Bool.false_eq_true, Bool.true_eq_false]
        exact ih (s.1 + 1, s.2)
      · have e : (tmS f p) i s = (s.1 + 1, s.2 + 1) := by simp [tmS, c1, c2]
        rw [e]
        simp only [c1, c2, if_true, if_false, i10, nI_1, Int32.add_zero, or0, Bool.false_eq_true, Bool.true_eq_false]
        exact ih (s.1 + 1, s.2 + 1)
    · have e : (tmS f p) i s = s := by simp [tmS, c1]
      rw [e]
      simp only [c1, if_true, if_false, i10, nI_1, Int32.add_zero, or0, Bool.false_eq_true, Bool.true_eq_false]
      exact ih s
theorem tm_SR {P N E : Nat} (S : SR f g P N E) (p : Int32) (s : Int32 × Int32) : fo (tmS f p) N 0 s = fo (tmS g p) N 0 s := by
  refine fo_cong N 0 _ fun b a _ hb => ?_
  unfold tmS
  rw [show f (304 + (8 * b)) = g (304 + (8 * b)) from S.row (j := 0) (by omega) (by decide), S.row (by omega) (by decide)]
theorem b_team {j : Nat} (hj : j < 600) (h : Inv j W m l) (x0 : Int32) : Both j W m l 7 111 [.int x0] [.int x0] := by
  obtain ⟨⟨C, M, -⟩, ⟨P, N, E, S, V, hE, hB⟩, -, -, R, -, hrow⟩ := id h
  have p12 := S.P12
  have n100 := S.N100
  rcases arg x0 P (by omega) with ⟨a0, h0, rfl⟩ | h0
  · refine Both_q h (r := vw m 13 a0) (xs := [(fo (tmS (vw m 13) (nI a0)) N 0 (0, 0)).2, (fo (tmS (vw m 13) (nI a0)) N 0 (0, 0)).1]) (by simp) ?_ ?_
    · simp only [q_7, xok C, vok C, sok C.now, xR0 C, xR1 C, xR2 C, xR3 C, xR4 C, xR5 C, xR6 C, xR7 C, xR8 C, xR9 C, sR4 C.now, sR5 C.now, sR6 C.now, sR7 C.now, sR8 C.now, sR9 C.now, sR10 C.now, sI0 C.now, sI1 C.now, sI2 C.now, sI3 C.now, kxi_s, kxr_s, kxv_s, Option.bind_some, if_true, if_false, i10, c189w C, List.nil_append, List.cons_append, List.append_nil, c52y C S.f4 S.P12 h0]
      rw [show dn 7 12 [some (.ref 0), some (.int (nI a0)), some (.int 0), some (.int 0), some (.int 0)] [] (tm W (wv m 13 (vw m 13)) l) = _ from d7 C S.f5 n100 (nI a0) N 0 (0, 0) (by omega)]
      rw [q_7_12]
      simp only [xok C, vok C, sok C.now, xR0 C, xR1 C, xR2 C, xR3 C, xR4 C, xR5 C, xR6 C, xR7 C, xR8 C, xR9 C, sR4 C.now, sR5 C.now, sR6 C.now, sR7 C.now, sR8 C.now, sR9 C.now, sR10 C.now, sI0 C.now, sI1 C.now, sI2 C.now, sI3 C.now, kxi_s, kxr_s, kxv_s, Option.bind_some, if_true, if_false, i10, c189w C, List.nil_append, List.cons_append, List.append_nil, S.f5, eq_true (Int32.le_refl (nI N)), w190a C, w190b C, sl1 C.now (show a0 < 12 by omega)]
    · rw [tm_SR S, S.tm h0]
      simp only [q_111, rok M, rR0 M, rR1 M, rR2 M, rR4 M, rR6 M, rR7 M, rR8 M, rR9 M, rR11 M, rR16 M, rR17 M, rR24 M, rR25 M, rR26 M, rR27 M, rR28 M, rR29 M, rR30 M, rR32 M, rR33 M, rR34 M, wl4 M, wl5 M, wl6 M, wl7 M, ruw13 M, ruw12 M, kxi_s, kxr_s, kxv_s, Option.bind_some, if_true, if_false, i10, c71a M, c71b M, c71c M, c71d M, c77y M S.g4 S.P12 h0]
      rw [show dn 111 15 [some (.ref 39), some (.int (nI a0)), some (.int 0), some (.int 0), some (.int 0)] [] _ = _ from d111 M S.g5 n100 (nI a0) N 0 (0, 0) (by omega)]
      rw [q_111_15]
      simp only [rok M, rR0 M, rR1 M, rR2 M, rR4 M, rR6 M, rR7 M, rR8 M, rR9 M, rR11 M, rR16 M, rR17 M, rR24 M, rR25 M, rR26 M, rR27 M, rR28 M, rR29 M, rR30 M, rR32 M, rR33 M, rR34 M, wl4 M, wl5 M, wl6 M, wl7 M, ruw13 M, ruw12 M, kxi_s, kxr_s, kxv_s, Option.bind_some, if_true, if_false, i10, c71a M, c71b M, c71c M, c71d M, S.g5, eq_true (Int32.le_refl (nI N)), zadd, wl M (show a0 < 1108 by omega)]
      rfl
  · refine Both_n h (r := -1) ?_ ?_
    · simp only [q_7, xok C, vok C, sok C.now, xR0 C, xR1 C, xR2 C, xR3 C, xR4 C, xR5 C, xR6 C, xR7 C, xR8 C, xR9 C, sR4 C.now, sR5 C.now, sR6 C.now, sR7 C.now, sR8 C.now, sR9 C.now, sR10 C.now, sI0 C.now, sI1 C.now, sI2 C.now, sI3 C.now, kxi_s, kxr_s, kxv_s, Option.bind_some, if_true, if_false, i10, c189w C, List.nil_append, List.cons_append, List.append_nil, c52n C S.f4 h0]
    · simp only [q_111, rok M, rR0 M, rR1 M, rR2 M, rR4 M, rR6 M, rR7 M, rR8 M, rR9 M, rR11 M, rR16 M, rR17 M, rR24 M, rR25 M, rR26 M, rR27 M, rR28 M, rR29 M, rR30 M, rR32 M, rR33 M, rR34 M, wl4 M, wl5 M, wl6 M, wl7 M, ruw13 M, ruw12 M, kxi_s, kxr_s, kxv_s, Option.bind_some, if_true, if_false, i10, c71a M, c71b M, c71c M, c71d M, c77n M S.g4 S.P12 h0]
end QRD

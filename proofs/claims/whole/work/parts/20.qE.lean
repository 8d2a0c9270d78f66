section QRE
variable {W : tm_W} {m : Nat → Nat → Int32} {l : Nat → Nat → Int64} {f g : Nat → Int32}
theorem c71s (M : isM W) {s : List Int32} (h : s.length < 128) (x : Int32) : cl 71 [.ref 39, .long x.toInt64] (tm W (m1 (m2 m 39 12 (nI s.length)) 40 f) (llm l (s.map Int32.toInt64))) = some (none, tm W (m1 (m2 m 39 12 (nI (s ++ [x]).length)) 40 f) (llm l ((s ++ [x]).map Int32.toInt64))) := by
  have e := c71w (m := m) (f := f) (l := l) M (ys := s.map Int32.toInt64) (by rw [List.length_map]; exact h) x.toInt64
  rw [List.length_map] at e
  rw [e]
  simp
theorem vI1 (C : isC W) (xs : List Int32) : ia_gI (tm W (wv (rwm m xs) 13 f) l) 3 7 1 = some (nI xs.length) := by
  rw [tm_gI C.t7 rfl, wv_out _ _ (by omega), rwm_7]
/-! OPEN bans of a player -/
def opS (f : Nat → Int32) (p : Int32) (b : Nat) (s : List Int32) : List Int32 := if f (304 + (8 * b)) = p then (if f (304 + (8 * b + 2)) ≤ 0 then s else s ++ [nI b]) else s
theorem d34 (C : isC W) {N : Nat} (hN : f 1105 = nI N) (hN2 : N ≤ 100) (p : Int32) : ∀ n i (s : List Int32), i + n = N → s.length + n ≤ 100 → dn 34 12 [some (.ref 0), some (.int p), some (.int (nI i))] [] (tm W (wv (rwm m s) 13 f) l) = some (some (.int (nI ((fo (opS f p) n i s)).length)), tm W (wv (rwm m (fo (opS f p) n i s)) 13 f) l)
  | 0, i, s, h, hv => by
    have hi : i = N := by omega
    subst hi
    rw [q_34_12]
    simp only [xok C, vok C, sok C.now, xR0 C, xR1 C, xR2 C, xR3 C, xR4 C, xR5 C, xR6 C, xR7 C, xR8 C, xR9 C, sR4 C.now, sR5 C.now, sR6 C.now, sR7 C.now, sR8 C.now, sR9 C.now, sR10 C.now, sI0 C.now, sI1 C.now, sI2 C.now, sI3 C.now, kxi_s, kxr_s, kxv_s, Option.bind_some, if_true, if_false, i10, c189w C, List.nil_append, List.cons_append, List.append_nil, hN, eq_true (Int32.le_refl (nI i)), fo, vI1 C]
  | n + 1, i, s, h, hv => by
    have ih := fun s => d34 C hN hN2 p n (i + 1) s (by omega)
    rw [q_34_12]
    simp only [xok C, vok C, sok C.now, xR0 C, xR1 C, xR2 C, xR3 C, xR4 C, xR5 C, xR6 C, xR7 C, xR8 C, xR9 C, sR4 C.now, sR5 C.now, sR6 C.now, sR7 C.now, sR8 C.now, sR9 C.now, sR10 C.now, sI0 C.now, sI1 C.now, sI2 C.now, sI3 C.now, kxi_s, kxr_s, kxv_s, Option.bind_some, if_true, if_false, i10, c189w C, List.nil_append, List.cons_append, List.append_nil, hN, eq_false (nI_ge (show i < N by omega) (show N < 2 ^ 31 by omega)), c216_0 C.now (show i < 100 by omega), c218 C.now (show i < 100 by omega), c190w C (xs := s) (show s.length < 100 by omega)]
    rw [fo]
    by_cases c1 : f (304 + (8 * i)) = p
    · by_cases c2 : f (304 + (8 * i + 2)) ≤ 0
      · have e : (opS f p) i s = s := by simp [opS, c1, c2]
        rw [e]
        simp only [c1, c2, if_true, if_false, i10, nI_1, Int32.add_zero, or0, Bool.false_eq_true, Bool.true_eq_false]
        exact ih (s) (by first | omega | (simp; omega))
      · have e : (opS f p) i s = s ++ [nI i] := by simp [opS, c1, c2]
        rw [e]
        simp only [c1, c2, if_true, if_false, i10, nI_1, Int32.add_zero, or0, Bool.false_eq_true, Bool.true_eq_false]
        exact ih (s ++ [nI i]) (by first | omega | (simp; omega))
    · have e : (opS f p) i s = s := by simp [opS, c1]
      rw [e]
      simp only [c1, if_true, if_false, i10, nI_1, Int32.add_zero, or0, Bool.false_eq_true, Bool.true_eq_false]
      exact ih (s) (by first | omega | (simp; omega))
theorem d152 (M : isM W) {N : Nat} (hN : f 1105 = nI N) (hN2 : N ≤ 100) (p : Int32) : ∀ n i (s : List Int32), i + n = N → s.length + n ≤ 100 → dn 152 14 [some (.ref 39), some (.int p), some (.int (nI i))] [] (tm W (m1 (m2 m 39 12 (nI (s).length)) 40 f) (llm l ((s).map Int32.toInt64))) = some (some (.int (nI ((fo (opS f p) n i s)).length)), tm W (m1 (m2 m 39 12 (nI ((fo (opS f p) n i s)).length)) 40 f) (llm l (((fo (opS f p) n i s)).map Int32.toInt64)))
  | 0, i, s, h, hv => by
    have hi : i = N := by omega
    subst hi
    rw [q_152_14]
    simp only [rok M, rR0 M, rR1 M, rR2 M, rR4 M, rR6 M, rR7 M, rR8 M, rR9 M, rR11 M, rR16 M, rR17 M, rR24 M, rR25 M, rR26 M, rR27 M, rR28 M, rR29 M, rR30 M, rR32 M, rR33 M, rR34 M, wl4 M, wl5 M, wl6 M, wl7 M, ruw13 M, ruw12 M, kxi_s, kxr_s, kxv_s, Option.bind_some, if_true, if_false, i10, c71a M, c71b M, c71c M, c71d M, hN, eq_true (Int32.le_refl (nI i)), fo, rIw12 M, m2_s]
  | n + 1, i, s, h, hv => by
    have ih := fun s => d152 M hN hN2 p n (i + 1) s (by omega)
    rw [q_152_14]
    simp only [rok M, rR0 M, rR1 M, rR2 M, rR4 M, rR6 M, rR7 M, rR8 M, rR9 M, rR11 M, rR16 M, rR17 M, rR24 M, rR25 M, rR26 M, rR27 M, rR28 M, rR29 M, rR30 M, rR32 M, rR33 M, rR34 M, wl4 M, wl5 M, wl6 M, wl7 M, ruw13 M, ruw12 M, kxi_s, kxr_s, kxv_s, Option.bind_some, if_true, if_false, i10, c71a M, c71b M, c71c M, c71d M, hN, eq_false (nI_ge (show i < N by omega) (show N < 2 ^ 31 by omega)), c79_0 M (show i < 100 by omega), c87 M (show i < 100 by omega), c71s M (s := s) (show s.length < 128 by omega)]
    rw [fo]
    by_cases c1 : f (304 + (8 * i)) = p
    · by_cases c2 : f (304 + (8 * i + 2)) ≤ 0
      · have e : (opS f p) i s = s := by simp [opS, c1, c2]
        rw [e]
        simp only [c1, c2, if_true, if_false, i10, nI_1, Int32.add_zero, or0, Bool.false_eq_true, Bool.true_eq_false]
        exact ih (s) (by first | omega | (simp; omega))
      · have e : (opS f p) i s = s ++ [nI i] := by simp [opS, c1, c2]
        rw [e]
        simp only [c1, c2, if_true, if_false, i10, nI_1, Int32.add_zero, or0, Bool.false_eq_true, Bool.true_eq_false]
        exact ih (s ++ [nI i]) (by first | omega | (simp; omega))
    · have e : (opS f p) i s = s := by simp [opS, c1]
      rw [e]
      simp only [c1, if_true, if_false, i10, nI_1, Int32.add_zero, or0, Bool.false_eq_true, Bool.true_eq_false]
      exact ih (s) (by first | omega | (simp; omega))
theorem op_len (f : Nat → Int32) (p : Int32) : ∀ n i (s : List Int32), (fo (opS f p) n i s).length ≤ s.length + n
  | 0, _, _ => Nat.le_refl _
  | n + 1, i, s => by
    rw [fo]
    refine Nat.le_trans (op_len f p n (i + 1) _) ?_
    unfold opS
    split
    · split
      · omega
      · simp; omega
    · omega
theorem op_SR {P N E : Nat} (S : SR f g P N E) (p : Int32) (s : List Int32) : fo (opS f p) N 0 s = fo (opS g p) N 0 s := by
  refine fo_cong N 0 _ fun b a _ hb => ?_
  unfold opS
  rw [show f (304 + (8 * b)) = g (304 + (8 * b)) from S.row (j := 0) (by omega) (by decide), S.row (by omega) (by decide)]
theorem ruw12n (M : isM W) : ia_pF (tm W (m1 m 40 f) l) 8 39 12 (.int 0) = some (tm W (m1 (m2 m 39 12 (nI ([] : List Int32).length)) 40 f) (llm l (([] : List Int32).map Int32.toInt64))) := by
  rw [ruw12 M, List.map_nil, llm_nil]
  rfl
theorem b_opens {j : Nat} (hj : j < 600) (h : Inv j W m l) (x0 : Int32) : Both j W m l 34 152 [.int x0] [.int x0] := by
  obtain ⟨⟨C, M, -⟩, ⟨P, N, E, S, V, hE, hB⟩, -, -, R, -, hrow⟩ := id h
  have p12 := S.P12
  have n100 := S.N100
  rcases arg x0 P (by omega) with ⟨a0, h0, rfl⟩ | h0
  · refine Both_q h (r := nI (fo (opS (vw m 13) (nI a0)) N 0 []).length) (xs := fo (opS (vw m 13) (nI a0)) N 0 []) ?_ ?_ ?_
    · have := op_len (vw m 13) (nI a0) N 0 []
      simp at this
      omega
    · simp only [q_34, xok C, vok C, sok C.now, xR0 C, xR1 C, xR2 C, xR3 C, xR4 C, xR5 C, xR6 C, xR7 C, xR8 C, xR9 C, sR4 C.now, sR5 C.now, sR6 C.now, sR7 C.now, sR8 C.now, sR9 C.now, sR10 C.now, sI0 C.now, sI1 C.now, sI2 C.now, sI3 C.now, kxi_s, kxr_s, kxv_s, Option.bind_some, if_true, if_false, i10, c189w C, List.nil_append, List.cons_append, List.append_nil, c52y C S.f4 S.P12 h0]
      exact d34 C S.f5 n100 (nI a0) N 0 [] (by omega) (by simpa using n100)
    · rw [op_SR S]
      simp only [q_152, rok M, ruw13 M, kxi_s, Option.bind_some, if_true, if_false, i10, c77y M S.g4 S.P12 h0, ruw12n M]
      exact d152 M S.g5 n100 (nI a0) N 0 [] (by omega) (by simpa using n100)
  · refine Both_n h (r := -1) ?_ ?_
    · simp only [q_34, xok C, vok C, sok C.now, xR0 C, xR1 C, xR2 C, xR3 C, xR4 C, xR5 C, xR6 C, xR7 C, xR8 C, xR9 C, sR4 C.now, sR5 C.now, sR6 C.now, sR7 C.now, sR8 C.now, sR9 C.now, sR10 C.now, sI0 C.now, sI1 C.now, sI2 C.now, sI3 C.now, kxi_s, kxr_s, kxv_s, Option.bind_some, if_true, if_false, i10, c189w C, List.nil_append, List.cons_append, List.append_nil, c52n C S.f4 h0]
    · simp only [q_152, rok M, rR0 M, rR1 M, rR2 M, rR4 M, rR6 M, rR7 M, rR8 M, rR9 M, rR11 M, rR16 M, rR17 M, rR24 M, rR25 M, rR26 M, rR27 M, rR28 M, rR29 M, rR30 M, rR32 M, rR33 M, rR34 M, wl4 M, wl5 M, wl6 M, wl7 M, ruw13 M, ruw12 M, kxi_s, kxr_s, kxv_s, Option.bind_some, if_true, if_false, i10, c71a M, c71b M, c71c M, c71d M, c77n M S.g4 S.P12 h0]
/-! sum -/
def suS (f : Nat → Int32) (c : Int32) (b : Nat) (s : Int32 × Int32 × Int32 × Int32) : Int32 × Int32 × Int32 × Int32 := if f (304 + (8 * b + 1)) = c then (s.1 + 1, (if f (304 + (8 * b + 2)) ≤ 0 then s.2.1 else s.2.1 + 1), s.2.2.1 + f (304 + (8 * b + 5)), s.2.2.2 + f (304 + (8 * b + 7))) else s
theorem d36 (C : isC W) {N : Nat} (hN : f 1105 = nI N) (hN2 : N ≤ 100) (c : Int32) : ∀ n i (s : Int32 × Int32 × Int32 × Int32), i + n = N → dn 36 15 [some (.ref 0), some (.int c), some (.int s.1), some (.int s.2.1), some (.int s.2.2.1), some (.int s.2.2.2), some (.int (nI i))] [] (tm W (wv m 13 f) l) = some (some (.int ((fo (suS f c) n i s)).1), tm W (wv (rwm m [((fo (suS f c) n i s)).2.1, ((fo (suS f c) n i s)).2.2.1, ((fo (suS f c) n i s)).2.2.2]) 13 f) l)
  | 0, i, s, h => by
    have hi : i = N := by omega
    subst hi
    rw [q_36_15]
    simp only [xok C, vok C, sok C.now, xR0 C, xR1 C, xR2 C, xR3 C, xR4 C, xR5 C, xR6 C, xR7 C, xR8 C, xR9 C, sR4 C.now, sR5 C.now, sR6 C.now, sR7 C.now, sR8 C.now, sR9 C.now, sR10 C.now, sI0 C.now, sI1 C.now, sI2 C.now, sI3 C.now, kxi_s, kxr_s, kxv_s, Option.bind_some, if_true, if_false, i10, c189w C, List.nil_append, List.cons_append, List.append_nil, hN, eq_true (Int32.le_refl (nI i)), fo, w190a C, w190b C, w190c C]
  | n + 1, i, s, h => by
    have ih := fun s => d36 C hN hN2 c n (i + 1) s (by omega)
    rw [q_36_15]
    simp only [xok C, vok C, sok C.now, xR0 C, xR1 C, xR2 C, xR3 C, xR4 C, xR5 C, xR6 C, xR7 C, xR8 C, xR9 C, sR4 C.now, sR5 C.now, sR6 C.now, sR7 C.now, sR8 C.now, sR9 C.now, sR10 C.now, sI0 C.now, sI1 C.now, sI2 C.now, sI3 C.now, kxi_s, kxr_s, kxv_s, Option.bind_some, if_true, if_false, i10, c189w C, List.nil_append, List.cons_append, List.append_nil, hN, eq_false (nI_ge (show i < N by omega) (show N < 2 ^ 31 by omega)), c216_1 C.now (show i < 100 by omega), c218 C.now (show i < 100 by omega), q_36_37, c216_5 C.now (show i < 100 by omega), c216_7 C.now (show i < 100 by omega)]
    rw [fo]
    by_cases c1 : f (304 + (8 * i + 1)) = c
    · by_cases c2 : f (304 + (8 * i + 2)) ≤ 0
      · have e : (suS f c) i s = (s.1 + 1, s.2.1, s.2.2.1 + f (304 + (8 * i + 5)), s.2.2.2 + f (304 + (8 * i + 7))) := by simp [suS, c1, c2]
        rw [e]
        simp only [c1, c2, if_true, if_false, i10, nI_1, Int32.add_zero, or0, Bool.false_eq_true, Bool.true_eq_false]
        exact ih ((s.1 + 1, s.2.1, s.2.2.1 + f (304 + (8 * i + 5)), s.2.2.2 + f (304 + (8 * i + 7))))
      · have e : (suS f c) i s = (s.1 + 1, s.2.1 + 1, s.2.2.1 + f (304 + (8 * i + 5)), s.2.2.2 + f (304 + (8 * i + 7))) := by simp [suS, c1, c2]
        rw [e]
        simp only [c1, c2, if_true, if_false, i10, nI_1, Int32.add_zero, or0, Bool.false_eq_true, Bool.true_eq_false]
        exact ih ((s.1 + 1, s.2.1 + 1, s.2.2.1 + f (304 + (8 * i + 5)), s.2.2.2 + f (304 + (8 * i + 7))))
    · have e : (suS f c) i s = s := by simp [suS, c1]
      rw [e]
      simp only [c1, if_true, if_false, i10, nI_1, Int32.add_zero, or0, Bool.false_eq_true, Bool.true_eq_false]
      exact ih (s)
theorem d154 (M : isM W) {N : Nat} (hN : f 1105 = nI N) (hN2 : N ≤ 100) (c : Int32) : ∀ n i (s : Int32 × Int32 × Int32 × Int32), i + n = N → dn 154 18 [some (.ref 39), some (.int c), some (.int s.1), some (.int s.2.1), some (.int s.2.2.1), some (.int s.2.2.2), some (.int (nI i))] [] (tm W (m1 m 40 f) l) = some (some (.int ((fo (suS f c) n i s)).1), tm W (m1 (m2 m 39 12 (nI ([((fo (suS f c) n i s)).2.1, ((fo (suS f c) n i s)).2.2.1, ((fo (suS f c) n i s)).2.2.2]).length)) 40 f) (llm l (([((fo (suS f c) n i s)).2.1, ((fo (suS f c) n i s)).2.2.1, ((fo (suS f c) n i s)).2.2.2]).map Int32.toInt64)))
  | 0, i, s, h => by
    have hi : i = N := by omega
    subst hi
    rw [q_154_18]
    simp only [rok M, rR0 M, rR1 M, rR2 M, rR4 M, rR6 M, rR7 M, rR8 M, rR9 M, rR11 M, rR16 M, rR17 M, rR24 M, rR25 M, rR26 M, rR27 M, rR28 M, rR29 M, rR30 M, rR32 M, rR33 M, rR34 M, wl4 M, wl5 M, wl6 M, wl7 M, ruw13 M, ruw12 M, kxi_s, kxr_s, kxv_s, Option.bind_some, if_true, if_false, i10, c71a M, c71b M, c71c M, c71d M, hN, eq_true (Int32.le_refl (nI i)), fo]
    rfl
  | n + 1, i, s, h => by
    have ih := fun s => d154 M hN hN2 c n (i + 1) s (by omega)
    rw [q_154_18]
    simp only [rok M, rR0 M, rR1 M, rR2 M, rR4 M, rR6 M, rR7 M, rR8 M, rR9 M, rR11 M, rR16 M, rR17 M, rR24 M, rR25 M, rR26 M, rR27 M, rR28 M, rR29 M, rR30 M, rR32 M, rR33 M, rR34 M, wl4 M, wl5 M, wl6 M, wl7 M, ruw13 M, ruw12 M, kxi_s, kxr_s, kxv_s, Option.bind_some, if_true, if_false, i10, c71a M, c71b M, c71c M, c71d M, hN, eq_false (nI_ge (show i < N by omega) (show N < 2 ^ 31 by omega)), c79_1 M (show i < 100 by omega), c87 M (show i < 100 by omega), q_154_40, c79_5 M (show i < 100 by omega), c79_7 M (show i < 100 by omega)]
    rw [fo]
    by_cases c1 : f (304 + (8 * i + 1)) = c
    · by_cases c2 : f (304 + (8 * i + 2)) ≤ 0
      · have e : (suS f c) i s = (s.1 + 1, s.2.1, s.2.2.1 + f (304 + (8 * i + 5)), s.2.2.2 + f (304 + (8 * i + 7))) := by simp [suS, c1, c2]
        rw [e]
        simp only [c1, c2, if_true, if_false, i10, nI_1, Int32.add_zero, or0, Bool.false_eq_true, Bool.true_eq_false]
        exact ih ((s.1 + 1, s.2.1, s.2.2.1 + f (304 + (8 * i + 5)), s.2.2.2 + f (304 + (8 * i + 7))))
      · have e : (suS f c) i s = (s.1 + 1, s.2.1 + 1, s.2.2.1 + f (304 + (8 * i + 5)), s.2.2.2 + f (304 + (8 * i + 7))) := by simp [suS, c1, c2]
        rw [e]
        simp only [c1, c2, if_true, if_false, i10, nI_1, Int32.add_zero, or0, Bool.false_eq_true, Bool.true_eq_false]
        exact ih ((s.1 + 1, s.2.1 + 1, s.2.2.1 + f (304 + (8 * i + 5)), s.2.2.2 + f (304 + (8 * i + 7))))
    · have e : (suS f c) i s = s := by simp [suS, c1]
      rw [e]
      simp only [c1, if_true, if_false, i10, nI_1, Int32.add_zero, or0, Bool.false_eq_true, Bool.true_eq_false]
      exact ih (s)
theorem su_SR {P N E : Nat} (S : SR f g P N E) (c : Int32) (s : Int32 × Int32 × Int32 × Int32) : fo (suS f c) N 0 s = fo (suS g c) N 0 s := by
  refine fo_cong N 0 _ fun b a _ hb => ?_
  unfold suS
  rw [S.row (j := 1) (by omega) (by decide), S.row (j := 2) (by omega) (by decide), S.row (j := 5) (by omega) (by decide), S.row (j := 7) (by omega) (by decide)]
theorem b_sum {j : Nat} (hj : j < 600) (h : Inv j W m l) (x0 : Int32) : Both j W m l 36 154 [.int x0] [.int x0] := by
  obtain ⟨⟨C, M, -⟩, ⟨P, N, E, S, V, hE, hB⟩, -, -, R, -, hrow⟩ := id h
  have p12 := S.P12
  have n100 := S.N100
  rcases arg x0 4 (by decide) with ⟨a0, h0, rfl⟩ | h0
  · refine Both_q h (r := (fo (suS (vw m 13) (nI a0)) N 0 (0, 0, 0, 0)).1) (xs := [(fo (suS (vw m 13) (nI a0)) N 0 (0, 0, 0, 0)).2.1, (fo (suS (vw m 13) (nI a0)) N 0 (0, 0, 0, 0)).2.2.1, (fo (suS (vw m 13) (nI a0)) N 0 (0, 0, 0, 0)).2.2.2]) (by simp) ?_ ?_
    · simp only [q_36, xok C, vok C, sok C.now, xR0 C, xR1 C, xR2 C, xR3 C, xR4 C, xR5 C, xR6 C, xR7 C, xR8 C, xR9 C, sR4 C.now, sR5 C.now, sR6 C.now, sR7 C.now, sR8 C.now, sR9 C.now, sR10 C.now, sI0 C.now, sI1 C.now, sI2 C.now, sI3 C.now, kxi_s, kxr_s, kxv_s, Option.bind_some, if_true, if_false, i10, c189w C, List.nil_append, List.cons_append, List.append_nil, c49y h0]
      exact d36 C S.f5 n100 (nI a0) N 0 (0, 0, 0, 0) (by omega)
    · rw [su_SR S]
      simp only [q_154, rok M, rR0 M, rR1 M, rR2 M, rR4 M, rR6 M, rR7 M, rR8 M, rR9 M, rR11 M, rR16 M, rR17 M, rR24 M, rR25 M, rR26 M, rR27 M, rR28 M, rR29 M, rR30 M, rR32 M, rR33 M, rR34 M, wl4 M, wl5 M, wl6 M, wl7 M, ruw13 M, ruw12 M, kxi_s, kxr_s, kxv_s, Option.bind_some, if_true, if_false, i10, c71a M, c71b M, c71c M, c71d M, c75y h0]
      exact d154 M S.g5 n100 (nI a0) N 0 (0, 0, 0, 0) (by omega)
  · refine Both_n h (r := -1) ?_ ?_
    · simp only [q_36, xok C, vok C, sok C.now, xR0 C, xR1 C, xR2 C, xR3 C, xR4 C, xR5 C, xR6 C, xR7 C, xR8 C, xR9 C, sR4 C.now, sR5 C.now, sR6 C.now, sR7 C.now, sR8 C.now, sR9 C.now, sR10 C.now, sI0 C.now, sI1 C.now, sI2 C.now, sI3 C.now, kxi_s, kxr_s, kxv_s, Option.bind_some, if_true, if_false, i10, c189w C, List.nil_append, List.cons_append, List.append_nil, c49n h0]
    · simp only [q_154, rok M, rR0 M, rR1 M, rR2 M, rR4 M, rR6 M, rR7 M, rR8 M, rR9 M, rR11 M, rR16 M, rR17 M, rR24 M, rR25 M, rR26 M, rR27 M, rR28 M, rR29 M, rR30 M, rR32 M, rR33 M, rR34 M, wl4 M, wl5 M, wl6 M, wl7 M, ruw13 M, ruw12 M, kxi_s, kxr_s, kxv_s, Option.bind_some, if_true, if_false, i10, c71a M, c71b M, c71c M, c71d M, c75n h0]
end QRE

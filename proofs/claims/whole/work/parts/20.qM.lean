section QRM
variable {W : tm_W} {m : Nat → Nat → Int32} {l : Nat → Nat → Int64} {f g : Nat → Int32}
/-! count -/
def cOp (f : Nat → Int32) (b : Nat) (a : Int32) : Int32 := if f (304 + (8 * b + 2)) ≤ 0 then a else a + 1
def cPn (f : Nat → Int32) (b : Nat) (a : Int32) : Int32 := if f (304 + (8 * b + 4)) = 1 then a + 1 else a
theorem c228' (C : isC W) {N : Nat} (hN : f 1105 = nI N) (hN2 : N ≤ 100) : cl 228 [.ref 13] (tm W (wv m 13 f) l) = some (some (.int (fo (cOp f) N 0 0)), tm W (wv m 13 f) l) := c228 C.now hN hN2
theorem c229' (C : isC W) {N : Nat} (hN : f 1105 = nI N) (hN2 : N ≤ 100) : cl 229 [.ref 13] (tm W (wv m 13 f) l) = some (some (.int (fo (cPn f) N 0 0)), tm W (wv m 13 f) l) := c229 C.now hN hN2
theorem cOp_SR {P N E : Nat} (S : SR f g P N E) : fo (cOp f) N 0 0 = fo (cOp g) N 0 0 := by
  refine fo_cong N 0 0 fun b a _ hb => ?_
  unfold cOp
  rw [S.row (by omega) (by decide)]
theorem cPn_SR {P N E : Nat} (S : SR f g P N E) : fo (cPn f) N 0 0 = fo (cPn g) N 0 0 := by
  refine fo_cong N 0 0 fun b a _ hb => ?_
  unfold cPn
  rw [S.row (by omega) (by decide)]
theorem cau_SR {P N E : Nat} (S : SR f g P N E) : fo (fun j a => a + f (12 + j)) 48 0 (0 : Int32) = fo (fun j a => a + g (12 + j)) 48 0 0 := by
  refine fo_cong 48 0 0 fun b a _ hb => ?_
  rw [S.mid (by omega) (by omega)]

theorem d149 (M : isM W) {N : Nat} (hN : f 1105 = nI N) (hN2 : N ≤ 100) : ∀ n i (s : Int32), i + n = N → dn 149 4 [some (.ref 39), some (.int s), some (.int (nI i))] [] (tm W (m1 m 40 f) l) = some (some (.int (fo (cOp f) n i s)), tm W (m1 m 40 f) l)
  | 0, i, s, h => by
    have hi : i = N := by omega
    subst hi
    rw [q_149_4]
    simp only [rok M, rR0 M, rR1 M, rR2 M, rR4 M, rR6 M, rR7 M, rR8 M, rR9 M, rR11 M, rR16 M, rR17 M, rR24 M, rR25 M, rR26 M, rR27 M, rR28 M, rR29 M, rR30 M, rR32 M, rR33 M, rR34 M, wl4 M, wl5 M, wl6 M, wl7 M, ruw13 M, ruw12 M, kxi_s, kxr_s, kxv_s, Option.bind_some, if_true, if_false, i10, c71a M, c71b M, c71c M, c71d M, hN, eq_true (Int32.le_refl (nI i)), fo]
  | n + 1, i, s, h => by
    have ih := fun s => d149 M hN hN2 n (i + 1) s (by omega)
    rw [q_149_4]
    simp only [rok M, rR0 M, rR1 M, rR2 M, rR4 M, rR6 M, rR7 M, rR8 M, rR9 M, rR11 M, rR16 M, rR17 M, rR24 M, rR25 M, rR26 M, rR27 M, rR28 M, rR29 M, rR30 M, rR32 M, rR33 M, rR34 M, wl4 M, wl5 M, wl6 M, wl7 M, ruw13 M, ruw12 M, kxi_s, kxr_s, kxv_s, Option.bind_some, if_true, if_false, i10, c71a M, c71b M, c71c M, c71d M, hN, eq_false (nI_ge (show i < N by omega) (show N < 2 ^ 31 by omega)), c87 M (show i < 100 by omega)]
    rw [fo]
    by_cases c1 : f (304 + (8 * i + 2)) ≤ 0
    · have e : (cOp f) i s = s := by simp [cOp, eq_true c1]
      rw [e]
      simp only [eq_true c1, if_true, if_false, i10, nI_1, Int32.add_zero, or0, Bool.false_eq_true, Bool.true_eq_false]
      exact ih (s)
    · have e : (cOp f) i s = s + 1 := by simp [cOp, eq_false c1]
      rw [e]
      simp only [eq_false c1, if_true, if_false, i10, nI_1, Int32.add_zero, or0, Bool.false_eq_true, Bool.true_eq_false]
      exact ih (s + 1)
theorem d169 (M : isM W) {N : Nat} (hN : f 1105 = nI N) (hN2 : N ≤ 100) : ∀ n i (s : Int32), i + n = N → dn 169 4 [some (.ref 39), some (.int s), some (.int (nI i))] [] (tm W (m1 m 40 f) l) = some (some (.int (fo (cPn f) n i s)), tm W (m1 m 40 f) l)
  | 0, i, s, h => by
    have hi : i = N := by omega
    subst hi
    rw [q_169_4]
    simp only [rok M, rR0 M, rR1 M, rR2 M, rR4 M, rR6 M, rR7 M, rR8 M, rR9 M, rR11 M, rR16 M, rR17 M, rR24 M, rR25 M, rR26 M, rR27 M, rR28 M, rR29 M, rR30 M, rR32 M, rR33 M, rR34 M, wl4 M, wl5 M, wl6 M, wl7 M, ruw13 M, ruw12 M, kxi_s, kxr_s, kxv_s, Option.bind_some, if_true, if_false, i10, c71a M, c71b M, c71c M, c71d M, hN, eq_true (Int32.le_refl (nI i)), fo]
  | n + 1, i, s, h => by
    have ih := fun s => d169 M hN hN2 n (i + 1) s (by omega)
    rw [q_169_4]
    simp only [rok M, rR0 M, rR1 M, rR2 M, rR4 M, rR6 M, rR7 M, rR8 M, rR9 M, rR11 M, rR16 M, rR17 M, rR24 M, rR25 M, rR26 M, rR27 M, rR28 M, rR29 M, rR30 M, rR32 M, rR33 M, rR34 M, wl4 M, wl5 M, wl6 M, wl7 M, ruw13 M, ruw12 M, kxi_s, kxr_s, kxv_s, Option.bind_some, if_true, if_false, i10, c71a M, c71b M, c71c M, c71d M, hN, eq_false (nI_ge (show i < N by omega) (show N < 2 ^ 31 by omega)), c79_4 M (show i < 100 by omega)]
    rw [fo]
    by_cases c1 : f (304 + (8 * i + 4)) = 1
    · have e : (cPn f) i s = s + 1 := by simp [cPn, eq_true c1]
      rw [e]
      simp only [eq_true c1, if_true, if_false, i10, nI_1, Int32.add_zero, or0, Bool.false_eq_true, Bool.true_eq_false]
      exact ih (s + 1)
    · have e : (cPn f) i s = s := by simp [cPn, eq_false c1]
      rw [e]
      simp only [eq_false c1, if_true, if_false, i10, nI_1, Int32.add_zero, or0, Bool.false_eq_true, Bool.true_eq_false]
      exact ih (s)
theorem c149 (M : isM W) {N : Nat} (hN : f 1105 = nI N) (hN2 : N ≤ 100) : cl 149 [.ref 39] (tm W (m1 m 40 f) l) = some (some (.int (fo (cOp f) N 0 0)), tm W (m1 m 40 f) l) := by
  rw [q_149]
  exact d149 M hN hN2 N 0 0 (by omega)
theorem c169 (M : isM W) {N : Nat} (hN : f 1105 = nI N) (hN2 : N ≤ 100) : cl 169 [.ref 39] (tm W (m1 m 40 f) l) = some (some (.int (fo (cPn f) N 0 0)), tm W (m1 m 40 f) l) := by
  rw [q_169]
  exact d169 M hN hN2 N 0 0 (by omega)
theorem i12 (i : Nat) : (12 : Int32) + nI i = nI (12 + i) := nI_add 12 i
theorem d123 (M : isM W) : ∀ n i a, i + n = 48 → dn 123 4 [some (.ref 39), some (.int a), some (.int (nI i))] [] (tm W (m1 m 40 f) l) = some (some (.int (fo (fun j a => a + f (12 + j)) n i a)), tm W (m1 m 40 f) l)
  | 0, i, a, h => by
    rw [q_123_4, show i = 48 by omega, if_pos (show (48 : Int32) ≤ nI 48 from Int32.le_refl _)]
    rfl
  | n + 1, i, a, h => by
    rw [q_123_4, if_neg (show ¬ (48 : Int32) ≤ nI i from nI_ge (b := 48) (by omega) (by decide)), rR0 M, Option.bind_some, i12, wl M (by omega), Option.bind_some, fo, nI_1]
    exact d123 M n (i + 1) _ (by omega)
theorem c123 (M : isM W) : cl 123 [.ref 39] (tm W (m1 m 40 f) l) = some (some (.int (fo (fun j a => a + f (12 + j)) 48 0 0)), tm W (m1 m 40 f) l) := by
  rw [q_123]
  exact d123 M 48 0 0 (by omega)
theorem c164 (M : isM W) : cl 164 [.ref 39] (tm W (m1 m 40 f) l) = some (some (.int (if f 1107 < 60 then f 1107 else 60)), tm W (m1 m 40 f) l) := by
  rw [q_164, rR0 M, Option.bind_some, wl7 M, Option.bind_some]
/-! who is OUT of some cup -/
def isS (f : Nat → Int32) (N p : Nat) (c a : Int32) : Int32 := if fbr (bw f) (nI p) c N 0 = -1 then a else a ||| (1 <<< (nI p &&& 31))
def osS (f : Nat → Int32) (N : Nat) (p : Nat) (a : Int32) : Int32 := isS f N p 3 (isS f N p 2 (isS f N p 1 (isS f N p 0 a)))
theorem e227 (C : isC W) {N : Nat} (hN : f 1105 = nI N) (hN2 : N ≤ 100) (p : Nat) (a c : Int32) (h4 : ¬ 4 ≤ c) : dn 227 10 [some (.ref 13), some (.int a), some (.int (nI p)), some (.int c)] [] (tm W (wv m 13 f) l) = dn 227 10 [some (.ref 13), some (.int (isS f N p c a)), some (.int (nI p)), some (.int (c + 1))] [] (tm W (wv m 13 f) l) := by
  rw [q_227_10, if_neg h4, if_pos (sok C.now _), c222 C.now hN hN2, kxi_s, isS]
  split
  · rw [or0]
  · rw [c54, kxi_s]
theorem d227 (C : isC W) {P N : Nat} (hP : f 1104 = nI P) (hP2 : P ≤ 12) (hN : f 1105 = nI N) (hN2 : N ≤ 100) : ∀ n i a (l3 : Option Value), i + n = P → dn 227 4 [some (.ref 13), some (.int a), some (.int (nI i)), l3] [] (tm W (wv m 13 f) l) = some (some (.int (fo (osS f N) n i a)), tm W (wv m 13 f) l)
  | 0, i, a, l3, h => by
    rw [q_227_4, sI0 C.now, Option.bind_some, hP, if_pos (nI_le (by omega) (by omega))]
    rfl
  | n + 1, i, a, l3, h => by
    rw [q_227_4, sI0 C.now, Option.bind_some, hP, if_neg (nI_ge (by omega) (by omega)), e227 C hN hN2 _ _ _ (by decide), s01, e227 C hN hN2 _ _ _ (by decide), s12, e227 C hN hN2 _ _ _ (by decide), s23, e227 C hN hN2 _ _ _ (by decide), s34, q_227_10, if_pos (by decide), nI_1, fo]
    exact d227 C hP hP2 hN hN2 n (i + 1) _ _ (by omega)
theorem c227 (C : isC W) {P N : Nat} (hP : f 1104 = nI P) (hP2 : P ≤ 12) (hN : f 1105 = nI N) (hN2 : N ≤ 100) : cl 227 [.ref 13] (tm W (wv m 13 f) l) = some (some (.int (fo (osS f N) P 0 0)), tm W (wv m 13 f) l) := by
  rw [q_227]
  exact d227 C hP hP2 hN hN2 P 0 0 _ (by omega)
theorem e148 (M : isM W) {N : Nat} (hN : f 1105 = nI N) (hN2 : N ≤ 100) (p : Nat) (a c : Int32) (h4 : ¬ 4 ≤ c) : dn 148 12 [some (.ref 39), some (.int a), some (.int (nI p)), some (.int c)] [] (tm W (m1 m 40 f) l) = dn 148 12 [some (.ref 39), some (.int (isS f N p c a)), some (.int (nI p)), some (.int (c + 1))] [] (tm W (m1 m 40 f) l) := by
  rw [q_148_12, if_neg h4, if_pos (rok M _), c91 M hN hN2, kxi_s, isS]
  split
  · rw [if_pos rfl, or0]
  · rw [if_neg (by decide)]
theorem d148 (M : isM W) {P N : Nat} (hP : f 1104 = nI P) (hP2 : P ≤ 12) (hN : f 1105 = nI N) (hN2 : N ≤ 100) : ∀ n i a (l3 : Option Value), i + n = P → dn 148 4 [some (.ref 39), some (.int a), some (.int (nI i)), l3] [] (tm W (m1 m 40 f) l) = some (some (.int (fo (osS f N) n i a)), tm W (m1 m 40 f) l)
  | 0, i, a, l3, h => by
    rw [q_148_4, rR0 M, Option.bind_some, wl4 M, Option.bind_some, hP, if_pos (nI_le (by omega) (by omega))]
    rfl
  | n + 1, i, a, l3, h => by
    rw [q_148_4, rR0 M, Option.bind_some, wl4 M, Option.bind_some, hP, if_neg (nI_ge (by omega) (by omega)), e148 M hN hN2 _ _ _ (by decide), s01, e148 M hN hN2 _ _ _ (by decide), s12, e148 M hN hN2 _ _ _ (by decide), s23, e148 M hN hN2 _ _ _ (by decide), s34, q_148_12, if_pos (by decide), nI_1, fo]
    exact d148 M hP hP2 hN hN2 n (i + 1) _ _ (by omega)
theorem c148 (M : isM W) {P N : Nat} (hP : f 1104 = nI P) (hP2 : P ≤ 12) (hN : f 1105 = nI N) (hN2 : N ≤ 100) : cl 148 [.ref 39] (tm W (m1 m 40 f) l) = some (some (.int (fo (osS f N) P 0 0)), tm W (m1 m 40 f) l) := by
  rw [q_148]
  exact d148 M hP hP2 hN hN2 P 0 0 _ (by omega)
theorem os_SR {P N E : Nat} (S : SR f g P N E) : fo (osS f N) P 0 0 = fo (osS g N) P 0 0 := by
  refine fo_cong P 0 0 fun p a _ _ => ?_
  unfold osS isS
  rw [S.fbr, S.fbr, S.fbr, S.fbr]
theorem en_eq {E : Nat} (hE : E < 2 ^ 31) : (if (60 : Int32) < nI E then 60 else nI E) = nI (min E 60) ∧ (if nI E < 60 then nI E else 60) = nI (min E 60) := by
  have e1 := nlt (a := 60) (b := E) (by decide) hE
  have e2 := nlt (a := E) (b := 60) hE (by decide)
  constructor
  · by_cases h : 60 < E
    · rw [if_pos (show (60 : Int32) < nI E from e1.mpr h), Nat.min_eq_right (by omega)]
      rfl
    · rw [if_neg (show ¬ (60 : Int32) < nI E from fun q => h (e1.mp q)), Nat.min_eq_left (by omega)]
  · by_cases h : E < 60
    · rw [if_pos (show nI E < 60 from e2.mpr h), Nat.min_eq_left (by omega)]
    · rw [if_neg (show ¬ nI E < 60 from fun q => h (e2.mp q)), Nat.min_eq_right (by omega)]
      rfl
theorem b_count {j : Nat} (hj : j < 600) (h : Inv j W m l) (x0 : Int32) : Both j W m l 48 170 [.int x0] [.int x0] := by
  obtain ⟨⟨C, M, -⟩, ⟨P, N, E, S, V, hE, hB⟩, -, ⟨nx, s, -, -, -, hs1, hs2, -⟩, R, ⟨tn, -, ht1, ht2, -⟩, ⟨rn, -, hr1, hr2, -⟩⟩ := id h
  have p12 := S.P12
  have n100 := S.N100
  rcases arg x0 11 (by decide) with ⟨k, hk, rfl⟩ | hk
  · have hc : ¬ ((nI k).toInt < 0 ∨ (11 : Int) ≤ (nI k).toInt) := by
      rw [nI_toInt (by omega)]
      omega
    have hc' := eq_false hc
    have ek : (nI k).toInt.toNat = k := by
      rw [nI_toInt (by omega)]
      rfl
    obtain rfl | rfl | rfl | rfl | rfl | rfl | rfl | rfl | rfl | rfl | rfl : k = 0 ∨ k = 1 ∨ k = 2 ∨ k = 3 ∨ k = 4 ∨ k = 5 ∨ k = 6 ∨ k = 7 ∨ k = 8 ∨ k = 9 ∨ k = 10 := by omega
    · refine Both_n h (r := nI P) ?_ ?_
      · rw [q_48, if_neg hc, ek]
        exact (q_48_2 _ _ _).trans (by simp only [xok C, vok C, sok C.now, xR0 C, xR1 C, xR2 C, xR3 C, xR4 C, xR5 C, xR6 C, xR7 C, xR8 C, xR9 C, sR4 C.now, sR5 C.now, sR6 C.now, sR7 C.now, sR8 C.now, sR9 C.now, sR10 C.now, sI0 C.now, sI1 C.now, sI2 C.now, sI3 C.now, kxi_s, kxr_s, kxv_s, Option.bind_some, if_true, if_false, i10, c189w C, List.nil_append, List.cons_append, List.append_nil, S.f4])
      · simp only [q_170, rok M, rR0 M, rR1 M, rR2 M, rR4 M, rR6 M, rR7 M, rR8 M, rR9 M, rR11 M, rR16 M, rR17 M, rR24 M, rR25 M, rR26 M, rR27 M, rR28 M, rR29 M, rR30 M, rR32 M, rR33 M, rR34 M, wl4 M, wl5 M, wl6 M, wl7 M, ruw13 M, ruw12 M, kxi_s, kxr_s, kxv_s, Option.bind_some, if_true, if_false, i10, c71a M, c71b M, c71c M, c71d M, hc', ek]
        exact (q_170_5 _ _ _).trans (by simp only [rok M, rR0 M, rR1 M, rR2 M, rR4 M, rR6 M, rR7 M, rR8 M, rR9 M, rR11 M, rR16 M, rR17 M, rR24 M, rR25 M, rR26 M, rR27 M, rR28 M, rR29 M, rR30 M, rR32 M, rR33 M, rR34 M, wl4 M, wl5 M, wl6 M, wl7 M, ruw13 M, ruw12 M, kxi_s, kxr_s, kxv_s, Option.bind_some, if_true, if_false, i10, c71a M, c71b M, c71c M, c71d M, S.g4])
    · refine Both_n h (r := nI N) ?_ ?_
      · rw [q_48, if_neg hc, ek]
        exact (q_48_6 _ _ _).trans (by simp only [xok C, vok C, sok C.now, xR0 C, xR1 C, xR2 C, xR3 C, xR4 C, xR5 C, xR6 C, xR7 C, xR8 C, xR9 C, sR4 C.now, sR5 C.now, sR6 C.now, sR7 C.now, sR8 C.now, sR9 C.now, sR10 C.now, sI0 C.now, sI1 C.now, sI2 C.now, sI3 C.now, kxi_s, kxr_s, kxv_s, Option.bind_some, if_true, if_false, i10, c189w C, List.nil_append, List.cons_append, List.append_nil, S.f5])
      · simp only [q_170, rok M, rR0 M, rR1 M, rR2 M, rR4 M, rR6 M, rR7 M, rR8 M, rR9 M, rR11 M, rR16 M, rR17 M, rR24 M, rR25 M, rR26 M, rR27 M, rR28 M, rR29 M, rR30 M, rR32 M, rR33 M, rR34 M, wl4 M, wl5 M, wl6 M, wl7 M, ruw13 M, ruw12 M, kxi_s, kxr_s, kxv_s, Option.bind_some, if_true, if_false, i10, c71a M, c71b M, c71c M, c71d M, hc', ek]
        exact (q_170_10 _ _ _).trans (by simp only [rok M, rR0 M, rR1 M, rR2 M, rR4 M, rR6 M, rR7 M, rR8 M, rR9 M, rR11 M, rR16 M, rR17 M, rR24 M, rR25 M, rR26 M, rR27 M, rR28 M, rR29 M, rR30 M, rR32 M, rR33 M, rR34 M, wl4 M, wl5 M, wl6 M, wl7 M, ruw13 M, ruw12 M, kxi_s, kxr_s, kxv_s, Option.bind_some, if_true, if_false, i10, c71a M, c71b M, c71c M, c71d M, S.g5])
    · refine Both_n h (r := fo (cOp (m 40)) N 0 0) ?_ ?_
      · rw [q_48, if_neg hc, ek]
        refine (q_48_10 _ _ _).trans ?_
        simp only [xok C, vok C, sok C.now, xR0 C, xR1 C, xR2 C, xR3 C, xR4 C, xR5 C, xR6 C, xR7 C, xR8 C, xR9 C, sR4 C.now, sR5 C.now, sR6 C.now, sR7 C.now, sR8 C.now, sR9 C.now, sR10 C.now, sI0 C.now, sI1 C.now, sI2 C.now, sI3 C.now, kxi_s, kxr_s, kxv_s, Option.bind_some, if_true, if_false, i10, c189w C, List.nil_append, List.cons_append, List.append_nil, c228' C S.f5 n100, cOp_SR S]
      · simp only [q_170, rok M, rR0 M, rR1 M, rR2 M, rR4 M, rR6 M, rR7 M, rR8 M, rR9 M, rR11 M, rR16 M, rR17 M, rR24 M, rR25 M, rR26 M, rR27 M, rR28 M, rR29 M, rR30 M, rR32 M, rR33 M, rR34 M, wl4 M, wl5 M, wl6 M, wl7 M, ruw13 M, ruw12 M, kxi_s, kxr_s, kxv_s, Option.bind_some, if_true, if_false, i10, c71a M, c71b M, c71c M, c71d M, hc', ek]
        exact (q_170_15 _ _ _).trans (by simp only [rok M, rR0 M, rR1 M, rR2 M, rR4 M, rR6 M, rR7 M, rR8 M, rR9 M, rR11 M, rR16 M, rR17 M, rR24 M, rR25 M, rR26 M, rR27 M, rR28 M, rR29 M, rR30 M, rR32 M, rR33 M, rR34 M, wl4 M, wl5 M, wl6 M, wl7 M, ruw13 M, ruw12 M, kxi_s, kxr_s, kxv_s, Option.bind_some, if_true, if_false, i10, c71a M, c71b M, c71c M, c71d M, c149 M S.g5 n100])
    · refine Both_n h (r := fo (cPn (m 40)) N 0 0) ?_ ?_
      · rw [q_48, if_neg hc, ek]
        refine (q_48_14 _ _ _).trans ?_
        simp only [xok C, vok C, sok C.now, xR0 C, xR1 C, xR2 C, xR3 C, xR4 C, xR5 C, xR6 C, xR7 C, xR8 C, xR9 C, sR4 C.now, sR5 C.now, sR6 C.now, sR7 C.now, sR8 C.now, sR9 C.now, sR10 C.now, sI0 C.now, sI1 C.now, sI2 C.now, sI3 C.now, kxi_s, kxr_s, kxv_s, Option.bind_some, if_true, if_false, i10, c189w C, List.nil_append, List.cons_append, List.append_nil, c229' C S.f5 n100, cPn_SR S]
      · simp only [q_170, rok M, rR0 M, rR1 M, rR2 M, rR4 M, rR6 M, rR7 M, rR8 M, rR9 M, rR11 M, rR16 M, rR17 M, rR24 M, rR25 M, rR26 M, rR27 M, rR28 M, rR29 M, rR30 M, rR32 M, rR33 M, rR34 M, wl4 M, wl5 M, wl6 M, wl7 M, ruw13 M, ruw12 M, kxi_s, kxr_s, kxv_s, Option.bind_some, if_true, if_false, i10, c71a M, c71b M, c71c M, c71d M, hc', ek]
        exact (q_170_18 _ _ _).trans (by simp only [rok M, rR0 M, rR1 M, rR2 M, rR4 M, rR6 M, rR7 M, rR8 M, rR9 M, rR11 M, rR16 M, rR17 M, rR24 M, rR25 M, rR26 M, rR27 M, rR28 M, rR29 M, rR30 M, rR32 M, rR33 M, rR34 M, wl4 M, wl5 M, wl6 M, wl7 M, ruw13 M, ruw12 M, kxi_s, kxr_s, kxv_s, Option.bind_some, if_true, if_false, i10, c71a M, c71b M, c71c M, c71d M, c169 M S.g5 n100])
    · refine Both_n h (r := m 40 1106) ?_ ?_
      · rw [q_48, if_neg hc, ek]
        exact (q_48_18 _ _ _).trans (by simp only [xok C, vok C, sok C.now, xR0 C, xR1 C, xR2 C, xR3 C, xR4 C, xR5 C, xR6 C, xR7 C, xR8 C, xR9 C, sR4 C.now, sR5 C.now, sR6 C.now, sR7 C.now, sR8 C.now, sR9 C.now, sR10 C.now, sI0 C.now, sI1 C.now, sI2 C.now, sI3 C.now, kxi_s, kxr_s, kxv_s, Option.bind_some, if_true, if_false, i10, c189w C, List.nil_append, List.cons_append, List.append_nil, S.e6])
      · simp only [q_170, rok M, rR0 M, rR1 M, rR2 M, rR4 M, rR6 M, rR7 M, rR8 M, rR9 M, rR11 M, rR16 M, rR17 M, rR24 M, rR25 M, rR26 M, rR27 M, rR28 M, rR29 M, rR30 M, rR32 M, rR33 M, rR34 M, wl4 M, wl5 M, wl6 M, wl7 M, ruw13 M, ruw12 M, kxi_s, kxr_s, kxv_s, Option.bind_some, if_true, if_false, i10, c71a M, c71b M, c71c M, c71d M, hc', ek]
        exact (q_170_21 _ _ _).trans (by simp only [rok M, rR0 M, rR1 M, rR2 M, rR4 M, rR6 M, rR7 M, rR8 M, rR9 M, rR11 M, rR16 M, rR17 M, rR24 M, rR25 M, rR26 M, rR27 M, rR28 M, rR29 M, rR30 M, rR32 M, rR33 M, rR34 M, wl4 M, wl5 M, wl6 M, wl7 M, ruw13 M, ruw12 M, kxi_s, kxr_s, kxv_s, Option.bind_some, if_true, if_false, i10, c71a M, c71b M, c71c M, c71d M])
    · refine Both_n h (r := nI s) ?_ ?_
      · rw [q_48, if_neg hc, ek]
        refine (q_48_22 _ _ _).trans ?_
        rw [xR9 C, Option.bind_some, tm_gI C.t37 rfl, Option.bind_some, wv_out _ _ (by omega), hs1]
      · simp only [q_170, rok M, rR0 M, rR1 M, rR2 M, rR4 M, rR6 M, rR7 M, rR8 M, rR9 M, rR11 M, rR16 M, rR17 M, rR24 M, rR25 M, rR26 M, rR27 M, rR28 M, rR29 M, rR30 M, rR32 M, rR33 M, rR34 M, wl4 M, wl5 M, wl6 M, wl7 M, ruw13 M, ruw12 M, kxi_s, kxr_s, kxv_s, Option.bind_some, if_true, if_false, i10, c71a M, c71b M, c71c M, c71d M, hc', ek]
        refine (q_170_26 _ _ _).trans ?_
        rw [rIw5 M, Option.bind_some, m2_k _ _ _ _ (by decide), hs2]
    · refine Both_n h (r := nI (min E 60)) ?_ ?_
      · rw [q_48, if_neg hc, ek]
        refine (q_48_26 _ _ _).trans ?_
        simp only [xok C, vok C, sok C.now, xR0 C, xR1 C, xR2 C, xR3 C, xR4 C, xR5 C, xR6 C, xR7 C, xR8 C, xR9 C, sR4 C.now, sR5 C.now, sR6 C.now, sR7 C.now, sR8 C.now, sR9 C.now, sR10 C.now, sI0 C.now, sI1 C.now, sI2 C.now, sI3 C.now, kxi_s, kxr_s, kxv_s, Option.bind_some, if_true, if_false, i10, c189w C, List.nil_append, List.cons_append, List.append_nil, c235 C.now, S.f7, (en_eq (E := E) (by omega)).1]
      · simp only [q_170, rok M, rR0 M, rR1 M, rR2 M, rR4 M, rR6 M, rR7 M, rR8 M, rR9 M, rR11 M, rR16 M, rR17 M, rR24 M, rR25 M, rR26 M, rR27 M, rR28 M, rR29 M, rR30 M, rR32 M, rR33 M, rR34 M, wl4 M, wl5 M, wl6 M, wl7 M, ruw13 M, ruw12 M, kxi_s, kxr_s, kxv_s, Option.bind_some, if_true, if_false, i10, c71a M, c71b M, c71c M, c71d M, hc', ek]
        refine (q_170_29 _ _ _).trans ?_
        simp only [rok M, rR0 M, rR1 M, rR2 M, rR4 M, rR6 M, rR7 M, rR8 M, rR9 M, rR11 M, rR16 M, rR17 M, rR24 M, rR25 M, rR26 M, rR27 M, rR28 M, rR29 M, rR30 M, rR32 M, rR33 M, rR34 M, wl4 M, wl5 M, wl6 M, wl7 M, ruw13 M, ruw12 M, kxi_s, kxr_s, kxv_s, Option.bind_some, if_true, if_false, i10, c71a M, c71b M, c71c M, c71d M, c164 M, S.g7, (en_eq (E := E) (by omega)).2]
    · refine Both_n h (r := fo (fun j a => a + m 40 (12 + j)) 48 0 0) ?_ ?_
      · rw [q_48, if_neg hc, ek]
        refine (q_48_30 _ _ _).trans ?_
        simp only [xok C, vok C, sok C.now, xR0 C, xR1 C, xR2 C, xR3 C, xR4 C, xR5 C, xR6 C, xR7 C, xR8 C, xR9 C, sR4 C.now, sR5 C.now, sR6 C.now, sR7 C.now, sR8 C.now, sR9 C.now, sR10 C.now, sI0 C.now, sI1 C.now, sI2 C.now, sI3 C.now, kxi_s, kxr_s, kxv_s, Option.bind_some, if_true, if_false, i10, c189w C, List.nil_append, List.cons_append, List.append_nil, c210 C.now, cau_SR S]
      · simp only [q_170, rok M, rR0 M, rR1 M, rR2 M, rR4 M, rR6 M, rR7 M, rR8 M, rR9 M, rR11 M, rR16 M, rR17 M, rR24 M, rR25 M, rR26 M, rR27 M, rR28 M, rR29 M, rR30 M, rR32 M, rR33 M, rR34 M, wl4 M, wl5 M, wl6 M, wl7 M, ruw13 M, ruw12 M, kxi_s, kxr_s, kxv_s, Option.bind_some, if_true, if_false, i10, c71a M, c71b M, c71c M, c71d M, hc', ek]
        exact (q_170_32 _ _ _).trans (by simp only [rok M, rR0 M, rR1 M, rR2 M, rR4 M, rR6 M, rR7 M, rR8 M, rR9 M, rR11 M, rR16 M, rR17 M, rR24 M, rR25 M, rR26 M, rR27 M, rR28 M, rR29 M, rR30 M, rR32 M, rR33 M, rR34 M, wl4 M, wl5 M, wl6 M, wl7 M, ruw13 M, ruw12 M, kxi_s, kxr_s, kxv_s, Option.bind_some, if_true, if_false, i10, c71a M, c71b M, c71c M, c71d M, c123 M])
    · refine Both_n h (r := fo (osS (m 40) N) P 0 0) ?_ ?_
      · rw [q_48, if_neg hc, ek]
        refine (q_48_34 _ _ _).trans ?_
        simp only [xok C, vok C, sok C.now, xR0 C, xR1 C, xR2 C, xR3 C, xR4 C, xR5 C, xR6 C, xR7 C, xR8 C, xR9 C, sR4 C.now, sR5 C.now, sR6 C.now, sR7 C.now, sR8 C.now, sR9 C.now, sR10 C.now, sI0 C.now, sI1 C.now, sI2 C.now, sI3 C.now, kxi_s, kxr_s, kxv_s, Option.bind_some, if_true, if_false, i10, c189w C, List.nil_append, List.cons_append, List.append_nil, c227 C S.f4 p12 S.f5 n100, os_SR S]
      · simp only [q_170, rok M, rR0 M, rR1 M, rR2 M, rR4 M, rR6 M, rR7 M, rR8 M, rR9 M, rR11 M, rR16 M, rR17 M, rR24 M, rR25 M, rR26 M, rR27 M, rR28 M, rR29 M, rR30 M, rR32 M, rR33 M, rR34 M, wl4 M, wl5 M, wl6 M, wl7 M, ruw13 M, ruw12 M, kxi_s, kxr_s, kxv_s, Option.bind_some, if_true, if_false, i10, c71a M, c71b M, c71c M, c71d M, hc', ek]
        exact (q_170_35 _ _ _).trans (by simp only [rok M, rR0 M, rR1 M, rR2 M, rR4 M, rR6 M, rR7 M, rR8 M, rR9 M, rR11 M, rR16 M, rR17 M, rR24 M, rR25 M, rR26 M, rR27 M, rR28 M, rR29 M, rR30 M, rR32 M, rR33 M, rR34 M, wl4 M, wl5 M, wl6 M, wl7 M, ruw13 M, ruw12 M, kxi_s, kxr_s, kxv_s, Option.bind_some, if_true, if_false, i10, c71a M, c71b M, c71c M, c71d M, c148 M S.g4 p12 S.g5 n100])
    · refine Both_n h (r := nI rn) ?_ ?_
      · rw [q_48, if_neg hc, ek]
        refine (q_48_38 _ _ _).trans ?_
        rw [xR3 C, Option.bind_some, tm_gI C.t7 rfl, Option.bind_some, wv_out _ _ (by omega), hr1]
      · simp only [q_170, rok M, rR0 M, rR1 M, rR2 M, rR4 M, rR6 M, rR7 M, rR8 M, rR9 M, rR11 M, rR16 M, rR17 M, rR24 M, rR25 M, rR26 M, rR27 M, rR28 M, rR29 M, rR30 M, rR32 M, rR33 M, rR34 M, wl4 M, wl5 M, wl6 M, wl7 M, ruw13 M, ruw12 M, kxi_s, kxr_s, kxv_s, Option.bind_some, if_true, if_false, i10, c71a M, c71b M, c71c M, c71d M, hc', ek]
        refine (q_170_38 _ _ _).trans ?_
        rw [rIw12 M, Option.bind_some, m2_k _ _ _ _ (by decide), hr2]
    · refine Both_n h (r := nI tn) ?_ ?_
      · rw [q_48, if_neg hc, ek]
        refine (q_48_42 _ _ _).trans ?_
        rw [xR0 C, Option.bind_some, tm_gI C.t1 rfl, Option.bind_some, wv_out _ _ (by omega), ht1]
      · simp only [q_170, rok M, rR0 M, rR1 M, rR2 M, rR4 M, rR6 M, rR7 M, rR8 M, rR9 M, rR11 M, rR16 M, rR17 M, rR24 M, rR25 M, rR26 M, rR27 M, rR28 M, rR29 M, rR30 M, rR32 M, rR33 M, rR34 M, wl4 M, wl5 M, wl6 M, wl7 M, ruw13 M, ruw12 M, kxi_s, kxr_s, kxv_s, Option.bind_some, if_true, if_false, i10, c71a M, c71b M, c71c M, c71d M, hc', ek]
        refine (q_170_41 _ _ _).trans ?_
        rw [rIw10 M, Option.bind_some, m2_k _ _ _ _ (by decide), ht2]
  · have hc : x0.toInt < 0 ∨ (11 : Int) ≤ x0.toInt := by
      rcases hk with hk | hk
      · left
        exact Int32.lt_iff_toInt_lt.mp hk
      · right
        have := Int32.le_iff_toInt_le.mp hk
        rwa [nI_toInt (by decide)] at this
    refine Both_n h (r := -1) ?_ ?_
    · rw [q_48, if_pos hc, q_48_46]
    · simp only [q_170, rok M, rR0 M, rR1 M, rR2 M, rR4 M, rR6 M, rR7 M, rR8 M, rR9 M, rR11 M, rR16 M, rR17 M, rR24 M, rR25 M, rR26 M, rR27 M, rR28 M, rR29 M, rR30 M, rR32 M, rR33 M, rR34 M, wl4 M, wl5 M, wl6 M, wl7 M, ruw13 M, ruw12 M, kxi_s, kxr_s, kxv_s, Option.bind_some, if_true, if_false, i10, c71a M, c71b M, c71c M, c71d M, eq_true hc, q_170_44]
end QRM

section QRI
variable {W : tm_W} {m : Nat → Nat → Int32} {l : Nat → Nat → Int64} {f g : Nat → Int32}
/-! bits of a mask -/
theorem c55 (x y : Int32) (h : ia_H) : cl 55 [.int x, .int y] h = some (some (.int (if x &&& (1 <<< (y &&& 31)) = 0 then 0 else 1)), h) := by
  rw [q_55, c54, kxi_s]
  split <;> rfl
theorem and_nI (a b : Nat) : nI a &&& nI b = nI (a &&& b) := by
  apply Int32.toBitVec_inj.mp
  simp [nI, BitVec.ofNat_and]
theorem and2p (k p : Nat) : (k &&& 2 ^ p = 0) ↔ k.testBit p = false := by
  constructor
  · intro h
    have := congrArg (fun x => x.testBit p) h
    simpa using this
  · intro h
    apply Nat.eq_of_testBit_eq
    intro i
    rw [Nat.testBit_and, Nat.testBit_two_pow, Nat.zero_testBit]
    by_cases hi : p = i
    · subst hi
      simp [h]
    · simp [hi]
theorem shr_all : ∀ p, p < 12 → (nI p &&& 31) = nI p := by decide
theorem bitC {k p : Nat} (hk : k < 4096) (hp : p < 12) : (nI k &&& (1 <<< (nI p &&& 31)) = 0) = (k.testBit p = false) := by
  rw [bit_all p (by omega), and_nI, ← and2p]
  have : k &&& 2 ^ p ≤ k := Nat.and_le_left
  exact propext (neq0 (by omega))
theorem bitR2 : ∀ p, p < 12 → ∀ i, i < 64 → ∀ j, j < 64 → (decide (((nI (64 * i + j) >>> (nI p &&& 31)) &&& 1) = 1) == (64 * i + j).testBit p) = true := by decide +kernel
theorem bitR {k p : Nat} (hk : k < 4096) (hp : p < 12) : ((nI k >>> (nI p &&& 31)) &&& 1 = 1) = (k.testBit p = true) := by
  have h := bitR2 p hp (k / 64) (by omega) (k % 64) (by omega)
  rw [show 64 * (k / 64) + k % 64 = k by omega] at h
  have h2 := eq_of_beq h
  rw [← h2]
  simp
/-! out -/
def ouS (f : Nat → Int32) (c : Int32) (N k : Nat) (p : Nat) (s : List Int32) : List Int32 := if k.testBit p = true then s ++ [bmF (bw f) (nI p) c N] else s
theorem d20 (C : isC W) {P N : Nat} (hP : f 1104 = nI P) (hP2 : P ≤ 12) (hN : f 1105 = nI N) (hN2 : N ≤ 100) {k : Nat} (hk : k < 4096) (t c : Int32) : ∀ n i (s : List Int32), i + n = P → s.length + n ≤ 100 → dn 20 23 [some (.ref 0), some (.int t), some (.int c), some (.int (nI k)), some (.int (nI i))] [] (tm W (wv (rwm m s) 13 f) l) = some (some (.int (nI k)), tm W (wv (rwm m (fo (ouS f c N k) n i s)) 13 f) l)
  | 0, i, s, h, hv => by
    have hi : i = P := by omega
    subst hi
    rw [q_20_23]
    simp only [xok C, vok C, sok C.now, xR0 C, xR1 C, xR2 C, xR3 C, xR4 C, xR5 C, xR6 C, xR7 C, xR8 C, xR9 C, sR4 C.now, sR5 C.now, sR6 C.now, sR7 C.now, sR8 C.now, sR9 C.now, sR10 C.now, sI0 C.now, sI1 C.now, sI2 C.now, sI3 C.now, kxi_s, kxr_s, kxv_s, Option.bind_some, if_true, if_false, i10, c189w C, List.nil_append, List.cons_append, List.append_nil, hP, eq_true (Int32.le_refl (nI i)), fo]
  | n + 1, i, s, h, hv => by
    have ih := fun s => d20 C hP hP2 hN hN2 hk t c n (i + 1) s (by omega)
    rw [q_20_23]
    simp only [xok C, vok C, sok C.now, xR0 C, xR1 C, xR2 C, xR3 C, xR4 C, xR5 C, xR6 C, xR7 C, xR8 C, xR9 C, sR4 C.now, sR5 C.now, sR6 C.now, sR7 C.now, sR8 C.now, sR9 C.now, sR10 C.now, sI0 C.now, sI1 C.now, sI2 C.now, sI3 C.now, kxi_s, kxr_s, kxv_s, Option.bind_some, if_true, if_false, i10, c189w C, List.nil_append, List.cons_append, List.append_nil, hP, eq_false (nI_ge (show i < P by omega) (show P < 2 ^ 31 by omega)), c55, bitC hk (show i < 12 by omega), c223' C hN hN2, c190w C (xs := s) (show s.length < 100 by omega)]
    rw [fo]
    by_cases c1 : k.testBit i = true
    · have c1' : (k.testBit i = false) = False := by simp [c1]
      have e : (ouS f c N k) i s = s ++ [bmF (bw f) (nI i) c N] := by simp [ouS, eq_true c1]
      rw [e]
      simp only [c1', if_true, if_false, i10, nI_1, Int32.add_zero, or0, Bool.false_eq_true, Bool.true_eq_false, Bool.not_eq_true, Bool.true_eq_false, Bool.false_eq_true]
      exact ih (s ++ [bmF (bw f) (nI i) c N]) (by first | omega | (simp; omega))
    · have c1' : (k.testBit i = false) = True := by simpa using c1
      have e : (ouS f c N k) i s = s := by simp [ouS, eq_false c1]
      rw [e]
      simp only [c1', if_true, if_false, i10, nI_1, Int32.add_zero, or0, Bool.false_eq_true, Bool.true_eq_false, Bool.not_eq_true, Bool.true_eq_false, Bool.false_eq_true]
      exact ih (s) (by first | omega | (simp; omega))
theorem d128 (M : isM W) {P N : Nat} (hP : f 1104 = nI P) (hP2 : P ≤ 12) (hN : f 1105 = nI N) (hN2 : N ≤ 100) {k : Nat} (hk : k < 4096) (t c : Int32) : ∀ n i (s : List Int32), i + n = P → s.length + n ≤ 100 → dn 128 26 [some (.ref 39), some (.int t), some (.int c), some (.int (nI k)), some (.int (nI i))] [] (tm W (m1 (m2 m 39 12 (nI (s).length)) 40 f) (llm l ((s).map Int32.toInt64))) = some (some (.int (nI k)), tm W (m1 (m2 m 39 12 (nI ((fo (ouS f c N k) n i s)).length)) 40 f) (llm l (((fo (ouS f c N k) n i s)).map Int32.toInt64)))
  | 0, i, s, h, hv => by
    have hi : i = P := by omega
    subst hi
    rw [q_128_26]
    simp only [rok M, rR0 M, rR1 M, rR2 M, rR4 M, rR6 M, rR7 M, rR8 M, rR9 M, rR11 M, rR16 M, rR17 M, rR24 M, rR25 M, rR26 M, rR27 M, rR28 M, rR29 M, rR30 M, rR32 M, rR33 M, rR34 M, wl4 M, wl5 M, wl6 M, wl7 M, ruw13 M, ruw12 M, kxi_s, kxr_s, kxv_s, Option.bind_some, if_true, if_false, i10, c71a M, c71b M, c71c M, c71d M, hP, eq_true (Int32.le_refl (nI i)), fo]
  | n + 1, i, s, h, hv => by
    have ih := fun s => d128 M hP hP2 hN hN2 hk t c n (i + 1) s (by omega)
    rw [q_128_26]
    simp only [rok M, rR0 M, rR1 M, rR2 M, rR4 M, rR6 M, rR7 M, rR8 M, rR9 M, rR11 M, rR16 M, rR17 M, rR24 M, rR25 M, rR26 M, rR27 M, rR28 M, rR29 M, rR30 M, rR32 M, rR33 M, rR34 M, wl4 M, wl5 M, wl6 M, wl7 M, ruw13 M, ruw12 M, kxi_s, kxr_s, kxv_s, Option.bind_some, if_true, if_false, i10, c71a M, c71b M, c71c M, c71d M, hP, eq_false (nI_ge (show i < P by omega) (show P < 2 ^ 31 by omega)), bitR hk (show i < 12 by omega), c126 M hN hN2, c71s M (s := s) (show s.length < 128 by omega)]
    rw [fo]
    by_cases c1 : k.testBit i = true
    · have e : (ouS f c N k) i s = s ++ [bmF (bw f) (nI i) c N] := by simp [ouS, eq_true c1]
      rw [e]
      simp only [eq_true c1, if_true, if_false, i10, nI_1, Int32.add_zero, or0, Bool.false_eq_true, Bool.true_eq_false]
      exact ih (s ++ [bmF (bw f) (nI i) c N]) (by first | omega | (simp; omega))
    · have e : (ouS f c N k) i s = s := by simp [ouS, eq_false c1]
      rw [e]
      simp only [eq_false c1, if_true, if_false, i10, nI_1, Int32.add_zero, or0, Bool.false_eq_true, Bool.true_eq_false]
      exact ih (s) (by first | omega | (simp; omega))
theorem ou_len (f : Nat → Int32) (c : Int32) (N k : Nat) : ∀ n i (s : List Int32), (fo (ouS f c N k) n i s).length ≤ s.length + n
  | 0, _, _ => Nat.le_refl _
  | n + 1, i, s => by
    rw [fo]
    refine Nat.le_trans (ou_len f c N k n (i + 1) _) ?_
    unfold ouS
    split
    · simp; omega
    · omega
theorem c71n (M : isM W) (x : Int32) : cl 71 [.ref 39, .long x.toInt64] (tm W (m1 (m2 m 39 12 0) 40 f) l) = some (none, tm W (m1 (m2 m 39 12 (nI [x].length)) 40 f) (llm l ([x].map Int32.toInt64))) := c71a M _
theorem b_out {j : Nat} (hj : j < 600) (h : Inv j W m l) (x0 x1 : Int32) : Both j W m l 20 128 [.int x0, .int x1] [.int x0, .int x1] := by
  obtain ⟨⟨C, M, -⟩, ⟨P, N, E, S, V, hE, hB⟩, -, -, R, -, hrow⟩ := id h
  have p12 := S.P12
  have n100 := S.N100
  rcases arg x0 4 (by decide) with ⟨a0, h0, rfl⟩ | h0
  · rcases arg x1 4 (by decide) with ⟨a1, h1, rfl⟩ | h1
    · obtain ⟨k, hk, ek⟩ := om_lt (m 40) (nI a0) (nI a1) p12 N
      have e : fo (ouS (vw m 13) (nI a1) N k) P 0 [swr (nI k)] = fo (ouS (m 40) (nI a1) N k) P 0 [swr (nI k)] := by
        refine fo_cong P 0 _ fun p a _ hp => ?_
        unfold ouS
        rw [bm_SR S]
      refine Both_q h (r := nI k) (xs := fo (ouS (vw m 13) (nI a1) N k) P 0 [swr (nI k)]) ?_ ?_ ?_
      · have := ou_len (vw m 13) (nI a1) N k P 0 [swr (nI k)]
        simp at this
        omega
      · simp only [q_20, xok C, vok C, sok C.now, xR0 C, xR1 C, xR2 C, xR3 C, xR4 C, xR5 C, xR6 C, xR7 C, xR8 C, xR9 C, sR4 C.now, sR5 C.now, sR6 C.now, sR7 C.now, sR8 C.now, sR9 C.now, sR10 C.now, sI0 C.now, sI1 C.now, sI2 C.now, sI3 C.now, kxi_s, kxr_s, kxv_s, Option.bind_some, if_true, if_false, i10, c189w C, List.nil_append, List.cons_append, List.append_nil, c50y h0, c49y h1, c226' C S.f4 p12 S.f5 n100, om_SR S, ek, c257, w190a C]
        exact d20 C S.f4 p12 S.f5 n100 hk (nI a0) (nI a1) P 0 [swr (nI k)] (by omega) (by simp; omega)
      · rw [e]
        simp only [q_128, rok M, rR0 M, rR1 M, rR2 M, rR4 M, rR6 M, rR7 M, rR8 M, rR9 M, rR11 M, rR16 M, rR17 M, rR24 M, rR25 M, rR26 M, rR27 M, rR28 M, rR29 M, rR30 M, rR32 M, rR33 M, rR34 M, wl4 M, wl5 M, wl6 M, wl7 M, ruw13 M, ruw12 M, kxi_s, kxr_s, kxv_s, Option.bind_some, if_true, if_false, i10, c76y h0, c75y h1, c127 M S.g4 p12 S.g5 n100, ek, c72 hk, c71n M]
        exact d128 M S.g4 p12 S.g5 n100 hk (nI a0) (nI a1) P 0 [swr (nI k)] (by omega) (by simp; omega)
    · refine Both_n h (r := -1) ?_ ?_
      · simp only [q_20, xok C, vok C, sok C.now, xR0 C, xR1 C, xR2 C, xR3 C, xR4 C, xR5 C, xR6 C, xR7 C, xR8 C, xR9 C, sR4 C.now, sR5 C.now, sR6 C.now, sR7 C.now, sR8 C.now, sR9 C.now, sR10 C.now, sI0 C.now, sI1 C.now, sI2 C.now, sI3 C.now, kxi_s, kxr_s, kxv_s, Option.bind_some, if_true, if_false, i10, c189w C, List.nil_append, List.cons_append, List.append_nil, c50y h0, c49n h1]
      · simp only [q_128, rok M, rR0 M, rR1 M, rR2 M, rR4 M, rR6 M, rR7 M, rR8 M, rR9 M, rR11 M, rR16 M, rR17 M, rR24 M, rR25 M, rR26 M, rR27 M, rR28 M, rR29 M, rR30 M, rR32 M, rR33 M, rR34 M, wl4 M, wl5 M, wl6 M, wl7 M, ruw13 M, ruw12 M, kxi_s, kxr_s, kxv_s, Option.bind_some, if_true, if_false, i10, c71a M, c71b M, c71c M, c71d M, c76y h0, c75n h1]
  · refine Both_n h (r := -1) ?_ ?_
    · simp only [q_20, xok C, vok C, sok C.now, xR0 C, xR1 C, xR2 C, xR3 C, xR4 C, xR5 C, xR6 C, xR7 C, xR8 C, xR9 C, sR4 C.now, sR5 C.now, sR6 C.now, sR7 C.now, sR8 C.now, sR9 C.now, sR10 C.now, sI0 C.now, sI1 C.now, sI2 C.now, sI3 C.now, kxi_s, kxr_s, kxv_s, Option.bind_some, if_true, if_false, i10, c189w C, List.nil_append, List.cons_append, List.append_nil, c50n h0]
    · simp only [q_128, rok M, rR0 M, rR1 M, rR2 M, rR4 M, rR6 M, rR7 M, rR8 M, rR9 M, rR11 M, rR16 M, rR17 M, rR24 M, rR25 M, rR26 M, rR27 M, rR28 M, rR29 M, rR30 M, rR32 M, rR33 M, rR34 M, wl4 M, wl5 M, wl6 M, wl7 M, ruw13 M, ruw12 M, kxi_s, kxr_s, kxv_s, Option.bind_some, if_true, if_false, i10, c71a M, c71b M, c71c M, c71d M, c76n h0]
/-! sides -/
theorem c51y {a b : Nat} (ha : a < 4) (hb : b < 4) (hab : a ≠ b) (h : ia_H) : cl 51 [.int (nI a), .int (nI b)] h = some (some (.int 1), h) := by
  rw [q_51, c50y ha, kxi_s, if_neg (by decide), c50y hb, kxi_s, if_neg (by decide), if_neg (fun q => hab ((nI_eq (by omega) (by omega)).mp q))]
theorem c51n {x y : Int32} (hxy : nin x 4 ∨ nin y 4 ∨ x = y) (h : ia_H) : cl 51 [.int x, .int y] h = some (some (.int 0), h) := by
  rw [q_51]
  rcases arg x 4 (by decide) with ⟨a, ha, rfl⟩ | hx
  · rw [c50y ha, kxi_s, if_neg (by decide)]
    rcases arg y 4 (by decide) with ⟨b, hb, rfl⟩ | hy
    · rw [c50y hb, kxi_s, if_neg (by decide), if_pos]
      have no : ∀ c, c < 4 → ¬ nin (nI c) 4 := fun c hc q => q.elim (fun q => nI_pos (by omega) q) (fun q => nI_ge hc (by decide) q)
      rcases hxy with q | q | q
      · exact absurd q (no a ha)
      · exact absurd q (no b hb)
      · exact q
    · rw [c50n hy, kxi_s, if_pos rfl]
  · rw [c50n hx, kxi_s, if_pos rfl]
def sdS (f : Nat → Int32) (a b : Int32) (p : Nat) (s : Int32 × Int32) : Int32 × Int32 := (if f p = a then s.1 ||| (1 <<< (nI p &&& 31)) else s.1, if f p = b then s.2 ||| (1 <<< (nI p &&& 31)) else s.2)
theorem d131 (M : isM W) {P : Nat} (hP : f 1104 = nI P) (hP2 : P ≤ 12) (c a b o : Int32) : ∀ n i (s : Int32 × Int32), i + n = P → dn 131 33 [some (.ref 39), some (.int c), some (.int a), some (.int b), some (.int o), some (.int s.1), some (.int s.2), some (.int (nI i))] [] (tm W (m1 m 40 f) l) = dn 131 33 [some (.ref 39), some (.int c), some (.int a), some (.int b), some (.int o), some (.int (fo (sdS f a b) n i s).1), some (.int (fo (sdS f a b) n i s).2), some (.int (nI P))] [] (tm W (m1 m 40 f) l)
  | 0, i, s, h => by
    rw [show i = P by omega]
    rfl
  | n + 1, i, s, h => by
    have ih := fun s => d131 M hP hP2 c a b o n (i + 1) s (by omega)
    rw [q_131_33]
    simp only [rok M, rR0 M, rR1 M, rR2 M, rR4 M, rR6 M, rR7 M, rR8 M, rR9 M, rR11 M, rR16 M, rR17 M, rR24 M, rR25 M, rR26 M, rR27 M, rR28 M, rR29 M, rR30 M, rR32 M, rR33 M, rR34 M, wl4 M, wl5 M, wl6 M, wl7 M, ruw13 M, ruw12 M, kxi_s, kxr_s, kxv_s, Option.bind_some, if_true, if_false, i10, c71a M, c71b M, c71c M, c71d M, hP, eq_false (nI_ge (show i < P by omega) (show P < 2 ^ 31 by omega)), zadd, wl M (show i < 1108 by omega), q_131_53]
    rw [fo]
    by_cases c1 : f i = a
    · by_cases c2 : f i = b
      · have e : (sdS f a b) i s = (s.1 ||| (1 <<< (nI i &&& 31)), s.2 ||| (1 <<< (nI i &&& 31))) := by simp [sdS, eq_true c1, eq_true c2]
        rw [e]
        simp only [eq_true c1, eq_true c2, if_true, if_false, i10, nI_1, Int32.add_zero, or0, Bool.false_eq_true, Bool.true_eq_false]
        exact ih (s.1 ||| (1 <<< (nI i &&& 31)), s.2 ||| (1 <<< (nI i &&& 31)))
      · have e : (sdS f a b) i s = (s.1 ||| (1 <<< (nI i &&& 31)), s.2) := by simp [sdS, eq_true c1, eq_false c2]
        rw [e]
        simp only [eq_true c1, eq_false c2, if_true, if_false, i10, nI_1, Int32.add_zero, or0, Bool.false_eq_true, Bool.true_eq_false]
        exact ih (s.1 ||| (1 <<< (nI i &&& 31)), s.2)
    · by_cases c3 : f i = b
      · have e : (sdS f a b) i s = (s.1, s.2 ||| (1 <<< (nI i &&& 31))) := by simp [sdS, eq_false c1, eq_true c3]
        rw [e]
        simp only [eq_false c1, eq_true c3, if_true, if_false, i10, nI_1, Int32.add_zero, or0, Bool.false_eq_true, Bool.true_eq_false]
        exact ih (s.1, s.2 ||| (1 <<< (nI i &&& 31)))
      · have e : (sdS f a b) i s = (s.1, s.2) := by simp [sdS, eq_false c1, eq_false c3]
        rw [e]
        simp only [eq_false c1, eq_false c3, if_true, if_false, i10, nI_1, Int32.add_zero, or0, Bool.false_eq_true, Bool.true_eq_false]
        exact ih (s.1, s.2)
theorem sd_mb (f : Nat → Int32) (a b : Int32) : ∀ n i (x y : Int32), fo (sdS f a b) n i (x, y) = (fo (fun p s => if f p = a then s ||| (1 <<< (nI p &&& 31)) else s) n i x, fo (fun p s => if f p = b then s ||| (1 <<< (nI p &&& 31)) else s) n i y)
  | 0, _, _, _ => rfl
  | n + 1, i, x, y => by
    rw [fo, fo, fo]
    exact sd_mb f a b n (i + 1) _ _
theorem orand (x y z : Int32) : (x ||| y) &&& z = (x &&& z) ||| (y &&& z) := by
  apply Int32.toBitVec_inj.mp
  simp only [Int32.toBitVec_and, Int32.toBitVec_or]
  ext i hi
  simp [Bool.and_or_distrib_right]
theorem b_sides {j : Nat} (hj : j < 600) (h : Inv j W m l) (x0 x1 x2 : Int32) : Both j W m l 23 131 [.int x0, .int x1, .int x2] [.int x0, .int x1, .int x2] := by
  obtain ⟨⟨C, M, -⟩, ⟨P, N, E, S, V, hE, hB⟩, -, -, R, -, hrow⟩ := id h
  have p12 := S.P12
  have n100 := S.N100
  rcases arg x0 4 (by decide) with ⟨c, hc, rfl⟩ | h0
  · rcases arg x1 4 (by decide) with ⟨a, ha, rfl⟩ | h1
    · rcases arg x2 4 (by decide) with ⟨b, hb, rfl⟩ | h2
      · by_cases hab : a = b
        · subst hab
          refine Both_n h (r := -1) ?_ ?_
          · simp only [q_23, xok C, vok C, sok C.now, xR0 C, xR1 C, xR2 C, xR3 C, xR4 C, xR5 C, xR6 C, xR7 C, xR8 C, xR9 C, sR4 C.now, sR5 C.now, sR6 C.now, sR7 C.now, sR8 C.now, sR9 C.now, sR10 C.now, sI0 C.now, sI1 C.now, sI2 C.now, sI3 C.now, kxi_s, kxr_s, kxv_s, Option.bind_some, if_true, if_false, i10, c189w C, List.nil_append, List.cons_append, List.append_nil, c49y hc, c51n (Or.inr (Or.inr rfl))]
          · simp only [q_131, rok M, rR0 M, rR1 M, rR2 M, rR4 M, rR6 M, rR7 M, rR8 M, rR9 M, rR11 M, rR16 M, rR17 M, rR24 M, rR25 M, rR26 M, rR27 M, rR28 M, rR29 M, rR30 M, rR32 M, rR33 M, rR34 M, wl4 M, wl5 M, wl6 M, wl7 M, ruw13 M, ruw12 M, kxi_s, kxr_s, kxv_s, Option.bind_some, if_true, if_false, i10, c71a M, c71b M, c71c M, c71d M, c75y hc, c76y ha]
        · have hab' : (nI a = nI b) = False := eq_false (fun q => hab ((nI_eq (by omega) (by omega)).mp q))
          obtain ⟨ka, hka, eka⟩ := mb_lt (m 40) (nI a) p12
          obtain ⟨kb, hkb, ekb⟩ := mb_lt (m 40) (nI b) p12
          obtain ⟨k1, hk1, ek1⟩ := and_lt hka ((omF (m 40) (nI a) (nI c) P N ||| omF (m 40) (nI b) (nI c) P N) ^^^ -1)
          obtain ⟨k2, hk2, ek2⟩ := and_lt hkb ((omF (m 40) (nI a) (nI c) P N ||| omF (m 40) (nI b) (nI c) P N) ^^^ -1)
          refine Both_q h (r := nI k1 ||| nI k2) (xs := [swr (nI k1), swr (nI k2), omF (m 40) (nI a) (nI c) P N ||| omF (m 40) (nI b) (nI c) P N]) (by simp) ?_ ?_
          · simp only [q_23, xok C, vok C, sok C.now, xR0 C, xR1 C, xR2 C, xR3 C, xR4 C, xR5 C, xR6 C, xR7 C, xR8 C, xR9 C, sR4 C.now, sR5 C.now, sR6 C.now, sR7 C.now, sR8 C.now, sR9 C.now, sR10 C.now, sI0 C.now, sI1 C.now, sI2 C.now, sI3 C.now, kxi_s, kxr_s, kxv_s, Option.bind_some, if_true, if_false, i10, c189w C, List.nil_append, List.cons_append, List.append_nil, c49y hc, c51y ha hb hab, c226' C S.f4 p12 S.f5 n100, c207' C S.f4 p12, om_SR S, mb_SR S, eka, ekb, ek1, ek2, c257, w190a C, w190b C, w190c C]
          · simp only [q_131, rok M, rR0 M, rR1 M, rR2 M, rR4 M, rR6 M, rR7 M, rR8 M, rR9 M, rR11 M, rR16 M, rR17 M, rR24 M, rR25 M, rR26 M, rR27 M, rR28 M, rR29 M, rR30 M, rR32 M, rR33 M, rR34 M, wl4 M, wl5 M, wl6 M, wl7 M, ruw13 M, ruw12 M, kxi_s, kxr_s, kxv_s, Option.bind_some, if_true, if_false, i10, c71a M, c71b M, c71c M, c71d M, c75y hc, c76y ha, c76y hb, hab', c127 M S.g4 p12 S.g5 n100]
            rw [show dn 131 33 [some (.ref 39), some (.int (nI c)), some (.int (nI a)), some (.int (nI b)), some (.int (omF (m 40) (nI a) (nI c) P N ||| omF (m 40) (nI b) (nI c) P N)), some (.int 0), some (.int 0), some (.int 0)] [] _ = _ from d131 M S.g4 p12 (nI c) (nI a) (nI b) _ P 0 (0, 0) (by omega), sd_mb]
            rw [show fo (fun p s => if m 40 p = nI a then s ||| (1 <<< (nI p &&& 31)) else s) P 0 0 = nI ka from eka, show fo (fun p s => if m 40 p = nI b then s ||| (1 <<< (nI p &&& 31)) else s) P 0 0 = nI kb from ekb]
            rw [q_131_33]
            simp only [rok M, rR0 M, rR1 M, rR2 M, rR4 M, rR6 M, rR7 M, rR8 M, rR9 M, rR11 M, rR16 M, rR17 M, rR24 M, rR25 M, rR26 M, rR27 M, rR28 M, rR29 M, rR30 M, rR32 M, rR33 M, rR34 M, wl4 M, wl5 M, wl6 M, wl7 M, ruw13 M, ruw12 M, kxi_s, kxr_s, kxv_s, Option.bind_some, if_true, if_false, i10, c71a M, c71b M, c71c M, c71d M, S.g4, eq_true (Int32.le_refl (nI P)), orand, ek1, ek2, c72 hk1, c72 hk2]
            rfl
      · refine Both_n h (r := -1) ?_ ?_
        · simp only [q_23, xok C, vok C, sok C.now, xR0 C, xR1 C, xR2 C, xR3 C, xR4 C, xR5 C, xR6 C, xR7 C, xR8 C, xR9 C, sR4 C.now, sR5 C.now, sR6 C.now, sR7 C.now, sR8 C.now, sR9 C.now, sR10 C.now, sI0 C.now, sI1 C.now, sI2 C.now, sI3 C.now, kxi_s, kxr_s, kxv_s, Option.bind_some, if_true, if_false, i10, c189w C, List.nil_append, List.cons_append, List.append_nil, c49y hc, c51n (Or.inr (Or.inl h2))]
        · simp only [q_131, rok M, rR0 M, rR1 M, rR2 M, rR4 M, rR6 M, rR7 M, rR8 M, rR9 M, rR11 M, rR16 M, rR17 M, rR24 M, rR25 M, rR26 M, rR27 M, rR28 M, rR29 M, rR30 M, rR32 M, rR33 M, rR34 M, wl4 M, wl5 M, wl6 M, wl7 M, ruw13 M, ruw12 M, kxi_s, kxr_s, kxv_s, Option.bind_some, if_true, if_false, i10, c71a M, c71b M, c71c M, c71d M, c75y hc, c76y ha, c76n h2]
    · refine Both_n h (r := -1) ?_ ?_
      · simp only [q_23, xok C, vok C, sok C.now, xR0 C, xR1 C, xR2 C, xR3 C, xR4 C, xR5 C, xR6 C, xR7 C, xR8 C, xR9 C, sR4 C.now, sR5 C.now, sR6 C.now, sR7 C.now, sR8 C.now, sR9 C.now, sR10 C.now, sI0 C.now, sI1 C.now, sI2 C.now, sI3 C.now, kxi_s, kxr_s, kxv_s, Option.bind_some, if_true, if_false, i10, c189w C, List.nil_append, List.cons_append, List.append_nil, c49y hc, c51n (Or.inl h1)]
      · simp only [q_131, rok M, rR0 M, rR1 M, rR2 M, rR4 M, rR6 M, rR7 M, rR8 M, rR9 M, rR11 M, rR16 M, rR17 M, rR24 M, rR25 M, rR26 M, rR27 M, rR28 M, rR29 M, rR30 M, rR32 M, rR33 M, rR34 M, wl4 M, wl5 M, wl6 M, wl7 M, ruw13 M, ruw12 M, kxi_s, kxr_s, kxv_s, Option.bind_some, if_true, if_false, i10, c71a M, c71b M, c71c M, c71d M, c75y hc, c76n h1]
  · refine Both_n h (r := -1) ?_ ?_
    · simp only [q_23, xok C, vok C, sok C.now, xR0 C, xR1 C, xR2 C, xR3 C, xR4 C, xR5 C, xR6 C, xR7 C, xR8 C, xR9 C, sR4 C.now, sR5 C.now, sR6 C.now, sR7 C.now, sR8 C.now, sR9 C.now, sR10 C.now, sI0 C.now, sI1 C.now, sI2 C.now, sI3 C.now, kxi_s, kxr_s, kxv_s, Option.bind_some, if_true, if_false, i10, c189w C, List.nil_append, List.cons_append, List.append_nil, c49n h0]
    · simp only [q_131, rok M, rR0 M, rR1 M, rR2 M, rR4 M, rR6 M, rR7 M, rR8 M, rR9 M, rR11 M, rR16 M, rR17 M, rR24 M, rR25 M, rR26 M, rR27 M, rR28 M, rR29 M, rR30 M, rR32 M, rR33 M, rR34 M, wl4 M, wl5 M, wl6 M, wl7 M, ruw13 M, ruw12 M, kxi_s, kxr_s, kxv_s, Option.bind_some, if_true, if_false, i10, c71a M, c71b M, c71c M, c71d M, c75n h0]
end QRI

section QRH
variable {W : tm_W} {m : Nat → Nat → Int32} {l : Nat → Nat → Int64} {f g : Nat → Int32}
/-! who is OUT -/
def omF (f : Nat → Int32) (t c : Int32) (P N : Nat) : Int32 := fo (fun p a => if f p = t ∧ ¬ fbr (bw f) (nI p) c N 0 = -1 then a ||| (1 <<< (nI p &&& 31)) else a) P 0 0
theorem c226' (C : isC W) {P N : Nat} (hP : f 1104 = nI P) (hP2 : P ≤ 12) (hN : f 1105 = nI N) (hN2 : N ≤ 100) (t c : Int32) : cl 226 [.ref 13, .int t, .int c] (tm W (wv m 13 f) l) = some (some (.int (omF f t c P N)), tm W (wv m 13 f) l) := c226 C.now hP hP2 hN hN2 t c
theorem om_lt (f : Nat → Int32) (t c : Int32) {P : Nat} (hP : P ≤ 12) (N : Nat) : ∃ k, k < 4096 ∧ omF f t c P N = nI k := mask0 (fun p => f p = t ∧ ¬ fbr (bw f) (nI p) c N 0 = -1) hP
theorem om_SR {P N E : Nat} (S : SR f g P N E) (t c : Int32) : omF f t c P N = omF g t c P N := by
  unfold omF
  refine fo_cong P 0 0 fun b a _ hb => ?_
  rw [S.tm (by omega), S.fbr]
theorem d127 (M : isM W) {P N : Nat} (hP : f 1104 = nI P) (hP2 : P ≤ 12) (hN : f 1105 = nI N) (hN2 : N ≤ 100) (t c : Int32) : ∀ n i a, i + n = P → dn 127 4 [some (.ref 39), some (.int t), some (.int c), some (.int a), some (.int (nI i))] [] (tm W (m1 m 40 f) l) = some (some (.int (fo (fun p a => if f p = t ∧ ¬ fbr (bw f) (nI p) c N 0 = -1 then a ||| (1 <<< (nI p &&& 31)) else a) n i a)), tm W (m1 m 40 f) l)
  | 0, i, a, h => by
    rw [q_127_4, rR0 M, Option.bind_some, wl4 M, Option.bind_some, hP, if_pos (nI_le (by omega) (by omega))]
    rfl
  | n + 1, i, a, h => by
    rw [q_127_4, rR0 M, Option.bind_some, wl4 M, Option.bind_some, hP, if_neg (nI_ge (by omega) (by omega)), Option.bind_some, zadd, wl M (by omega), Option.bind_some, if_pos (rok M _), c91 M hN hN2, kxi_s, fo]
    by_cases ht : f i = t
    · by_cases hf : fbr (bw f) (nI i) c N 0 = -1
      · rw [if_pos ht, if_pos hf, if_pos rfl, if_neg (fun q => q.2 hf), nI_1, or0]
        exact d127 M hP hP2 hN hN2 t c n (i + 1) _ (by omega)
      · rw [if_pos ht, if_neg hf, if_neg (by decide), if_pos ⟨ht, hf⟩, nI_1]
        exact d127 M hP hP2 hN hN2 t c n (i + 1) _ (by omega)
    · rw [if_neg ht, if_neg (fun q => ht q.1), nI_1, or0]
      exact d127 M hP hP2 hN hN2 t c n (i + 1) _ (by omega)
theorem c127 (M : isM W) {P N : Nat} (hP : f 1104 = nI P) (hP2 : P ≤ 12) (hN : f 1105 = nI N) (hN2 : N ≤ 100) (t c : Int32) : cl 127 [.ref 39, .int t, .int c] (tm W (m1 m 40 f) l) = some (some (.int (omF f t c P N)), tm W (m1 m 40 f) l) := by
  rw [q_127]
  exact d127 M hP hP2 hN hN2 t c P 0 0 (by omega)
/-! risks -/
theorem c201w (C : isC W) {c S : Nat} (hc : c < 4) (hS : m 10 (12 * c + 3) = nI S) (hS2 : S ≤ 4) (v : Int32) : cl 201 [.ref 9, .int (nI c), .int v] (tm W (wv m 13 f) l) = some (some (.int (bnA (fun k => m 10 (12 * c + (4 + 2 * k))) (fun k => m 10 (12 * c + (4 + 2 * k + 1))) v S 0)), tm W (wv m 13 f) l) := by
  have e := c201 (m := wv m 13 f) (l := l) C hc (by rw [wv10]; exact hS) hS2 v
  rw [wv10] at e
  exact e
def rkS (bn : Int32 → Int32) (f : Nat → Int32) (t : Int32) (c : Nat) (p : Nat) (s : Int32) : Int32 := if f p = t ∧ ¬ bn (f (12 + (4 * p + c)) + 1) ≤ 0 then s ||| (1 <<< (nI p &&& 31)) else s
abbrev bnC (m : Nat → Nat → Int32) (c S : Nat) (v : Int32) : Int32 := bnA (fun k => m 10 (12 * c + (4 + 2 * k))) (fun k => m 10 (12 * c + (4 + 2 * k + 1))) v S 0
abbrev bnR (m : Nat → Nat → Int32) (c S : Nat) (v : Int32) : Int32 := bnA (fun k => m 45 (4 * c + k)) (fun k => m 46 (4 * c + k)) v S 0
theorem d26 (C : isC W) {P N : Nat} (hP : f 1104 = nI P) (hP2 : P ≤ 12) (hN : f 1105 = nI N) (hN2 : N ≤ 100) {c S : Nat} (hc : c < 4) (hS : m 10 (12 * c + 3) = nI S) (hS2 : S ≤ 4) (t : Int32) : ∀ n i (s : Int32), i + n = P → dn 26 12 [some (.ref 0), some (.int t), some (.int (nI c)), some (.int s), some (.int (nI i))] [] (tm W (wv m 13 f) l) = some (some (.int (fo (rkS (bnC m c S) f t c) n i s)), tm W (wv (rwm m [swr ((fo (rkS (bnC m c S) f t c) n i s) &&& (omF f t (nI c) P N ^^^ -1))]) 13 f) l)
  | 0, i, s, h => by
    have hi : i = P := by omega
    subst hi
    rw [q_26_12]
    simp only [xok C, vok C, sok C.now, xR0 C, xR1 C, xR2 C, xR3 C, xR4 C, xR5 C, xR6 C, xR7 C, xR8 C, xR9 C, sR4 C.now, sR5 C.now, sR6 C.now, sR7 C.now, sR8 C.now, sR9 C.now, sR10 C.now, sI0 C.now, sI1 C.now, sI2 C.now, sI3 C.now, kxi_s, kxr_s, kxv_s, Option.bind_some, if_true, if_false, i10, c189w C, List.nil_append, List.cons_append, List.append_nil, hP, eq_true (Int32.le_refl (nI i)), fo, c226' C hP hP2 hN hN2, c257, w190a C]
  | n + 1, i, s, h => by
    have ih := fun s => d26 C hP hP2 hN hN2 hc hS hS2 t n (i + 1) s (by omega)
    rw [q_26_12]
    simp only [xok C, vok C, sok C.now, xR0 C, xR1 C, xR2 C, xR3 C, xR4 C, xR5 C, xR6 C, xR7 C, xR8 C, xR9 C, sR4 C.now, sR5 C.now, sR6 C.now, sR7 C.now, sR8 C.now, sR9 C.now, sR10 C.now, sI0 C.now, sI1 C.now, sI2 C.now, sI3 C.now, kxi_s, kxr_s, kxv_s, Option.bind_some, if_true, if_false, i10, c189w C, List.nil_append, List.cons_append, List.append_nil, hP, eq_false (nI_ge (show i < P by omega) (show P < 2 ^ 31 by omega)), sl1 C.now (show i < 12 by omega), c208 C.now (show i < 12 by omega) hc, uok C, c201w C hc hS hS2, c54]
    rw [fo]
    by_cases c1 : f i = t
    · by_cases c2 : bnC m c S (f (12 + (4 * i + c)) + 1) ≤ 0
      · have e : (rkS (bnC m c S) f t c) i s = s := by simp [rkS, eq_true c1, eq_true c2]
        rw [e]
        simp only [eq_true c1, eq_true c2, if_true, if_false, i10, nI_1, Int32.add_zero, or0, Bool.false_eq_true, Bool.true_eq_false]
        exact ih (s)
      · have e : (rkS (bnC m c S) f t c) i s = s ||| (1 <<< (nI i &&& 31)) := by simp [rkS, eq_true c1, eq_false c2]
        rw [e]
        simp only [eq_true c1, eq_false c2, if_true, if_false, i10, nI_1, Int32.add_zero, or0, Bool.false_eq_true, Bool.true_eq_false]
        exact ih (s ||| (1 <<< (nI i &&& 31)))
    · have e : (rkS (bnC m c S) f t c) i s = s := by simp [rkS, eq_false c1]
      rw [e]
      simp only [eq_false c1, if_true, if_false, i10, nI_1, Int32.add_zero, or0, Bool.false_eq_true, Bool.true_eq_false]
      exact ih (s)
theorem d140 (M : isM W) {P N : Nat} (hP : f 1104 = nI P) (hP2 : P ≤ 12) (hN : f 1105 = nI N) (hN2 : N ≤ 100) {c S : Nat} (hc : c < 4) (hS : m 44 (4 * c + 3) = nI S) (hS2 : S ≤ 4) (t : Int32) : ∀ n i (s : Int32), i + n = P → dn 140 15 [some (.ref 39), some (.int t), some (.int (nI c)), some (.int s), some (.int (nI i))] [] (tm W (m1 m 40 f) l) = dn 140 15 [some (.ref 39), some (.int t), some (.int (nI c)), some (.int (fo (rkS (bnR m c S) f t c) n i s)), some (.int (nI P))] [] (tm W (m1 m 40 f) l)
  | 0, i, s, h => by
    have hi : i = P := by omega
    subst hi
    rfl
  | n + 1, i, s, h => by
    have ih := fun s => d140 M hP hP2 hN hN2 hc hS hS2 t n (i + 1) s (by omega)
    rw [q_140_15]
    simp only [rok M, rR0 M, rR1 M, rR2 M, rR4 M, rR6 M, rR7 M, rR8 M, rR9 M, rR11 M, rR16 M, rR17 M, rR24 M, rR25 M, rR26 M, rR27 M, rR28 M, rR29 M, rR30 M, rR32 M, rR33 M, rR34 M, wl4 M, wl5 M, wl6 M, wl7 M, ruw13 M, ruw12 M, kxi_s, kxr_s, kxv_s, Option.bind_some, if_true, if_false, i10, c71a M, c71b M, c71c M, c71d M, hP, eq_false (nI_ge (show i < P by omega) (show P < 2 ^ 31 by omega)), zadd, wl M (show i < 1108 by omega), ixc, wl M (show 12 + (4 * i + c) < 1108 by omega), c96 M hc hS hS2]
    rw [fo]
    by_cases c1 : f i = t
    · by_cases c2 : bnR m c S (f (12 + (4 * i + c)) + 1) ≤ 0
      · have e : (rkS (bnR m c S) f t c) i s = s := by simp [rkS, eq_true c1, eq_true c2]
        rw [e]
        simp only [eq_true c1, eq_true c2, if_true, if_false, i10, nI_1, Int32.add_zero, or0, Bool.false_eq_true, Bool.true_eq_false]
        exact ih (s)
      · have e : (rkS (bnR m c S) f t c) i s = s ||| (1 <<< (nI i &&& 31)) := by simp [rkS, eq_true c1, eq_false c2]
        rw [e]
        simp only [eq_true c1, eq_false c2, if_true, if_false, i10, nI_1, Int32.add_zero, or0, Bool.false_eq_true, Bool.true_eq_false]
        exact ih (s ||| (1 <<< (nI i &&& 31)))
    · have e : (rkS (bnR m c S) f t c) i s = s := by simp [rkS, eq_false c1]
      rw [e]
      simp only [eq_false c1, if_true, if_false, i10, nI_1, Int32.add_zero, or0, Bool.false_eq_true, Bool.true_eq_false]
      exact ih (s)
theorem rk_lt (bn : Int32 → Int32) (f : Nat → Int32) (t : Int32) (c : Nat) {P : Nat} (hP : P ≤ 12) : ∃ k, k < 4096 ∧ fo (rkS bn f t c) P 0 0 = nI k := mask0 (fun p => f p = t ∧ ¬ bn (f (12 + (4 * p + c)) + 1) ≤ 0) hP
theorem bnR_mm (m : Nat → Nat → Int32) (v : Int32) (xs : List Int32) (c S : Nat) : bnR (m2 (rwm m xs) 39 13 v) c S = bnR m c S := by
  funext x
  unfold bnR
  rw [mm3 _ _ _ (by decide), mm3 _ _ _ (by decide)]
theorem b_risks {j : Nat} (hj : j < 600) (h : Inv j W m l) (x0 x1 : Int32) : Both j W m l 26 140 [.int x0, .int x1] [.int x0, .int x1] := by
  obtain ⟨⟨C, M, -⟩, ⟨P, N, E, S, V, hE, hB⟩, -, -, R, -, hrow⟩ := id h
  have p12 := S.P12
  have n100 := S.N100
  rcases arg x0 4 (by decide) with ⟨a0, h0, rfl⟩ | h0
  · rcases arg x1 4 (by decide) with ⟨a1, h1, rfl⟩ | h1
    · obtain ⟨s, hs, q3, q3', eb⟩ := bn_R (R a1 h1)
      have e : fo (rkS (bnC m a1 s) (vw m 13) (nI a0) a1) P 0 0 = fo (rkS (bnR m a1 s) (m 40) (nI a0) a1) P 0 0 := by
        refine fo_cong P 0 0 fun p a _ hp => ?_
        unfold rkS
        rw [S.tm (by omega), S.mid (by omega) (by omega), show bnC m a1 s = bnR m a1 s from funext eb]
      refine Both_q h (r := fo (rkS (bnC m a1 s) (vw m 13) (nI a0) a1) P 0 0) (xs := [swr (fo (rkS (bnC m a1 s) (vw m 13) (nI a0) a1) P 0 0 &&& (omF (vw m 13) (nI a0) (nI a1) P N ^^^ -1))]) (by simp) ?_ ?_
      · simp only [q_26, xok C, vok C, sok C.now, xR0 C, xR1 C, xR2 C, xR3 C, xR4 C, xR5 C, xR6 C, xR7 C, xR8 C, xR9 C, sR4 C.now, sR5 C.now, sR6 C.now, sR7 C.now, sR8 C.now, sR9 C.now, sR10 C.now, sI0 C.now, sI1 C.now, sI2 C.now, sI3 C.now, kxi_s, kxr_s, kxv_s, Option.bind_some, if_true, if_false, i10, c189w C, List.nil_append, List.cons_append, List.append_nil, c50y h0, c49y h1]
        exact d26 C S.f4 p12 S.f5 n100 h1 q3 hs (nI a0) P 0 0 (by omega)
      · rw [e, om_SR S]
        simp only [q_140, rok M, rR0 M, rR1 M, rR2 M, rR4 M, rR6 M, rR7 M, rR8 M, rR9 M, rR11 M, rR16 M, rR17 M, rR24 M, rR25 M, rR26 M, rR27 M, rR28 M, rR29 M, rR30 M, rR32 M, rR33 M, rR34 M, wl4 M, wl5 M, wl6 M, wl7 M, ruw13 M, ruw12 M, kxi_s, kxr_s, kxv_s, Option.bind_some, if_true, if_false, i10, c71a M, c71b M, c71c M, c71d M, c76y h0, c75y h1]
        obtain ⟨k, hk, ek⟩ := rk_lt (bnR m a1 s) (m 40) (nI a0) a1 p12
        obtain ⟨k2, hk2, ek2⟩ := and_lt hk (omF (m 40) (nI a0) (nI a1) P N ^^^ -1)
        have ed := fun xs => d140 (m := m2 (rwm m xs) 39 13 0) (l := l) (f := m 40) M S.g4 p12 S.g5 n100 h1 (by rw [mm3 _ _ _ (by decide)]; exact q3') hs (nI a0) P 0 0 (by omega)
        simp only [bnR_mm] at ed
        rw [show dn 140 15 [some (.ref 39), some (.int (nI a0)), some (.int (nI a1)), some (.int 0), some (.int 0)] [] _ = _ from ed _, ek]
        rw [q_140_15]
        simp only [rok M, rR0 M, rR1 M, rR2 M, rR4 M, rR6 M, rR7 M, rR8 M, rR9 M, rR11 M, rR16 M, rR17 M, rR24 M, rR25 M, rR26 M, rR27 M, rR28 M, rR29 M, rR30 M, rR32 M, rR33 M, rR34 M, wl4 M, wl5 M, wl6 M, wl7 M, ruw13 M, ruw12 M, kxi_s, kxr_s, kxv_s, Option.bind_some, if_true, if_false, i10, c71a M, c71b M, c71c M, c71d M, S.g4, eq_true (Int32.le_refl (nI P)), c127 M S.g4 p12 S.g5 n100, ek2, c72 hk2]
        rfl
    · refine Both_n h (r := -1) ?_ ?_
      · simp only [q_26, xok C, vok C, sok C.now, xR0 C, xR1 C, xR2 C, xR3 C, xR4 C, xR5 C, xR6 C, xR7 C, xR8 C, xR9 C, sR4 C.now, sR5 C.now, sR6 C.now, sR7 C.now, sR8 C.now, sR9 C.now, sR10 C.now, sI0 C.now, sI1 C.now, sI2 C.now, sI3 C.now, kxi_s, kxr_s, kxv_s, Option.bind_some, if_true, if_false, i10, c189w C, List.nil_append, List.cons_append, List.append_nil, c50y h0, c49n h1]
      · simp only [q_140, rok M, rR0 M, rR1 M, rR2 M, rR4 M, rR6 M, rR7 M, rR8 M, rR9 M, rR11 M, rR16 M, rR17 M, rR24 M, rR25 M, rR26 M, rR27 M, rR28 M, rR29 M, rR30 M, rR32 M, rR33 M, rR34 M, wl4 M, wl5 M, wl6 M, wl7 M, ruw13 M, ruw12 M, kxi_s, kxr_s, kxv_s, Option.bind_some, if_true, if_false, i10, c71a M, c71b M, c71c M, c71d M, c76y h0, c75n h1]
  · refine Both_n h (r := -1) ?_ ?_
    · simp only [q_26, xok C, vok C, sok C.now, xR0 C, xR1 C, xR2 C, xR3 C, xR4 C, xR5 C, xR6 C, xR7 C, xR8 C, xR9 C, sR4 C.now, sR5 C.now, sR6 C.now, sR7 C.now, sR8 C.now, sR9 C.now, sR10 C.now, sI0 C.now, sI1 C.now, sI2 C.now, sI3 C.now, kxi_s, kxr_s, kxv_s, Option.bind_some, if_true, if_false, i10, c189w C, List.nil_append, List.cons_append, List.append_nil, c50n h0]
    · simp only [q_140, rok M, rR0 M, rR1 M, rR2 M, rR4 M, rR6 M, rR7 M, rR8 M, rR9 M, rR11 M, rR16 M, rR17 M, rR24 M, rR25 M, rR26 M, rR27 M, rR28 M, rR29 M, rR30 M, rR32 M, rR33 M, rR34 M, wl4 M, wl5 M, wl6 M, wl7 M, ruw13 M, ruw12 M, kxi_s, kxr_s, kxv_s, Option.bind_some, if_true, if_false, i10, c71a M, c71b M, c71c M, c71d M, c76n h0]
/-! until -/
def uC (v : Int32) (p : Nat) (s : Int32 × Int32) : Int32 × Int32 := if v ≤ s.1 then (if v ≤ 0 then s else if v = s.1 then (s.1, s.2 ||| (1 <<< (nI p &&& 31))) else s) else (if v ≤ 0 then (v, 0) else (v, (0 : Int32) ||| (1 <<< (nI p &&& 31))))
def uR (v : Int32) (p : Nat) (s : Int32 × Int32) : Int32 × Int32 := if v = 0 then s else if s.1 ≤ v then (if v ≤ s.1 then (v, s.2 ||| (1 <<< (nI p &&& 31))) else (v, 1 <<< (nI p &&& 31))) else s
def utC (f : Nat → Int32) (t c : Int32) (N : Nat) (p : Nat) (s : Int32 × Int32) : Int32 × Int32 := if f p = t then uC (bmF (bw f) (nI p) c N) p s else uC 0 p s
def utR (f : Nat → Int32) (t c : Int32) (N : Nat) (p : Nat) (s : Int32 × Int32) : Int32 × Int32 := if f p = t then uR (bmF (bw f) (nI p) c N) p s else s
theorem d24 (C : isC W) {P N : Nat} (hP : f 1104 = nI P) (hP2 : P ≤ 12) (hN : f 1105 = nI N) (hN2 : N ≤ 100) (t c : Int32) : ∀ n i (s : Int32 × Int32) (l6 : Option Value), i + n = P → dn 24 14 [some (.ref 0), some (.int t), some (.int c), some (.int s.1), some (.int s.2), some (.int (nI i)), l6] [] (tm W (wv m 13 f) l) = some (some (.int ((fo (utC f t c N) n i s)).1), tm W (wv (rwm m [((fo (utC f t c N) n i s)).2]) 13 f) l)
  | 0, i, s, l6, h => by
    have hi : i = P := by omega
    subst hi
    rw [q_24_14]
    simp only [xok C, vok C, sok C.now, xR0 C, xR1 C, xR2 C, xR3 C, xR4 C, xR5 C, xR6 C, xR7 C, xR8 C, xR9 C, sR4 C.now, sR5 C.now, sR6 C.now, sR7 C.now, sR8 C.now, sR9 C.now, sR10 C.now, sI0 C.now, sI1 C.now, sI2 C.now, sI3 C.now, kxi_s, kxr_s, kxv_s, Option.bind_some, if_true, if_false, i10, c189w C, List.nil_append, List.cons_append, List.append_nil, hP, eq_true (Int32.le_refl (nI i)), fo, w190a C]
  | n + 1, i, s, l6, h => by
    have ih := fun s l6 => d24 C hP hP2 hN hN2 t c n (i + 1) s l6 (by omega)
    rw [q_24_14]
    simp only [xok C, vok C, sok C.now, xR0 C, xR1 C, xR2 C, xR3 C, xR4 C, xR5 C, xR6 C, xR7 C, xR8 C, xR9 C, sR4 C.now, sR5 C.now, sR6 C.now, sR7 C.now, sR8 C.now, sR9 C.now, sR10 C.now, sI0 C.now, sI1 C.now, sI2 C.now, sI3 C.now, kxi_s, kxr_s, kxv_s, Option.bind_some, if_true, if_false, i10, c189w C, List.nil_append, List.cons_append, List.append_nil, hP, eq_false (nI_ge (show i < P by omega) (show P < 2 ^ 31 by omega)), sl1 C.now (show i < 12 by omega), c223' C hN hN2, q_24_33, q_24_41, c54]
    rw [fo]
    by_cases c1 : f i = t
    · by_cases c2 : bmF (bw f) (nI i) c N ≤ s.1
      · by_cases c3 : bmF (bw f) (nI i) c N ≤ 0
        · have e : (utC f t c N) i s = s := by simp [utC, uC, eq_true c1, eq_true c2, eq_true c3]
          rw [e]
          simp only [eq_true c1, eq_true c2, eq_true c3, if_true, if_false, i10, nI_1, Int32.add_zero, or0, Bool.false_eq_true, Bool.true_eq_false, Int32.le_refl]
          exact ih (s) _
        · by_cases c4 : bmF (bw f) (nI i) c N = s.1
          · have e : (utC f t c N) i s = (s.1, s.2 ||| (1 <<< (nI i &&& 31))) := by simp [utC, uC, eq_true c1, eq_true c2, eq_false c3, eq_true c4]
            rw [e]
            simp only [eq_true c1, eq_true c2, eq_false c3, eq_true c4, if_true, if_false, i10, nI_1, Int32.add_zero, or0, Bool.false_eq_true, Bool.true_eq_false, Int32.le_refl]
            exact ih ((s.1, s.2 ||| (1 <<< (nI i &&& 31)))) _
          · have e : (utC f t c N) i s = s := by simp [utC, uC, eq_true c1, eq_true c2, eq_false c3, eq_false c4]
            rw [e]
            simp only [eq_true c1, eq_true c2, eq_false c3, eq_false c4, if_true, if_false, i10, nI_1, Int32.add_zero, or0, Bool.false_eq_true, Bool.true_eq_false, Int32.le_refl]
            exact ih (s) _
      · by_cases c5 : bmF (bw f) (nI i) c N ≤ 0
        · have e : (utC f t c N) i s = (bmF (bw f) (nI i) c N, 0) := by simp [utC, uC, eq_true c1, eq_false c2, eq_true c5]
          rw [e]
          simp only [eq_true c1, eq_false c2, eq_true c5, if_true, if_false, i10, nI_1, Int32.add_zero, or0, Bool.false_eq_true, Bool.true_eq_false, Int32.le_refl]
          exact ih ((bmF (bw f) (nI i) c N, 0)) _
        · have e : (utC f t c N) i s = (bmF (bw f) (nI i) c N, (0 : Int32) ||| (1 <<< (nI i &&& 31))) := by simp [utC, uC, eq_true c1, eq_false c2, eq_false c5]
          rw [e]
          simp only [eq_true c1, eq_false c2, eq_false c5, if_true, if_false, i10, nI_1, Int32.add_zero, or0, Bool.false_eq_true, Bool.true_eq_false, Int32.le_refl]
          exact ih ((bmF (bw f) (nI i) c N, (0 : Int32) ||| (1 <<< (nI i &&& 31)))) _
    · by_cases c6 : 0 ≤ s.1
      · have e : (utC f t c N) i s = s := by simp [utC, uC, eq_false c1, eq_true c6]
        rw [e]
        simp only [eq_false c1, eq_true c6, if_true, if_false, i10, nI_1, Int32.add_zero, or0, Bool.false_eq_true, Bool.true_eq_false, Int32.le_refl]
        exact ih (s) _
      · have e : (utC f t c N) i s = (0, 0) := by simp [utC, uC, eq_false c1, eq_false c6]
        rw [e]
        simp only [eq_false c1, eq_false c6, if_true, if_false, i10, nI_1, Int32.add_zero, or0, Bool.false_eq_true, Bool.true_eq_false, Int32.le_refl]
        exact ih ((0, 0)) _
theorem d132 (M : isM W) {P N : Nat} (hP : f 1104 = nI P) (hP2 : P ≤ 12) (hN : f 1105 = nI N) (hN2 : N ≤ 100) (t c : Int32) : ∀ n i (s : Int32 × Int32) (l6 : Option Value), i + n = P → dn 132 17 [some (.ref 39), some (.int t), some (.int c), some (.int s.1), some (.int s.2), some (.int (nI i)), l6] [] (tm W (m1 m 40 f) l) = some (some (.int ((fo (utR f t c N) n i s)).1), tm W (m1 (m2 m 39 12 (nI ([((fo (utR f t c N) n i s)).2]).length)) 40 f) (llm l (([((fo (utR f t c N) n i s)).2]).map Int32.toInt64)))
  | 0, i, s, l6, h => by
    have hi : i = P := by omega
    subst hi
    rw [q_132_17]
    simp only [rok M, rR0 M, rR1 M, rR2 M, rR4 M, rR6 M, rR7 M, rR8 M, rR9 M, rR11 M, rR16 M, rR17 M, rR24 M, rR25 M, rR26 M, rR27 M, rR28 M, rR29 M, rR30 M, rR32 M, rR33 M, rR34 M, wl4 M, wl5 M, wl6 M, wl7 M, ruw13 M, ruw12 M, kxi_s, kxr_s, kxv_s, Option.bind_some, if_true, if_false, i10, c71a M, c71b M, c71c M, c71d M, hP, eq_true (Int32.le_refl (nI i)), fo]
    rfl
  | n + 1, i, s, l6, h => by
    have ih := fun s l6 => d132 M hP hP2 hN hN2 t c n (i + 1) s l6 (by omega)
    rw [q_132_17]
    simp only [rok M, rR0 M, rR1 M, rR2 M, rR4 M, rR6 M, rR7 M, rR8 M, rR9 M, rR11 M, rR16 M, rR17 M, rR24 M, rR25 M, rR26 M, rR27 M, rR28 M, rR29 M, rR30 M, rR32 M, rR33 M, rR34 M, wl4 M, wl5 M, wl6 M, wl7 M, ruw13 M, ruw12 M, kxi_s, kxr_s, kxv_s, Option.bind_some, if_true, if_false, i10, c71a M, c71b M, c71c M, c71d M, hP, eq_false (nI_ge (show i < P by omega) (show P < 2 ^ 31 by omega)), zadd, wl M (show i < 1108 by omega), c126 M hN hN2, q_132_38]
    rw [fo]
    by_cases c1 : f i = t
    · by_cases c2 : bmF (bw f) (nI i) c N = 0
      · have e : (utR f t c N) i s = s := by simp [utR, uR, eq_true c1, eq_true c2]
        rw [e]
        simp only [eq_true c1, eq_true c2, if_true, if_false, i10, nI_1, Int32.add_zero, or0, Bool.false_eq_true, Bool.true_eq_false]
        exact ih (s) _
      · by_cases c3 : s.1 ≤ bmF (bw f) (nI i) c N
        · by_cases c4 : bmF (bw f) (nI i) c N ≤ s.1
          · have e : (utR f t c N) i s = (bmF (bw f) (nI i) c N, s.2 ||| (1 <<< (nI i &&& 31))) := by simp [utR, uR, eq_true c1, eq_false c2, eq_true c3, eq_true c4]
            rw [e]
            simp only [eq_true c1, eq_false c2, eq_true c3, eq_true c4, if_true, if_false, i10, nI_1, Int32.add_zero, or0, Bool.false_eq_true, Bool.true_eq_false]
            exact ih ((bmF (bw f) (nI i) c N, s.2 ||| (1 <<< (nI i &&& 31)))) _
          · have e : (utR f t c N) i s = (bmF (bw f) (nI i) c N, 1 <<< (nI i &&& 31)) := by simp [utR, uR, eq_true c1, eq_false c2, eq_true c3, eq_false c4]
            rw [e]
            simp only [eq_true c1, eq_false c2, eq_true c3, eq_false c4, if_true, if_false, i10, nI_1, Int32.add_zero, or0, Bool.false_eq_true, Bool.true_eq_false]
            exact ih ((bmF (bw f) (nI i) c N, 1 <<< (nI i &&& 31))) _
        · have e : (utR f t c N) i s = s := by simp [utR, uR, eq_true c1, eq_false c2, eq_false c3]
          rw [e]
          simp only [eq_true c1, eq_false c2, eq_false c3, if_true, if_false, i10, nI_1, Int32.add_zero, or0, Bool.false_eq_true, Bool.true_eq_false]
          exact ih (s) _
    · have e : (utR f t c N) i s = s := by simp [utR, uR, eq_false c1]
      rw [e]
      simp only [eq_false c1, if_true, if_false, i10, nI_1, Int32.add_zero, or0, Bool.false_eq_true, Bool.true_eq_false]
      exact ih (s) _
theorem or0' (x : Int32) : 0 ||| x = x := by
  apply Int32.toBitVec_inj.mp
  simp
theorem uCR {k k' : Nat} (hk : k < 2 ^ 20) (hk' : k' < 2 ^ 20) (p : Nat) (x : Int32) : uC (nI k) p (nI k', x) = uR (nI k) p (nI k', x) ∧ ∃ k'', k'' ≤ max k k' ∧ (uR (nI k) p (nI k', x)).1 = nI k'' := by
  unfold uC uR
  simp only [nle (show k < 2 ^ 31 by omega) (show k' < 2 ^ 31 by omega), nle (show k' < 2 ^ 31 by omega) (show k < 2 ^ 31 by omega), nle0 (show k < 2 ^ 31 by omega), neq0 (show k < 2 ^ 31 by omega), nI_eq (show k < 2 ^ 31 by omega) (show k' < 2 ^ 31 by omega), or0']
  by_cases h1 : k = 0
  · subst h1
    exact ⟨by simp, k', by omega, by simp⟩
  · by_cases h2 : k ≤ k'
    · by_cases h3 : k' ≤ k
      · have : k = k' := by omega
        subst this
        exact ⟨by simp [h1], k, by omega, by simp [h1]⟩
      · have h4 : ¬ k = k' := by omega
        exact ⟨by simp [h1, h2, h3, h4], k', by omega, by simp [h1, h2, h3, h4]⟩
    · have h3 : k' ≤ k := by omega
      exact ⟨by simp [h1, h2, h3], k, by omega, by simp [h1, h2, h3]⟩
/-- LEFT of a ban -/
theorem lf_v {P N E : Nat} (V : VR g P N E) {b : Nat} (hb : b < N) : ∃ k, k ≤ 12 ∧ g (304 + (8 * b + 2)) = nI k := by
  obtain ⟨-, -, ⟨k, h1, h2, -⟩, -⟩ := V.2.1 b hb
  exact ⟨k, h1, h2⟩
theorem sm_v {P N E : Nat} (V : VR g P N E) (q : Nat → Prop) [DecidablePred q] : ∀ n i k, i + n ≤ N → ∃ k', k' ≤ k + 12 * n ∧ fo (fun b a => if q b then a + g (304 + (8 * b + 2)) else a) n i (nI k) = nI k'
  | 0, i, k, h => ⟨k, by omega, rfl⟩
  | n + 1, i, k, h => by
    rw [fo]
    split
    · obtain ⟨x, hx, ex⟩ := lf_v V (show i < N by omega)
      rw [ex, nI_add]
      obtain ⟨k', h1, h2⟩ := sm_v V q n (i + 1) (k + x) (by omega)
      exact ⟨k', by omega, h2⟩
    · obtain ⟨k', h1, h2⟩ := sm_v V q n (i + 1) k (by omega)
      exact ⟨k', by omega, h2⟩
theorem bm_v {P N E : Nat} (V : VR g P N E) (hN : N ≤ 100) (p c : Int32) : ∃ k, k ≤ 1200 ∧ bmF (bw g) p c N = nI k := by
  obtain ⟨k, h1, h2⟩ := sm_v V (fun b => brs (bw g) b p c = true) N 0 0 (by omega)
  exact ⟨k, by omega, h2⟩
theorem lfF_v {P N E : Nat} (V : VR g P N E) (hN : N ≤ 100) (p : Int32) : ∃ k, k ≤ 1200 ∧ lfF g p N = nI k := by
  obtain ⟨k, h1, h2⟩ := sm_v V (fun b => g (304 + (8 * b)) = p) N 0 0 (by omega)
  exact ⟨k, by omega, h2⟩
theorem ut_1 {P N E : Nat} (S : SR f g P N E) (V : VR g P N E) (t c : Int32) {i k : Nat} (x : Int32) (hi : i < P) (hk : k ≤ 1200) : utC f t c N i (nI k, x) = utR g t c N i (nI k, x) ∧ ∃ k'', k'' ≤ 1200 ∧ (utR g t c N i (nI k, x)).1 = nI k'' := by
  unfold utC utR
  rw [S.tm hi, bm_SR S]
  obtain ⟨b, hb, eb⟩ := bm_v V S.N100 (nI i) c
  rw [eb]
  split
  · obtain ⟨e, k'', h1, h2⟩ := uCR (k := b) (k' := k) (by omega) (by omega) i x
    exact ⟨e, k'', by omega, h2⟩
  · have e := (uCR (k := 0) (k' := k) (by decide) (by omega) i x).1
    rw [show (0 : Int32) = nI 0 from rfl, e]
    unfold uR
    rw [if_pos (show nI 0 = 0 from rfl)]
    exact ⟨rfl, k, hk, rfl⟩
theorem ut_CR {P N E : Nat} (S : SR f g P N E) (V : VR g P N E) (t c : Int32) : ∀ n i k x, i + n ≤ P → k ≤ 1200 → fo (utC f t c N) n i (nI k, x) = fo (utR g t c N) n i (nI k, x)
  | 0, _, _, _, _, _ => rfl
  | n + 1, i, k, x, h, hk => by
    obtain ⟨e, k'', h1, h2⟩ := ut_1 S V t c x (show i < P by omega) hk
    rw [fo, fo, e, show utR g t c N i (nI k, x) = ((utR g t c N i (nI k, x)).1, (utR g t c N i (nI k, x)).2) from rfl, h2]
    exact ut_CR S V t c n (i + 1) k'' _ (by omega) h1
theorem b_until {j : Nat} (hj : j < 600) (h : Inv j W m l) (x0 x1 : Int32) : Both j W m l 24 132 [.int x0, .int x1] [.int x0, .int x1] := by
  obtain ⟨⟨C, M, -⟩, ⟨P, N, E, S, V, hE, hB⟩, -, -, R, -, hrow⟩ := id h
  have p12 := S.P12
  have n100 := S.N100
  rcases arg x0 4 (by decide) with ⟨a0, h0, rfl⟩ | h0
  · rcases arg x1 4 (by decide) with ⟨a1, h1, rfl⟩ | h1
    · refine Both_q h (r := (fo (utC (vw m 13) (nI a0) (nI a1) N) P 0 (0, 0)).1) (xs := [(fo (utC (vw m 13) (nI a0) (nI a1) N) P 0 (0, 0)).2]) (by simp) ?_ ?_
      · simp only [q_24, xok C, vok C, sok C.now, xR0 C, xR1 C, xR2 C, xR3 C, xR4 C, xR5 C, xR6 C, xR7 C, xR8 C, xR9 C, sR4 C.now, sR5 C.now, sR6 C.now, sR7 C.now, sR8 C.now, sR9 C.now, sR10 C.now, sI0 C.now, sI1 C.now, sI2 C.now, sI3 C.now, kxi_s, kxr_s, kxv_s, Option.bind_some, if_true, if_false, i10, c189w C, List.nil_append, List.cons_append, List.append_nil, c50y h0, c49y h1]
        exact d24 C S.f4 p12 S.f5 n100 (nI a0) (nI a1) P 0 (0, 0) none (by omega)
      · rw [show fo (utC (vw m 13) (nI a0) (nI a1) N) P 0 (0, 0) = fo (utR (m 40) (nI a0) (nI a1) N) P 0 (0, 0) from ut_CR S V (nI a0) (nI a1) P 0 0 0 (by omega) (by omega)]
        simp only [q_132, rok M, rR0 M, rR1 M, rR2 M, rR4 M, rR6 M, rR7 M, rR8 M, rR9 M, rR11 M, rR16 M, rR17 M, rR24 M, rR25 M, rR26 M, rR27 M, rR28 M, rR29 M, rR30 M, rR32 M, rR33 M, rR34 M, wl4 M, wl5 M, wl6 M, wl7 M, ruw13 M, ruw12 M, kxi_s, kxr_s, kxv_s, Option.bind_some, if_true, if_false, i10, c71a M, c71b M, c71c M, c71d M, c76y h0, c75y h1]
        exact d132 M S.g4 p12 S.g5 n100 (nI a0) (nI a1) P 0 (0, 0) none (by omega)
    · refine Both_n h (r := -1) ?_ ?_
      · simp only [q_24, xok C, vok C, sok C.now, xR0 C, xR1 C, xR2 C, xR3 C, xR4 C, xR5 C, xR6 C, xR7 C, xR8 C, xR9 C, sR4 C.now, sR5 C.now, sR6 C.now, sR7 C.now, sR8 C.now, sR9 C.now, sR10 C.now, sI0 C.now, sI1 C.now, sI2 C.now, sI3 C.now, kxi_s, kxr_s, kxv_s, Option.bind_some, if_true, if_false, i10, c189w C, List.nil_append, List.cons_append, List.append_nil, c50y h0, c49n h1]
      · simp only [q_132, rok M, rR0 M, rR1 M, rR2 M, rR4 M, rR6 M, rR7 M, rR8 M, rR9 M, rR11 M, rR16 M, rR17 M, rR24 M, rR25 M, rR26 M, rR27 M, rR28 M, rR29 M, rR30 M, rR32 M, rR33 M, rR34 M, wl4 M, wl5 M, wl6 M, wl7 M, ruw13 M, ruw12 M, kxi_s, kxr_s, kxv_s, Option.bind_some, if_true, if_false, i10, c71a M, c71b M, c71c M, c71d M, c76y h0, c75n h1]
  · refine Both_n h (r := -1) ?_ ?_
    · simp only [q_24, xok C, vok C, sok C.now, xR0 C, xR1 C, xR2 C, xR3 C, xR4 C, xR5 C, xR6 C, xR7 C, xR8 C, xR9 C, sR4 C.now, sR5 C.now, sR6 C.now, sR7 C.now, sR8 C.now, sR9 C.now, sR10 C.now, sI0 C.now, sI1 C.now, sI2 C.now, sI3 C.now, kxi_s, kxr_s, kxv_s, Option.bind_some, if_true, if_false, i10, c189w C, List.nil_append, List.cons_append, List.append_nil, c50n h0]
    · simp only [q_132, rok M, rR0 M, rR1 M, rR2 M, rR4 M, rR6 M, rR7 M, rR8 M, rR9 M, rR11 M, rR16 M, rR17 M, rR24 M, rR25 M, rR26 M, rR27 M, rR28 M, rR29 M, rR30 M, rR32 M, rR33 M, rR34 M, wl4 M, wl5 M, wl6 M, wl7 M, ruw13 M, ruw12 M, kxi_s, kxr_s, kxv_s, Option.bind_some, if_true, if_false, i10, c71a M, c71b M, c71c M, c71d M, c76n h0]
end QRH

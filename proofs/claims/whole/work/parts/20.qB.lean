section QRB
variable {W : tm_W} {m : Nat → Nat → Int32} {l : Nat → Nat → Int64} {f g : Nat → Int32}
/-! misses -/
def bmF (B : Nat → Int32) (p c : Int32) (N : Nat) : Int32 := fo (fun b a => if brs B b p c then a + B (8 * b + 2) else a) N 0 0
theorem d126 (M : isM W) {N : Nat} (hN : f 1105 = nI N) (hN2 : N ≤ 100) (p c : Int32) : ∀ n i a, i + n = N → dn 126 4 [some (.ref 39), some (.int p), some (.int c), some (.int 0), some (.int a), some (.int (nI i))] [] (tm W (m1 m 40 f) l) = some (some (.int (fo (fun b a => if brs (bw f) b p c then a + f (304 + (8 * b + 2)) else a) n i a)), tm W (m1 m 40 f) l)
  | 0, i, a, h => by
    rw [q_126_4, rR0 M, Option.bind_some, wl5 M, Option.bind_some, hN, if_pos (nI_le (by omega) (by omega))]
    rfl
  | n + 1, i, a, h => by
    rw [q_126_4, rR0 M, Option.bind_some, wl5 M, Option.bind_some, hN, if_neg (nI_ge (by omega) (by omega)), if_pos (rok M _), c79_0 M (by omega), kxi_s, if_pos (rok M _), c89 M (by omega), kxi_s, fo]
    by_cases hp : f (304 + (8 * i)) = p
    · by_cases hb : brs (bw f) i (f (304 + (8 * i))) c = true
      · rw [if_pos hp, if_pos hb, if_neg (by decide), if_pos (rok M _), c79_2 M (by omega), kxi_s, if_pos ((brs_its _ _ _ _).mpr ⟨hp, hb⟩), nI_1]
        exact d126 M hN hN2 p c n (i + 1) _ (by omega)
      · rw [if_pos hp, if_neg hb, if_pos rfl, if_pos rfl, if_neg (fun q => hb ((brs_its _ _ _ _).mp q).2), nI_1]
        exact d126 M hN hN2 p c n (i + 1) _ (by omega)
    · rw [if_neg hp, if_neg (fun q => hp ((brs_its _ _ _ _).mp q).1), nI_1]
      exact d126 M hN hN2 p c n (i + 1) _ (by omega)
theorem c126 (M : isM W) {N : Nat} (hN : f 1105 = nI N) (hN2 : N ≤ 100) (p c : Int32) : cl 126 [.ref 39, .int p, .int c, .int 0] (tm W (m1 m 40 f) l) = some (some (.int (bmF (bw f) p c N)), tm W (m1 m 40 f) l) := by
  rw [q_126]
  exact d126 M hN hN2 p c N 0 0 (by omega)
theorem brs_of {B : Nat → Int32} {b : Nat} {p c : Int32} (h : brs B b p c = true) : B (8 * b) = p ∧ (B (8 * b + 3) = 1 ∨ B (8 * b + 1) = c) := by
  unfold brs at h
  simp at h
  exact ⟨h.1.1.1, h.1.2⟩
theorem d126b (M : isM W) {N : Nat} (hN : f 1105 = nI N) (hN2 : N ≤ 100) (p c : Int32) : ∀ n i a, i + n = N → dn 126 4 [some (.ref 39), some (.int p), some (.int c), some (.int 1), some (.int a), some (.int (nI i))] [] (tm W (m1 m 40 f) l) = some (some (.int (fo (fun b a => if f (304 + (8 * b)) = p ∧ (f (304 + (8 * b + 3)) = 1 ∨ f (304 + (8 * b + 1)) = c) then a + f (304 + (8 * b + 2)) else a) n i a)), tm W (m1 m 40 f) l)
  | 0, i, a, h => by
    rw [q_126_4, rR0 M, Option.bind_some, wl5 M, Option.bind_some, hN, if_pos (nI_le (by omega) (by omega))]
    rfl
  | n + 1, i, a, h => by
    rw [q_126_4, rR0 M, Option.bind_some, wl5 M, Option.bind_some, hN, if_neg (nI_ge (by omega) (by omega)), if_pos (rok M _), c79_0 M (by omega), kxi_s, if_pos (rok M _), c89 M (by omega), kxi_s, fo]
    by_cases hp : f (304 + (8 * i)) = p
    · by_cases hb : brs (bw f) i (f (304 + (8 * i))) c = true
      · have hk := (brs_of hb).2
        rw [if_pos hp, if_pos hb, if_neg (by decide), if_pos (rok M _), c79_2 M (by omega), kxi_s, if_pos ⟨hp, hk⟩, nI_1]
        exact d126b M hN hN2 p c n (i + 1) _ (by omega)
      · rw [if_pos hp, if_neg hb, if_pos rfl, if_neg (by decide), if_pos (rok M _), c88 M (by omega), kxi_s]
        by_cases hk : f (304 + (8 * i + 3)) = 1 ∨ f (304 + (8 * i + 1)) = c
        · rw [if_pos hk, if_neg (by decide), if_pos (rok M _), c79_2 M (by omega), kxi_s, if_pos ⟨hp, hk⟩, nI_1]
          exact d126b M hN hN2 p c n (i + 1) _ (by omega)
        · rw [if_neg hk, if_pos rfl, if_neg (fun q => hk q.2), nI_1]
          exact d126b M hN hN2 p c n (i + 1) _ (by omega)
    · rw [if_neg hp, if_neg (fun q => hp q.1), nI_1]
      exact d126b M hN hN2 p c n (i + 1) _ (by omega)
theorem c126b (M : isM W) {N : Nat} (hN : f 1105 = nI N) (hN2 : N ≤ 100) (p c : Int32) : cl 126 [.ref 39, .int p, .int c, .int 1] (tm W (m1 m 40 f) l) = some (some (.int (fo (fun b a => if f (304 + (8 * b)) = p ∧ (f (304 + (8 * b + 3)) = 1 ∨ f (304 + (8 * b + 1)) = c) then a + f (304 + (8 * b + 2)) else a) N 0 0)), tm W (m1 m 40 f) l) := by
  rw [q_126]
  exact d126b M hN hN2 p c N 0 0 (by omega)
theorem bm_SR {P N E : Nat} (S : SR f g P N E) (p c : Int32) : bmF (bw f) p c N = bmF (bw g) p c N := by
  unfold bmF
  refine fo_cong N 0 0 fun b a _ hb => ?_
  rw [S.brs (by omega), show bw f (8 * b + 2) = bw g (8 * b + 2) from S.row (by omega) (by decide)]
/-- the barred and the pending matches are all that count -/
theorem bm_pm {P N E : Nat} (V : VR g P N E) (p c : Int32) : ∀ n i (a a' : Int32), i + n ≤ N → fo (fun b a => if g (304 + (8 * b)) = p ∧ (g (304 + (8 * b + 3)) = 1 ∨ g (304 + (8 * b + 1)) = c) then a + g (304 + (8 * b + 2)) else a) n i (a + a') =
      fo (fun b a => if brs (bw g) b p c then a + g (304 + (8 * b + 2)) else a) n i a + fo (fun b a => if cns (bw g) b p c = true ∧ g (304 + (8 * b + 4)) = 1 then a + g (304 + (8 * b + 2)) else a) n i a'
  | 0, i, a, a', h => rfl
  | n + 1, i, a, a', h => by
    rw [fo, fo, fo]
    have ih := bm_pm V p c n (i + 1)
    by_cases ho : g (304 + (8 * i)) = p ∧ (g (304 + (8 * i + 3)) = 1 ∨ g (304 + (8 * i + 1)) = c)
    · rw [if_pos ho]
      obtain ⟨-, -, ⟨k, hk1, hk2, -⟩, -⟩ := V.2.1 i (by omega)
      by_cases h2 : g (304 + (8 * i + 2)) ≤ 0
      · have h0 : g (304 + (8 * i + 2)) = 0 := by
          rw [hk2] at h2 ⊢
          rw [(nle0 (by omega)).mp h2]
          rfl
        rw [if_neg (by simp [brs, bw, h2]), if_neg (by simp [cns, bw, h2]), h0, Int32.add_zero]
        exact ih _ _ (by omega)
      · by_cases h4 : g (304 + (8 * i + 4)) = 1
        · rw [if_neg (by simp [brs, bw, h4]), if_pos ⟨by rcases ho.2 with q | q <;> simp [cns, bw, ho.1, h2, q], h4⟩, Int32.add_assoc]
          exact ih _ _ (by omega)
        · rw [if_pos (by rcases ho.2 with q | q <;> simp [brs, bw, ho.1, h2, h4, q]), if_neg (fun q => h4 q.2), Int32.add_assoc, Int32.add_comm a', ← Int32.add_assoc]
          exact ih _ _ (by omega)
    · rw [if_neg ho, if_neg (fun q => ho (brs_of q)), if_neg]
      · exact ih _ _ (by omega)
      · intro q
        have q1 := q.1
        unfold cns at q1
        simp at q1
        exact ho ⟨q1.1.1, q1.2⟩
theorem c223' (C : isC W) {N : Nat} (hN : f 1105 = nI N) (hN2 : N ≤ 100) (p c : Int32) : cl 223 [.ref 13, .int p, .int c] (tm W (wv m 13 f) l) = some (some (.int (bmF (bw f) p c N)), tm W (wv m 13 f) l) := c223 C.now hN hN2 p c
theorem b_misses {j : Nat} (hj : j < 600) (h : Inv j W m l) (x0 x1 : Int32) : Both j W m l 21 129 [.int x0, .int x1] [.int x0, .int x1] := by
  obtain ⟨⟨C, M, -⟩, ⟨P, N, E, S, V, hE, hB⟩, -, -, R, -, hrow⟩ := id h
  have p12 := S.P12
  have n100 := S.N100
  rcases arg x0 P (by omega) with ⟨a0, h0, rfl⟩ | h0
  · rcases arg x1 4 (by decide) with ⟨a1, h1, rfl⟩ | h1
    · refine Both_q h (r := bmF (bw (vw m 13)) (nI a0) (nI a1) N) (xs := [bmF (bw (vw m 13)) (nI a0) (nI a1) N + fo (fun b a => if cns (bw (vw m 13)) b (nI a0) (nI a1) = true ∧ vw m 13 (304 + (8 * b + 4)) = 1 then a + vw m 13 (304 + (8 * b + 2)) else a) N 0 0]) (by simp) ?_ ?_
      · simp only [q_21, xok C, vok C, sok C.now, xR0 C, xR1 C, xR2 C, xR3 C, xR4 C, xR5 C, xR6 C, xR7 C, xR8 C, xR9 C, sR4 C.now, sR5 C.now, sR6 C.now, sR7 C.now, sR8 C.now, sR9 C.now, sR10 C.now, sI0 C.now, sI1 C.now, sI2 C.now, sI3 C.now, kxi_s, kxr_s, kxv_s, Option.bind_some, if_true, if_false, i10, c189w C, List.nil_append, List.cons_append, List.append_nil, c52y C S.f4 S.P12 h0, c49y h1, c223' C S.f5 S.N100, c224 C.now S.f5 S.N100, w190a C]
      · have e : fo (fun b a => if cns (bw (vw m 13)) b (nI a0) (nI a1) = true ∧ vw m 13 (304 + (8 * b + 4)) = 1 then a + vw m 13 (304 + (8 * b + 2)) else a) N 0 0 = fo (fun b a => if cns (bw (m 40)) b (nI a0) (nI a1) = true ∧ m 40 (304 + (8 * b + 4)) = 1 then a + m 40 (304 + (8 * b + 2)) else a) N 0 0 := by
          refine fo_cong N 0 0 fun b a _ hb => ?_
          rw [S.cns (by omega), S.row (by omega) (by decide), S.row (by omega) (by decide)]
        have e2 := bm_pm V (nI a0) (nI a1) N 0 0 0 (by omega)
        rw [e, bm_SR S]
        simp only [q_129, rok M, rR0 M, rR1 M, rR2 M, rR4 M, rR6 M, rR7 M, rR8 M, rR9 M, rR11 M, rR16 M, rR17 M, rR24 M, rR25 M, rR26 M, rR27 M, rR28 M, rR29 M, rR30 M, rR32 M, rR33 M, rR34 M, wl4 M, wl5 M, wl6 M, wl7 M, ruw13 M, ruw12 M, kxi_s, kxr_s, kxv_s, Option.bind_some, if_true, if_false, i10, c71a M, c71b M, c71c M, c71d M, c77y M S.g4 S.P12 h0, c75y h1, c126 M S.g5 S.N100, c126b M S.g5 S.N100]
        rw [show (0 : Int32) = 0 + 0 from rfl, e2]
        rfl
    · refine Both_n h (r := -1) ?_ ?_
      · simp only [q_21, xok C, vok C, sok C.now, xR0 C, xR1 C, xR2 C, xR3 C, xR4 C, xR5 C, xR6 C, xR7 C, xR8 C, xR9 C, sR4 C.now, sR5 C.now, sR6 C.now, sR7 C.now, sR8 C.now, sR9 C.now, sR10 C.now, sI0 C.now, sI1 C.now, sI2 C.now, sI3 C.now, kxi_s, kxr_s, kxv_s, Option.bind_some, if_true, if_false, i10, c189w C, List.nil_append, List.cons_append, List.append_nil, c52y C S.f4 S.P12 h0, c49n h1]
      · simp only [q_129, rok M, rR0 M, rR1 M, rR2 M, rR4 M, rR6 M, rR7 M, rR8 M, rR9 M, rR11 M, rR16 M, rR17 M, rR24 M, rR25 M, rR26 M, rR27 M, rR28 M, rR29 M, rR30 M, rR32 M, rR33 M, rR34 M, wl4 M, wl5 M, wl6 M, wl7 M, ruw13 M, ruw12 M, kxi_s, kxr_s, kxv_s, Option.bind_some, if_true, if_false, i10, c71a M, c71b M, c71c M, c71d M, c77y M S.g4 S.P12 h0, c75n h1]
  · refine Both_n h (r := -1) ?_ ?_
    · simp only [q_21, xok C, vok C, sok C.now, xR0 C, xR1 C, xR2 C, xR3 C, xR4 C, xR5 C, xR6 C, xR7 C, xR8 C, xR9 C, sR4 C.now, sR5 C.now, sR6 C.now, sR7 C.now, sR8 C.now, sR9 C.now, sR10 C.now, sI0 C.now, sI1 C.now, sI2 C.now, sI3 C.now, kxi_s, kxr_s, kxv_s, Option.bind_some, if_true, if_false, i10, c189w C, List.nil_append, List.cons_append, List.append_nil, c52n C S.f4 h0]
    · simp only [q_129, rok M, rR0 M, rR1 M, rR2 M, rR4 M, rR6 M, rR7 M, rR8 M, rR9 M, rR11 M, rR16 M, rR17 M, rR24 M, rR25 M, rR26 M, rR27 M, rR28 M, rR29 M, rR30 M, rR32 M, rR33 M, rR34 M, wl4 M, wl5 M, wl6 M, wl7 M, ruw13 M, ruw12 M, kxi_s, kxr_s, kxv_s, Option.bind_some, if_true, if_false, i10, c71a M, c71b M, c71c M, c71d M, c77n M S.g4 S.P12 h0]
end QRB

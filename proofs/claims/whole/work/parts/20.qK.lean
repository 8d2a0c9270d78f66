section QRK
variable {W : tm_W} {m : Nat → Nat → Int32} {l : Nat → Nat → Int64} {f g : Nat → Int32}
/-! longest -/
def enc : Option Nat → Int32
  | none => -1
  | some q => nI q
def lgS (f : Nat → Int32) (c : Int32) (b : Nat) (s : Option Nat) : Option Nat := if f (304 + (8 * b + 1)) = c then (match s with | none => some b | some q => if f (304 + (8 * b + 5)) ≤ f (304 + (8 * q + 5)) then some q else some b) else s
def lgV (f : Nat → Int32) : Option Nat → Int32
  | none => 0
  | some q => f (304 + (8 * q + 5))
def oLt (s : Option Nat) (n : Nat) : Prop := ∀ q, s = some q → q < n
theorem lg_lt {f : Nat → Int32} {c : Int32} {b n : Nat} {s : Option Nat} (hs : oLt s n) (hb : b < n) : oLt (lgS f c b s) n := by
  unfold lgS
  split
  · cases s with
    | none =>
      intro q hq
      cases hq
      exact hb
    | some q =>
      dsimp only
      split
      · exact hs
      · intro q' hq
        cases hq
        exact hb
  · exact hs
theorem d39 (C : isC W) {N : Nat} (hN : f 1105 = nI N) (hN2 : N ≤ 100) (h5 : ∀ b, b < N → ¬ f (304 + (8 * b + 5)) ≤ 0) (c : Int32) : ∀ n i (s : Option Nat), i + n = N → dn 39 11 [some (.ref 0), some (.int c), some (.int (enc s)), some (.int (lgV f s)), some (.int (nI i))] [] (tm W (wv m 13 f) l) = dn 39 11 [some (.ref 0), some (.int c), some (.int (enc (fo (lgS f c) n i s))), some (.int (lgV f (fo (lgS f c) n i s))), some (.int (nI N))] [] (tm W (wv m 13 f) l)
  | 0, i, s, h => by
    rw [show i = N by omega]
    rfl
  | n + 1, i, s, h => by
    have ih := fun s => d39 C hN hN2 h5 c n (i + 1) s (by omega)
    rw [q_39_11]
    simp only [xok C, vok C, sok C.now, xR0 C, xR1 C, xR2 C, xR3 C, xR4 C, xR5 C, xR6 C, xR7 C, xR8 C, xR9 C, sR4 C.now, sR5 C.now, sR6 C.now, sR7 C.now, sR8 C.now, sR9 C.now, sR10 C.now, sI0 C.now, sI1 C.now, sI2 C.now, sI3 C.now, kxi_s, kxr_s, kxv_s, Option.bind_some, if_true, if_false, i10, c189w C, List.nil_append, List.cons_append, List.append_nil, hN, eq_false (nI_ge (show i < N by omega) (show N < 2 ^ 31 by omega)), c216_1 C.now (show i < 100 by omega), c216_5 C.now (show i < 100 by omega), nI_1]
    rw [fo]
    by_cases c1 : f (304 + (8 * i + 1)) = c
    · rw [if_pos c1]
      cases s with
      | none =>
        rw [if_neg (show ¬ f (304 + (8 * i + 5)) ≤ lgV f none from h5 i (by omega)), show lgS f c i none = some i by simp [lgS, c1]]
        exact ih (some i)
      | some q =>
        by_cases c2 : f (304 + (8 * i + 5)) ≤ f (304 + (8 * q + 5))
        · rw [if_pos (show f (304 + (8 * i + 5)) ≤ lgV f (some q) from c2), show lgS f c i (some q) = some q by simp [lgS, c1, c2]]
          exact ih (some q)
        · rw [if_neg (show ¬ f (304 + (8 * i + 5)) ≤ lgV f (some q) from c2), show lgS f c i (some q) = some i by simp [lgS, c1, c2]]
          exact ih (some i)
    · rw [if_neg c1, show lgS f c i s = s by simp [lgS, c1]]
      exact ih s
theorem d157 (M : isM W) {N : Nat} (hN : f 1105 = nI N) (hN2 : N ≤ 100) (c : Int32) : ∀ n i (s : Option Nat), i + n = N → oLt s N → dn 157 12 [some (.ref 39), some (.int c), some (.int (enc s)), some (.int (nI i))] [] (tm W (m1 m 40 f) l) = dn 157 12 [some (.ref 39), some (.int c), some (.int (enc (fo (lgS f c) n i s))), some (.int (nI N))] [] (tm W (m1 m 40 f) l)
  | 0, i, s, h, _ => by
    rw [show i = N by omega]
    rfl
  | n + 1, i, s, h, hs => by
    have ih := fun s => d157 M hN hN2 c n (i + 1) s (by omega)
    rw [q_157_12]
    simp only [rok M, rR0 M, rR1 M, rR2 M, rR4 M, rR6 M, rR7 M, rR8 M, rR9 M, rR11 M, rR16 M, rR17 M, rR24 M, rR25 M, rR26 M, rR27 M, rR28 M, rR29 M, rR30 M, rR32 M, rR33 M, rR34 M, wl4 M, wl5 M, wl6 M, wl7 M, ruw13 M, ruw12 M, kxi_s, kxr_s, kxv_s, Option.bind_some, if_true, if_false, i10, c71a M, c71b M, c71c M, c71d M, hN, eq_false (nI_ge (show i < N by omega) (show N < 2 ^ 31 by omega)), c79_1 M (show i < 100 by omega), c79_5 M (show i < 100 by omega), nI_1]
    rw [fo]
    have hl := lg_lt (f := f) (c := c) hs (show i < N by omega)
    by_cases c1 : f (304 + (8 * i + 1)) = c
    · rw [if_pos c1]
      cases s with
      | none =>
        rw [if_pos (show enc none = -1 from rfl)]
        rw [show lgS f c i none = some i by simp [lgS, c1]] at hl ⊢
        exact ih (some i) hl
      | some q =>
        have hq := hs q rfl
        rw [if_neg (show ¬ enc (some q) = -1 from nI_ne_m1 (by omega)), show enc (some q) = nI q from rfl, c79_5 M (show q < 100 by omega), kxi_s]
        by_cases c2 : f (304 + (8 * i + 5)) ≤ f (304 + (8 * q + 5))
        · rw [if_pos c2]
          rw [show lgS f c i (some q) = some q by simp [lgS, c1, c2]] at hl ⊢
          exact ih (some q) hl
        · rw [if_neg c2]
          rw [show lgS f c i (some q) = some i by simp [lgS, c1, c2]] at hl ⊢
          exact ih (some i) hl
    · rw [if_neg c1]
      rw [show lgS f c i s = s by simp [lgS, c1]] at hl ⊢
      exact ih s hl
theorem lg_fo (f : Nat → Int32) (c : Int32) (N : Nat) : ∀ n i s, i + n ≤ N → oLt s N → oLt (fo (lgS f c) n i s) N
  | 0, _, _, _, h => h
  | n + 1, i, s, h, hs => by
    rw [fo]
    exact lg_fo f c N n (i + 1) _ (by omega) (lg_lt hs (by omega))
theorem lgS_SR {P N E : Nat} (S : SR f g P N E) (c : Int32) {i : Nat} {s : Option Nat} (hi : i < N) (hs : oLt s N) : lgS f c i s = lgS g c i s := by
  have e1 : f (304 + (8 * i + 1)) = g (304 + (8 * i + 1)) := S.row hi (by decide)
  have e5 : f (304 + (8 * i + 5)) = g (304 + (8 * i + 5)) := S.row hi (by decide)
  cases s with
  | none => simp only [lgS, e1]
  | some q =>
    have e6 : f (304 + (8 * q + 5)) = g (304 + (8 * q + 5)) := S.row (hs q rfl) (by decide)
    simp only [lgS, e1, e5, e6]
theorem lg_SR {P N E : Nat} (S : SR f g P N E) (c : Int32) : ∀ n i s, i + n ≤ N → oLt s N → fo (lgS f c) n i s = fo (lgS g c) n i s
  | 0, _, _, _, _ => by rw [fo, fo]
  | n + 1, i, s, h, hs => by
    rw [fo, fo, lgS_SR S c (by omega) hs]
    exact lg_SR S c n (i + 1) _ (by omega) (lg_lt hs (by omega))
theorem b_longest {j : Nat} (hj : j < 600) (h : Inv j W m l) (x0 : Int32) : Both j W m l 39 157 [.int x0] [.int x0] := by
  obtain ⟨⟨C, M, -⟩, ⟨P, N, E, S, V, hE, hB⟩, -, -, R, -, hrow⟩ := id h
  have p12 := S.P12
  have n100 := S.N100
  rcases arg x0 4 (by decide) with ⟨a0, h0, rfl⟩ | h0
  · have h5 : ∀ b, b < N → ∃ n, 1 ≤ n ∧ n ≤ 9 ∧ m 40 (304 + (8 * b + 5)) = nI n := fun b hb => (V.2.1 b hb).2.2.2
    have h5' : ∀ b, b < N → ¬ vw m 13 (304 + (8 * b + 5)) ≤ 0 := fun b hb q => by
      obtain ⟨n, n1, n2, n3⟩ := h5 b hb
      rw [S.row hb (by decide), n3] at q
      have := (nle0 (by omega)).mp q
      omega
    have hno : oLt none N := fun q hq => by cases hq
    have hl := lg_fo (m 40) (nI a0) N N 0 none (by omega) hno
    have eC := d39 (m := m) (l := l) C S.f5 n100 h5' (nI a0) N 0 none (by omega)
    rw [lg_SR S (nI a0) N 0 none (by omega) hno] at eC
    have eR := fun (m' : Nat → Nat → Int32) => d157 (m := m') (l := l) (f := m 40) M S.g5 n100 (nI a0) N 0 none (by omega) hno
    cases hs : fo (lgS (m 40) (nI a0)) N 0 none with
    | none =>
      rw [hs] at eC eR
      refine Both_n h (r := -2) ?_ ?_
      · simp only [q_39, xok C, vok C, sok C.now, xR0 C, xR1 C, xR2 C, xR3 C, xR4 C, xR5 C, xR6 C, xR7 C, xR8 C, xR9 C, sR4 C.now, sR5 C.now, sR6 C.now, sR7 C.now, sR8 C.now, sR9 C.now, sR10 C.now, sI0 C.now, sI1 C.now, sI2 C.now, sI3 C.now, kxi_s, kxr_s, kxv_s, Option.bind_some, if_true, if_false, i10, c189w C, List.nil_append, List.cons_append, List.append_nil, c49y h0]
        rw [show dn 39 11 [some (.ref 0), some (.int (nI a0)), some (.int (-1)), some (.int 0), some (.int 0)] [] (tm W (wv m 13 (vw m 13)) l) = _ from eC]
        rw [q_39_11]
        simp only [xok C, vok C, sok C.now, xR0 C, xR1 C, xR2 C, xR3 C, xR4 C, xR5 C, xR6 C, xR7 C, xR8 C, xR9 C, sR4 C.now, sR5 C.now, sR6 C.now, sR7 C.now, sR8 C.now, sR9 C.now, sR10 C.now, sI0 C.now, sI1 C.now, sI2 C.now, sI3 C.now, kxi_s, kxr_s, kxv_s, Option.bind_some, if_true, if_false, i10, c189w C, List.nil_append, List.cons_append, List.append_nil, S.f5, eq_true (Int32.le_refl (nI N)), enc]
      · simp only [q_157, rok M, rR0 M, rR1 M, rR2 M, rR4 M, rR6 M, rR7 M, rR8 M, rR9 M, rR11 M, rR16 M, rR17 M, rR24 M, rR25 M, rR26 M, rR27 M, rR28 M, rR29 M, rR30 M, rR32 M, rR33 M, rR34 M, wl4 M, wl5 M, wl6 M, wl7 M, ruw13 M, ruw12 M, kxi_s, kxr_s, kxv_s, Option.bind_some, if_true, if_false, i10, c71a M, c71b M, c71c M, c71d M, c75y h0]
        rw [show dn 157 12 [some (.ref 39), some (.int (nI a0)), some (.int (-1)), some (.int 0)] [] _ = _ from eR _]
        rw [q_157_12]
        simp only [rok M, rR0 M, rR1 M, rR2 M, rR4 M, rR6 M, rR7 M, rR8 M, rR9 M, rR11 M, rR16 M, rR17 M, rR24 M, rR25 M, rR26 M, rR27 M, rR28 M, rR29 M, rR30 M, rR32 M, rR33 M, rR34 M, wl4 M, wl5 M, wl6 M, wl7 M, ruw13 M, ruw12 M, kxi_s, kxr_s, kxv_s, Option.bind_some, if_true, if_false, i10, c71a M, c71b M, c71c M, c71d M, S.g5, eq_true (Int32.le_refl (nI N)), enc]
    | some b =>
      rw [hs] at eC eR
      have hb := hl b hs
      obtain ⟨n, n1, n2, n3⟩ := h5 b hb
      have en : vw m 13 (304 + (8 * b + 5)) = nI n := by rw [S.row hb (by decide), n3]
      have e7 : vw m 13 (304 + (8 * b + 7)) = m 40 (304 + (8 * b + 7)) := S.row hb (by decide)
      have e1 : (nI b = -1) = False := eq_false (nI_ne_m1 (by omega))
      have e2 : ((1 : Int32) ≤ nI n) = True := eq_true ((nle (a := 1) (by decide) (by omega)).mpr n1)
      have e3 : (nI n = 0) = False := eq_false (fun q => by have := (neq0 (by omega)).mp q; omega)
      refine Both_q h (r := nI b) (xs := [nI n, (1000 * m 40 (304 + (8 * b + 7))) / nI n]) (by simp) ?_ ?_
      · simp only [q_39, xok C, vok C, sok C.now, xR0 C, xR1 C, xR2 C, xR3 C, xR4 C, xR5 C, xR6 C, xR7 C, xR8 C, xR9 C, sR4 C.now, sR5 C.now, sR6 C.now, sR7 C.now, sR8 C.now, sR9 C.now, sR10 C.now, sI0 C.now, sI1 C.now, sI2 C.now, sI3 C.now, kxi_s, kxr_s, kxv_s, Option.bind_some, if_true, if_false, i10, c189w C, List.nil_append, List.cons_append, List.append_nil, c49y h0]
        rw [show dn 39 11 [some (.ref 0), some (.int (nI a0)), some (.int (-1)), some (.int 0), some (.int 0)] [] (tm W (wv m 13 (vw m 13)) l) = _ from eC]
        rw [q_39_11]
        simp only [xok C, vok C, sok C.now, xR0 C, xR1 C, xR2 C, xR3 C, xR4 C, xR5 C, xR6 C, xR7 C, xR8 C, xR9 C, sR4 C.now, sR5 C.now, sR6 C.now, sR7 C.now, sR8 C.now, sR9 C.now, sR10 C.now, sI0 C.now, sI1 C.now, sI2 C.now, sI3 C.now, kxi_s, kxr_s, kxv_s, Option.bind_some, if_true, if_false, i10, c189w C, List.nil_append, List.cons_append, List.append_nil, S.f5, eq_true (Int32.le_refl (nI N)), enc, e1, lgV, en, e2, e3, c216_7 C.now (show b < 100 by omega), e7, Int32.mul_comm _ 1000, w190a C, w190b C]
      · simp only [q_157, rok M, rR0 M, rR1 M, rR2 M, rR4 M, rR6 M, rR7 M, rR8 M, rR9 M, rR11 M, rR16 M, rR17 M, rR24 M, rR25 M, rR26 M, rR27 M, rR28 M, rR29 M, rR30 M, rR32 M, rR33 M, rR34 M, wl4 M, wl5 M, wl6 M, wl7 M, ruw13 M, ruw12 M, kxi_s, kxr_s, kxv_s, Option.bind_some, if_true, if_false, i10, c71a M, c71b M, c71c M, c71d M, c75y h0]
        rw [show dn 157 12 [some (.ref 39), some (.int (nI a0)), some (.int (-1)), some (.int 0)] [] _ = _ from eR _]
        rw [q_157_12]
        simp only [rok M, rR0 M, rR1 M, rR2 M, rR4 M, rR6 M, rR7 M, rR8 M, rR9 M, rR11 M, rR16 M, rR17 M, rR24 M, rR25 M, rR26 M, rR27 M, rR28 M, rR29 M, rR30 M, rR32 M, rR33 M, rR34 M, wl4 M, wl5 M, wl6 M, wl7 M, ruw13 M, ruw12 M, kxi_s, kxr_s, kxv_s, Option.bind_some, if_true, if_false, i10, c71a M, c71b M, c71c M, c71d M, S.g5, eq_true (Int32.le_refl (nI N)), enc, e1, c79_5 M (show b < 100 by omega), c79_7 M (show b < 100 by omega), n3, e3]
        rfl
  · refine Both_n h (r := -1) ?_ ?_
    · simp only [q_39, xok C, vok C, sok C.now, xR0 C, xR1 C, xR2 C, xR3 C, xR4 C, xR5 C, xR6 C, xR7 C, xR8 C, xR9 C, sR4 C.now, sR5 C.now, sR6 C.now, sR7 C.now, sR8 C.now, sR9 C.now, sR10 C.now, sI0 C.now, sI1 C.now, sI2 C.now, sI3 C.now, kxi_s, kxr_s, kxv_s, Option.bind_some, if_true, if_false, i10, c189w C, List.nil_append, List.cons_append, List.append_nil, c49n h0]
    · simp only [q_157, rok M, rR0 M, rR1 M, rR2 M, rR4 M, rR6 M, rR7 M, rR8 M, rR9 M, rR11 M, rR16 M, rR17 M, rR24 M, rR25 M, rR26 M, rR27 M, rR28 M, rR29 M, rR30 M, rR32 M, rR33 M, rR34 M, wl4 M, wl5 M, wl6 M, wl7 M, ruw13 M, ruw12 M, kxi_s, kxr_s, kxv_s, Option.bind_some, if_true, if_false, i10, c71a M, c71b M, c71c M, c71d M, c75n h0]
/-! frees -/
def frB (f : Nat → Int32) (p c : Int32) : Nat → Nat → Bool
  | 0, _ => false
  | n + 1, i => (brs (bw f) i p c && !decide (f (304 + (8 * i + 4)) = 0)) || frB f p c n (i + 1)
def frS (f : Nat → Int32) (p c : Int32) (b : Nat) (s : List Int32) : List Int32 := if brs (bw f) b p c = true then s ++ [nI b] else s
theorem d35 (C : isC W) {N : Nat} (hN : f 1105 = nI N) (hN2 : N ≤ 100) (p c : Int32) : ∀ n i, i + n = N → dn 35 11 [some (.ref 0), some (.int p), some (.int c), some (.int (nI i))] [] (tm W (wv m 13 f) l) = if frB f p c n i = true then some (some (.int (-2)), tm W (wv m 13 f) l) else dn 35 11 [some (.ref 0), some (.int p), some (.int c), some (.int (nI N))] [] (tm W (wv m 13 f) l)
  | 0, i, h => by
    rw [show i = N by omega]
    rfl
  | n + 1, i, h => by
    have ih := d35 C hN hN2 p c n (i + 1) (by omega)
    rw [q_35_11]
    simp only [xok C, vok C, sok C.now, xR0 C, xR1 C, xR2 C, xR3 C, xR4 C, xR5 C, xR6 C, xR7 C, xR8 C, xR9 C, sR4 C.now, sR5 C.now, sR6 C.now, sR7 C.now, sR8 C.now, sR9 C.now, sR10 C.now, sI0 C.now, sI1 C.now, sI2 C.now, sI3 C.now, kxi_s, kxr_s, kxv_s, Option.bind_some, if_true, if_false, i10, c189w C, List.nil_append, List.cons_append, List.append_nil, hN, eq_false (nI_ge (show i < N by omega) (show N < 2 ^ 31 by omega)), c221 C.now (show i < 100 by omega), c216_4 C.now (show i < 100 by omega), nI_1]
    rw [frB]
    by_cases c1 : brs (bw f) i p c = true
    · by_cases c2 : f (304 + (8 * i + 4)) = 0
      · rw [if_pos c1, if_neg (by decide), if_pos c2, ih]
        simp [c1, c2]
      · rw [if_pos c1, if_neg (by decide), if_neg c2]
        simp [c1, c2]
    · rw [if_neg c1, if_pos rfl, ih]
      simp [c1]
theorem d153 (M : isM W) {N : Nat} (hN : f 1105 = nI N) (hN2 : N ≤ 100) (p c : Int32) : ∀ n i, i + n = N → dn 153 14 [some (.ref 39), some (.int p), some (.int c), some (.int (nI i))] [] (tm W (m1 m 40 f) l) = if frB f p c n i = true then some (some (.int (-2)), tm W (m1 m 40 f) l) else dn 153 14 [some (.ref 39), some (.int p), some (.int c), some (.int (nI N))] [] (tm W (m1 m 40 f) l)
  | 0, i, h => by
    rw [show i = N by omega]
    rfl
  | n + 1, i, h => by
    have ih := d153 M hN hN2 p c n (i + 1) (by omega)
    rw [q_153_14]
    simp only [rok M, rR0 M, rR1 M, rR2 M, rR4 M, rR6 M, rR7 M, rR8 M, rR9 M, rR11 M, rR16 M, rR17 M, rR24 M, rR25 M, rR26 M, rR27 M, rR28 M, rR29 M, rR30 M, rR32 M, rR33 M, rR34 M, wl4 M, wl5 M, wl6 M, wl7 M, ruw13 M, ruw12 M, kxi_s, kxr_s, kxv_s, Option.bind_some, if_true, if_false, i10, c71a M, c71b M, c71c M, c71d M, hN, eq_false (nI_ge (show i < N by omega) (show N < 2 ^ 31 by omega)), c79_0 M (show i < 100 by omega), c79_4 M (show i < 100 by omega), c89 M (show i < 100 by omega), nI_1]
    rw [frB]
    by_cases c0 : f (304 + (8 * i)) = p
    · by_cases c1 : brs (bw f) i (f (304 + (8 * i))) c = true
      · have c1' : brs (bw f) i p c = true := (brs_its _ _ _ _).mpr ⟨c0, c1⟩
        by_cases c2 : f (304 + (8 * i + 4)) = 0
        · rw [if_pos c0, if_pos c1, if_neg (by decide), if_pos c2, ih]
          simp [c1', c2]
        · rw [if_pos c0, if_pos c1, if_neg (by decide), if_neg c2]
          simp [c1', c2]
      · have c1' : ¬ brs (bw f) i p c = true := fun q => c1 ((brs_its _ _ _ _).mp q).2
        rw [if_pos c0, if_neg c1, if_pos rfl, ih]
        simp [c1']
    · have c1' : ¬ brs (bw f) i p c = true := fun q => c0 ((brs_its _ _ _ _).mp q).1
      rw [if_neg c0, ih]
      simp [c1']
theorem e35 (C : isC W) {N : Nat} (hN : f 1105 = nI N) (hN2 : N ≤ 100) (p c : Int32) : ∀ n i (s : List Int32), i + n = N → s.length + n ≤ 100 → dn 35 39 [some (.ref 0), some (.int p), some (.int c), some (.int (nI i))] [] (tm W (wv (rwm m s) 13 f) l) = some (some (.int (nI ((fo (frS f p c) n i s)).length)), tm W (wv (rwm m (fo (frS f p c) n i s)) 13 f) l)
  | 0, i, s, h, hv => by
    have hi : i = N := by omega
    subst hi
    rw [q_35_39]
    simp only [xok C, vok C, sok C.now, xR0 C, xR1 C, xR2 C, xR3 C, xR4 C, xR5 C, xR6 C, xR7 C, xR8 C, xR9 C, sR4 C.now, sR5 C.now, sR6 C.now, sR7 C.now, sR8 C.now, sR9 C.now, sR10 C.now, sI0 C.now, sI1 C.now, sI2 C.now, sI3 C.now, kxi_s, kxr_s, kxv_s, Option.bind_some, if_true, if_false, i10, c189w C, List.nil_append, List.cons_append, List.append_nil, hN, eq_true (Int32.le_refl (nI i)), fo, vI1 C]
  | n + 1, i, s, h, hv => by
    have ih := fun s => e35 C hN hN2 p c n (i + 1) s (by omega)
    rw [q_35_39]
    simp only [xok C, vok C, sok C.now, xR0 C, xR1 C, xR2 C, xR3 C, xR4 C, xR5 C, xR6 C, xR7 C, xR8 C, xR9 C, sR4 C.now, sR5 C.now, sR6 C.now, sR7 C.now, sR8 C.now, sR9 C.now, sR10 C.now, sI0 C.now, sI1 C.now, sI2 C.now, sI3 C.now, kxi_s, kxr_s, kxv_s, Option.bind_some, if_true, if_false, i10, c189w C, List.nil_append, List.cons_append, List.append_nil, hN, eq_false (nI_ge (show i < N by omega) (show N < 2 ^ 31 by omega)), c221 C.now (show i < 100 by omega), c190w C (xs := s) (show s.length < 100 by omega)]
    rw [fo]
    by_cases c1 : brs (bw f) i p c = true
    · have e : (frS f p c) i s = s ++ [nI i] := by simp [frS, eq_true c1]
      rw [e]
      simp only [eq_true c1, if_true, if_false, i10, nI_1, Int32.add_zero, or0, Bool.false_eq_true, Bool.true_eq_false]
      exact ih (s ++ [nI i]) (by first | omega | (simp; omega))
    · have e : (frS f p c) i s = s := by simp [frS, eq_false c1]
      rw [e]
      simp only [eq_false c1, if_true, if_false, i10, nI_1, Int32.add_zero, or0, Bool.false_eq_true, Bool.true_eq_false]
      exact ih (s) (by first | omega | (simp; omega))
theorem e153 (M : isM W) {N : Nat} (hN : f 1105 = nI N) (hN2 : N ≤ 100) (p c : Int32) : ∀ n i (s : List Int32), i + n = N → s.length + n ≤ 100 → dn 153 45 [some (.ref 39), some (.int p), some (.int c), some (.int (nI i))] [] (tm W (m1 (m2 m 39 12 (nI (s).length)) 40 f) (llm l ((s).map Int32.toInt64))) = some (some (.int (nI (fo (frS f p c) n i s).length)), tm W (m1 (m2 m 39 12 (nI (fo (frS f p c) n i s).length)) 40 f) (llm l ((fo (frS f p c) n i s).map Int32.toInt64)))
  | 0, i, s, h, hv => by
    have hi : i = N := by omega
    subst hi
    rw [q_153_45]
    simp only [rok M, rR0 M, rR1 M, rR2 M, rR4 M, rR6 M, rR7 M, rR8 M, rR9 M, rR11 M, rR16 M, rR17 M, rR24 M, rR25 M, rR26 M, rR27 M, rR28 M, rR29 M, rR30 M, rR32 M, rR33 M, rR34 M, wl4 M, wl5 M, wl6 M, wl7 M, ruw13 M, ruw12 M, kxi_s, kxr_s, kxv_s, Option.bind_some, if_true, if_false, i10, c71a M, c71b M, c71c M, c71d M, hN, eq_true (Int32.le_refl (nI i)), fo, rIw12 M, m2_s]
  | n + 1, i, s, h, hv => by
    have ih := fun s => e153 M hN hN2 p c n (i + 1) s (by omega)
    rw [q_153_45]
    simp only [rok M, rR0 M, rR1 M, rR2 M, rR4 M, rR6 M, rR7 M, rR8 M, rR9 M, rR11 M, rR16 M, rR17 M, rR24 M, rR25 M, rR26 M, rR27 M, rR28 M, rR29 M, rR30 M, rR32 M, rR33 M, rR34 M, wl4 M, wl5 M, wl6 M, wl7 M, ruw13 M, ruw12 M, kxi_s, kxr_s, kxv_s, Option.bind_some, if_true, if_false, i10, c71a M, c71b M, c71c M, c71d M, hN, eq_false (nI_ge (show i < N by omega) (show N < 2 ^ 31 by omega)), c79_0 M (show i < 100 by omega), c89 M (show i < 100 by omega), c71s M (s := s) (show s.length < 128 by omega), nI_1]
    rw [fo]
    by_cases c0 : f (304 + (8 * i)) = p
    · by_cases c1 : brs (bw f) i (f (304 + (8 * i))) c = true
      · have c1' : brs (bw f) i p c = true := (brs_its _ _ _ _).mpr ⟨c0, c1⟩
        rw [if_pos c0, if_pos c1, if_neg (by decide), show frS f p c i s = s ++ [nI i] by simp [frS, c1']]
        exact ih (s ++ [nI i]) (by simp; omega)
      · have c1' : ¬ brs (bw f) i p c = true := fun q => c1 ((brs_its _ _ _ _).mp q).2
        rw [if_pos c0, if_neg c1, if_pos rfl, show frS f p c i s = s by simp [frS, c1']]
        exact ih s (by omega)
    · have c1' : ¬ brs (bw f) i p c = true := fun q => c0 ((brs_its _ _ _ _).mp q).1
      rw [if_neg c0, show frS f p c i s = s by simp [frS, c1']]
      exact ih s (by omega)
theorem fr_len (f : Nat → Int32) (p c : Int32) : ∀ n i (s : List Int32), (fo (frS f p c) n i s).length ≤ s.length + n
  | 0, _, _ => Nat.le_refl _
  | n + 1, i, s => by
    rw [fo]
    refine Nat.le_trans (fr_len f p c n (i + 1) _) ?_
    unfold frS
    split
    · simp; omega
    · omega
theorem frB_SR {P N E : Nat} (S : SR f g P N E) (p c : Int32) : ∀ n i, i + n ≤ N → frB f p c n i = frB g p c n i
  | 0, _, _ => rfl
  | n + 1, i, h => by
    rw [frB, frB, S.brs (by omega), S.row (by omega) (by decide), frB_SR S p c n (i + 1) (by omega)]
theorem b_frees {j : Nat} (hj : j < 600) (h : Inv j W m l) (x0 x1 : Int32) : Both j W m l 35 153 [.int x0, .int x1] [.int x0, .int x1] := by
  obtain ⟨⟨C, M, -⟩, ⟨P, N, E, S, V, hE, hB⟩, -, -, R, -, hrow⟩ := id h
  have p12 := S.P12
  have n100 := S.N100
  rcases arg x0 P (by omega) with ⟨a0, h0, rfl⟩ | h0
  · rcases arg x1 4 (by decide) with ⟨a1, h1, rfl⟩ | h1
    · have eC := d35 (m := m) (l := l) C S.f5 n100 (nI a0) (nI a1) N 0 (by omega)
      rw [frB_SR S _ _ N 0 (by omega)] at eC
      have eR := fun (m' : Nat → Nat → Int32) => d153 (m := m') (l := l) (f := m 40) M S.g5 n100 (nI a0) (nI a1) N 0 (by omega)
      by_cases hb : frB (m 40) (nI a0) (nI a1) N 0 = true
      · refine Both_n h (r := -2) ?_ ?_
        · simp only [q_35, xok C, vok C, sok C.now, xR0 C, xR1 C, xR2 C, xR3 C, xR4 C, xR5 C, xR6 C, xR7 C, xR8 C, xR9 C, sR4 C.now, sR5 C.now, sR6 C.now, sR7 C.now, sR8 C.now, sR9 C.now, sR10 C.now, sI0 C.now, sI1 C.now, sI2 C.now, sI3 C.now, kxi_s, kxr_s, kxv_s, Option.bind_some, if_true, if_false, i10, c189w C, List.nil_append, List.cons_append, List.append_nil, c52y C S.f4 S.P12 h0, c49y h1]
          rw [show dn 35 11 [some (.ref 0), some (.int (nI a0)), some (.int (nI a1)), some (.int 0)] [] (tm W (wv m 13 (vw m 13)) l) = _ from eC, if_pos hb]
        · simp only [q_153, rok M, rR0 M, rR1 M, rR2 M, rR4 M, rR6 M, rR7 M, rR8 M, rR9 M, rR11 M, rR16 M, rR17 M, rR24 M, rR25 M, rR26 M, rR27 M, rR28 M, rR29 M, rR30 M, rR32 M, rR33 M, rR34 M, wl4 M, wl5 M, wl6 M, wl7 M, ruw13 M, ruw12 M, kxi_s, kxr_s, kxv_s, Option.bind_some, if_true, if_false, i10, c71a M, c71b M, c71c M, c71d M, c77y M S.g4 S.P12 h0, c75y h1]
          rw [show dn 153 14 [some (.ref 39), some (.int (nI a0)), some (.int (nI a1)), some (.int 0)] [] _ = _ from eR _, if_pos hb]
      · have e : fo (frS (vw m 13) (nI a0) (nI a1)) N 0 [] = fo (frS (m 40) (nI a0) (nI a1)) N 0 [] := by
          refine fo_cong N 0 _ fun b a _ hb => ?_
          unfold frS
          rw [S.brs (by omega)]
        refine Both_q h (r := nI (fo (frS (vw m 13) (nI a0) (nI a1)) N 0 []).length) (xs := fo (frS (vw m 13) (nI a0) (nI a1)) N 0 []) ?_ ?_ ?_
        · have := fr_len (vw m 13) (nI a0) (nI a1) N 0 []
          simp at this
          omega
        · simp only [q_35, xok C, vok C, sok C.now, xR0 C, xR1 C, xR2 C, xR3 C, xR4 C, xR5 C, xR6 C, xR7 C, xR8 C, xR9 C, sR4 C.now, sR5 C.now, sR6 C.now, sR7 C.now, sR8 C.now, sR9 C.now, sR10 C.now, sI0 C.now, sI1 C.now, sI2 C.now, sI3 C.now, kxi_s, kxr_s, kxv_s, Option.bind_some, if_true, if_false, i10, c189w C, List.nil_append, List.cons_append, List.append_nil, c52y C S.f4 S.P12 h0, c49y h1]
          rw [show dn 35 11 [some (.ref 0), some (.int (nI a0)), some (.int (nI a1)), some (.int 0)] [] (tm W (wv m 13 (vw m 13)) l) = _ from eC, if_neg hb]
          rw [q_35_11]
          simp only [xok C, vok C, sok C.now, xR0 C, xR1 C, xR2 C, xR3 C, xR4 C, xR5 C, xR6 C, xR7 C, xR8 C, xR9 C, sR4 C.now, sR5 C.now, sR6 C.now, sR7 C.now, sR8 C.now, sR9 C.now, sR10 C.now, sI0 C.now, sI1 C.now, sI2 C.now, sI3 C.now, kxi_s, kxr_s, kxv_s, Option.bind_some, if_true, if_false, i10, c189w C, List.nil_append, List.cons_append, List.append_nil, S.f5, eq_true (Int32.le_refl (nI N))]
          exact e35 C S.f5 n100 (nI a0) (nI a1) N 0 [] (by omega) (by simpa using n100)
        · rw [e]
          simp only [q_153, rok M, rR0 M, rR1 M, rR2 M, rR4 M, rR6 M, rR7 M, rR8 M, rR9 M, rR11 M, rR16 M, rR17 M, rR24 M, rR25 M, rR26 M, rR27 M, rR28 M, rR29 M, rR30 M, rR32 M, rR33 M, rR34 M, wl4 M, wl5 M, wl6 M, wl7 M, ruw13 M, ruw12 M, kxi_s, kxr_s, kxv_s, Option.bind_some, if_true, if_false, i10, c71a M, c71b M, c71c M, c71d M, c77y M S.g4 S.P12 h0, c75y h1]
          rw [show dn 153 14 [some (.ref 39), some (.int (nI a0)), some (.int (nI a1)), some (.int 0)] [] _ = _ from eR _, if_neg hb]
          rw [q_153_14]
          simp only [rR0 M, wl5 M, Option.bind_some, S.g5, eq_true (Int32.le_refl (nI N)), if_true, ruw12n M]
          exact e153 M S.g5 n100 (nI a0) (nI a1) N 0 [] (by omega) (by simpa using n100)
    · refine Both_n h (r := -1) ?_ ?_
      · simp only [q_35, xok C, vok C, sok C.now, xR0 C, xR1 C, xR2 C, xR3 C, xR4 C, xR5 C, xR6 C, xR7 C, xR8 C, xR9 C, sR4 C.now, sR5 C.now, sR6 C.now, sR7 C.now, sR8 C.now, sR9 C.now, sR10 C.now, sI0 C.now, sI1 C.now, sI2 C.now, sI3 C.now, kxi_s, kxr_s, kxv_s, Option.bind_some, if_true, if_false, i10, c189w C, List.nil_append, List.cons_append, List.append_nil, c52y C S.f4 S.P12 h0, c49n h1]
      · simp only [q_153, rok M, rR0 M, rR1 M, rR2 M, rR4 M, rR6 M, rR7 M, rR8 M, rR9 M, rR11 M, rR16 M, rR17 M, rR24 M, rR25 M, rR26 M, rR27 M, rR28 M, rR29 M, rR30 M, rR32 M, rR33 M, rR34 M, wl4 M, wl5 M, wl6 M, wl7 M, ruw13 M, ruw12 M, kxi_s, kxr_s, kxv_s, Option.bind_some, if_true, if_false, i10, c71a M, c71b M, c71c M, c71d M, c77y M S.g4 S.P12 h0, c75n h1]
  · refine Both_n h (r := -1) ?_ ?_
    · simp only [q_35, xok C, vok C, sok C.now, xR0 C, xR1 C, xR2 C, xR3 C, xR4 C, xR5 C, xR6 C, xR7 C, xR8 C, xR9 C, sR4 C.now, sR5 C.now, sR6 C.now, sR7 C.now, sR8 C.now, sR9 C.now, sR10 C.now, sI0 C.now, sI1 C.now, sI2 C.now, sI3 C.now, kxi_s, kxr_s, kxv_s, Option.bind_some, if_true, if_false, i10, c189w C, List.nil_append, List.cons_append, List.append_nil, c52n C S.f4 h0]
    · simp only [q_153, rok M, rR0 M, rR1 M, rR2 M, rR4 M, rR6 M, rR7 M, rR8 M, rR9 M, rR11 M, rR16 M, rR17 M, rR24 M, rR25 M, rR26 M, rR27 M, rR28 M, rR29 M, rR30 M, rR32 M, rR33 M, rR34 M, wl4 M, wl5 M, wl6 M, wl7 M, ruw13 M, ruw12 M, kxi_s, kxr_s, kxv_s, Option.bind_some, if_true, if_false, i10, c71a M, c71b M, c71c M, c71d M, c77n M S.g4 S.P12 h0]
end QRK

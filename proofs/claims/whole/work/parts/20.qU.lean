section QRU
variable {W : tm_W} {m : Nat → Nat → Int32} {l : Nat → Nat → Int64} {f g : Nat → Int32}
/-! decide -/
/-- a ban is settled: z = 0 not granted, x more; else granted -/
def tSt (f : Nat → Int32) (E b : Nat) (z x : Int32) : Nat → Int32 := if z = 0 then tEn (upd (upd f (304 + (8 * b + 4)) 2) (304 + (8 * b + 2)) (f (304 + (8 * b + 2)) + x)) E 5 (nI b) else tEn (upd (upd f (304 + (8 * b + 4)) 2) (304 + (8 * b + 2)) 0) E 3 (nI b)
theorem upd7 {b j : Nat} (hb : b < 100) (hj : j < 8) {v : Int32} {x : Int32} (h : f 1107 = x) : upd f (304 + (8 * b + j)) v 1107 = x := by
  rw [pk_un (by omega)]
  exact h
theorem c232 (C : isC W) {E b : Nat} (hb : b < 100) (hE : f 1107 = nI E) (hE2 : E < 2 ^ 30) (z x : Int32) : cl 232 [.ref 13, .int (nI b), .int z, .int x] (tm W (wv m 13 f) l) = some (none, tm W (wv m 13 (tSt f E b z x)) l) := by
  unfold tSt
  have e2 : upd f (304 + (8 * b + 4)) 2 (304 + (8 * b + 2)) = f (304 + (8 * b + 2)) := pk_un (by omega)
  by_cases hz : z = 0
  · simp only [q_232, xok C, vok C, sok C.now, xR0 C, xR1 C, xR2 C, xR3 C, xR4 C, xR5 C, xR6 C, xR7 C, xR8 C, xR9 C, sR4 C.now, sR5 C.now, sR6 C.now, sR7 C.now, sR8 C.now, sR9 C.now, sR10 C.now, sI0 C.now, sI1 C.now, sI2 C.now, sI3 C.now, kxi_s, kxr_s, kxv_s, Option.bind_some, if_true, if_false, i10, c189w C, List.nil_append, List.cons_append, List.append_nil, eq_true hz, c217_4 C.now hb, c216_2 C.now hb, e2, c217_2 C.now hb, c234 C.now (upd7 hb (show 2 < 8 by decide) (upd7 hb (show 4 < 8 by decide) hE)) hE2]
  · simp only [q_232, xok C, vok C, sok C.now, xR0 C, xR1 C, xR2 C, xR3 C, xR4 C, xR5 C, xR6 C, xR7 C, xR8 C, xR9 C, sR4 C.now, sR5 C.now, sR6 C.now, sR7 C.now, sR8 C.now, sR9 C.now, sR10 C.now, sI0 C.now, sI1 C.now, sI2 C.now, sI3 C.now, kxi_s, kxr_s, kxv_s, Option.bind_some, if_true, if_false, i10, c189w C, List.nil_append, List.cons_append, List.append_nil, eq_false hz, c217_4 C.now hb, c217_2 C.now hb, c234 C.now (upd7 hb (show 2 < 8 by decide) (upd7 hb (show 4 < 8 by decide) hE)) hE2]
theorem tSt_2 (f : Nat → Int32) {E b : Nat} (hb : b < 100) (z x : Int32) : tSt f E b z x (304 + (8 * b + 2)) = if z = 0 then f (304 + (8 * b + 2)) + x else 0 := by
  unfold tSt
  split
  · rw [tEn_lo _ _ _ _ (Or.inr ⟨by omega, by omega⟩), pk_us]
  · rw [tEn_lo _ _ _ _ (Or.inr ⟨by omega, by omega⟩), pk_us]
theorem SR_st {P N E b : Nat} (S : SR f g P N E) (hb : b < N) (z x : Int32) : SR (tSt f E b z x) (tSt g E b z x) P N (E + 1) := by
  unfold tSt
  rw [S.row hb (show 2 < 8 by decide)]
  split
  · exact SR_en (SR_bu (SR_bu S hb (show 4 < 8 by decide) _) hb (show 2 < 8 by decide) _) _ _
  · exact SR_en (SR_bu (SR_bu S hb (show 4 < 8 by decide) _) hb (show 2 < 8 by decide) _) _ _
theorem VR_2 {P N E b k : Nat} (V : VR g P N E) (hb : b < N) (hP : P ≤ 12) (hN : N ≤ 100) (hk : k ≤ 12) : VR (upd (upd g (304 + (8 * b + 4)) 2) (304 + (8 * b + 2)) (nI k)) P N E := by
  obtain ⟨a1, a2, a3⟩ := V
  refine ⟨fun q hq => ?_, fun c hc => ?_, fun e he => ?_⟩
  · rw [pk_un (by omega), pk_un (by omega)]
    exact a1 q hq
  · by_cases hcb : c = b
    · subst hcb
      obtain ⟨b1, b2, b3, b5⟩ := a2 c hc
      exact ⟨by rw [pk_un (by omega), pk_un (by omega)]; exact b1, by rw [pk_un (by omega), pk_un (by omega)]; exact b2, ⟨k, hk, pk_us, Or.inr (by rw [pk_un (by omega), pk_us])⟩, by rw [pk_un (by omega), pk_un (by omega)]; exact b5⟩
    · unfold bOK
      rw [pk_un (by omega), pk_un (by omega), pk_un (by omega), pk_un (by omega), pk_un (by omega), pk_un (by omega), pk_un (by omega), pk_un (by omega), pk_un (by omega), pk_un (by omega)]
      exact a2 c hc
  · rw [pk_un (by omega), pk_un (by omega), pk_un (by omega), pk_un (by omega)]
    exact a3 e he
theorem VR_st {P N E b k : Nat} (V : VR g P N E) (hb : b < N) (hP : P ≤ 12) (hN : N ≤ 100) (hk : k ≤ 3) (h4 : g (304 + (8 * b + 4)) = 1) (z : Int32) : VR (tSt g E b z (nI k)) P N (E + 1) := by
  unfold tSt
  split
  · obtain ⟨-, -, ⟨n, n1, n2, n3⟩, -⟩ := V.2.1 b hb
    have hn : n ≤ 9 := n3.resolve_right (by rw [h4]; decide)
    rw [n2, nI_add]
    exact VR_en (w := 5) (VR_2 V hb hP hN (by omega)) (by decide) hb hP hN
  · exact VR_en (w := 3) (VR_2 (k := 0) V hb hP hN (by omega)) (by decide) hb hP hN
theorem CB_st {B E b : Nat} (h : CB g B) (z x : Int32) : CB (tSt g E b z x) B := by
  unfold tSt
  split
  · exact CB_en (CB_bu (CB_bu h _) _) _ _
  · exact CB_en (CB_bu (CB_bu h _) _) _ _
theorem arg3 (x : Int32) {n : Nat} (hn : n < 2 ^ 20) : (∃ k, k ≤ n ∧ x = nI k) ∨ (x < 0 ∨ ¬ x ≤ nI n) := by
  rcases arg x (n + 1) (by omega) with ⟨k, hk, rfl⟩ | h | h
  · exact Or.inl ⟨k, by omega, rfl⟩
  · exact Or.inr (Or.inl h)
  · refine Or.inr (Or.inr fun q => ?_)
    have := Int32.le_trans h q
    have := (nle (by omega) (by omega)).mp this
    omega
theorem c69l {k n : Nat} (hk : k ≤ n) (hn : n < 2 ^ 20) (h : ia_H) : cl 69 [.long (nI k).toInt64, .long (0 : Int32).toInt64, .long (nI n).toInt64] h = some (some (.int 1), h) := by
  rw [c69i, if_pos ⟨nI_pos' (by omega), (nle (by omega) (by omega)).mpr hk⟩]
theorem c69m {x : Int32} {n : Nat} (hx : x < 0 ∨ ¬ x ≤ nI n) (h : ia_H) : cl 69 [.long x.toInt64, .long (0 : Int32).toInt64, .long (nI n).toInt64] h = some (some (.int 0), h) := by
  rw [c69i, if_neg]
  rintro ⟨h1, h2⟩
  rcases hx with hx | hx
  · exact absurd h1 (Int32.not_le.mpr hx)
  · exact hx h2
theorem b_decide {j : Nat} (hj : j < 600) (h : Inv j W m l) (x0 z x2 : Int32) : Both j W m l 15 121 [.int x0, .int z, .int x2] [.int x0, .int z, .int x2] := by
  obtain ⟨⟨C, M, -⟩, ⟨P, N, E, S, V, hE, hB⟩, -, -, R, -, hrow⟩ := id h
  have p12 := S.P12
  have n100 := S.N100
  -- how many more at most
  obtain ⟨n, hn3, hC15, hR121⟩ : ∃ n, n ≤ 3 ∧ (∀ b h', cl 15 [.ref 0, .int b, .int z, .int x2] h' = dn 15 5 [some (.ref 0), some (.int b), some (.int z), some (.int x2), none] [.int (nI n)] h') ∧ (∀ b h', (if z = 0 then dn 121 15 [some (.ref 39), some (.int b), some (.int z), some (.int x2)] [.long 3, .long 0, .long x2.toInt64] h' else dn 121 15 [some (.ref 39), some (.int b), some (.int z), some (.int x2)] [.long 0, .long 0, .long x2.toInt64] h') = dn 121 15 [some (.ref 39), some (.int b), some (.int z), some (.int x2)] [.long (nI n).toInt64, .long (0 : Int32).toInt64, .long x2.toInt64] h') := by
    by_cases hz : z = 0
    · exact ⟨3, by omega, fun b h' => by rw [q_15, if_pos hz]; rfl, fun b h' => by rw [if_pos hz]; rfl⟩
    · exact ⟨0, by omega, fun b h' => by rw [q_15, if_neg hz]; rfl, fun b h' => by rw [if_neg hz]; rfl⟩
  rcases arg x0 N (by omega) with ⟨b, hb, rfl⟩ | h0
  · have r4 := S.row hb (show 4 < 8 by decide)
    rcases arg3 x2 (n := n) (by omega) with ⟨k, hk, rfl⟩ | h2
    · have e1 : (nI k < 0) = False := eq_false (nI_pos (by omega))
      have e2 : (nI k ≤ nI n) = True := eq_true ((nle (by omega) (by omega)).mpr hk)
      by_cases c4 : m 40 (304 + (8 * b + 4)) = 1
      · obtain ⟨nx, s, W', mk, ⟨hnx, hs⟩, ⟨C', M', hW, hsh⟩, ⟨k39, k10, k44, k40, k5⟩, e174, hInv⟩ := act_keep h
        refine Both_a (if z = 0 then m 40 (304 + (8 * b + 2)) + nI k else 0) (mc := wv mk 13 (tSt (vw m 13) E b z (nI k))) ?_ ?_ (by rw [wv40, k40]) hW hsh (hInv _ _ P N (E + 1) (SR_st S hb z (nI k)) (VR_st V hb p12 n100 (by omega) c4 z) (by omega) (CB_st (CB_le hB sub_le) _ _))
        · rw [hC15]
          simp only [q_15_5, xok C, vok C, sok C.now, xR0 C, xR1 C, xR2 C, xR3 C, xR4 C, xR5 C, xR6 C, xR7 C, xR8 C, xR9 C, sR4 C.now, sR5 C.now, sR6 C.now, sR7 C.now, sR8 C.now, sR9 C.now, sR10 C.now, sI0 C.now, sI1 C.now, sI2 C.now, sI3 C.now, kxi_s, kxr_s, kxv_s, Option.bind_some, if_true, if_false, i10, c189w C, List.nil_append, List.cons_append, List.append_nil, c53y C S.f5 S.N100 hb, e1, e2, c219 C.now (show b < 100 by omega), r4, eq_true c4, hok C, e174, xR6 C', sok C'.now, c232 C' (show b < 100 by omega) S.f7 (show E < 2 ^ 30 by omega), c216_2 C'.now (show b < 100 by omega), tSt_2 _ (show b < 100 by omega), S.row hb (show 2 < 8 by decide)]
        · simp only [q_121, rok M', rR0 M', rR1 M', rR2 M', rR4 M', rR6 M', rR7 M', rR8 M', rR9 M', rR11 M', rR16 M', rR17 M', rR24 M', rR25 M', rR26 M', rR27 M', rR28 M', rR29 M', rR30 M', rR32 M', rR33 M', rR34 M', wl4 M', wl5 M', wl6 M', wl7 M', ruw13 M', ruw12 M', kxi_s, kxr_s, kxv_s, Option.bind_some, if_true, if_false, i10, c71a M', c71b M', c71c M', c71d M', c78y M' S.g5 S.N100 hb]
          rw [hR121]
          simp only [q_121_15, rok M', rR0 M', rR1 M', rR2 M', rR4 M', rR6 M', rR7 M', rR8 M', rR9 M', rR11 M', rR16 M', rR17 M', rR24 M', rR25 M', rR26 M', rR27 M', rR28 M', rR29 M', rR30 M', rR32 M', rR33 M', rR34 M', wl4 M', wl5 M', wl6 M', wl7 M', ruw13 M', ruw12 M', kxi_s, kxr_s, kxv_s, Option.bind_some, if_true, if_false, i10, c71a M', c71b M', c71c M', c71d M', c69l hk (show n < 2 ^ 20 by omega), c79_4 M' (show b < 100 by omega), eq_true c4, c84k M' hs k39 k5, c80_4 M' (show b < 100 by omega), q_121_47]
          have e2' : upd (m 40) (304 + (8 * b + 4)) 2 (304 + (8 * b + 2)) = m 40 (304 + (8 * b + 2)) := pk_un (by omega)
          unfold tSt
          by_cases hz : z = 0
          · have e5 : tEn (upd (upd (m 40) (304 + (8 * b + 4)) 2) (304 + (8 * b + 2)) (m 40 (304 + (8 * b + 2)) + nI k)) E 5 (nI b) (304 + (8 * b + 2)) = m 40 (304 + (8 * b + 2)) + nI k := by
              rw [tEn_lo _ _ _ _ (Or.inr ⟨by omega, by omega⟩), pk_us]
            simp only [rok M', rR0 M', rR1 M', rR2 M', rR4 M', rR6 M', rR7 M', rR8 M', rR9 M', rR11 M', rR16 M', rR17 M', rR24 M', rR25 M', rR26 M', rR27 M', rR28 M', rR29 M', rR30 M', rR32 M', rR33 M', rR34 M', wl4 M', wl5 M', wl6 M', wl7 M', ruw13 M', ruw12 M', kxi_s, kxr_s, kxv_s, Option.bind_some, if_true, if_false, i10, c71a M', c71b M', c71c M', c71d M', eq_true hz, c79_2 M' (show b < 100 by omega), e2', c80_2 M' (show b < 100 by omega), c85 M' (upd7 (show b < 100 by omega) (show 2 < 8 by decide) (upd7 (show b < 100 by omega) (show 4 < 8 by decide) S.g7)) (show E < 2 ^ 30 by omega), e5]
          · have e5 : tEn (upd (upd (m 40) (304 + (8 * b + 4)) 2) (304 + (8 * b + 2)) 0) E 3 (nI b) (304 + (8 * b + 2)) = 0 := by
              rw [tEn_lo _ _ _ _ (Or.inr ⟨by omega, by omega⟩), pk_us]
            simp only [rok M', rR0 M', rR1 M', rR2 M', rR4 M', rR6 M', rR7 M', rR8 M', rR9 M', rR11 M', rR16 M', rR17 M', rR24 M', rR25 M', rR26 M', rR27 M', rR28 M', rR29 M', rR30 M', rR32 M', rR33 M', rR34 M', wl4 M', wl5 M', wl6 M', wl7 M', ruw13 M', ruw12 M', kxi_s, kxr_s, kxv_s, Option.bind_some, if_true, if_false, i10, c71a M', c71b M', c71c M', c71d M', eq_false hz, c79_2 M' (show b < 100 by omega), e2', c80_2 M' (show b < 100 by omega), c85 M' (upd7 (show b < 100 by omega) (show 2 < 8 by decide) (upd7 (show b < 100 by omega) (show 4 < 8 by decide) S.g7)) (show E < 2 ^ 30 by omega), e5]
      · refine Both_n h (r := -2) ?_ ?_
        · rw [hC15]
          simp only [q_15_5, xok C, vok C, sok C.now, xR0 C, xR1 C, xR2 C, xR3 C, xR4 C, xR5 C, xR6 C, xR7 C, xR8 C, xR9 C, sR4 C.now, sR5 C.now, sR6 C.now, sR7 C.now, sR8 C.now, sR9 C.now, sR10 C.now, sI0 C.now, sI1 C.now, sI2 C.now, sI3 C.now, kxi_s, kxr_s, kxv_s, Option.bind_some, if_true, if_false, i10, c189w C, List.nil_append, List.cons_append, List.append_nil, c53y C S.f5 S.N100 hb, e1, e2, c219 C.now (show b < 100 by omega), r4, eq_false c4]
        · simp only [q_121, rok M, rR0 M, rR1 M, rR2 M, rR4 M, rR6 M, rR7 M, rR8 M, rR9 M, rR11 M, rR16 M, rR17 M, rR24 M, rR25 M, rR26 M, rR27 M, rR28 M, rR29 M, rR30 M, rR32 M, rR33 M, rR34 M, wl4 M, wl5 M, wl6 M, wl7 M, ruw13 M, ruw12 M, kxi_s, kxr_s, kxv_s, Option.bind_some, if_true, if_false, i10, c71a M, c71b M, c71c M, c71d M, c78y M S.g5 S.N100 hb]
          rw [hR121]
          simp only [q_121_15, rok M, rR0 M, rR1 M, rR2 M, rR4 M, rR6 M, rR7 M, rR8 M, rR9 M, rR11 M, rR16 M, rR17 M, rR24 M, rR25 M, rR26 M, rR27 M, rR28 M, rR29 M, rR30 M, rR32 M, rR33 M, rR34 M, wl4 M, wl5 M, wl6 M, wl7 M, ruw13 M, ruw12 M, kxi_s, kxr_s, kxv_s, Option.bind_some, if_true, if_false, i10, c71a M, c71b M, c71c M, c71d M, c69l hk (show n < 2 ^ 20 by omega), c79_4 M (show b < 100 by omega), eq_false c4]
    · refine Both_n h (r := -1) ?_ ?_
      · rw [hC15]
        simp only [q_15_5, xok C, vok C, sok C.now, xR0 C, xR1 C, xR2 C, xR3 C, xR4 C, xR5 C, xR6 C, xR7 C, xR8 C, xR9 C, sR4 C.now, sR5 C.now, sR6 C.now, sR7 C.now, sR8 C.now, sR9 C.now, sR10 C.now, sI0 C.now, sI1 C.now, sI2 C.now, sI3 C.now, kxi_s, kxr_s, kxv_s, Option.bind_some, if_true, if_false, i10, c189w C, List.nil_append, List.cons_append, List.append_nil, c53y C S.f5 S.N100 hb]
        rcases h2 with h2 | h2
        · rw [if_pos h2]
        · rw [if_neg h2]
          split <;> rfl
      · simp only [q_121, rok M, rR0 M, rR1 M, rR2 M, rR4 M, rR6 M, rR7 M, rR8 M, rR9 M, rR11 M, rR16 M, rR17 M, rR24 M, rR25 M, rR26 M, rR27 M, rR28 M, rR29 M, rR30 M, rR32 M, rR33 M, rR34 M, wl4 M, wl5 M, wl6 M, wl7 M, ruw13 M, ruw12 M, kxi_s, kxr_s, kxv_s, Option.bind_some, if_true, if_false, i10, c71a M, c71b M, c71c M, c71d M, c78y M S.g5 S.N100 hb]
        rw [hR121]
        simp only [q_121_15, rok M, rR0 M, rR1 M, rR2 M, rR4 M, rR6 M, rR7 M, rR8 M, rR9 M, rR11 M, rR16 M, rR17 M, rR24 M, rR25 M, rR26 M, rR27 M, rR28 M, rR29 M, rR30 M, rR32 M, rR33 M, rR34 M, wl4 M, wl5 M, wl6 M, wl7 M, ruw13 M, ruw12 M, kxi_s, kxr_s, kxv_s, Option.bind_some, if_true, if_false, i10, c71a M, c71b M, c71c M, c71d M, c69m h2]
  · refine Both_n h (r := -1) ?_ ?_
    · rw [hC15]
      simp only [q_15_5, xok C, vok C, sok C.now, xR0 C, xR1 C, xR2 C, xR3 C, xR4 C, xR5 C, xR6 C, xR7 C, xR8 C, xR9 C, sR4 C.now, sR5 C.now, sR6 C.now, sR7 C.now, sR8 C.now, sR9 C.now, sR10 C.now, sI0 C.now, sI1 C.now, sI2 C.now, sI3 C.now, kxi_s, kxr_s, kxv_s, Option.bind_some, if_true, if_false, i10, c189w C, List.nil_append, List.cons_append, List.append_nil, c53n C S.f5 h0]
    · simp only [q_121, rok M, rR0 M, rR1 M, rR2 M, rR4 M, rR6 M, rR7 M, rR8 M, rR9 M, rR11 M, rR16 M, rR17 M, rR24 M, rR25 M, rR26 M, rR27 M, rR28 M, rR29 M, rR30 M, rR32 M, rR33 M, rR34 M, wl4 M, wl5 M, wl6 M, wl7 M, ruw13 M, ruw12 M, kxi_s, kxr_s, kxv_s, Option.bind_some, if_true, if_false, i10, c71a M, c71b M, c71c M, c71d M, c78n M S.g5 S.N100 h0]
end QRU

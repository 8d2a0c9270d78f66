section QRT
variable {W : tm_W} {m : Nat → Nat → Int32} {l : Nat → Nat → Int64} {f g : Nat → Int32}
theorem CB_lo {g g' : Nat → Int32} {B : Nat} (h : CB g B) (he : ∀ i, (12 ≤ i ∧ i < 124) → g' i = g i) : CB g' B := fun i hi => by
  rw [he i (by omega)]
  exact h i hi
theorem CB_en {B E : Nat} (h : CB g B) (w b : Int32) : CB (tEn g E w b) B := CB_lo h fun i hi => tEn_lo _ _ _ _ (Or.inl (by omega))
theorem CB_bu {B b j : Nat} (h : CB g B) (v : Int32) : CB (upd g (304 + (8 * b + j)) v) B := CB_lo h fun i hi => pk_un (by omega)
theorem CB_bn {B E N : Nat} (h : CB g B) (p c n a : Int32) : CB (tBn g E N p c n a) B := CB_en (CB_lo h fun i hi => tBs_lo _ _ _ _ _ _ (Or.inl (by omega)) (by omega)) _ _
theorem rk44 {mk : Nat → Nat → Int32} (s : Nat) (k44 : mk 44 = m 44) (f' : Nat → Int32) : rkM (m1 (m2 (wv mk 13 f') 39 13 0) 40 g) s 44 = m 44 := by
  rw [rkM_o _ _ (by decide) (by decide) (by decide), m1_a _ _ (by decide), m2_r _ _ _ (by decide), wv_out _ _ (by omega), k44]
/-! bans -/
theorem arg9 (x : Int32) : (∃ k, 1 ≤ k ∧ k ≤ 9 ∧ x = nI k) ∨ (x < 1 ∨ 9 < x) := by
  rcases arg x 10 (by decide) with ⟨k, hk, rfl⟩ | h | h
  · by_cases h0 : k = 0
    · subst h0
      exact Or.inr (Or.inl (by decide))
    · exact Or.inl ⟨k, by omega, by omega, rfl⟩
  · exact Or.inr (Or.inl (Int32.lt_of_lt_of_le h (by decide)))
  · exact Or.inr (Or.inr (Int32.lt_of_lt_of_le (show (9 : Int32) < nI 10 by decide) h))
theorem in9y {k : Nat} (h1 : 1 ≤ k) (h9 : k ≤ 9) (h : ia_H) : cl 69 [.long (nI k).toInt64, .long 1, .long 9] h = some (some (.int 1), h) := by
  have e := c69i (nI k) 1 9 h
  rw [show (1 : Int32).toInt64 = 1 by decide, show (9 : Int32).toInt64 = 9 by decide, if_pos ⟨(nle (a := 1) (by decide) (by omega)).mpr h1, (nle (b := 9) (by omega) (by decide)).mpr h9⟩] at e
  exact e
theorem in9n {x : Int32} (hx : x < 1 ∨ 9 < x) (h : ia_H) : cl 69 [.long x.toInt64, .long 1, .long 9] h = some (some (.int 0), h) := by
  have e := c69i x 1 9 h
  rw [show (1 : Int32).toInt64 = 1 by decide, show (9 : Int32).toInt64 = 9 by decide, if_neg (fun q => by
    rcases hx with hx | hx
    · exact absurd q.1 (Int32.not_le.mpr hx)
    · exact absurd q.2 (Int32.not_le.mpr hx))] at e
  exact e
theorem tBn_5 (g : Nat → Int32) (E N : Nat) (hN : N < 100) (p c n a : Int32) : tBn g E N p c n a 1105 = nI (N + 1) := by
  unfold tBn
  rw [tEn_lo _ _ _ _ (Or.inr ⟨by omega, by omega⟩)]
  unfold tBs
  rw [pk_un (by omega), pk_un (by omega), pk_un (by omega), pk_un (by omega), pk_un (by omega), pk_un (by omega), pk_un (by omega), pk_un (by omega), pk_us]
theorem b_bans {j : Nat} (hj : j < 600) (h : Inv j W m l) (x0 x1 x2 : Int32) : Both j W m l 12 117 [.int x0, .int x1, .int x2] [.int x0, .int x1, .int x2] := by
  obtain ⟨⟨C, M, -⟩, ⟨P, N, E, S, V, hE, hB⟩, -, -, R, -, hrow⟩ := id h
  have p12 := S.P12
  have n100 := S.N100
  rcases arg x0 P (by omega) with ⟨p, hp, rfl⟩ | h0
  · rcases arg x1 4 (by decide) with ⟨c, hc, rfl⟩ | h1
    · rcases arg9 x2 with ⟨n, n1, n9, rfl⟩ | h2
      · have e1 : (nI n < 1) = False := eq_false (fun q => by have := (nlt (b := 1) (by omega) (by decide)).mp q; omega)
        have e2 : (nI n ≤ 9) = True := eq_true ((nle (b := 9) (by omega) (by decide)).mpr n9)
        by_cases hN : N = 100
        · have e3 : (nI N < 100) = False := eq_false (by rw [hN]; decide)
          have e4 : (nI N = 100) = True := eq_true (by rw [hN]; rfl)
          refine Both_n h (r := -4) ?_ ?_
          · simp only [q_12, xok C, vok C, sok C.now, xR0 C, xR1 C, xR2 C, xR3 C, xR4 C, xR5 C, xR6 C, xR7 C, xR8 C, xR9 C, sR4 C.now, sR5 C.now, sR6 C.now, sR7 C.now, sR8 C.now, sR9 C.now, sR10 C.now, sI0 C.now, sI1 C.now, sI2 C.now, sI3 C.now, kxi_s, kxr_s, kxv_s, Option.bind_some, if_true, if_false, i10, c189w C, List.nil_append, List.cons_append, List.append_nil, c52y C S.f4 S.P12 hp, c49y hc, e1, e2, S.f5, e3]
          · simp only [q_117, rok M, rR0 M, rR1 M, rR2 M, rR4 M, rR6 M, rR7 M, rR8 M, rR9 M, rR11 M, rR16 M, rR17 M, rR24 M, rR25 M, rR26 M, rR27 M, rR28 M, rR29 M, rR30 M, rR32 M, rR33 M, rR34 M, wl4 M, wl5 M, wl6 M, wl7 M, ruw13 M, ruw12 M, kxi_s, kxr_s, kxv_s, Option.bind_some, if_true, if_false, i10, c71a M, c71b M, c71c M, c71d M, c77y M S.g4 S.P12 hp, c75y hc, in9y n1 n9, S.g5, e4]
        · have e3 : (nI N < 100) = True := eq_true (nI_lt (b := 100) (by omega) (by decide))
          have e4 : (nI N = 100) = False := eq_false (fun q => hN ((nI_eq (a := N) (b := 100) (by omega) (by decide)).mp q))
          obtain ⟨nx, s, W', mk, ⟨hnx, hs⟩, ⟨C', M', hW, hsh⟩, ⟨k39, k10, k44, k40, k5⟩, e174, hInv⟩ := act_keep h
          have ea : m 10 (12 * c) = m 44 (4 * c) := (R c hc).1.1
          refine Both_a (nI N) (mc := wv mk 13 (tBn (vw m 13) E N (nI p) (nI c) (nI n) (m 44 (4 * c)))) ?_ ?_ (by rw [wv40, k40]) hW hsh (hInv _ _ P (N + 1) (E + 1) (SR_bn S (by omega) (nI p) (nI c) (nI n) (m 44 (4 * c))) (VR_bn V (by omega) p12 hp hc n1 n9 _) (by omega) (CB_bn (CB_le hB sub_le) _ _ _ _))
          · simp only [q_12, xok C, vok C, sok C.now, xR0 C, xR1 C, xR2 C, xR3 C, xR4 C, xR5 C, xR6 C, xR7 C, xR8 C, xR9 C, sR4 C.now, sR5 C.now, sR6 C.now, sR7 C.now, sR8 C.now, sR9 C.now, sR10 C.now, sI0 C.now, sI1 C.now, sI2 C.now, sI3 C.now, kxi_s, kxr_s, kxv_s, Option.bind_some, if_true, if_false, i10, c189w C, List.nil_append, List.cons_append, List.append_nil, c52y C S.f4 S.P12 hp, c49y hc, e1, e2, S.f5, e3, hok C, e174, xR6 C', xR4 C', uok C', c195_0 C' hc, wv10, k10, ea, sok C'.now, c230 C'.now S.f5 (show N < 100 by omega) S.f7 (show E < 2 ^ 30 by omega)]
          · simp only [q_117, rok M', rR0 M', rR1 M', rR2 M', rR4 M', rR6 M', rR7 M', rR8 M', rR9 M', rR11 M', rR16 M', rR17 M', rR24 M', rR25 M', rR26 M', rR27 M', rR28 M', rR29 M', rR30 M', rR32 M', rR33 M', rR34 M', wl4 M', wl5 M', wl6 M', wl7 M', ruw13 M', ruw12 M', kxi_s, kxr_s, kxv_s, Option.bind_some, if_true, if_false, i10, c71a M', c71b M', c71c M', c71d M', c77y M' S.g4 S.P12 hp, c75y hc, in9y n1 n9, S.g5, e4, c84k M' hs k39 k5, c86 M' S.g5 (show N < 100 by omega) S.g7 (show E < 2 ^ 30 by omega) hc, rk44 s k44, tBn_5 _ _ _ (show N < 100 by omega), nI_pred]
      · refine Both_n h (r := -1) ?_ ?_
        · simp only [q_12, xok C, vok C, sok C.now, xR0 C, xR1 C, xR2 C, xR3 C, xR4 C, xR5 C, xR6 C, xR7 C, xR8 C, xR9 C, sR4 C.now, sR5 C.now, sR6 C.now, sR7 C.now, sR8 C.now, sR9 C.now, sR10 C.now, sI0 C.now, sI1 C.now, sI2 C.now, sI3 C.now, kxi_s, kxr_s, kxv_s, Option.bind_some, if_true, if_false, i10, c189w C, List.nil_append, List.cons_append, List.append_nil, c52y C S.f4 S.P12 hp, c49y hc]
          rcases h2 with h2 | h2
          · rw [if_pos h2]
          · rw [if_neg (show ¬ x2 ≤ 9 from Int32.not_le.mpr h2)]
            split <;> rfl
        · simp only [q_117, rok M, rR0 M, rR1 M, rR2 M, rR4 M, rR6 M, rR7 M, rR8 M, rR9 M, rR11 M, rR16 M, rR17 M, rR24 M, rR25 M, rR26 M, rR27 M, rR28 M, rR29 M, rR30 M, rR32 M, rR33 M, rR34 M, wl4 M, wl5 M, wl6 M, wl7 M, ruw13 M, ruw12 M, kxi_s, kxr_s, kxv_s, Option.bind_some, if_true, if_false, i10, c71a M, c71b M, c71c M, c71d M, c77y M S.g4 S.P12 hp, c75y hc, in9n h2]
    · refine Both_n h (r := -1) ?_ ?_
      · simp only [q_12, xok C, vok C, sok C.now, xR0 C, xR1 C, xR2 C, xR3 C, xR4 C, xR5 C, xR6 C, xR7 C, xR8 C, xR9 C, sR4 C.now, sR5 C.now, sR6 C.now, sR7 C.now, sR8 C.now, sR9 C.now, sR10 C.now, sI0 C.now, sI1 C.now, sI2 C.now, sI3 C.now, kxi_s, kxr_s, kxv_s, Option.bind_some, if_true, if_false, i10, c189w C, List.nil_append, List.cons_append, List.append_nil, c52y C S.f4 S.P12 hp, c49n h1]
      · simp only [q_117, rok M, rR0 M, rR1 M, rR2 M, rR4 M, rR6 M, rR7 M, rR8 M, rR9 M, rR11 M, rR16 M, rR17 M, rR24 M, rR25 M, rR26 M, rR27 M, rR28 M, rR29 M, rR30 M, rR32 M, rR33 M, rR34 M, wl4 M, wl5 M, wl6 M, wl7 M, ruw13 M, ruw12 M, kxi_s, kxr_s, kxv_s, Option.bind_some, if_true, if_false, i10, c71a M, c71b M, c71c M, c71d M, c77y M S.g4 S.P12 hp, c75n h1]
  · refine Both_n h (r := -1) ?_ ?_
    · simp only [q_12, xok C, vok C, sok C.now, xR0 C, xR1 C, xR2 C, xR3 C, xR4 C, xR5 C, xR6 C, xR7 C, xR8 C, xR9 C, sR4 C.now, sR5 C.now, sR6 C.now, sR7 C.now, sR8 C.now, sR9 C.now, sR10 C.now, sI0 C.now, sI1 C.now, sI2 C.now, sI3 C.now, kxi_s, kxr_s, kxv_s, Option.bind_some, if_true, if_false, i10, c189w C, List.nil_append, List.cons_append, List.append_nil, c52n C S.f4 h0]
    · simp only [q_117, rok M, rR0 M, rR1 M, rR2 M, rR4 M, rR6 M, rR7 M, rR8 M, rR9 M, rR11 M, rR16 M, rR17 M, rR24 M, rR25 M, rR26 M, rR27 M, rR28 M, rR29 M, rR30 M, rR32 M, rR33 M, rR34 M, wl4 M, wl5 M, wl6 M, wl7 M, ruw13 M, ruw12 M, kxi_s, kxr_s, kxv_s, Option.bind_some, if_true, if_false, i10, c71a M, c71b M, c71c M, c71d M, c77n M S.g4 S.P12 h0]
/-! appeal -/
theorem bOK_ap {P b : Nat} (h : bOK g P b) (h4 : g (304 + (8 * b + 4)) ≠ 2) (v : Int32) : bOK (upd g (304 + (8 * b + 4)) v) P b := by
  obtain ⟨b1, b2, ⟨n, n1, n2, n3⟩, b5⟩ := h
  exact ⟨by rw [pk_un (by omega)]; exact b1, by rw [pk_un (by omega)]; exact b2, ⟨n, n1, by rw [pk_un (by omega)]; exact n2, Or.inl (n3.resolve_right h4)⟩, by rw [pk_un (by omega)]; exact b5⟩
theorem SR_bu {P N E b j : Nat} (S : SR f g P N E) (hb : b < N) (hj : j < 8) (v : Int32) : SR (upd f (304 + (8 * b + j)) v) (upd g (304 + (8 * b + j)) v) P N E := SR_upd S v (by have := S.N100; omega) (by have := S.N100; omega) (by have := S.N100; omega)
theorem b_appeal {j : Nat} (hj : j < 600) (h : Inv j W m l) (x0 : Int32) : Both j W m l 14 120 [.int x0] [.int x0] := by
  obtain ⟨⟨C, M, -⟩, ⟨P, N, E, S, V, hE, hB⟩, -, -, R, -, hrow⟩ := id h
  have p12 := S.P12
  have n100 := S.N100
  rcases arg x0 N (by omega) with ⟨a0, h0, rfl⟩ | h0
  · have r2 := S.row h0 (show 2 < 8 by decide)
    have r4 := S.row h0 (show 4 < 8 by decide)
    by_cases c2 : m 40 (304 + (8 * a0 + 2)) ≤ 0
    · refine Both_n h (r := -2) ?_ ?_
      · simp only [q_14, xok C, vok C, sok C.now, xR0 C, xR1 C, xR2 C, xR3 C, xR4 C, xR5 C, xR6 C, xR7 C, xR8 C, xR9 C, sR4 C.now, sR5 C.now, sR6 C.now, sR7 C.now, sR8 C.now, sR9 C.now, sR10 C.now, sI0 C.now, sI1 C.now, sI2 C.now, sI3 C.now, kxi_s, kxr_s, kxv_s, Option.bind_some, if_true, if_false, i10, c189w C, List.nil_append, List.cons_append, List.append_nil, c53y C S.f5 S.N100 h0, c218 C.now (show a0 < 100 by omega), r2, eq_true c2]
      · simp only [q_120, rok M, rR0 M, rR1 M, rR2 M, rR4 M, rR6 M, rR7 M, rR8 M, rR9 M, rR11 M, rR16 M, rR17 M, rR24 M, rR25 M, rR26 M, rR27 M, rR28 M, rR29 M, rR30 M, rR32 M, rR33 M, rR34 M, wl4 M, wl5 M, wl6 M, wl7 M, ruw13 M, ruw12 M, kxi_s, kxr_s, kxv_s, Option.bind_some, if_true, if_false, i10, c71a M, c71b M, c71c M, c71d M, c78y M S.g5 S.N100 h0, c87 M (show a0 < 100 by omega), eq_true c2]
    · by_cases c4 : m 40 (304 + (8 * a0 + 4)) = 0
      · obtain ⟨nx, s, W', mk, ⟨hnx, hs⟩, ⟨C', M', hW, hsh⟩, ⟨k39, k10, k44, k40, k5⟩, e174, hInv⟩ := act_keep h
        have V' : VR (upd (m 40) (304 + (8 * a0 + 4)) 1) P N E := VR_upd V (by decide) (by omega) p12 1 (Or.inl (bOK_ap (V.2.1 a0 h0) (by rw [c4]; decide) 1))
        have ap : ∀ q : Nat → Int32, tEn (upd q (304 + (8 * a0 + 4)) 1) E 4 (nI a0) (304 + (8 * a0 + 2)) = q (304 + (8 * a0 + 2)) := fun q => by
          rw [tEn_lo _ _ _ _ (Or.inr ⟨by omega, by omega⟩), pk_un (by omega)]
        have e7 : ∀ q : Nat → Int32, q 1107 = nI E → upd q (304 + (8 * a0 + 4)) 1 1107 = nI E := fun q hq => by
          rw [pk_un (by omega)]
          exact hq
        refine Both_a (m 40 (304 + (8 * a0 + 2))) (mc := wv mk 13 (tEn (upd (vw m 13) (304 + (8 * a0 + 4)) 1) E 4 (nI a0))) ?_ ?_ (by rw [wv40, k40]) hW hsh (hInv _ _ P N (E + 1) (SR_en (SR_bu S h0 (show 4 < 8 by decide) 1) 4 (nI a0)) (VR_en (w := 4) V' (by decide) h0 p12 n100) (by omega) (CB_en (CB_bu (CB_le hB sub_le) _) _ _))
        · simp only [q_14, xok C, vok C, sok C.now, xR0 C, xR1 C, xR2 C, xR3 C, xR4 C, xR5 C, xR6 C, xR7 C, xR8 C, xR9 C, sR4 C.now, sR5 C.now, sR6 C.now, sR7 C.now, sR8 C.now, sR9 C.now, sR10 C.now, sI0 C.now, sI1 C.now, sI2 C.now, sI3 C.now, kxi_s, kxr_s, kxv_s, Option.bind_some, if_true, if_false, i10, c189w C, List.nil_append, List.cons_append, List.append_nil, c53y C S.f5 S.N100 h0, c218 C.now (show a0 < 100 by omega), r2, eq_false c2, c216_4 C.now (show a0 < 100 by omega), r4, eq_true c4, hok C, e174, xR6 C', sok C'.now, c217_4 C'.now (show a0 < 100 by omega), c234 C'.now (e7 _ S.f7) (show E < 2 ^ 30 by omega), c216_2 C'.now (show a0 < 100 by omega), ap]
        · simp only [q_120, rok M', rR0 M', rR1 M', rR2 M', rR4 M', rR6 M', rR7 M', rR8 M', rR9 M', rR11 M', rR16 M', rR17 M', rR24 M', rR25 M', rR26 M', rR27 M', rR28 M', rR29 M', rR30 M', rR32 M', rR33 M', rR34 M', wl4 M', wl5 M', wl6 M', wl7 M', ruw13 M', ruw12 M', kxi_s, kxr_s, kxv_s, Option.bind_some, if_true, if_false, i10, c71a M', c71b M', c71c M', c71d M', c78y M' S.g5 S.N100 h0, c87 M' (show a0 < 100 by omega), eq_false c2, c79_4 M' (show a0 < 100 by omega), eq_true c4, c84k M' hs k39 k5, c80_4 M' (show a0 < 100 by omega), c85 M' (e7 _ S.g7) (show E < 2 ^ 30 by omega), c79_2 M' (show a0 < 100 by omega), ap]
      · refine Both_n h (r := -3) ?_ ?_
        · simp only [q_14, xok C, vok C, sok C.now, xR0 C, xR1 C, xR2 C, xR3 C, xR4 C, xR5 C, xR6 C, xR7 C, xR8 C, xR9 C, sR4 C.now, sR5 C.now, sR6 C.now, sR7 C.now, sR8 C.now, sR9 C.now, sR10 C.now, sI0 C.now, sI1 C.now, sI2 C.now, sI3 C.now, kxi_s, kxr_s, kxv_s, Option.bind_some, if_true, if_false, i10, c189w C, List.nil_append, List.cons_append, List.append_nil, c53y C S.f5 S.N100 h0, c218 C.now (show a0 < 100 by omega), r2, eq_false c2, c216_4 C.now (show a0 < 100 by omega), r4, eq_false c4]
        · simp only [q_120, rok M, rR0 M, rR1 M, rR2 M, rR4 M, rR6 M, rR7 M, rR8 M, rR9 M, rR11 M, rR16 M, rR17 M, rR24 M, rR25 M, rR26 M, rR27 M, rR28 M, rR29 M, rR30 M, rR32 M, rR33 M, rR34 M, wl4 M, wl5 M, wl6 M, wl7 M, ruw13 M, ruw12 M, kxi_s, kxr_s, kxv_s, Option.bind_some, if_true, if_false, i10, c71a M, c71b M, c71c M, c71d M, c78y M S.g5 S.N100 h0, c87 M (show a0 < 100 by omega), eq_false c2, c79_4 M (show a0 < 100 by omega), eq_false c4]
  · refine Both_n h (r := -1) ?_ ?_
    · simp only [q_14, xok C, vok C, sok C.now, xR0 C, xR1 C, xR2 C, xR3 C, xR4 C, xR5 C, xR6 C, xR7 C, xR8 C, xR9 C, sR4 C.now, sR5 C.now, sR6 C.now, sR7 C.now, sR8 C.now, sR9 C.now, sR10 C.now, sI0 C.now, sI1 C.now, sI2 C.now, sI3 C.now, kxi_s, kxr_s, kxv_s, Option.bind_some, if_true, if_false, i10, c189w C, List.nil_append, List.cons_append, List.append_nil, c53n C S.f5 h0]
    · simp only [q_120, rok M, rR0 M, rR1 M, rR2 M, rR4 M, rR6 M, rR7 M, rR8 M, rR9 M, rR11 M, rR16 M, rR17 M, rR24 M, rR25 M, rR26 M, rR27 M, rR28 M, rR29 M, rR30 M, rR32 M, rR33 M, rR34 M, wl4 M, wl5 M, wl6 M, wl7 M, ruw13 M, ruw12 M, kxi_s, kxr_s, kxv_s, Option.bind_some, if_true, if_false, i10, c71a M, c71b M, c71c M, c71d M, c78n M S.g5 S.N100 h0]
end QRT

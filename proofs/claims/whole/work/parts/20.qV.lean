section QRV
variable {W : tm_W} {m : Nat → Nat → Int32} {l : Nat → Nat → Int64} {f g : Nat → Int32}
/-! decides -/
def dcS (z : Int32) (b : Nat) (s : (Nat → Int32) × Nat) : (Nat → Int32) × Nat := if s.1 (304 + (8 * b + 4)) = 1 then (tSt s.1 s.2 b z 0, s.2 + 1) else s
theorem tSt_lo (f : Nat → Int32) (E b : Nat) (z x : Int32) {i : Nat} (h1 : i < 124 ∨ (304 ≤ i ∧ i ≠ 1107)) (h2 : i ≠ 304 + (8 * b + 4)) (h3 : i ≠ 304 + (8 * b + 2)) : tSt f E b z x i = f i := by
  unfold tSt
  split
  · rw [tEn_lo _ _ _ _ h1, pk_un h3, pk_un h2]
  · rw [tEn_lo _ _ _ _ h1, pk_un h3, pk_un h2]
theorem tSt_7 (f : Nat → Int32) (E b : Nat) (z x : Int32) : tSt f E b z x 1107 = nI (E + 1) := by
  unfold tSt
  split
  · exact tEn_e _ _ _ _
  · exact tEn_e _ _ _ _
theorem d16 (C : isC W) {N : Nat} (hN2 : N ≤ 100) (z k : Int32) : ∀ n i (s : (Nat → Int32) × Nat), i + n = N → s.1 1105 = nI N → s.1 1107 = nI s.2 → s.2 + n < 2 ^ 30 → dn 16 15 [some (.ref 0), some (.int z), some (.int k), some (.int (nI i))] [] (tm W (wv m 13 s.1) l) = some (some (.int k), tm W (wv m 13 (fo (dcS z) n i s).1) l)
  | 0, i, s, h, h5, h7, hE => by
    have hi : i = N := by omega
    subst hi
    rw [q_16_15]
    simp only [xok C, vok C, sok C.now, xR0 C, xR1 C, xR2 C, xR3 C, xR4 C, xR5 C, xR6 C, xR7 C, xR8 C, xR9 C, sR4 C.now, sR5 C.now, sR6 C.now, sR7 C.now, sR8 C.now, sR9 C.now, sR10 C.now, sI0 C.now, sI1 C.now, sI2 C.now, sI3 C.now, kxi_s, kxr_s, kxv_s, Option.bind_some, if_true, if_false, i10, c189w C, List.nil_append, List.cons_append, List.append_nil, h5, eq_true (Int32.le_refl (nI i)), fo]
  | n + 1, i, s, h, h5, h7, hE => by
    have ih := d16 C hN2 z k n (i + 1)
    rw [q_16_15]
    simp only [xok C, vok C, sok C.now, xR0 C, xR1 C, xR2 C, xR3 C, xR4 C, xR5 C, xR6 C, xR7 C, xR8 C, xR9 C, sR4 C.now, sR5 C.now, sR6 C.now, sR7 C.now, sR8 C.now, sR9 C.now, sR10 C.now, sI0 C.now, sI1 C.now, sI2 C.now, sI3 C.now, kxi_s, kxr_s, kxv_s, Option.bind_some, if_true, if_false, i10, c189w C, List.nil_append, List.cons_append, List.append_nil, h5, eq_false (nI_ge (show i < N by omega) (show N < 2 ^ 31 by omega)), c219 C.now (show i < 100 by omega), c232 C (show i < 100 by omega) h7 (show s.2 < 2 ^ 30 by omega), nI_1]
    rw [fo]
    by_cases c4 : s.1 (304 + (8 * i + 4)) = 1
    · have e : dcS z i s = (tSt s.1 s.2 i z 0, s.2 + 1) := by simp [dcS, c4]
      rw [e]
      simp only [eq_true c4, if_true, i10, if_false]
      exact ih (tSt s.1 s.2 i z 0, s.2 + 1) (by omega) ((tSt_lo _ _ _ _ _ (Or.inr ⟨by omega, by omega⟩) (by omega) (by omega)).trans h5) (tSt_7 _ _ _ _ _) (show s.2 + 1 + n < 2 ^ 30 by omega)
    · have e : dcS z i s = s := by simp [dcS, c4]
      rw [e]
      simp only [eq_false c4, if_false, if_true]
      exact ih s (by omega) h5 h7 (by omega)
theorem upd_id (f : Nat → Int32) (i : Nat) : upd f i (f i) = f := by
  funext k
  by_cases hk : k = i
  · subst hk
    rw [pk_us]
  · rw [pk_un hk]
theorem tSt_0 (f : Nat → Int32) (E b : Nat) (z : Int32) : tSt f E b z 0 = if z = 0 then tEn (upd f (304 + (8 * b + 4)) 2) E 5 (nI b) else tEn (upd (upd f (304 + (8 * b + 4)) 2) (304 + (8 * b + 2)) 0) E 3 (nI b) := by
  unfold tSt
  have e : upd (upd f (304 + (8 * b + 4)) 2) (304 + (8 * b + 2)) (f (304 + (8 * b + 2)) + 0) = upd f (304 + (8 * b + 4)) 2 := by
    have e1 : f (304 + (8 * b + 2)) + 0 = upd f (304 + (8 * b + 4)) 2 (304 + (8 * b + 2)) := by
      rw [pk_un (by omega), Int32.add_zero]
    rw [e1, upd_id]
  rw [e]
theorem d119 (M : isM W) {N : Nat} (hN2 : N ≤ 100) (z k : Int32) : ∀ n i (s : (Nat → Int32) × Nat), i + n = N → s.1 1105 = nI N → s.1 1107 = nI s.2 → s.2 + n < 2 ^ 30 → dn 119 14 [some (.ref 39), some (.int z), some (.int k), some (.int (nI i))] [] (tm W (m1 m 40 s.1) l) = some (some (.int k), tm W (m1 m 40 (fo (dcS z) n i s).1) l)
  | 0, i, s, h, h5, h7, hE => by
    have hi : i = N := by omega
    subst hi
    rw [q_119_14]
    simp only [rok M, rR0 M, rR1 M, rR2 M, rR4 M, rR6 M, rR7 M, rR8 M, rR9 M, rR11 M, rR16 M, rR17 M, rR24 M, rR25 M, rR26 M, rR27 M, rR28 M, rR29 M, rR30 M, rR32 M, rR33 M, rR34 M, wl4 M, wl5 M, wl6 M, wl7 M, ruw13 M, ruw12 M, kxi_s, kxr_s, kxv_s, Option.bind_some, if_true, if_false, i10, c71a M, c71b M, c71c M, c71d M, h5, eq_true (Int32.le_refl (nI i)), fo]
  | n + 1, i, s, h, h5, h7, hE => by
    have ih := d119 M hN2 z k n (i + 1)
    rw [q_119_14]
    simp only [rok M, rR0 M, rR1 M, rR2 M, rR4 M, rR6 M, rR7 M, rR8 M, rR9 M, rR11 M, rR16 M, rR17 M, rR24 M, rR25 M, rR26 M, rR27 M, rR28 M, rR29 M, rR30 M, rR32 M, rR33 M, rR34 M, wl4 M, wl5 M, wl6 M, wl7 M, ruw13 M, ruw12 M, kxi_s, kxr_s, kxv_s, Option.bind_some, if_true, if_false, i10, c71a M, c71b M, c71c M, c71d M, h5, eq_false (nI_ge (show i < N by omega) (show N < 2 ^ 31 by omega)), c79_4 M (show i < 100 by omega), c80_4 M (show i < 100 by omega), c80_2 M (show i < 100 by omega), c85 M (upd7 (show i < 100 by omega) (show 4 < 8 by decide) h7) (show s.2 < 2 ^ 30 by omega), c85 M (upd7 (show i < 100 by omega) (show 2 < 8 by decide) (upd7 (show i < 100 by omega) (show 4 < 8 by decide) h7)) (show s.2 < 2 ^ 30 by omega), nI_1]
    rw [fo]
    by_cases c4 : s.1 (304 + (8 * i + 4)) = 1
    · have e : dcS z i s = (tSt s.1 s.2 i z 0, s.2 + 1) := by simp [dcS, c4]
      have ih' := ih (tSt s.1 s.2 i z 0, s.2 + 1) (by omega) ((tSt_lo _ _ _ _ _ (Or.inr ⟨by omega, by omega⟩) (by omega) (by omega)).trans h5) (tSt_7 _ _ _ _ _) (show s.2 + 1 + n < 2 ^ 30 by omega)
      rw [e, ← ih', if_pos c4]
      show _ = dn 119 14 _ _ (tm W (m1 m 40 (tSt s.1 s.2 i z 0)) l)
      rw [tSt_0]
      by_cases hz : z = 0
      · rw [if_pos hz, if_pos hz, if_pos hz]
      · rw [if_neg hz, if_neg hz, if_neg hz]
    · have e : dcS z i s = s := by simp [dcS, c4]
      rw [e, if_neg c4]
      exact ih s (by omega) h5 h7 (by omega)
/-- both sides in step -/
theorem dc_SR {P N : Nat} (z : Int32) : ∀ n i (f g : Nat → Int32) (E : Nat), i + n ≤ N → SR f g P N E → VR g P N E → ∃ E', E' ≤ E + n ∧ SR (fo (dcS z) n i (f, E)).1 (fo (dcS z) n i (g, E)).1 P N E' ∧ VR (fo (dcS z) n i (g, E)).1 P N E' ∧ ∀ B, CB g B → CB (fo (dcS z) n i (g, E)).1 B
  | 0, i, f, g, E, _, S, V => ⟨E, by omega, S, V, fun _ h => h⟩
  | n + 1, i, f, g, E, h, S, V => by
    rw [fo, fo]
    by_cases c4 : g (304 + (8 * i + 4)) = 1
    · have c4' : f (304 + (8 * i + 4)) = 1 := by rw [S.row (show i < N by omega) (by decide)]; exact c4
      rw [show dcS z i (f, E) = (tSt f E i z 0, E + 1) by simp [dcS, c4'], show dcS z i (g, E) = (tSt g E i z 0, E + 1) by simp [dcS, c4]]
      obtain ⟨E', e1, e2, e3, e4⟩ := dc_SR z n (i + 1) (tSt f E i z 0) (tSt g E i z 0) (E + 1) (by omega) (SR_st S (by omega) z 0) (VR_st (k := 0) V (by omega) S.P12 S.N100 (by omega) c4 z)
      exact ⟨E', by omega, e2, e3, fun B hB => e4 B (CB_st hB _ _)⟩
    · have c4' : ¬ f (304 + (8 * i + 4)) = 1 := by rw [S.row (show i < N by omega) (by decide)]; exact c4
      rw [show dcS z i (f, E) = (f, E) by simp [dcS, c4'], show dcS z i (g, E) = (g, E) by simp [dcS, c4]]
      obtain ⟨E', e1, e2, e3, e4⟩ := dc_SR z n (i + 1) f g E (by omega) S V
      exact ⟨E', by omega, e2, e3, e4⟩
theorem b_decides {j : Nat} (hj : j < 600) (h : Inv j W m l) (z : Int32) : Both j W m l 16 119 [.int z] [.int z] := by
  obtain ⟨⟨C, M, -⟩, ⟨P, N, E, S, V, hE, hB⟩, -, -, R, -, hrow⟩ := id h
  have p12 := S.P12
  have n100 := S.N100
  by_cases c0 : fo (cPn (m 40)) N 0 0 = 0
  · refine Both_n h (r := -2) ?_ ?_
    · simp only [q_16, xok C, vok C, sok C.now, xR0 C, xR1 C, xR2 C, xR3 C, xR4 C, xR5 C, xR6 C, xR7 C, xR8 C, xR9 C, sR4 C.now, sR5 C.now, sR6 C.now, sR7 C.now, sR8 C.now, sR9 C.now, sR10 C.now, sI0 C.now, sI1 C.now, sI2 C.now, sI3 C.now, kxi_s, kxr_s, kxv_s, Option.bind_some, if_true, if_false, i10, c189w C, List.nil_append, List.cons_append, List.append_nil, c229' C S.f5 n100, cPn_SR S, eq_true c0]
    · simp only [q_119, rok M, rR0 M, rR1 M, rR2 M, rR4 M, rR6 M, rR7 M, rR8 M, rR9 M, rR11 M, rR16 M, rR17 M, rR24 M, rR25 M, rR26 M, rR27 M, rR28 M, rR29 M, rR30 M, rR32 M, rR33 M, rR34 M, wl4 M, wl5 M, wl6 M, wl7 M, ruw13 M, ruw12 M, kxi_s, kxr_s, kxv_s, Option.bind_some, if_true, if_false, i10, c71a M, c71b M, c71c M, c71d M, c169 M S.g5 n100, eq_true c0]
  · obtain ⟨nx, s, W', mk, ⟨hnx, hs⟩, ⟨C', M', hW, hsh⟩, ⟨k39, k10, k44, k40, k5⟩, e174, hInv⟩ := act_keep h
    obtain ⟨E', e1, e2, e3, e4⟩ := dc_SR z N 0 (vw m 13) (m 40) E (by omega) S V
    refine Both_a (fo (cPn (m 40)) N 0 0) (mc := wv mk 13 (fo (dcS z) N 0 (vw m 13, E)).1) ?_ ?_ (by rw [wv40, k40]) hW hsh (hInv _ _ P N E' e2 e3 (by omega) (e4 _ (CB_le hB sub_le)))
    · simp only [q_16, xok C, vok C, sok C.now, xR0 C, xR1 C, xR2 C, xR3 C, xR4 C, xR5 C, xR6 C, xR7 C, xR8 C, xR9 C, sR4 C.now, sR5 C.now, sR6 C.now, sR7 C.now, sR8 C.now, sR9 C.now, sR10 C.now, sI0 C.now, sI1 C.now, sI2 C.now, sI3 C.now, kxi_s, kxr_s, kxv_s, Option.bind_some, if_true, if_false, i10, c189w C, List.nil_append, List.cons_append, List.append_nil, c229' C S.f5 n100, cPn_SR S, eq_false c0, hok C, e174]
      exact d16 C' n100 z _ N 0 (vw m 13, E) (by omega) S.f5 S.f7 (show E + N < 2 ^ 30 by omega)
    · simp only [q_119, rok M', rR0 M', rR1 M', rR2 M', rR4 M', rR6 M', rR7 M', rR8 M', rR9 M', rR11 M', rR16 M', rR17 M', rR24 M', rR25 M', rR26 M', rR27 M', rR28 M', rR29 M', rR30 M', rR32 M', rR33 M', rR34 M', wl4 M', wl5 M', wl6 M', wl7 M', ruw13 M', ruw12 M', kxi_s, kxr_s, kxv_s, Option.bind_some, if_true, if_false, i10, c71a M', c71b M', c71c M', c71d M', c169 M' S.g5 n100, eq_false c0, c84k M' hs k39 k5]
      exact d119 M' n100 z _ N 0 (m 40, E) (by omega) S.g5 S.g7 (show E + N < 2 ^ 30 by omega)
/-! pardon -/
def tPd (f : Nat → Int32) (E b : Nat) (n : Int32) : Nat → Int32 := if f (304 + (8 * b + 2)) - n ≤ 0 then (if f (304 + (8 * b + 4)) = 1 then tEn (upd (upd f (304 + (8 * b + 2)) (f (304 + (8 * b + 2)) - n)) (304 + (8 * b + 4)) 2) E 3 (nI b) else tEn (upd f (304 + (8 * b + 2)) (f (304 + (8 * b + 2)) - n)) E 3 (nI b)) else upd f (304 + (8 * b + 2)) (f (304 + (8 * b + 2)) - n)
theorem c233 (C : isC W) {E b : Nat} (hb : b < 100) (hE : f 1107 = nI E) (hE2 : E < 2 ^ 30) (n : Int32) : cl 233 [.ref 13, .int (nI b), .int n] (tm W (wv m 13 f) l) = some (none, tm W (wv m 13 (tPd f E b n)) l) := by
  unfold tPd
  have e2 : upd f (304 + (8 * b + 2)) (f (304 + (8 * b + 2)) - n) (304 + (8 * b + 2)) = f (304 + (8 * b + 2)) - n := pk_us
  have e4 : upd f (304 + (8 * b + 2)) (f (304 + (8 * b + 2)) - n) (304 + (8 * b + 4)) = f (304 + (8 * b + 4)) := pk_un (by omega)
  by_cases h1 : f (304 + (8 * b + 2)) - n ≤ 0
  · by_cases h2 : f (304 + (8 * b + 4)) = 1
    · simp only [q_233, xok C, vok C, sok C.now, xR0 C, xR1 C, xR2 C, xR3 C, xR4 C, xR5 C, xR6 C, xR7 C, xR8 C, xR9 C, sR4 C.now, sR5 C.now, sR6 C.now, sR7 C.now, sR8 C.now, sR9 C.now, sR10 C.now, sI0 C.now, sI1 C.now, sI2 C.now, sI3 C.now, kxi_s, kxr_s, kxv_s, Option.bind_some, if_true, if_false, i10, c189w C, List.nil_append, List.cons_append, List.append_nil, c216_2 C.now hb, c217_2 C.now hb, c218 C.now hb, e2, eq_true h1, c219 C.now hb, e4, eq_true h2, c217_4 C.now hb, c234 C.now (upd7 hb (show 4 < 8 by decide) (upd7 hb (show 2 < 8 by decide) hE)) hE2]
    · simp only [q_233, xok C, vok C, sok C.now, xR0 C, xR1 C, xR2 C, xR3 C, xR4 C, xR5 C, xR6 C, xR7 C, xR8 C, xR9 C, sR4 C.now, sR5 C.now, sR6 C.now, sR7 C.now, sR8 C.now, sR9 C.now, sR10 C.now, sI0 C.now, sI1 C.now, sI2 C.now, sI3 C.now, kxi_s, kxr_s, kxv_s, Option.bind_some, if_true, if_false, i10, c189w C, List.nil_append, List.cons_append, List.append_nil, c216_2 C.now hb, c217_2 C.now hb, c218 C.now hb, e2, eq_true h1, c219 C.now hb, e4, eq_false h2, c234 C.now (upd7 hb (show 2 < 8 by decide) hE) hE2]
  · simp only [q_233, xok C, vok C, sok C.now, xR0 C, xR1 C, xR2 C, xR3 C, xR4 C, xR5 C, xR6 C, xR7 C, xR8 C, xR9 C, sR4 C.now, sR5 C.now, sR6 C.now, sR7 C.now, sR8 C.now, sR9 C.now, sR10 C.now, sI0 C.now, sI1 C.now, sI2 C.now, sI3 C.now, kxi_s, kxr_s, kxv_s, Option.bind_some, if_true, if_false, i10, c189w C, List.nil_append, List.cons_append, List.append_nil, c216_2 C.now hb, c217_2 C.now hb, c218 C.now hb, e2, eq_false h1]
theorem bOK_2 {P b n : Nat} (h : bOK g P b) {k : Nat} (hk : g (304 + (8 * b + 2)) = nI k) (hnk : n ≤ k) (hb : k < 2 ^ 20) : bOK (upd g (304 + (8 * b + 2)) (nI n)) P b := by
  obtain ⟨b1, b2, ⟨q, n1, n2, n3⟩, b5⟩ := h
  have : q = k := by
    rw [n2] at hk
    exact (nI_eq (by omega) (by omega)).mp hk
  subst this
  refine ⟨by rw [pk_un (by omega)]; exact b1, by rw [pk_un (by omega)]; exact b2, ⟨n, by omega, pk_us, ?_⟩, by rw [pk_un (by omega)]; exact b5⟩
  rw [pk_un (by omega)]
  rcases n3 with n3 | n3
  · exact Or.inl (by omega)
  · exact Or.inr n3
theorem subk {k n : Nat} (h : n ≤ k) : nI k - nI n = nI (k - n) := by
  have e : nI k = nI (k - n) + nI n := by
    rw [nI_add, Nat.sub_add_cancel h]
  rw [e, Int32.add_sub_cancel]
theorem b_pardon {j : Nat} (hj : j < 600) (h : Inv j W m l) (x0 x1 : Int32) : Both j W m l 17 122 [.int x0, .int x1] [.int x0, .int x1] := by
  obtain ⟨⟨C, M, -⟩, ⟨P, N, E, S, V, hE, hB⟩, -, -, R, -, hrow⟩ := id h
  have p12 := S.P12
  have n100 := S.N100
  rcases arg x0 N (by omega) with ⟨b, hb, rfl⟩ | h0
  · have r2 := S.row hb (show 2 < 8 by decide)
    have r4 := S.row hb (show 4 < 8 by decide)
    have hb1 : b < 100 := by omega
    obtain ⟨k, hk, ek⟩ := lf_v V hb
    by_cases c1 : (1 : Int32) ≤ x1
    · by_cases c2 : m 40 (304 + (8 * b + 2)) ≤ 0
      · refine Both_n h (r := -2) ?_ ?_
        · simp only [q_17, xok C, vok C, sok C.now, xR0 C, xR1 C, xR2 C, xR3 C, xR4 C, xR5 C, xR6 C, xR7 C, xR8 C, xR9 C, sR4 C.now, sR5 C.now, sR6 C.now, sR7 C.now, sR8 C.now, sR9 C.now, sR10 C.now, sI0 C.now, sI1 C.now, sI2 C.now, sI3 C.now, kxi_s, kxr_s, kxv_s, Option.bind_some, if_true, if_false, i10, c189w C, List.nil_append, List.cons_append, List.append_nil, c53y C S.f5 S.N100 hb, eq_true c1, c218 C.now hb1, r2, eq_true c2]
        · simp only [q_122, rok M, rR0 M, rR1 M, rR2 M, rR4 M, rR6 M, rR7 M, rR8 M, rR9 M, rR11 M, rR16 M, rR17 M, rR24 M, rR25 M, rR26 M, rR27 M, rR28 M, rR29 M, rR30 M, rR32 M, rR33 M, rR34 M, wl4 M, wl5 M, wl6 M, wl7 M, ruw13 M, ruw12 M, kxi_s, kxr_s, kxv_s, Option.bind_some, if_true, if_false, i10, c71a M, c71b M, c71c M, c71d M, c78y M S.g5 S.N100 hb, eq_true c1, c87 M hb1, eq_true c2]
      · by_cases c3 : x1 ≤ m 40 (304 + (8 * b + 2))
        · obtain ⟨n, hn1, hn2, rfl⟩ : ∃ n, 1 ≤ n ∧ n ≤ k ∧ x1 = nI n := by
            rw [ek] at c3
            rcases arg3 x1 (n := k) (by omega) with ⟨n, hn, rfl⟩ | q | q
            · exact ⟨n, (nle (a := 1) (by decide) (by omega)).mp c1, hn, rfl⟩
            · exact absurd c1 (Int32.not_le.mpr (Int32.lt_of_lt_of_le q (by decide)))
            · exact absurd c3 q
          obtain ⟨nx, s, W', mk, ⟨hnx, hs⟩, ⟨C', M', hW, hsh⟩, ⟨k39, k10, k44, k40, k5⟩, e174, hInv⟩ := act_keep h
          have er : vw m 13 (304 + (8 * b + 2)) - nI n = nI (k - n) := by rw [r2, ek, subk hn2]
          have eg : m 40 (304 + (8 * b + 2)) - nI n = nI (k - n) := by rw [ek, subk hn2]
          have t2 : ∀ q : Nat → Int32, q (304 + (8 * b + 2)) - nI n = nI (k - n) → tPd q E b (nI n) (304 + (8 * b + 2)) = nI (k - n) := by
            intro q hq
            unfold tPd
            rw [hq]
            split
            · split
              · rw [tEn_lo _ _ _ _ (Or.inr ⟨by omega, by omega⟩), pk_un (by omega), pk_us]
              · rw [tEn_lo _ _ _ _ (Or.inr ⟨by omega, by omega⟩), pk_us]
            · rw [pk_us]
          have S1 : SR (upd (vw m 13) (304 + (8 * b + 2)) (nI (k - n))) (upd (m 40) (304 + (8 * b + 2)) (nI (k - n))) P N E := SR_bu S hb (show 2 < 8 by decide) _
          have V1 : VR (upd (m 40) (304 + (8 * b + 2)) (nI (k - n))) P N E := VR_upd V (by decide) hb1 p12 _ (Or.inl (bOK_2 (V.2.1 b hb) ek (by omega) (by omega)))
          obtain ⟨E', hE', S', V', B'⟩ : ∃ E', E' ≤ E + 1 ∧ SR (tPd (vw m 13) E b (nI n)) (tPd (m 40) E b (nI n)) P N E' ∧ VR (tPd (m 40) E b (nI n)) P N E' ∧ CB (tPd (m 40) E b (nI n)) (300 * (j + 1)) := by
            have B1 := CB_bu (b := b) (j := 2) (CB_le hB sub_le) (nI (k - n))
            unfold tPd
            rw [er, eg, r4]
            split
            · rename_i hle
              have hkn : k - n = 0 := (nle0 (by omega)).mp hle
              split
              · have V2 : VR (upd (upd (m 40) (304 + (8 * b + 2)) (nI (k - n))) (304 + (8 * b + 4)) 2) P N E := VR_upd V1 (by decide) hb1 p12 2 (Or.inl (by
                  obtain ⟨b1, b2, ⟨q, n1, n2, n3⟩, b5⟩ := V1.2.1 b hb
                  exact ⟨by rw [pk_un (by omega)]; exact b1, by rw [pk_un (by omega)]; exact b2, ⟨q, n1, by rw [pk_un (by omega)]; exact n2, Or.inr pk_us⟩, by rw [pk_un (by omega)]; exact b5⟩))
                exact ⟨E + 1, by omega, SR_en (SR_bu S1 hb (show 4 < 8 by decide) _) _ _, VR_en (w := 3) V2 (by decide) hb p12 n100, CB_en (CB_bu B1 _) _ _⟩
              · exact ⟨E + 1, by omega, SR_en S1 _ _, VR_en (w := 3) V1 (by decide) hb p12 n100, CB_en B1 _ _⟩
            · exact ⟨E, by omega, S1, V1, B1⟩
          refine Both_a (nI (k - n)) (mc := wv mk 13 (tPd (vw m 13) E b (nI n))) ?_ ?_ (by rw [wv40, k40]) hW hsh (hInv _ _ P N E' S' V' (by omega) B')
          · simp only [q_17, xok C, vok C, sok C.now, xR0 C, xR1 C, xR2 C, xR3 C, xR4 C, xR5 C, xR6 C, xR7 C, xR8 C, xR9 C, sR4 C.now, sR5 C.now, sR6 C.now, sR7 C.now, sR8 C.now, sR9 C.now, sR10 C.now, sI0 C.now, sI1 C.now, sI2 C.now, sI3 C.now, kxi_s, kxr_s, kxv_s, Option.bind_some, if_true, if_false, i10, c189w C, List.nil_append, List.cons_append, List.append_nil, c53y C S.f5 S.N100 hb, eq_true c1, c218 C.now hb1, r2, eq_false c2, c216_2 C.now hb1, eq_true c3, hok C, e174, xR6 C', sok C'.now, c233 C' hb1 S.f7 (show E < 2 ^ 30 by omega), c216_2 C'.now hb1, t2 _ er]
          · have u2 : upd (m 40) (304 + (8 * b + 2)) (nI (k - n)) (304 + (8 * b + 2)) = nI (k - n) := pk_us
            have u4 : upd (m 40) (304 + (8 * b + 2)) (nI (k - n)) (304 + (8 * b + 4)) = m 40 (304 + (8 * b + 4)) := pk_un (by omega)
            simp only [q_122, rok M', rR0 M', rR1 M', rR2 M', rR4 M', rR6 M', rR7 M', rR8 M', rR9 M', rR11 M', rR16 M', rR17 M', rR24 M', rR25 M', rR26 M', rR27 M', rR28 M', rR29 M', rR30 M', rR32 M', rR33 M', rR34 M', wl4 M', wl5 M', wl6 M', wl7 M', ruw13 M', ruw12 M', kxi_s, kxr_s, kxv_s, Option.bind_some, if_true, if_false, i10, c71a M', c71b M', c71c M', c71d M', c78y M' S.g5 S.N100 hb, eq_true c1, c87 M' hb1, eq_false c2, c79_2 M' hb1, eq_true c3, c84k M' hs k39 k5, eg, c80_2 M' hb1, u2, c79_4 M' hb1, u4, c80_4 M' hb1, c85 M' (upd7 hb1 (show 2 < 8 by decide) S.g7) (show E < 2 ^ 30 by omega), c85 M' (upd7 hb1 (show 4 < 8 by decide) (upd7 hb1 (show 2 < 8 by decide) S.g7)) (show E < 2 ^ 30 by omega)]
            rw [show tPd (m 40) E b (nI n) = if nI (k - n) ≤ 0 then (if m 40 (304 + (8 * b + 4)) = 1 then tEn (upd (upd (m 40) (304 + (8 * b + 2)) (nI (k - n))) (304 + (8 * b + 4)) 2) E 3 (nI b) else tEn (upd (m 40) (304 + (8 * b + 2)) (nI (k - n))) E 3 (nI b)) else upd (m 40) (304 + (8 * b + 2)) (nI (k - n)) by unfold tPd; rw [eg]]
            by_cases hz : nI (k - n) ≤ 0
            · have h0 : nI (k - n) = 0 := by
                rw [(nle0 (by omega)).mp hz]
                rfl
              rw [if_pos hz, if_pos hz, if_pos rfl, h0]
              split <;> rfl
            · rw [if_neg hz, if_neg hz, if_neg (by decide)]
        · refine Both_n h (r := -1) ?_ ?_
          · simp only [q_17, xok C, vok C, sok C.now, xR0 C, xR1 C, xR2 C, xR3 C, xR4 C, xR5 C, xR6 C, xR7 C, xR8 C, xR9 C, sR4 C.now, sR5 C.now, sR6 C.now, sR7 C.now, sR8 C.now, sR9 C.now, sR10 C.now, sI0 C.now, sI1 C.now, sI2 C.now, sI3 C.now, kxi_s, kxr_s, kxv_s, Option.bind_some, if_true, if_false, i10, c189w C, List.nil_append, List.cons_append, List.append_nil, c53y C S.f5 S.N100 hb, eq_true c1, c218 C.now hb1, r2, eq_false c2, c216_2 C.now hb1, eq_false c3]
          · simp only [q_122, rok M, rR0 M, rR1 M, rR2 M, rR4 M, rR6 M, rR7 M, rR8 M, rR9 M, rR11 M, rR16 M, rR17 M, rR24 M, rR25 M, rR26 M, rR27 M, rR28 M, rR29 M, rR30 M, rR32 M, rR33 M, rR34 M, wl4 M, wl5 M, wl6 M, wl7 M, ruw13 M, ruw12 M, kxi_s, kxr_s, kxv_s, Option.bind_some, if_true, if_false, i10, c71a M, c71b M, c71c M, c71d M, c78y M S.g5 S.N100 hb, eq_true c1, c87 M hb1, eq_false c2, c79_2 M hb1, eq_false c3]
    · refine Both_n h (r := -1) ?_ ?_
      · simp only [q_17, xok C, vok C, sok C.now, xR0 C, xR1 C, xR2 C, xR3 C, xR4 C, xR5 C, xR6 C, xR7 C, xR8 C, xR9 C, sR4 C.now, sR5 C.now, sR6 C.now, sR7 C.now, sR8 C.now, sR9 C.now, sR10 C.now, sI0 C.now, sI1 C.now, sI2 C.now, sI3 C.now, kxi_s, kxr_s, kxv_s, Option.bind_some, if_true, if_false, i10, c189w C, List.nil_append, List.cons_append, List.append_nil, c53y C S.f5 S.N100 hb, eq_false c1]
      · simp only [q_122, rok M, rR0 M, rR1 M, rR2 M, rR4 M, rR6 M, rR7 M, rR8 M, rR9 M, rR11 M, rR16 M, rR17 M, rR24 M, rR25 M, rR26 M, rR27 M, rR28 M, rR29 M, rR30 M, rR32 M, rR33 M, rR34 M, wl4 M, wl5 M, wl6 M, wl7 M, ruw13 M, ruw12 M, kxi_s, kxr_s, kxv_s, Option.bind_some, if_true, if_false, i10, c71a M, c71b M, c71c M, c71d M, c78y M S.g5 S.N100 hb, eq_false c1]
  · refine Both_n h (r := -1) ?_ ?_
    · simp only [q_17, xok C, vok C, sok C.now, xR0 C, xR1 C, xR2 C, xR3 C, xR4 C, xR5 C, xR6 C, xR7 C, xR8 C, xR9 C, sR4 C.now, sR5 C.now, sR6 C.now, sR7 C.now, sR8 C.now, sR9 C.now, sR10 C.now, sI0 C.now, sI1 C.now, sI2 C.now, sI3 C.now, kxi_s, kxr_s, kxv_s, Option.bind_some, if_true, if_false, i10, c189w C, List.nil_append, List.cons_append, List.append_nil, c53n C S.f5 h0]
    · simp only [q_122, rok M, rR0 M, rR1 M, rR2 M, rR4 M, rR6 M, rR7 M, rR8 M, rR9 M, rR11 M, rR16 M, rR17 M, rR24 M, rR25 M, rR26 M, rR27 M, rR28 M, rR29 M, rR30 M, rR32 M, rR33 M, rR34 M, wl4 M, wl5 M, wl6 M, wl7 M, ruw13 M, ruw12 M, kxi_s, kxr_s, kxv_s, Option.bind_some, if_true, if_false, i10, c71a M, c71b M, c71c M, c71d M, c78n M S.g5 S.N100 h0]
end QRV

section QRS
variable {W : tm_W} {m : Nat → Nat → Int32} {l : Nat → Nat → Int64} {f g : Nat → Int32}
theorem hok (C : isC W) (as : List Value) : ia_ok (tm W m l) 6 (.ref 37 :: as) = true := tm_ok C.t37 (by decide)
/-- an act that is done on both sides -/
theorem Both_a {j yc yr : Nat} {ac ar : List Value} {W' : tm_W} {mc mr : Nat → Nat → Int32} (r : Int32) (hc : cl yc (.ref 0 :: ac) (tm W (wv m 13 (vw m 13)) l) = some (some (.int r), tm W' mc l)) (hr : cl yr (.ref 39 :: ar) (tm W' (m1 mc 40 (m 40)) l) = some (some (.int r), tm W' mr l)) (e40 : mc 40 = m 40) (hs : W'.2.2.1 = W.2.2.1) (h0 : ∀ x, x < 62 → tm_sh W' x = tm_sh W x) (hI : Inv (j + 1) W' mr l) : Both j W m l yc yr ac ar := by
  rw [wv_eta] at hc
  rw [← e40, m1_e] at hr
  exact ⟨r, W', mc, l, W', mr, l, hc, hr, hs, hs, h0 0 (by decide), h0 39 (by decide), hI⟩
/-- does, behind the component's act -/
theorem c84k {mk : Nat → Nat → Int32} {s : Nat} (M : isM W) (hs : s ≤ 8) (h39 : mk 39 = m 39) (h5 : m 39 5 = nI s) (f' : Nat → Int32) : cl 84 [.ref 39] (tm W (m1 (m2 (wv mk 13 f') 39 13 0) 40 g) l) = some (none, tm W (m1 (rkM (m1 (m2 (wv mk 13 f') 39 13 0) 40 g) s) 40 g) l) := c84w M hs (by rw [m2_k _ _ _ _ (by decide), wv_out _ _ (by omega), h39]; exact h5)
theorem wv40 (mk : Nat → Nat → Int32) (f' : Nat → Int32) : wv mk 13 f' 40 = mk 40 := wv_out _ _ (by omega)
theorem sub_le {b : Nat} : 300 * b ≤ 300 * (b + 1) := by omega
/-! move -/
theorem SR_tm {P N E p : Nat} (S : SR f g P N E) (v : Int32) (hp : p < P) : SR (upd f p v) (upd g p v) P N E := SR_upd S v (by have := S.P12; omega) (by have := S.P12; omega) (by have := S.P12; omega)
theorem VR_tm {P N E p t : Nat} (V : VR g P N E) (hP : P ≤ 12) (hN : N ≤ 100) (hp : p < P) (ht : t < 4) : VR (upd g p (nI t)) P N E := by
  obtain ⟨a1, a2, a3⟩ := V
  refine ⟨fun q hq => ?_, fun c hc => ?_, fun e he => ?_⟩
  · by_cases hqp : q = p
    · subst hqp
      exact ⟨t, ht, pk_us⟩
    · rw [pk_un hqp]
      exact a1 q hq
  · unfold bOK
    rw [pk_un (by omega), pk_un (by omega), pk_un (by omega), pk_un (by omega), pk_un (by omega)]
    exact a2 c hc
  · rw [pk_un (by omega), pk_un (by omega)]
    exact a3 e he
theorem CB_tm {B p : Nat} (h : CB g B) (hp : p < 12) (v : Int32) : CB (upd g p v) B := fun i hi => by
  rw [pk_un (by omega)]
  exact h i hi
theorem b_move {j : Nat} (hj : j < 600) (h : Inv j W m l) (x0 x1 : Int32) : Both j W m l 10 115 [.int x0, .int x1] [.int x0, .int x1] := by
  obtain ⟨⟨C, M, -⟩, ⟨P, N, E, S, V, hE, hB⟩, -, -, R, -, hrow⟩ := id h
  have p12 := S.P12
  have n100 := S.N100
  rcases arg x0 P (by omega) with ⟨a0, h0, rfl⟩ | h0
  · rcases arg x1 4 (by decide) with ⟨a1, h1, rfl⟩ | h1
    · by_cases he : m 40 a0 = nI a1
      · refine Both_n h (r := -2) ?_ ?_
        · simp only [q_10, xok C, vok C, sok C.now, xR0 C, xR1 C, xR2 C, xR3 C, xR4 C, xR5 C, xR6 C, xR7 C, xR8 C, xR9 C, sR4 C.now, sR5 C.now, sR6 C.now, sR7 C.now, sR8 C.now, sR9 C.now, sR10 C.now, sI0 C.now, sI1 C.now, sI2 C.now, sI3 C.now, kxi_s, kxr_s, kxv_s, Option.bind_some, if_true, if_false, i10, c189w C, List.nil_append, List.cons_append, List.append_nil, c52y C S.f4 S.P12 h0, c50y h1, sl1 C.now (show a0 < 12 by omega), S.tm h0, eq_true he]
        · simp only [q_115, rok M, rR0 M, rR1 M, rR2 M, rR4 M, rR6 M, rR7 M, rR8 M, rR9 M, rR11 M, rR16 M, rR17 M, rR24 M, rR25 M, rR26 M, rR27 M, rR28 M, rR29 M, rR30 M, rR32 M, rR33 M, rR34 M, wl4 M, wl5 M, wl6 M, wl7 M, ruw13 M, ruw12 M, kxi_s, kxr_s, kxv_s, Option.bind_some, if_true, if_false, i10, c71a M, c71b M, c71c M, c71d M, c77y M S.g4 S.P12 h0, c76y h1, zadd, wl M (show a0 < 1108 by omega), eq_true he]
      · obtain ⟨nx, s, W', mk, ⟨hnx, hs⟩, ⟨C', M', hW, hsh⟩, ⟨k39, k10, k44, k40, k5⟩, e174, hInv⟩ := act_keep h
        refine Both_a (m 40 a0) (mc := wv mk 13 (upd (vw m 13) a0 (nI a1))) ?_ ?_ (by rw [wv40, k40]) hW hsh (hInv (upd (vw m 13) a0 (nI a1)) (upd (m 40) a0 (nI a1)) P N E (SR_tm S _ h0) (VR_tm V p12 n100 h0 h1) (by omega) (CB_tm (CB_le hB sub_le) (by omega) _))
        · simp only [q_10, xok C, vok C, sok C.now, xR0 C, xR1 C, xR2 C, xR3 C, xR4 C, xR5 C, xR6 C, xR7 C, xR8 C, xR9 C, sR4 C.now, sR5 C.now, sR6 C.now, sR7 C.now, sR8 C.now, sR9 C.now, sR10 C.now, sI0 C.now, sI1 C.now, sI2 C.now, sI3 C.now, kxi_s, kxr_s, kxv_s, Option.bind_some, if_true, if_false, i10, c189w C, List.nil_append, List.cons_append, List.append_nil, c52y C S.f4 S.P12 h0, c50y h1, sl1 C.now (show a0 < 12 by omega), S.tm h0, eq_false he, hok C, e174, xR6 C', sR4 C'.now, ss1 C'.now (show a0 < 12 by omega)]
        · simp only [q_115, rok M', rR0 M', rR1 M', rR2 M', rR4 M', rR6 M', rR7 M', rR8 M', rR9 M', rR11 M', rR16 M', rR17 M', rR24 M', rR25 M', rR26 M', rR27 M', rR28 M', rR29 M', rR30 M', rR32 M', rR33 M', rR34 M', wl4 M', wl5 M', wl6 M', wl7 M', ruw13 M', ruw12 M', kxi_s, kxr_s, kxv_s, Option.bind_some, if_true, if_false, i10, c71a M', c71b M', c71c M', c71d M', c77y M' S.g4 S.P12 h0, c76y h1, zadd, wl M' (show a0 < 1108 by omega), eq_false he, c84k M' hs k39 k5, wst M' (show a0 < 1108 by omega)]
    · refine Both_n h (r := -1) ?_ ?_
      · simp only [q_10, xok C, vok C, sok C.now, xR0 C, xR1 C, xR2 C, xR3 C, xR4 C, xR5 C, xR6 C, xR7 C, xR8 C, xR9 C, sR4 C.now, sR5 C.now, sR6 C.now, sR7 C.now, sR8 C.now, sR9 C.now, sR10 C.now, sI0 C.now, sI1 C.now, sI2 C.now, sI3 C.now, kxi_s, kxr_s, kxv_s, Option.bind_some, if_true, if_false, i10, c189w C, List.nil_append, List.cons_append, List.append_nil, c52y C S.f4 S.P12 h0, c50n h1]
      · simp only [q_115, rok M, rR0 M, rR1 M, rR2 M, rR4 M, rR6 M, rR7 M, rR8 M, rR9 M, rR11 M, rR16 M, rR17 M, rR24 M, rR25 M, rR26 M, rR27 M, rR28 M, rR29 M, rR30 M, rR32 M, rR33 M, rR34 M, wl4 M, wl5 M, wl6 M, wl7 M, ruw13 M, ruw12 M, kxi_s, kxr_s, kxv_s, Option.bind_some, if_true, if_false, i10, c71a M, c71b M, c71c M, c71d M, c77y M S.g4 S.P12 h0, c76n h1]
  · refine Both_n h (r := -1) ?_ ?_
    · simp only [q_10, xok C, vok C, sok C.now, xR0 C, xR1 C, xR2 C, xR3 C, xR4 C, xR5 C, xR6 C, xR7 C, xR8 C, xR9 C, sR4 C.now, sR5 C.now, sR6 C.now, sR7 C.now, sR8 C.now, sR9 C.now, sR10 C.now, sI0 C.now, sI1 C.now, sI2 C.now, sI3 C.now, kxi_s, kxr_s, kxv_s, Option.bind_some, if_true, if_false, i10, c189w C, List.nil_append, List.cons_append, List.append_nil, c52n C S.f4 h0]
    · simp only [q_115, rok M, rR0 M, rR1 M, rR2 M, rR4 M, rR6 M, rR7 M, rR8 M, rR9 M, rR11 M, rR16 M, rR17 M, rR24 M, rR25 M, rR26 M, rR27 M, rR28 M, rR29 M, rR30 M, rR32 M, rR33 M, rR34 M, wl4 M, wl5 M, wl6 M, wl7 M, ruw13 M, ruw12 M, kxi_s, kxr_s, kxv_s, Option.bind_some, if_true, if_false, i10, c71a M, c71b M, c71c M, c71d M, c77n M S.g4 S.P12 h0]
theorem b_swaps {j : Nat} (hj : j < 600) (h : Inv j W m l) (x0 x1 : Int32) : Both j W m l 11 116 [.int x0, .int x1] [.int x0, .int x1] := by
  obtain ⟨⟨C, M, -⟩, ⟨P, N, E, S, V, hE, hB⟩, -, -, R, -, hrow⟩ := id h
  have p12 := S.P12
  have n100 := S.N100
  rcases arg x0 P (by omega) with ⟨a0, h0, rfl⟩ | h0
  · rcases arg x1 P (by omega) with ⟨a1, h1, rfl⟩ | h1
    · by_cases he : m 40 a0 = m 40 a1
      · refine Both_n h (r := -2) ?_ ?_
        · simp only [q_11, xok C, vok C, sok C.now, xR0 C, xR1 C, xR2 C, xR3 C, xR4 C, xR5 C, xR6 C, xR7 C, xR8 C, xR9 C, sR4 C.now, sR5 C.now, sR6 C.now, sR7 C.now, sR8 C.now, sR9 C.now, sR10 C.now, sI0 C.now, sI1 C.now, sI2 C.now, sI3 C.now, kxi_s, kxr_s, kxv_s, Option.bind_some, if_true, if_false, i10, c189w C, List.nil_append, List.cons_append, List.append_nil, c52y C S.f4 S.P12 h0, c52y C S.f4 S.P12 h1, sl1 C.now (show a0 < 12 by omega), sl1 C.now (show a1 < 12 by omega), S.tm h0, S.tm h1, eq_true he]
        · simp only [q_116, rok M, rR0 M, rR1 M, rR2 M, rR4 M, rR6 M, rR7 M, rR8 M, rR9 M, rR11 M, rR16 M, rR17 M, rR24 M, rR25 M, rR26 M, rR27 M, rR28 M, rR29 M, rR30 M, rR32 M, rR33 M, rR34 M, wl4 M, wl5 M, wl6 M, wl7 M, ruw13 M, ruw12 M, kxi_s, kxr_s, kxv_s, Option.bind_some, if_true, if_false, i10, c71a M, c71b M, c71c M, c71d M, c77y M S.g4 S.P12 h0, c77y M S.g4 S.P12 h1, zadd, wl M (show a0 < 1108 by omega), wl M (show a1 < 1108 by omega), eq_true he]
      · obtain ⟨nx, s, W', mk, ⟨hnx, hs⟩, ⟨C', M', hW, hsh⟩, ⟨k39, k10, k44, k40, k5⟩, e174, hInv⟩ := act_keep h
        obtain ⟨t0, ht0, et0⟩ := V.1 a0 h0
        obtain ⟨t1, ht1, et1⟩ := V.1 a1 h1
        have V' : VR (upd (upd (m 40) a0 (m 40 a1)) a1 (m 40 a0)) P N E := by
          rw [et0, et1]
          exact VR_tm (VR_tm V p12 n100 h0 ht1) p12 n100 h1 ht0
        refine Both_a (m 40 a1) (mc := wv mk 13 (upd (upd (vw m 13) a0 (m 40 a1)) a1 (m 40 a0))) ?_ ?_ (by rw [wv40, k40]) hW hsh (hInv (upd (upd (vw m 13) a0 (m 40 a1)) a1 (m 40 a0)) (upd (upd (m 40) a0 (m 40 a1)) a1 (m 40 a0)) P N E (SR_tm (SR_tm S _ h0) _ h1) V' (by omega) (CB_tm (CB_tm (CB_le hB sub_le) (by omega) _) (by omega) _))
        · simp only [q_11, xok C, vok C, sok C.now, xR0 C, xR1 C, xR2 C, xR3 C, xR4 C, xR5 C, xR6 C, xR7 C, xR8 C, xR9 C, sR4 C.now, sR5 C.now, sR6 C.now, sR7 C.now, sR8 C.now, sR9 C.now, sR10 C.now, sI0 C.now, sI1 C.now, sI2 C.now, sI3 C.now, kxi_s, kxr_s, kxv_s, Option.bind_some, if_true, if_false, i10, c189w C, List.nil_append, List.cons_append, List.append_nil, c52y C S.f4 S.P12 h0, c52y C S.f4 S.P12 h1, sl1 C.now (show a0 < 12 by omega), sl1 C.now (show a1 < 12 by omega), S.tm h0, S.tm h1, eq_false he, hok C, e174, xR6 C', sR4 C'.now, ss1 C'.now (show a0 < 12 by omega), ss1 C'.now (show a1 < 12 by omega)]
        · simp only [q_116, rok M', rR0 M', rR1 M', rR2 M', rR4 M', rR6 M', rR7 M', rR8 M', rR9 M', rR11 M', rR16 M', rR17 M', rR24 M', rR25 M', rR26 M', rR27 M', rR28 M', rR29 M', rR30 M', rR32 M', rR33 M', rR34 M', wl4 M', wl5 M', wl6 M', wl7 M', ruw13 M', ruw12 M', kxi_s, kxr_s, kxv_s, Option.bind_some, if_true, if_false, i10, c71a M', c71b M', c71c M', c71d M', c77y M' S.g4 S.P12 h0, c77y M' S.g4 S.P12 h1, zadd, wl M' (show a0 < 1108 by omega), wl M' (show a1 < 1108 by omega), eq_false he, c84k M' hs k39 k5, wst M' (show a0 < 1108 by omega), wst M' (show a1 < 1108 by omega)]
    · refine Both_n h (r := -1) ?_ ?_
      · simp only [q_11, xok C, vok C, sok C.now, xR0 C, xR1 C, xR2 C, xR3 C, xR4 C, xR5 C, xR6 C, xR7 C, xR8 C, xR9 C, sR4 C.now, sR5 C.now, sR6 C.now, sR7 C.now, sR8 C.now, sR9 C.now, sR10 C.now, sI0 C.now, sI1 C.now, sI2 C.now, sI3 C.now, kxi_s, kxr_s, kxv_s, Option.bind_some, if_true, if_false, i10, c189w C, List.nil_append, List.cons_append, List.append_nil, c52y C S.f4 S.P12 h0, c52n C S.f4 h1]
      · simp only [q_116, rok M, rR0 M, rR1 M, rR2 M, rR4 M, rR6 M, rR7 M, rR8 M, rR9 M, rR11 M, rR16 M, rR17 M, rR24 M, rR25 M, rR26 M, rR27 M, rR28 M, rR29 M, rR30 M, rR32 M, rR33 M, rR34 M, wl4 M, wl5 M, wl6 M, wl7 M, ruw13 M, ruw12 M, kxi_s, kxr_s, kxv_s, Option.bind_some, if_true, if_false, i10, c71a M, c71b M, c71c M, c71d M, c77y M S.g4 S.P12 h0, c77n M S.g4 S.P12 h1]
  · refine Both_n h (r := -1) ?_ ?_
    · simp only [q_11, xok C, vok C, sok C.now, xR0 C, xR1 C, xR2 C, xR3 C, xR4 C, xR5 C, xR6 C, xR7 C, xR8 C, xR9 C, sR4 C.now, sR5 C.now, sR6 C.now, sR7 C.now, sR8 C.now, sR9 C.now, sR10 C.now, sI0 C.now, sI1 C.now, sI2 C.now, sI3 C.now, kxi_s, kxr_s, kxv_s, Option.bind_some, if_true, if_false, i10, c189w C, List.nil_append, List.cons_append, List.append_nil, c52n C S.f4 h0]
    · simp only [q_116, rok M, rR0 M, rR1 M, rR2 M, rR4 M, rR6 M, rR7 M, rR8 M, rR9 M, rR11 M, rR16 M, rR17 M, rR24 M, rR25 M, rR26 M, rR27 M, rR28 M, rR29 M, rR30 M, rR32 M, rR33 M, rR34 M, wl4 M, wl5 M, wl6 M, wl7 M, ruw13 M, ruw12 M, kxi_s, kxr_s, kxv_s, Option.bind_some, if_true, if_false, i10, c71a M, c71b M, c71c M, c71d M, c77n M S.g4 S.P12 h0]
end QRS

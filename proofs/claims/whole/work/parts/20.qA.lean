/-! QUERIES, continued: the row of the component beside a State -/
theorem i10 : ((1 : Int32) = 0) = False := by decide
section QRA
variable {W : tm_W} {m : Nat → Nat → Int32} {l : Nat → Nat → Int64} {f g : Nat → Int32}
theorem rwm_wv (m : Nat → Nat → Int32) (xs : List Int32) (f : Nat → Int32) {o : Nat} (ho : 9 ≤ o) : rwm (wv m o f) xs = wv (rwm m xs) o f := by
  funext a k
  by_cases h7 : a = 7 ∧ k = 1
  · obtain ⟨rfl, rfl⟩ := h7
    rw [rwm_7, wv_out _ _ (by omega), rwm_7]
  · by_cases h8 : a = 8
    · subst h8
      rw [wv_out _ _ (by omega)]
      unfold rwm
      rw [wv_out _ _ (by omega)]
    · by_cases h7' : a = 7
      · subst h7'
        rw [wv_out _ _ (by omega)]
        unfold rwm
        rw [wv_out _ _ (by omega)]
      · rw [rwm_o _ _ h7' h8]
        unfold wv
        rw [rwm_o _ _ h7' h8]
theorem c189w (C : isC W) : cl 189 [.ref 7] (tm W (wv m 13 f) l) = some (some (.ref 7), tm W (wv (rwm m []) 13 f) l) := by
  rw [c189 C, rwm_wv _ _ _ (by decide)]
theorem c190w (C : isC W) {xs : List Int32} (h : xs.length < 100) (v : Int32) : cl 190 [.ref 7, .int v] (tm W (wv (rwm m xs) 13 f) l) = some (some (.ref 7), tm W (wv (rwm m (xs ++ [v])) 13 f) l) := by
  rw [← rwm_wv _ _ _ (by decide), c190 C h, rwm_wv _ _ _ (by decide)]
theorem w190a (C : isC W) (v : Int32) : cl 190 [.ref 7, .int v] (tm W (wv (rwm m []) 13 f) l) = some (some (.ref 7), tm W (wv (rwm m [v]) 13 f) l) := c190w (xs := []) C (by decide) v
theorem w190b (C : isC W) (a v : Int32) : cl 190 [.ref 7, .int v] (tm W (wv (rwm m [a]) 13 f) l) = some (some (.ref 7), tm W (wv (rwm m [a, v]) 13 f) l) := c190w (xs := [a]) C (by simp) v
theorem w190c (C : isC W) (a b v : Int32) : cl 190 [.ref 7, .int v] (tm W (wv (rwm m [a, b]) 13 f) l) = some (some (.ref 7), tm W (wv (rwm m [a, b, v]) 13 f) l) := c190w (xs := [a, b]) C (by simp) v
theorem w190d (C : isC W) (a b c v : Int32) : cl 190 [.ref 7, .int v] (tm W (wv (rwm m [a, b, c]) 13 f) l) = some (some (.ref 7), tm W (wv (rwm m [a, b, c, v]) 13 f) l) := c190w (xs := [a, b, c]) C (by simp) v
theorem vw_rwm (m : Nat → Nat → Int32) (xs : List Int32) {o : Nat} (ho : 9 ≤ o) : vw (rwm m xs) o = vw m o := vw_row fun a h1 h2 => rwm_o _ _ (by omega) (by omega)
theorem wv_rwm (m : Nat → Nat → Int32) (xs : List Int32) : wv (rwm m xs) 13 (vw m 13) = rwm m xs := by
  rw [← vw_rwm m xs (by decide), wv_eta]
theorem Both_n {j yc yr : Nat} {ac ar : List Value} (h : Inv j W m l) {r : Int32} (hc : cl yc (.ref 0 :: ac) (tm W (wv m 13 (vw m 13)) l) = some (some (.int r), tm W (wv m 13 (vw m 13)) l))
    (hr : cl yr (.ref 39 :: ar) (tm W (m1 m 40 (m 40)) l) = some (some (.int r), tm W (m1 (m2 m 39 13 0) 40 (m 40)) l)) : Both j W m l yc yr ac ar := by
  rw [wv_eta] at hc
  rw [m1_e, rw_form0] at hr
  exact Both_no h r hc hr
theorem Both_q {j yc yr : Nat} {ac ar : List Value} (h : Inv j W m l) {r : Int32} {xs : List Int32} (hx : xs.length ≤ 100) (hc : cl yc (.ref 0 :: ac) (tm W (wv m 13 (vw m 13)) l) = some (some (.int r), tm W (wv (rwm m xs) 13 (vw m 13)) l))
    (hr : cl yr (.ref 39 :: ar) (tm W (m1 (rwm m xs) 40 (m 40)) l) = some (some (.int r), tm W (m1 (m2 (m2 (rwm m xs) 39 13 0) 39 12 (nI xs.length)) 40 (m 40)) (llm l (xs.map Int32.toInt64)))) : Both j W m l yc yr ac ar := by
  rw [wv_eta, wv_rwm] at hc
  have e : (rwm m xs) 40 = m 40 := rwm_o _ _ (by decide) (by decide)
  rw [← e, m1_e, rw_form] at hr
  exact Both_row h r xs hx hc hr
theorem nle {a b : Nat} (ha : a < 2 ^ 31) (hb : b < 2 ^ 31) : nI a ≤ nI b ↔ a ≤ b := by
  rw [Int32.le_iff_toInt_le, nI_toInt ha, nI_toInt hb]
  omega
theorem nlt {a b : Nat} (ha : a < 2 ^ 31) (hb : b < 2 ^ 31) : nI a < nI b ↔ a < b := by
  rw [Int32.lt_iff_toInt_lt, nI_toInt ha, nI_toInt hb]
  omega
theorem nle0 {a : Nat} (ha : a < 2 ^ 31) : nI a ≤ 0 ↔ a = 0 := by
  rw [show (0 : Int32) = nI 0 from rfl, nle ha (by decide)]
  omega
theorem neq0 {a : Nat} (ha : a < 2 ^ 31) : nI a = 0 ↔ a = 0 := by
  rw [show (0 : Int32) = nI 0 from rfl, nI_eq ha (by decide)]
theorem arg (x : Int32) (n : Nat) (hn : n < 2 ^ 31) : (∃ j, j < n ∧ x = nI j) ∨ nin x n := lit_m1 x n hn
/-! may -/
theorem k19 (C : isC W) {P N p c : Nat} (hP : f 1104 = nI P) (hP2 : P ≤ 12) (hN : f 1105 = nI N) (hN2 : N ≤ 100) (hp : p < P) (hc : c < 4) : cl 19 [.ref 0, .int (nI p), .int (nI c)] (tm W (wv m 13 f) l) = some (some (.int (if fbr (bw f) (nI p) (nI c) N 0 = -1 then 1 else 0)), tm W (wv (rwm m [fbr (bw f) (nI p) (nI c) N 0]) 13 f) l) := by
  simp only [q_19, xok C, vok C, sok C.now, xR0 C, xR1 C, xR2 C, xR3 C, xR4 C, xR5 C, xR6 C, xR7 C, xR8 C, xR9 C, sR4 C.now, sR5 C.now, sR6 C.now, sR7 C.now, sR8 C.now, sR9 C.now, sR10 C.now, sI0 C.now, sI1 C.now, sI2 C.now, sI3 C.now, kxi_s, kxr_s, kxv_s, Option.bind_some, if_true, if_false, i10, c189w C, List.nil_append, List.cons_append, List.append_nil, c52y C hP hP2 hp, c49y hc, c222 C.now hN hN2, w190a C]
  split <;> rfl
theorem r125 (M : isM W) {P N p c : Nat} (hP : f 1104 = nI P) (hP2 : P ≤ 12) (hN : f 1105 = nI N) (hN2 : N ≤ 100) (hp : p < P) (hc : c < 4) : cl 125 [.ref 39, .int (nI p), .int (nI c)] (tm W (m1 m 40 f) l) = some (some (.int (if fbr (bw f) (nI p) (nI c) N 0 = -1 then 1 else 0)), tm W (m1 (m2 (m2 m 39 13 0) 39 12 (nI 1)) 40 f) (llm l [(fbr (bw f) (nI p) (nI c) N 0).toInt64])) := by
  simp only [q_125, rok M, rR0 M, rR1 M, rR2 M, rR4 M, rR6 M, rR7 M, rR8 M, rR9 M, rR11 M, rR16 M, rR17 M, rR24 M, rR25 M, rR26 M, rR27 M, rR28 M, rR29 M, rR30 M, rR32 M, rR33 M, rR34 M, wl4 M, wl5 M, wl6 M, wl7 M, ruw13 M, ruw12 M, kxi_s, kxr_s, kxv_s, Option.bind_some, if_true, if_false, i10, c71a M, c71b M, c71c M, c71d M, c77y M hP hP2 hp, c75y hc, c90 M hN hN2]
  split <;> rfl
theorem b_may {j : Nat} (hj : j < 600) (h : Inv j W m l) (x0 x1 : Int32) : Both j W m l 19 125 [.int x0, .int x1] [.int x0, .int x1] := by
  obtain ⟨⟨C, M, -⟩, ⟨P, N, E, S, V, hE, hB⟩, -, -, R, -, hrow⟩ := id h
  have p12 := S.P12
  have n100 := S.N100
  rcases arg x0 P (by omega) with ⟨a0, h0, rfl⟩ | h0
  · rcases arg x1 4 (by decide) with ⟨a1, h1, rfl⟩ | h1
    · refine Both_q h (by simp) (k19 C S.f4 S.P12 S.f5 S.N100 h0 h1) ?_
      rw [S.fbr]
      exact r125 M S.g4 S.P12 S.g5 S.N100 h0 h1
    · refine Both_n h (r := -1) ?_ ?_
      · simp only [q_19, xok C, vok C, sok C.now, xR0 C, xR1 C, xR2 C, xR3 C, xR4 C, xR5 C, xR6 C, xR7 C, xR8 C, xR9 C, sR4 C.now, sR5 C.now, sR6 C.now, sR7 C.now, sR8 C.now, sR9 C.now, sR10 C.now, sI0 C.now, sI1 C.now, sI2 C.now, sI3 C.now, kxi_s, kxr_s, kxv_s, Option.bind_some, if_true, if_false, i10, c189w C, List.nil_append, List.cons_append, List.append_nil, c52y C S.f4 S.P12 h0, c49n h1]
      · simp only [q_125, rok M, rR0 M, rR1 M, rR2 M, rR4 M, rR6 M, rR7 M, rR8 M, rR9 M, rR11 M, rR16 M, rR17 M, rR24 M, rR25 M, rR26 M, rR27 M, rR28 M, rR29 M, rR30 M, rR32 M, rR33 M, rR34 M, wl4 M, wl5 M, wl6 M, wl7 M, ruw13 M, ruw12 M, kxi_s, kxr_s, kxv_s, Option.bind_some, if_true, if_false, i10, c71a M, c71b M, c71c M, c71d M, c77y M S.g4 S.P12 h0, c75n h1]
  · refine Both_n h (r := -1) ?_ ?_
    · simp only [q_19, xok C, vok C, sok C.now, xR0 C, xR1 C, xR2 C, xR3 C, xR4 C, xR5 C, xR6 C, xR7 C, xR8 C, xR9 C, sR4 C.now, sR5 C.now, sR6 C.now, sR7 C.now, sR8 C.now, sR9 C.now, sR10 C.now, sI0 C.now, sI1 C.now, sI2 C.now, sI3 C.now, kxi_s, kxr_s, kxv_s, Option.bind_some, if_true, if_false, i10, c189w C, List.nil_append, List.cons_append, List.append_nil, c52n C S.f4 h0]
    · simp only [q_125, rok M, rR0 M, rR1 M, rR2 M, rR4 M, rR6 M, rR7 M, rR8 M, rR9 M, rR11 M, rR16 M, rR17 M, rR24 M, rR25 M, rR26 M, rR27 M, rR28 M, rR29 M, rR30 M, rR32 M, rR33 M, rR34 M, wl4 M, wl5 M, wl6 M, wl7 M, ruw13 M, ruw12 M, kxi_s, kxr_s, kxv_s, Option.bind_some, if_true, if_false, i10, c71a M, c71b M, c71c M, c71d M, c77n M S.g4 S.P12 h0]
end QRA

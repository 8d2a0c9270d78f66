/-! QUERIES: how both sides tell a row, and the invariant behind it -/
theorem m12 (m : Nat → Nat → Int32) {a : Nat} (b : Nat) (f : Nat → Int32) (k : Nat) (v : Int32) (h : a ≠ b) : m2 (m1 m b f) a k v = m1 (m2 m a k v) b f := by
  funext a' k'
  by_cases hb : a' = b
  · subst hb
    rw [m2_a _ _ _ _ (Ne.symm h), m1_s, m1_s]
  · unfold m2 m1
    rw [if_neg hb, if_neg hb]
section QRY
variable {W : tm_W} {m : Nat → Nat → Int32} {l : Nat → Nat → Int64} {f : Nat → Int32}
theorem rIw3 (M : isM W) : ia_gI (tm W (m1 m 40 f) l) 8 39 3 = some (m 39 3) := by rw [rI3 M, m1_a _ _ (by decide)]
theorem ruw3 (M : isM W) (v : Int32) : ia_pF (tm W (m1 m 40 f) l) 8 39 3 (.int v) = some (tm W (m1 (m2 m 39 3 v) 40 f) l) := by rw [ru3 M, m12 _ _ _ _ _ (by decide)]
theorem rIw5 (M : isM W) : ia_gI (tm W (m1 m 40 f) l) 8 39 5 = some (m 39 5) := by rw [rI5 M, m1_a _ _ (by decide)]
theorem ruw5 (M : isM W) (v : Int32) : ia_pF (tm W (m1 m 40 f) l) 8 39 5 (.int v) = some (tm W (m1 (m2 m 39 5 v) 40 f) l) := by rw [ru5 M, m12 _ _ _ _ _ (by decide)]
theorem rIw10 (M : isM W) : ia_gI (tm W (m1 m 40 f) l) 8 39 10 = some (m 39 10) := by rw [rI10 M, m1_a _ _ (by decide)]
theorem ruw10 (M : isM W) (v : Int32) : ia_pF (tm W (m1 m 40 f) l) 8 39 10 (.int v) = some (tm W (m1 (m2 m 39 10 v) 40 f) l) := by rw [ru10 M, m12 _ _ _ _ _ (by decide)]
theorem rIw12 (M : isM W) : ia_gI (tm W (m1 m 40 f) l) 8 39 12 = some (m 39 12) := by rw [rI12 M, m1_a _ _ (by decide)]
theorem ruw12 (M : isM W) (v : Int32) : ia_pF (tm W (m1 m 40 f) l) 8 39 12 (.int v) = some (tm W (m1 (m2 m 39 12 v) 40 f) l) := by rw [ru12 M, m12 _ _ _ _ _ (by decide)]
theorem rIw13 (M : isM W) : ia_gI (tm W (m1 m 40 f) l) 8 39 13 = some (m 39 13) := by rw [rI13 M, m1_a _ _ (by decide)]
theorem ruw13 (M : isM W) (v : Int32) : ia_pF (tm W (m1 m 40 f) l) 8 39 13 (.int v) = some (tm W (m1 (m2 m 39 13 v) 40 f) l) := by rw [ru13 M, m12 _ _ _ _ _ (by decide)]
theorem rIw14 (M : isM W) : ia_gI (tm W (m1 m 40 f) l) 8 39 14 = some (m 39 14) := by rw [rI14 M, m1_a _ _ (by decide)]
theorem ruw14 (M : isM W) (v : Int32) : ia_pF (tm W (m1 m 40 f) l) 8 39 14 (.int v) = some (tm W (m1 (m2 m 39 14 v) 40 f) l) := by rw [ru14 M, m12 _ _ _ _ _ (by decide)]
theorem rIw15 (M : isM W) : ia_gI (tm W (m1 m 40 f) l) 8 39 15 = some (m 39 15) := by rw [rI15 M, m1_a _ _ (by decide)]
theorem ruw15 (M : isM W) (v : Int32) : ia_pF (tm W (m1 m 40 f) l) 8 39 15 (.int v) = some (tm W (m1 (m2 m 39 15 v) 40 f) l) := by rw [ru15 M, m12 _ _ _ _ _ (by decide)]
theorem rIw18 (M : isM W) : ia_gI (tm W (m1 m 40 f) l) 8 39 18 = some (m 39 18) := by rw [rI18 M, m1_a _ _ (by decide)]
theorem ruw18 (M : isM W) (v : Int32) : ia_pF (tm W (m1 m 40 f) l) 8 39 18 (.int v) = some (tm W (m1 (m2 m 39 18 v) 40 f) l) := by rw [ru18 M, m12 _ _ _ _ _ (by decide)]
theorem rIw19 (M : isM W) : ia_gI (tm W (m1 m 40 f) l) 8 39 19 = some (m 39 19) := by rw [rI19 M, m1_a _ _ (by decide)]
theorem ruw19 (M : isM W) (v : Int32) : ia_pF (tm W (m1 m 40 f) l) 8 39 19 (.int v) = some (tm W (m1 (m2 m 39 19 v) 40 f) l) := by rw [ru19 M, m12 _ _ _ _ _ (by decide)]
theorem rIw20 (M : isM W) : ia_gI (tm W (m1 m 40 f) l) 8 39 20 = some (m 39 20) := by rw [rI20 M, m1_a _ _ (by decide)]
theorem ruw20 (M : isM W) (v : Int32) : ia_pF (tm W (m1 m 40 f) l) 8 39 20 (.int v) = some (tm W (m1 (m2 m 39 20 v) 40 f) l) := by rw [ru20 M, m12 _ _ _ _ _ (by decide)]
theorem rIw21 (M : isM W) : ia_gI (tm W (m1 m 40 f) l) 8 39 21 = some (m 39 21) := by rw [rI21 M, m1_a _ _ (by decide)]
theorem ruw21 (M : isM W) (v : Int32) : ia_pF (tm W (m1 m 40 f) l) 8 39 21 (.int v) = some (tm W (m1 (m2 m 39 21 v) 40 f) l) := by rw [ru21 M, m12 _ _ _ _ _ (by decide)]
theorem rIw22 (M : isM W) : ia_gI (tm W (m1 m 40 f) l) 8 39 22 = some (m 39 22) := by rw [rI22 M, m1_a _ _ (by decide)]
theorem ruw22 (M : isM W) (v : Int32) : ia_pF (tm W (m1 m 40 f) l) 8 39 22 (.int v) = some (tm W (m1 (m2 m 39 22 v) 40 f) l) := by rw [ru22 M, m12 _ _ _ _ _ (by decide)]
theorem rIw23 (M : isM W) : ia_gI (tm W (m1 m 40 f) l) 8 39 23 = some (m 39 23) := by rw [rI23 M, m1_a _ _ (by decide)]
theorem ruw23 (M : isM W) (v : Int32) : ia_pF (tm W (m1 m 40 f) l) 8 39 23 (.int v) = some (tm W (m1 (m2 m 39 23 v) 40 f) l) := by rw [ru23 M, m12 _ _ _ _ _ (by decide)]
theorem rIw31 (M : isM W) : ia_gI (tm W (m1 m 40 f) l) 8 39 31 = some (m 39 31) := by rw [rI31 M, m1_a _ _ (by decide)]
theorem ruw31 (M : isM W) (v : Int32) : ia_pF (tm W (m1 m 40 f) l) 8 39 31 (.int v) = some (tm W (m1 (m2 m 39 31 v) 40 f) l) := by rw [ru31 M, m12 _ _ _ _ _ (by decide)]
theorem rIw35 (M : isM W) : ia_gI (tm W (m1 m 40 f) l) 8 39 35 = some (m 39 35) := by rw [rI35 M, m1_a _ _ (by decide)]
theorem ruw35 (M : isM W) (v : Int32) : ia_pF (tm W (m1 m 40 f) l) 8 39 35 (.int v) = some (tm W (m1 (m2 m 39 35 v) 40 f) l) := by rw [ru35 M, m12 _ _ _ _ _ (by decide)]
theorem c71w (M : isM W) {ys : List Int64} (h : ys.length < 128) (v : Int64) : cl 71 [.ref 39, .long v] (tm W (m1 (m2 m 39 12 (nI ys.length)) 40 f) (llm l ys)) = some (none, tm W (m1 (m2 m 39 12 (nI (ys ++ [v]).length)) 40 f) (llm l (ys ++ [v]))) := by
  rw [← m12 _ _ _ _ _ (by decide), c71 M h, m12 _ _ _ _ _ (by decide)]
/-- the first number that is told: the row is new -/
theorem c71a (M : isM W) (v : Int64) : cl 71 [.ref 39, .long v] (tm W (m1 (m2 m 39 12 0) 40 f) l) = some (none, tm W (m1 (m2 m 39 12 (nI 1)) 40 f) (llm l [v])) := by
  have h := c71w (m := m) (f := f) (l := l) M (ys := []) (by decide) v
  rw [llm_nil] at h
  exact h
theorem c71b (M : isM W) (a v : Int64) : cl 71 [.ref 39, .long v] (tm W (m1 (m2 m 39 12 (nI 1)) 40 f) (llm l [a])) = some (none, tm W (m1 (m2 m 39 12 (nI 2)) 40 f) (llm l [a, v])) := c71w (m := m) (f := f) (l := l) M (ys := [a]) (by simp) v
theorem c71c (M : isM W) (a b v : Int64) : cl 71 [.ref 39, .long v] (tm W (m1 (m2 m 39 12 (nI 2)) 40 f) (llm l [a, b])) = some (none, tm W (m1 (m2 m 39 12 (nI 3)) 40 f) (llm l [a, b, v])) := c71w (m := m) (f := f) (l := l) M (ys := [a, b]) (by simp) v
theorem c71d (M : isM W) (a b c v : Int64) : cl 71 [.ref 39, .long v] (tm W (m1 (m2 m 39 12 (nI 3)) 40 f) (llm l [a, b, c])) = some (none, tm W (m1 (m2 m 39 12 (nI 4)) 40 f) (llm l [a, b, c, v])) := c71w (m := m) (f := f) (l := l) M (ys := [a, b, c]) (by simp) v
theorem c190a (C : isC W) (v : Int32) : cl 190 [.ref 7, .int v] (tm W (rwm m []) l) = some (some (.ref 7), tm W (rwm m [v]) l) := c190 (xs := []) C (by decide) v
theorem c190b (C : isC W) (a v : Int32) : cl 190 [.ref 7, .int v] (tm W (rwm m [a]) l) = some (some (.ref 7), tm W (rwm m [a, v]) l) := c190 (xs := [a]) C (by simp) v
theorem c190c (C : isC W) (a b v : Int32) : cl 190 [.ref 7, .int v] (tm W (rwm m [a, b]) l) = some (some (.ref 7), tm W (rwm m [a, b, v]) l) := c190 (xs := [a, b]) C (by simp) v
theorem c190d (C : isC W) (a b c v : Int32) : cl 190 [.ref 7, .int v] (tm W (rwm m [a, b, c]) l) = some (some (.ref 7), tm W (rwm m [a, b, c, v]) l) := c190 (xs := [a, b, c]) C (by simp) v
theorem iRow_no (h : iRow m l) : iRow (m2 m 39 13 0) l := by
  obtain ⟨n, h1, h2, h3, h4⟩ := h
  exact ⟨n, h1, by rw [m2_a _ _ _ _ (by decide)]; exact h2, by rw [m2_k _ _ _ _ (by decide)]; exact h3, fun i hi => by rw [m2_a _ _ _ _ (by decide)]; exact h4 i hi⟩
theorem Inv_no {j : Nat} (h : Inv j W m l) : Inv (j + 1) W (m2 m 39 13 0) l := by
  refine Inv_q h (fun a ha => m2_r _ _ _ (by omega)) ?_ ?_ ?_ ?_ ?_ ?_ ?_ (iRow_no h.2.2.2.2.2.2)
  · exact m2_a _ _ _ _ (by decide)
  · exact m2_a _ _ _ _ (by decide)
  · exact m2_a _ _ _ _ (by decide)
  · exact m2_a _ _ _ _ (by decide)
  · exact m2_k _ _ _ _ (by decide)
  · exact m2_k _ _ _ _ (by decide)
  · exact m2_k _ _ _ _ (by decide)
theorem iRow_of (m : Nat → Nat → Int32) (l : Nat → Nat → Int64) (xs : List Int32) (hx : xs.length ≤ 100) : iRow (m2 (m2 (rwm m xs) 39 13 0) 39 12 (nI xs.length)) (llm l (xs.map Int32.toInt64)) := by
  refine ⟨xs.length, hx, ?_, m2_s _ _ _ _, fun i hi => ?_⟩
  · rw [m2_a _ _ _ _ (by decide), m2_a _ _ _ _ (by decide), rwm_7]
  · rw [m2_a _ _ _ _ (by decide), m2_a _ _ _ _ (by decide), rwm_8 _ _ hi]
    unfold llm
    rw [if_pos ⟨rfl, by rw [List.length_map]; exact hi⟩]
    simp [List.getD, hi]
theorem Inv_row {j : Nat} (h : Inv j W m l) (xs : List Int32) (hx : xs.length ≤ 100) : Inv (j + 1) W (m2 (m2 (rwm m xs) 39 13 0) 39 12 (nI xs.length)) (llm l (xs.map Int32.toInt64)) := by
  refine Inv_q h (fun a ha => ?_) ?_ ?_ ?_ ?_ ?_ ?_ ?_ (iRow_of m l xs hx)
  · rw [m2_r _ _ _ (by omega), m2_r _ _ _ (by omega), rwm_o _ _ (by omega) (by omega)]
  · rw [m2_a _ _ _ _ (by decide), m2_a _ _ _ _ (by decide), rwm_o _ _ (by decide) (by decide)]
  · rw [m2_a _ _ _ _ (by decide), m2_a _ _ _ _ (by decide), rwm_o _ _ (by decide) (by decide)]
  · rw [m2_a _ _ _ _ (by decide), m2_a _ _ _ _ (by decide), rwm_o _ _ (by decide) (by decide)]
  · rw [m2_a _ _ _ _ (by decide), m2_a _ _ _ _ (by decide), rwm_o _ _ (by decide) (by decide)]
  · rw [m2_k _ _ _ _ (by decide), m2_k _ _ _ _ (by decide), rwm_o _ _ (by decide) (by decide)]
  · rw [m2_k _ _ _ _ (by decide), m2_k _ _ _ _ (by decide), rwm_o _ _ (by decide) (by decide)]
  · rw [m2_k _ _ _ _ (by decide), m2_k _ _ _ _ (by decide), rwm_o _ _ (by decide) (by decide)]
/-- a query that is refused on both sides with r, or told with a row on both -/
theorem Both_no {j yc yr : Nat} {ac ar : List Value} (h : Inv j W m l) (r : Int32) (hc : cl yc (.ref 0 :: ac) (tm W m l) = some (some (.int r), tm W m l)) (hr : cl yr (.ref 39 :: ar) (tm W m l) = some (some (.int r), tm W (m2 m 39 13 0) l)) : Both j W m l yc yr ac ar :=
  ⟨r, W, m, l, W, m2 m 39 13 0, l, hc, hr, rfl, rfl, rfl, rfl, Inv_no h⟩
theorem Both_row {j yc yr : Nat} {ac ar : List Value} (h : Inv j W m l) (r : Int32) (xs : List Int32) (hx : xs.length ≤ 100) (hc : cl yc (.ref 0 :: ac) (tm W m l) = some (some (.int r), tm W (rwm m xs) l))
    (hr : cl yr (.ref 39 :: ar) (tm W (rwm m xs) l) = some (some (.int r), tm W (m2 (m2 (rwm m xs) 39 13 0) 39 12 (nI xs.length)) (llm l (xs.map Int32.toInt64)))) : Both j W m l yc yr ac ar :=
  ⟨r, W, rwm m xs, l, W, _, _, hc, hr, rfl, rfl, rfl, rfl, Inv_row h xs hx⟩
/-- the form in which the reference's rows come -/
theorem rw_form (m : Nat → Nat → Int32) (v : Int32) : m1 (m2 (m2 m 39 13 0) 39 12 v) 40 (m 40) = m2 (m2 m 39 13 0) 39 12 v := by
  rw [← m12 _ _ _ _ _ (by decide), ← m12 _ _ _ _ _ (by decide), m1_e]
theorem rw_form0 (m : Nat → Nat → Int32) : m1 (m2 m 39 13 0) 40 (m 40) = m2 m 39 13 0 := by
  rw [← m12 _ _ _ _ _ (by decide), m1_e]
end QRY

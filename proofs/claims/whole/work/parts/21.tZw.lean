section TXZw
variable {W : tm_W} {m : Nat → Nat → Int32} {l : Nat → Nat → Int64}
/-! THE LAW's LOOP -/
theorem tm_sc (W : tm_W) (m : Nat → Nat → Int32) (l : Nat → Nat → Int64) : (tm W m l).2.2.1 = W.2.2.1 := rfl
def lwX (j S : Nat) : Prop := 4 * j + 3 < S ∧ S ≤ 2048
theorem lwX.no {j S k : Nat} (X : lwX j S) (hk : k ≤ 3) : (nI (4 * j + k) < 0 ∨ S ≤ 4 * j + k) = False := by
  obtain ⟨h1, h2⟩ := X
  have := nI_no (j := 4 * j + k) (n := S) (by omega) (by omega)
  rw [nI_clamp (by omega)] at this
  exact eq_false this
theorem lwX.cl {j S k : Nat} (X : lwX j S) (hk : k ≤ 3) : (nI (4 * j + k)).toNatClampNeg = 4 * j + k := nI_clamp (by have := X.1; have := X.2; omega)
theorem lw_2 (j : Nat) : nI (4 * j) + 2 = nI (4 * j + 2) := nI_add _ 2
theorem lw_3 (j : Nat) : nI (4 * j) + 3 = nI (4 * j + 3) := nI_add _ 3
def Go (j : Nat) (W : tm_W) (m : Nat → Nat → Int32) (l : Nat → Nat → Int64) (y : Nat) : Prop := ∀ l5 l6 l7 : Option Value, ∃ (W2 : tm_W) (m2' : Nat → Nat → Int32) (l2 : Nat → Nat → Int64) (a b c : Option Value), dn 259 y [some (.float 0), some (.ref 0), some (.ref 39), some (.ref 61), some (.int (nI (4 * j))), l5, l6, l7] [] (tm W m l) = dn 259 1042 [some (.float 0), some (.ref 0), some (.ref 39), some (.ref 61), some (.int (nI (4 * j))), a, b, c] [] (tm W2 m2' l2) ∧ W2.2.2.1 = W.2.2.1 ∧ Inv (j + 1) W2 m2' l2
theorem go_0 {j yc yr y : Nat} (h : Inv j W m l) (X : lwX j W.2.2.1.1) (B : Both j W m l yc yr [] []) (hq : ∀ (x4 : Int32) (l5 l6 l7 : Option Value) (h : ia_H), dn 259 y [some (.float 0), some (.ref 0), some (.ref 39), some (.ref 61), some (.int x4), l5, l6, l7] [] h = (if ia_ok h 0 [.ref 0] = true then kxi (cl yc [.ref 0] h) (fun r2 h1 => (if ia_ok h1 8 [.ref 39] = true then kxi (cl yr [.ref 39] h1) (fun r4 h3 => (if r2 = r4 then dn 259 1042 [some (.float 0), some (.ref 0), some (.ref 39), some (.ref 61), some (.int x4), l5, l6, l7] [] h3 else some (some (.int 0), h3))) else none)) else none)) : Go j W m l y := fun l5 l6 l7 => by
  obtain ⟨⟨C, M, -⟩, -⟩ := id h
  obtain ⟨r, W1, m1', l1, W2, m2', l2, e1, e2, s1, s2, o0, o39, I⟩ := B
  have ok8 : ∀ as, ia_ok (tm W1 m1' l1) 8 (.ref 39 :: as) = true := fun as => tm_ok (o39.trans M.1) (by decide)
  refine ⟨W2, m2', l2, l5, l6, l7, ?_, s2, I⟩
  rw [hq]
  simp only [tm_sc, nI_1, lw_2, lw_3, X.cl (show 1 ≤ 3 by decide), X.cl (show 2 ≤ 3 by decide), X.cl (show 3 ≤ 3 by decide), X.no (show 1 ≤ 3 by decide), X.no (show 2 ≤ 3 by decide), X.no (show 3 ≤ 3 by decide), s1, xok C, ok8, e1, e2, kxi_s, if_true, if_false]
theorem go_1 {j yc yr y : Nat} (h : Inv j W m l) (X : lwX j W.2.2.1.1) (B : Both j W m l yc yr [.int (W.2.2.1.2 (4 * j + 1))] [.int (W.2.2.1.2 (4 * j + 1))]) (hq : ∀ (x4 : Int32) (l5 l6 l7 : Option Value) (h : ia_H), dn 259 y [some (.float 0), some (.ref 0), some (.ref 39), some (.ref 61), some (.int x4), l5, l6, l7] [] h = (if (x4 + 1) < 0 ∨ h.2.2.1.1 ≤ (x4 + 1).toNatClampNeg then none else (if ia_ok h 0 [.ref 0, .int (h.2.2.1.2 (x4 + 1).toNatClampNeg)] = true then kxi (cl yc [.ref 0, .int (h.2.2.1.2 (x4 + 1).toNatClampNeg)] h) (fun r3 h2 => (if (x4 + 1) < 0 ∨ h2.2.2.1.1 ≤ (x4 + 1).toNatClampNeg then none else (if ia_ok h2 8 [.ref 39, .int (h2.2.2.1.2 (x4 + 1).toNatClampNeg)] = true then kxi (cl yr [.ref 39, .int (h2.2.2.1.2 (x4 + 1).toNatClampNeg)] h2) (fun r6 h5 => (if r3 = r6 then dn 259 1042 [some (.float 0), some (.ref 0), some (.ref 39), some (.ref 61), some (.int x4), l5, l6, l7] [] h5 else some (some (.int 0), h5))) else none))) else none))) : Go j W m l y := fun l5 l6 l7 => by
  obtain ⟨⟨C, M, -⟩, -⟩ := id h
  obtain ⟨r, W1, m1', l1, W2, m2', l2, e1, e2, s1, s2, o0, o39, I⟩ := B
  have ok8 : ∀ as, ia_ok (tm W1 m1' l1) 8 (.ref 39 :: as) = true := fun as => tm_ok (o39.trans M.1) (by decide)
  refine ⟨W2, m2', l2, l5, l6, l7, ?_, s2, I⟩
  rw [hq]
  simp only [tm_sc, nI_1, lw_2, lw_3, X.cl (show 1 ≤ 3 by decide), X.cl (show 2 ≤ 3 by decide), X.cl (show 3 ≤ 3 by decide), X.no (show 1 ≤ 3 by decide), X.no (show 2 ≤ 3 by decide), X.no (show 3 ≤ 3 by decide), s1, xok C, ok8, e1, e2, kxi_s, if_true, if_false]
theorem go_2 {j yc yr y : Nat} (h : Inv j W m l) (X : lwX j W.2.2.1.1) (B : Both j W m l yc yr [.int (W.2.2.1.2 (4 * j + 1)), .int (W.2.2.1.2 (4 * j + 2))] [.int (W.2.2.1.2 (4 * j + 1)), .int (W.2.2.1.2 (4 * j + 2))]) (hq : ∀ (x4 : Int32) (l5 l6 l7 : Option Value) (h : ia_H), dn 259 y [some (.float 0), some (.ref 0), some (.ref 39), some (.ref 61), some (.int x4), l5, l6, l7] [] h = (if (x4 + 1) < 0 ∨ h.2.2.1.1 ≤ (x4 + 1).toNatClampNeg then none else (if (x4 + 2) < 0 ∨ h.2.2.1.1 ≤ (x4 + 2).toNatClampNeg then none else (if ia_ok h 0 [.ref 0, .int (h.2.2.1.2 (x4 + 1).toNatClampNeg), .int (h.2.2.1.2 (x4 + 2).toNatClampNeg)] = true then kxi (cl yc [.ref 0, .int (h.2.2.1.2 (x4 + 1).toNatClampNeg), .int (h.2.2.1.2 (x4 + 2).toNatClampNeg)] h) (fun r4 h3 => (if (x4 + 1) < 0 ∨ h3.2.2.1.1 ≤ (x4 + 1).toNatClampNeg then none else (if (x4 + 2) < 0 ∨ h3.2.2.1.1 ≤ (x4 + 2).toNatClampNeg then none else (if ia_ok h3 8 [.ref 39, .int (h3.2.2.1.2 (x4 + 1).toNatClampNeg), .int (h3.2.2.1.2 (x4 + 2).toNatClampNeg)] = true then kxi (cl yr [.ref 39, .int (h3.2.2.1.2 (x4 + 1).toNatClampNeg), .int (h3.2.2.1.2 (x4 + 2).toNatClampNeg)] h3) (fun r8 h7 => (if r4 = r8 then dn 259 1042 [some (.float 0), some (.ref 0), some (.ref 39), some (.ref 61), some (.int x4), l5, l6, l7] [] h7 else some (some (.int 0), h7))) else none)))) else none)))) : Go j W m l y := fun l5 l6 l7 => by
  obtain ⟨⟨C, M, -⟩, -⟩ := id h
  obtain ⟨r, W1, m1', l1, W2, m2', l2, e1, e2, s1, s2, o0, o39, I⟩ := B
  have ok8 : ∀ as, ia_ok (tm W1 m1' l1) 8 (.ref 39 :: as) = true := fun as => tm_ok (o39.trans M.1) (by decide)
  refine ⟨W2, m2', l2, l5, l6, l7, ?_, s2, I⟩
  rw [hq]
  simp only [tm_sc, nI_1, lw_2, lw_3, X.cl (show 1 ≤ 3 by decide), X.cl (show 2 ≤ 3 by decide), X.cl (show 3 ≤ 3 by decide), X.no (show 1 ≤ 3 by decide), X.no (show 2 ≤ 3 by decide), X.no (show 3 ≤ 3 by decide), s1, xok C, ok8, e1, e2, kxi_s, if_true, if_false]
theorem go_3 {j yc yr y : Nat} (h : Inv j W m l) (X : lwX j W.2.2.1.1) (B : Both j W m l yc yr [.int (W.2.2.1.2 (4 * j + 1)), .int (W.2.2.1.2 (4 * j + 2)), .int (W.2.2.1.2 (4 * j + 3))] [.int (W.2.2.1.2 (4 * j + 1)), .int (W.2.2.1.2 (4 * j + 2)), .int (W.2.2.1.2 (4 * j + 3))]) (hq : ∀ (x4 : Int32) (l5 l6 l7 : Option Value) (h : ia_H), dn 259 y [some (.float 0), some (.ref 0), some (.ref 39), some (.ref 61), some (.int x4), l5, l6, l7] [] h = (if (x4 + 1) < 0 ∨ h.2.2.1.1 ≤ (x4 + 1).toNatClampNeg then none else (if (x4 + 2) < 0 ∨ h.2.2.1.1 ≤ (x4 + 2).toNatClampNeg then none else (if (x4 + 3) < 0 ∨ h.2.2.1.1 ≤ (x4 + 3).toNatClampNeg then none else (if ia_ok h 0 [.ref 0, .int (h.2.2.1.2 (x4 + 1).toNatClampNeg), .int (h.2.2.1.2 (x4 + 2).toNatClampNeg), .int (h.2.2.1.2 (x4 + 3).toNatClampNeg)] = true then kxi (cl yc [.ref 0, .int (h.2.2.1.2 (x4 + 1).toNatClampNeg), .int (h.2.2.1.2 (x4 + 2).toNatClampNeg), .int (h.2.2.1.2 (x4 + 3).toNatClampNeg)] h) (fun r5 h4 => (if (x4 + 1) < 0 ∨ h4.2.2.1.1 ≤ (x4 + 1).toNatClampNeg then none else (if (x4 + 2) < 0 ∨ h4.2.2.1.1 ≤ (x4 + 2).toNatClampNeg then none else (if (x4 + 3) < 0 ∨ h4.2.2.1.1 ≤ (x4 + 3).toNatClampNeg then none else (if ia_ok h4 8 [.ref 39, .int (h4.2.2.1.2 (x4 + 1).toNatClampNeg), .int (h4.2.2.1.2 (x4 + 2).toNatClampNeg), .int (h4.2.2.1.2 (x4 + 3).toNatClampNeg)] = true then kxi (cl yr [.ref 39, .int (h4.2.2.1.2 (x4 + 1).toNatClampNeg), .int (h4.2.2.1.2 (x4 + 2).toNatClampNeg), .int (h4.2.2.1.2 (x4 + 3).toNatClampNeg)] h4) (fun r10 h9 => (if r5 = r10 then dn 259 1042 [some (.float 0), some (.ref 0), some (.ref 39), some (.ref 61), some (.int x4), l5, l6, l7] [] h9 else some (some (.int 0), h9))) else none))))) else none))))) : Go j W m l y := fun l5 l6 l7 => by
  obtain ⟨⟨C, M, -⟩, -⟩ := id h
  obtain ⟨r, W1, m1', l1, W2, m2', l2, e1, e2, s1, s2, o0, o39, I⟩ := B
  have ok8 : ∀ as, ia_ok (tm W1 m1' l1) 8 (.ref 39 :: as) = true := fun as => tm_ok (o39.trans M.1) (by decide)
  refine ⟨W2, m2', l2, l5, l6, l7, ?_, s2, I⟩
  rw [hq]
  simp only [tm_sc, nI_1, lw_2, lw_3, X.cl (show 1 ≤ 3 by decide), X.cl (show 2 ≤ 3 by decide), X.cl (show 3 ≤ 3 by decide), X.no (show 1 ≤ 3 by decide), X.no (show 2 ≤ 3 by decide), X.no (show 3 ≤ 3 by decide), s1, xok C, ok8, e1, e2, kxi_s, if_true, if_false]
theorem lg_eq (x : Int64) : lg_cmp x x = 0 := by
  unfold lg_cmp
  rw [if_neg (fun q => Int64.lt_irrefl q), if_pos rfl]
theorem g_plan {j : Nat} (hj : j < 600) (h : Inv j W m l) (X : lwX j W.2.2.1.1) : Go j W m l 714 := fun l5 l6 l7 => by
  obtain ⟨⟨C, M, -⟩, -⟩ := id h
  obtain ⟨r, W1, m1', l1, W2, m2', l2, e1, e2, s1, s2, o0, o39, I⟩ := b_plan hj h (W.2.2.1.2 (4 * j + 1))
  have ok8 : ∀ as, ia_ok (tm W1 m1' l1) 8 (.ref 39 :: as) = true := fun as => tm_ok (o39.trans M.1) (by decide)
  refine ⟨W2, m2', l2, l5, l6, l7, ?_, s2, I⟩
  rw [q_259_714]
  simp only [tm_sc, nI_1, X.cl (show 1 ≤ 3 by decide), X.no (show 1 ≤ 3 by decide), s1, xok C, ok8, e1, e2, kxl_s, lg_eq, if_true, if_false]
theorem g_decide {j : Nat} (hj : j < 600) (h : Inv j W m l) (X : lwX j W.2.2.1.1) : Go j W m l 303 := fun l5 l6 l7 => by
  obtain ⟨⟨C, M, -⟩, -⟩ := id h
  obtain ⟨z, hz⟩ : ∃ z : Int32, z = if W.2.2.1.2 (4 * j + 2) = 0 then 0 else 1 := ⟨_, rfl⟩
  obtain ⟨r, W1, m1', l1, W2, m2', l2, e1, e2, s1, s2, o0, o39, I⟩ := b_decide hj h (W.2.2.1.2 (4 * j + 1)) z (W.2.2.1.2 (4 * j + 3))
  have ok8 : ∀ as, ia_ok (tm W1 m1' l1) 8 (.ref 39 :: as) = true := fun as => tm_ok (o39.trans M.1) (by decide)
  refine ⟨W2, m2', l2, l5, l6, l7, ?_, s2, I⟩
  have K : dn 259 318 [some (.float 0), some (.ref 0), some (.ref 39), some (.ref 61), some (.int (nI (4 * j))), l5, l6, l7] [.int z, .int (W.2.2.1.2 (4 * j + 1)), .ref 0] (tm W m l) = dn 259 1042 [some (.float 0), some (.ref 0), some (.ref 39), some (.ref 61), some (.int (nI (4 * j))), l5, l6, l7] [] (tm W2 m2' l2) := by
    have K2 : dn 259 339 [some (.float 0), some (.ref 0), some (.ref 39), some (.ref 61), some (.int (nI (4 * j))), l5, l6, l7] [.int z, .int (W.2.2.1.2 (4 * j + 1)), .ref 39, .int r] (tm W1 m1' l1) = dn 259 1042 [some (.float 0), some (.ref 0), some (.ref 39), some (.ref 61), some (.int (nI (4 * j))), l5, l6, l7] [] (tm W2 m2' l2) := by
      rw [q_259_339]
      simp only [tm_sc, lw_3, X.cl (show 3 ≤ 3 by decide), X.no (show 3 ≤ 3 by decide), s1, ok8, e2, kxi_s, if_true, if_false]
    rw [q_259_318]
    simp only [tm_sc, nI_1, lw_2, lw_3, X.cl (show 1 ≤ 3 by decide), X.cl (show 2 ≤ 3 by decide), X.cl (show 3 ≤ 3 by decide), X.no (show 1 ≤ 3 by decide), X.no (show 2 ≤ 3 by decide), X.no (show 3 ≤ 3 by decide), s1, xok C, e1, kxi_s, if_true, if_false]
    by_cases q : W.2.2.1.2 (4 * j + 2) = 0
    · rw [if_pos q] at hz ⊢
      rw [hz] at K2
      exact K2
    · rw [if_neg q] at hz ⊢
      rw [hz] at K2
      exact K2
  rw [q_259_303]
  simp only [tm_sc, nI_1, lw_2, X.cl (show 1 ≤ 3 by decide), X.cl (show 2 ≤ 3 by decide), X.no (show 1 ≤ 3 by decide), X.no (show 2 ≤ 3 by decide), if_false]
  by_cases q : W.2.2.1.2 (4 * j + 2) = 0
  · rw [if_pos q] at hz ⊢
    rw [hz] at K
    exact K
  · rw [if_neg q] at hz ⊢
    rw [hz] at K
    exact K
theorem g_decides {j : Nat} (hj : j < 600) (h : Inv j W m l) (X : lwX j W.2.2.1.1) : Go j W m l 348 := fun l5 l6 l7 => by
  obtain ⟨⟨C, M, -⟩, -⟩ := id h
  obtain ⟨z, hz⟩ : ∃ z : Int32, z = if W.2.2.1.2 (4 * j + 1) = 0 then 0 else 1 := ⟨_, rfl⟩
  obtain ⟨r, W1, m1', l1, W2, m2', l2, e1, e2, s1, s2, o0, o39, I⟩ := b_decides hj h z
  have ok8 : ∀ as, ia_ok (tm W1 m1' l1) 8 (.ref 39 :: as) = true := fun as => tm_ok (o39.trans M.1) (by decide)
  refine ⟨W2, m2', l2, l5, l6, l7, ?_, s2, I⟩
  rw [q_259_348]
  simp only [tm_sc, nI_1, X.cl (show 1 ≤ 3 by decide), X.no (show 1 ≤ 3 by decide), if_false]
  by_cases q : W.2.2.1.2 (4 * j + 1) = 0
  · rw [if_pos q] at hz ⊢
    subst hz
    rw [q_259_358]
    simp only [tm_sc, nI_1, X.cl (show 1 ≤ 3 by decide), X.no (show 1 ≤ 3 by decide), s1, xok C, ok8, e1, e2, q, kxi_s, if_true, if_false]
  · rw [if_neg q] at hz ⊢
    subst hz
    rw [q_259_358]
    simp only [tm_sc, nI_1, X.cl (show 1 ≤ 3 by decide), X.no (show 1 ≤ 3 by decide), s1, xok C, ok8, e1, e2, q, kxi_s, if_true, if_false]
theorem row_nm {x : Int32} {n : Nat} (hn : n ≤ 100) (h : nin x n) : ¬ (0 ≤ x ∧ x ≤ nI n - 1) := fun ⟨h1, h2⟩ => by
  rcases h with h | h
  · exact absurd h1 (Int32.not_le.mpr h)
  · rcases Nat.eq_zero_or_pos n with z | z
    · rw [z] at h2
      exact absurd (Int32.le_trans h1 h2) (by decide)
    · rw [show nI n - 1 = nI (n - 1) from pk_sub (b := 1) z] at h2
      exact absurd (Int32.le_trans h h2) (nI_ge (show n - 1 < n by omega) (by omega))
theorem row_in {k n : Nat} (hk : k < n) (hn : n ≤ 100) : 0 ≤ nI k ∧ nI k ≤ nI n - 1 := by
  rw [show nI n - 1 = nI (n - 1) from pk_sub (b := 1) (by omega)]
  exact ⟨nI_pos' (by omega), nI_le (by omega) (by omega)⟩
theorem c69z (x y : Int32) (h : ia_H) : cl 69 [.long x.toInt64, .long 0, .long y.toInt64] h = some (some (.int (if 0 ≤ x ∧ x ≤ y then 1 else 0)), h) := by
  have := c69i x 0 y h
  rw [z64] at this
  exact this
def eW (W : tm_W) : tm_W := tm_nw W 6 (.inl (9, []))
theorem eW_sh (W : tm_W) {x : Nat} (h : x < W.1) : tm_sh (eW W) x = tm_sh W x := if_neg (by omega)
theorem e_new : ia_new (tm W m l) 6 (.inr (9, [])) = tm (eW W) m l := by
  have := tm_new (W := W) (m := m) (l := l) 6 (.inl (9, [])) (.inr (9, [])) (m W.1) (l W.1) rfl
  rwa [m1_e, m1_eL] at this
theorem g_row {j : Nat} (hj : j < 600) (h : Inv j W m l) (X : lwX j W.2.2.1.1) : Go j W m l 1008 := fun l5 l6 l7 => by
  obtain ⟨⟨C, M, h61, g1, g2, g3⟩, -, -, -, -, hT, hrow⟩ := id h
  obtain ⟨rn, r1, r2, r3, r4⟩ := id hrow
  obtain ⟨x, hx⟩ : ∃ x, x = W.2.2.1.2 (4 * j + 1) := ⟨_, rfl⟩
  have i13 : ∀ {m' : Nat → Nat → Int32} {v : Int32}, m2 m' 39 13 v 39 13 = v := m2_s _ _ _ _
  have i12 : m2 m 39 13 0 39 12 = nI rn := by rw [m2_k _ _ _ _ (by decide)]; exact r3
  have t13 : ∀ v, iTxt (m2 m 39 13 v) := fun v => by
    obtain ⟨n, n1, n2, n3, n4⟩ := hT
    exact ⟨n, n1, by rw [m2_a _ _ _ _ (by decide)]; exact n2, by rw [m2_k _ _ _ _ (by decide)]; exact n3, fun i hi => by rw [m2_a _ _ _ _ (by decide), m2_a _ _ _ _ (by decide)]; exact n4 i hi⟩
  have w13 : ∀ (v : Int32) (l' : Nat → Nat → Int64), l' 48 = l 48 → iRow (m2 m 39 13 v) l' := fun v l' e => ⟨rn, r1, by rw [m2_a _ _ _ _ (by decide)]; exact r2, by rw [m2_k _ _ _ _ (by decide)]; exact r3, fun i hi => by rw [m2_a _ _ _ _ (by decide), e]; exact r4 i hi⟩
  rcases arg x rn (by omega) with ⟨k, hk, hxk⟩ | hn
  · have eL : lrowd (tm W m l) 0 x 61 = some (0, tm W m (m2 l 61 0 (m 8 k).toInt64)) := by
      have e0 : ia_stL (tm W m l) 61 0 (m 8 k).toInt64 = some (tm W m (m2 l 61 0 (m 8 k).toInt64)) := tm_stL (j := 0) h61 (by decide) (by decide)
      unfold lrowd
      rw [xR3 C, Option.bind_some, tm_gI C.t7 rfl, Option.bind_some, r2, hxk, if_neg (fun q => nI_no (n := rn) hk (by omega) (q.imp id fun z => absurd z (nI_ge hk (by omega)))), tm_gR C.t7 rfl, Option.bind_some, tm_ld C.t8 (by decide) (by decide) (show k < 100 by omega) (by decide), Option.bind_some, e0]
      rfl
    have e1 : cl 171 [.ref 39, .int x] (tm W m (m2 l 61 0 (m 8 k).toInt64)) = some (some (.long (l 48 k)), tm W (m2 m 39 13 0) (m2 l 61 0 (m 8 k).toInt64)) := by
      rw [q_171, ru13 M, Option.bind_some, rI12 M, Option.bind_some, i12, c69z, hxk, if_pos (row_in hk r1), kxi_s, if_neg (by decide), rR11 M, Option.bind_some, rl48 M (show k < 128 by omega), Option.bind_some, m2_a _ _ _ _ (by decide)]
    have e2 : cl 68 [.ref 39] (tm W (m2 m 39 13 0) (m2 l 61 0 (m 8 k).toInt64)) = some (some (.int 0), tm W (m2 m 39 13 0) (m2 l 61 0 (m 8 k).toInt64)) := by
      rw [q_68, rI13 M, Option.bind_some, i13]
    have e3 : ia_ldL (tm W (m2 m 39 13 0) (m2 l 61 0 (m 8 k).toInt64)) 61 0 = some (m 8 k).toInt64 := (tm_ldL (j := 0) h61 (by decide) (by decide)).trans (by rw [m2_s])
    rw [r4 k hk] at eL e1 e2 e3
    refine ⟨W, m2 m 39 13 0, m2 l 61 0 (l 48 k), some (.int 0), some (.long (l 48 k)), none, ?_, rfl, Inv_t h (fun a ha => m2_r _ _ _ (by omega)) (m2_a _ _ _ _ (by decide)) (m2_a _ _ _ _ (by decide)) (m2_a _ _ _ _ (by decide)) (m2_k _ _ _ _ (by decide)) (m2_k _ _ _ _ (by decide)) (t13 0) (w13 0 _ (m2_r _ _ _ (by decide)))⟩
    rw [q_259_1008]
    simp only [tm_sc, nI_1, X.cl (show 1 ≤ 3 by decide), X.no (show 1 ≤ 3 by decide), ← hx, eL, e1, e2, e3, rok M, lg_eq, Option.bind_some, kxl_s, kxi_s, if_true, if_false]
  · have M1 : isM (eW W) := isM_of (fun x hx => eW_sh W (by omega)) M
    have eL : lrowd (tm W m l) 0 x 61 = some (1, tm (eW W) m l) := by
      unfold lrowd
      rw [xR3 C, Option.bind_some, tm_gI C.t7 rfl, Option.bind_some, r2, if_pos (show x < 0 ∨ nI rn ≤ x from hn), e_new]
    have e1 : cl 171 [.ref 39, .int x] (tm (eW W) m l) = some (some (.long 0), tm (eW W) (m2 m 39 13 1) l) := by
      have e70 : cl 70 [.ref 39] (tm (eW W) (m2 m 39 13 0) l) = some (some (.int 0), tm (eW W) (m2 m 39 13 1) l) := by
        rw [q_70, ru13 M1, Option.bind_some, m2_m2]
      rw [q_171, ru13 M1, Option.bind_some, rI12 M1, Option.bind_some, i12, c69z, if_neg (row_nm r1 hn), kxi_s, if_pos rfl, if_pos (rok M1 _), e70, kxi_s]
      rfl
    have e2 : cl 68 [.ref 39] (tm (eW W) (m2 m 39 13 1) l) = some (some (.int 1), tm (eW W) (m2 m 39 13 1) l) := by
      rw [q_68, rI13 M1, Option.bind_some, i13]
    have ww : (eW W).2.2.1 = W.2.2.1 := rfl
    refine ⟨eW W, m2 m 39 13 1, l, some (.int 1), some (.long 0), none, ?_, rfl, Inv_v h (isC_of (fun x hx => eW_sh W (by omega)) C) M1 ((eW_sh W (by omega)).trans h61) (by show W.1 ≤ W.1 + 1; omega) (by show W.1 + 1 ≤ W.1 + 1; omega) (by show W.2.1 + 6 ≤ W.2.1 + 10; omega) (fun x hx => eW_sh W hx) rfl (fun a ha => m2_r _ _ _ (by omega)) (fun a h1 h2 => m2_r _ _ _ (by omega)) (fun i hi => m2_a _ _ _ _ (by decide)) (m2_a _ _ _ _ (by decide)) (m2_a _ _ _ _ (by decide)) (m2_a _ _ _ _ (by decide)) (m2_k _ _ _ _ (by decide)) (m2_k _ _ _ _ (by decide)) (t13 1) (w13 1 l rfl)⟩
    rw [q_259_1008]
    simp only [tm_sc, nI_1, X.cl (show 1 ≤ 3 by decide), X.no (show 1 ≤ 3 by decide), ← hx, eL, ww, e1, e2, rok M1, Option.bind_some, kxl_s, kxi_s, if_true, if_false, eq_false (show ¬ ((1 : Int32) = 0) by decide)]

theorem g_sign {j : Nat} (hj : j < 600) (h : Inv j W m l) (X : lwX j W.2.2.1.1) : Go j W m l 25 := go_1 h X (b_sign h _) (fun x4 l5 l6 l7 h => q_259_25 _ _ _ _ _ _ _ _ h)
theorem g_end {j : Nat} (hj : j < 600) (h : Inv j W m l) (X : lwX j W.2.2.1.1) : Go j W m l 42 := go_1 h X (b_end hj h _) (fun x4 l5 l6 l7 h => q_259_42 _ _ _ _ _ _ _ _ h)
theorem g_rules {j : Nat} (hj : j < 600) (h : Inv j W m l) (X : lwX j W.2.2.1.1) : Go j W m l 59 := go_0 h X (b_rules hj h) (fun x4 l5 l6 l7 h => q_259_59 _ _ _ _ _ _ _ _ h)
theorem g_squads {j : Nat} (hj : j < 600) (h : Inv j W m l) (X : lwX j W.2.2.1.1) : Go j W m l 66 := go_0 h X (b_squads hj h) (fun x4 l5 l6 l7 h => q_259_66 _ _ _ _ _ _ _ _ h)
theorem g_rule {j : Nat} (hj : j < 600) (h : Inv j W m l) (X : lwX j W.2.2.1.1) : Go j W m l 73 := go_2 h X (b_rule hj h _ _) (fun x4 l5 l6 l7 h => q_259_73 _ _ _ _ _ _ _ _ h)
theorem g_written {j : Nat} (hj : j < 600) (h : Inv j W m l) (X : lwX j W.2.2.1.1) : Go j W m l 100 := go_1 h X (b_written h _) (fun x4 l5 l6 l7 h => q_259_100 _ _ _ _ _ _ _ _ h)
theorem g_team {j : Nat} (hj : j < 600) (h : Inv j W m l) (X : lwX j W.2.2.1.1) : Go j W m l 117 := go_1 h X (b_team hj h _) (fun x4 l5 l6 l7 h => q_259_117 _ _ _ _ _ _ _ _ h)
theorem g_squad {j : Nat} (hj : j < 600) (h : Inv j W m l) (X : lwX j W.2.2.1.1) : Go j W m l 134 := go_1 h X (b_squad hj h _) (fun x4 l5 l6 l7 h => q_259_134 _ _ _ _ _ _ _ _ h)
theorem g_play {j : Nat} (hj : j < 600) (h : Inv j W m l) (X : lwX j W.2.2.1.1) : Go j W m l 151 := go_3 h X (b_play hj h _ _ _) (fun x4 l5 l6 l7 h => q_259_151 _ _ _ _ _ _ _ _ h)
theorem g_move {j : Nat} (hj : j < 600) (h : Inv j W m l) (X : lwX j W.2.2.1.1) : Go j W m l 188 := go_2 h X (b_move hj h _ _) (fun x4 l5 l6 l7 h => q_259_188 _ _ _ _ _ _ _ _ h)
theorem g_swaps {j : Nat} (hj : j < 600) (h : Inv j W m l) (X : lwX j W.2.2.1.1) : Go j W m l 215 := go_2 h X (b_swaps hj h _ _) (fun x4 l5 l6 l7 h => q_259_215 _ _ _ _ _ _ _ _ h)
theorem g_bans {j : Nat} (hj : j < 600) (h : Inv j W m l) (X : lwX j W.2.2.1.1) : Go j W m l 242 := go_3 h X (b_bans hj h _ _ _) (fun x4 l5 l6 l7 h => q_259_242 _ _ _ _ _ _ _ _ h)
theorem g_given {j : Nat} (hj : j < 600) (h : Inv j W m l) (X : lwX j W.2.2.1.1) : Go j W m l 279 := go_0 h X (b_given hj h) (fun x4 l5 l6 l7 h => q_259_279 _ _ _ _ _ _ _ _ h)
theorem g_appeal {j : Nat} (hj : j < 600) (h : Inv j W m l) (X : lwX j W.2.2.1.1) : Go j W m l 286 := go_1 h X (b_appeal hj h _) (fun x4 l5 l6 l7 h => q_259_286 _ _ _ _ _ _ _ _ h)
theorem g_pardon {j : Nat} (hj : j < 600) (h : Inv j W m l) (X : lwX j W.2.2.1.1) : Go j W m l 373 := go_2 h X (b_pardon hj h _ _) (fun x4 l5 l6 l7 h => q_259_373 _ _ _ _ _ _ _ _ h)
theorem g_season {j : Nat} (hj : j < 600) (h : Inv j W m l) (X : lwX j W.2.2.1.1) : Go j W m l 400 := go_0 h X (b_season hj h) (fun x4 l5 l6 l7 h => q_259_400 _ _ _ _ _ _ _ _ h)
theorem g_may {j : Nat} (hj : j < 600) (h : Inv j W m l) (X : lwX j W.2.2.1.1) : Go j W m l 407 := go_2 h X (b_may hj h _ _) (fun x4 l5 l6 l7 h => q_259_407 _ _ _ _ _ _ _ _ h)
theorem g_out {j : Nat} (hj : j < 600) (h : Inv j W m l) (X : lwX j W.2.2.1.1) : Go j W m l 434 := go_2 h X (b_out hj h _ _) (fun x4 l5 l6 l7 h => q_259_434 _ _ _ _ _ _ _ _ h)
theorem g_misses {j : Nat} (hj : j < 600) (h : Inv j W m l) (X : lwX j W.2.2.1.1) : Go j W m l 461 := go_2 h X (b_misses hj h _ _) (fun x4 l5 l6 l7 h => q_259_461 _ _ _ _ _ _ _ _ h)
theorem g_owed {j : Nat} (hj : j < 600) (h : Inv j W m l) (X : lwX j W.2.2.1.1) : Go j W m l 488 := go_1 h X (b_owed hj h _) (fun x4 l5 l6 l7 h => q_259_488 _ _ _ _ _ _ _ _ h)
theorem g_sides {j : Nat} (hj : j < 600) (h : Inv j W m l) (X : lwX j W.2.2.1.1) : Go j W m l 505 := go_3 h X (b_sides hj h _ _ _) (fun x4 l5 l6 l7 h => q_259_505 _ _ _ _ _ _ _ _ h)
theorem g_until {j : Nat} (hj : j < 600) (h : Inv j W m l) (X : lwX j W.2.2.1.1) : Go j W m l 542 := go_2 h X (b_until hj h _ _) (fun x4 l5 l6 l7 h => q_259_542 _ _ _ _ _ _ _ _ h)
theorem g_cautions {j : Nat} (hj : j < 600) (h : Inv j W m l) (X : lwX j W.2.2.1.1) : Go j W m l 569 := go_2 h X (b_cautions hj h _ _) (fun x4 l5 l6 l7 h => q_259_569 _ _ _ _ _ _ _ _ h)
theorem g_risks {j : Nat} (hj : j < 600) (h : Inv j W m l) (X : lwX j W.2.2.1.1) : Go j W m l 596 := go_2 h X (b_risks hj h _ _) (fun x4 l5 l6 l7 h => q_259_596 _ _ _ _ _ _ _ _ h)
theorem g_tempts {j : Nat} (hj : j < 600) (h : Inv j W m l) (X : lwX j W.2.2.1.1) : Go j W m l 623 := go_3 h X (b_tempts hj h _ _ _) (fun x4 l5 l6 l7 h => q_259_623 _ _ _ _ _ _ _ _ h)
theorem g_costs {j : Nat} (hj : j < 600) (h : Inv j W m l) (X : lwX j W.2.2.1.1) : Go j W m l 660 := go_2 h X (b_costs h _ _) (fun x4 l5 l6 l7 h => q_259_660 _ _ _ _ _ _ _ _ h)
theorem g_played {j : Nat} (hj : j < 600) (h : Inv j W m l) (X : lwX j W.2.2.1.1) : Go j W m l 687 := go_2 h X (b_played hj h _ _) (fun x4 l5 l6 l7 h => q_259_687 _ _ _ _ _ _ _ _ h)
theorem g_returns {j : Nat} (hj : j < 600) (h : Inv j W m l) (X : lwX j W.2.2.1.1) : Go j W m l 732 := go_1 h X (b_returns hj h _) (fun x4 l5 l6 l7 h => q_259_732 _ _ _ _ _ _ _ _ h)
theorem g_behind {j : Nat} (hj : j < 600) (h : Inv j W m l) (X : lwX j W.2.2.1.1) : Go j W m l 749 := go_0 h X (b_behind hj h) (fun x4 l5 l6 l7 h => q_259_749 _ _ _ _ _ _ _ _ h)
theorem g_ban {j : Nat} (hj : j < 600) (h : Inv j W m l) (X : lwX j W.2.2.1.1) : Go j W m l 756 := go_2 h X (b_ban hj h _ _) (fun x4 l5 l6 l7 h => q_259_756 _ _ _ _ _ _ _ _ h)
theorem g_opens {j : Nat} (hj : j < 600) (h : Inv j W m l) (X : lwX j W.2.2.1.1) : Go j W m l 783 := go_1 h X (b_opens hj h _) (fun x4 l5 l6 l7 h => q_259_783 _ _ _ _ _ _ _ _ h)
theorem g_frees {j : Nat} (hj : j < 600) (h : Inv j W m l) (X : lwX j W.2.2.1.1) : Go j W m l 800 := go_2 h X (b_frees hj h _ _) (fun x4 l5 l6 l7 h => q_259_800 _ _ _ _ _ _ _ _ h)
theorem g_sum {j : Nat} (hj : j < 600) (h : Inv j W m l) (X : lwX j W.2.2.1.1) : Go j W m l 827 := go_1 h X (b_sum hj h _) (fun x4 l5 l6 l7 h => q_259_827 _ _ _ _ _ _ _ _ h)
theorem g_worst {j : Nat} (hj : j < 600) (h : Inv j W m l) (X : lwX j W.2.2.1.1) : Go j W m l 844 := go_0 h X (b_worst hj h) (fun x4 l5 l6 l7 h => q_259_844 _ _ _ _ _ _ _ _ h)
theorem g_most {j : Nat} (hj : j < 600) (h : Inv j W m l) (X : lwX j W.2.2.1.1) : Go j W m l 851 := go_1 h X (b_most hj h _) (fun x4 l5 l6 l7 h => q_259_851 _ _ _ _ _ _ _ _ h)
theorem g_longest {j : Nat} (hj : j < 600) (h : Inv j W m l) (X : lwX j W.2.2.1.1) : Go j W m l 868 := go_1 h X (b_longest hj h _) (fun x4 l5 l6 l7 h => q_259_868 _ _ _ _ _ _ _ _ h)
theorem g_points {j : Nat} (hj : j < 600) (h : Inv j W m l) (X : lwX j W.2.2.1.1) : Go j W m l 885 := go_1 h X (b_points hj h _) (fun x4 l5 l6 l7 h => q_259_885 _ _ _ _ _ _ _ _ h)
theorem g_fair {j : Nat} (hj : j < 600) (h : Inv j W m l) (X : lwX j W.2.2.1.1) : Go j W m l 902 := go_0 h X (b_fair hj h) (fun x4 l5 l6 l7 h => q_259_902 _ _ _ _ _ _ _ _ h)
theorem g_cards {j : Nat} (hj : j < 600) (h : Inv j W m l) (X : lwX j W.2.2.1.1) : Go j W m l 909 := go_1 h X (b_cards hj h _) (fun x4 l5 l6 l7 h => q_259_909 _ _ _ _ _ _ _ _ h)
theorem g_keeps {j : Nat} (hj : j < 600) (h : Inv j W m l) (X : lwX j W.2.2.1.1) : Go j W m l 926 := go_0 h X (b_keeps hj h) (fun x4 l5 l6 l7 h => q_259_926 _ _ _ _ _ _ _ _ h)
theorem g_back {j : Nat} (hj : j < 600) (h : Inv j W m l) (X : lwX j W.2.2.1.1) : Go j W m l 933 := go_0 h X (b_back hj h) (fun x4 l5 l6 l7 h => q_259_933 _ _ _ _ _ _ _ _ h)
theorem g_book {j : Nat} (hj : j < 600) (h : Inv j W m l) (X : lwX j W.2.2.1.1) : Go j W m l 940 := go_2 h X (b_book hj h _ _) (fun x4 l5 l6 l7 h => q_259_940 _ _ _ _ _ _ _ _ h)
theorem g_told {j : Nat} (hj : j < 600) (h : Inv j W m l) (X : lwX j W.2.2.1.1) : Go j W m l 967 := go_1 h X (b_told hj h _) (fun x4 l5 l6 l7 h => q_259_967 _ _ _ _ _ _ _ _ h)
theorem g_undo {j : Nat} (hj : j < 600) (h : Inv j W m l) (X : lwX j W.2.2.1.1) : Go j W m l 984 := go_0 h X (b_undo hj h) (fun x4 l5 l6 l7 h => q_259_984 _ _ _ _ _ _ _ _ h)
theorem g_count {j : Nat} (hj : j < 600) (h : Inv j W m l) (X : lwX j W.2.2.1.1) : Go j W m l 991 := go_1 h X (b_count hj h _) (fun x4 l5 l6 l7 h => q_259_991 _ _ _ _ _ _ _ _ h)
def lwT : List Nat := [25, 42, 59, 66, 73, 100, 117, 134, 151, 188, 215, 242, 279, 286, 303, 348, 373, 400, 407, 434, 461, 488, 505, 542, 569, 596, 623, 660, 687, 714, 732, 749, 756, 783, 800, 827, 844, 851, 868, 885, 902, 909, 926, 933, 940, 967, 984, 991, 1008]
theorem g_all {j : Nat} (hj : j < 600) (h : Inv j W m l) (X : lwX j W.2.2.1.1) : ∀ y ∈ lwT, Go j W m l y := List.forall_mem_cons.mpr ⟨g_sign hj h X, List.forall_mem_cons.mpr ⟨g_end hj h X, List.forall_mem_cons.mpr ⟨g_rules hj h X, List.forall_mem_cons.mpr ⟨g_squads hj h X, List.forall_mem_cons.mpr ⟨g_rule hj h X, List.forall_mem_cons.mpr ⟨g_written hj h X, List.forall_mem_cons.mpr ⟨g_team hj h X, List.forall_mem_cons.mpr ⟨g_squad hj h X, List.forall_mem_cons.mpr ⟨g_play hj h X, List.forall_mem_cons.mpr ⟨g_move hj h X, List.forall_mem_cons.mpr ⟨g_swaps hj h X, List.forall_mem_cons.mpr ⟨g_bans hj h X, List.forall_mem_cons.mpr ⟨g_given hj h X, List.forall_mem_cons.mpr ⟨g_appeal hj h X, List.forall_mem_cons.mpr ⟨g_decide hj h X, List.forall_mem_cons.mpr ⟨g_decides hj h X, List.forall_mem_cons.mpr ⟨g_pardon hj h X, List.forall_mem_cons.mpr ⟨g_season hj h X, List.forall_mem_cons.mpr ⟨g_may hj h X, List.forall_mem_cons.mpr ⟨g_out hj h X, List.forall_mem_cons.mpr ⟨g_misses hj h X, List.forall_mem_cons.mpr ⟨g_owed hj h X, List.forall_mem_cons.mpr ⟨g_sides hj h X, List.forall_mem_cons.mpr ⟨g_until hj h X, List.forall_mem_cons.mpr ⟨g_cautions hj h X, List.forall_mem_cons.mpr ⟨g_risks hj h X, List.forall_mem_cons.mpr ⟨g_tempts hj h X, List.forall_mem_cons.mpr ⟨g_costs hj h X, List.forall_mem_cons.mpr ⟨g_played hj h X, List.forall_mem_cons.mpr ⟨g_plan hj h X, List.forall_mem_cons.mpr ⟨g_returns hj h X, List.forall_mem_cons.mpr ⟨g_behind hj h X, List.forall_mem_cons.mpr ⟨g_ban hj h X, List.forall_mem_cons.mpr ⟨g_opens hj h X, List.forall_mem_cons.mpr ⟨g_frees hj h X, List.forall_mem_cons.mpr ⟨g_sum hj h X, List.forall_mem_cons.mpr ⟨g_worst hj h X, List.forall_mem_cons.mpr ⟨g_most hj h X, List.forall_mem_cons.mpr ⟨g_longest hj h X, List.forall_mem_cons.mpr ⟨g_points hj h X, List.forall_mem_cons.mpr ⟨g_fair hj h X, List.forall_mem_cons.mpr ⟨g_cards hj h X, List.forall_mem_cons.mpr ⟨g_keeps hj h X, List.forall_mem_cons.mpr ⟨g_back hj h X, List.forall_mem_cons.mpr ⟨g_book hj h X, List.forall_mem_cons.mpr ⟨g_told hj h X, List.forall_mem_cons.mpr ⟨g_undo hj h X, List.forall_mem_cons.mpr ⟨g_count hj h X, List.forall_mem_cons.mpr ⟨g_row hj h X, fun _ q => nomatch q⟩⟩⟩⟩⟩⟩⟩⟩⟩⟩⟩⟩⟩⟩⟩⟩⟩⟩⟩⟩⟩⟩⟩⟩⟩⟩⟩⟩⟩⟩⟩⟩⟩⟩⟩⟩⟩⟩⟩⟩⟩⟩⟩⟩⟩⟩⟩⟩⟩
theorem lw_at {j : Nat} (hj : j < 600) (h : Inv j W m l) (X : lwX j W.2.2.1.1) {c : Nat} (hc : c < 49) : Go j W m l (lwT.getD c 1042) := by
  have e : lwT.getD c 1042 = lwT[c]'(show c < lwT.length from hc) := by
    rw [List.getD_eq_getElem?_getD, List.getElem?_eq_getElem (show c < lwT.length from hc)]
    rfl
  rw [e]
  exact g_all hj h X _ (List.getElem_mem _)
theorem Inv_up {j : Nat} (h : Inv j W m l) : Inv (j + 1) W m l := Inv_t h (fun _ _ => rfl) rfl rfl rfl rfl rfl h.2.2.2.2.2.1 h.2.2.2.2.2.2
theorem lw_loop : ∀ (n j : Nat) (W : tm_W) (m : Nat → Nat → Int32) (l : Nat → Nat → Int64) (l5 l6 l7 : Option Value), n + j = 513 → Inv j W m l → W.2.2.1.1 ≤ 2048 → ∃ W' m' l', dn 259 13 [some (.float 0), some (.ref 0), some (.ref 39), some (.ref 61), some (.int (nI (4 * j))), l5, l6, l7] [] (tm W m l) = some (some (.int 1), tm W' m' l') ∧ W'.1 ≤ 200 + 10 * 513 ∧ W'.2.1 ≤ 30000 + 1200 * 513
  | n, j, W, m, l, l5, l6, l7, hn, h, hS => by
    by_cases hlt : 4 * j + 4 ≤ W.2.2.1.1
    · cases n with
      | zero => omega
      | succ n =>
        have X : lwX j W.2.2.1.1 := ⟨by omega, hS⟩
        have e0 : ¬ (Int32.ofNat W.2.2.1.1 - 4 < nI (4 * j)) := by
          rw [show Int32.ofNat W.2.2.1.1 - 4 = nI (W.2.2.1.1 - 4) from pk_sub (b := 4) (by omega)]
          exact nI_nlt (by omega) (by omega)
        have e1 : ¬ (nI (4 * j) < 0 ∨ W.2.2.1.1 ≤ (nI (4 * j)).toNatClampNeg) := nI_no (by omega) (by omega)
        have step : ∀ y, Go j W m l y → ∃ W' m' l', dn 259 y [some (.float 0), some (.ref 0), some (.ref 39), some (.ref 61), some (.int (nI (4 * j))), l5, l6, l7] [] (tm W m l) = some (some (.int 1), tm W' m' l') ∧ W'.1 ≤ 200 + 10 * 513 ∧ W'.2.1 ≤ 30000 + 1200 * 513 := fun y G => by
          obtain ⟨W2, m2', l2, a, b, c, e, s2, I⟩ := G l5 l6 l7
          rw [e, q_259_1042, show nI (4 * j) + 4 = nI (4 * (j + 1)) from (nI_add _ 4).trans (by rw [show 4 * j + 4 = 4 * (j + 1) by omega])]
          exact lw_loop n (j + 1) W2 m2' l2 a b c (by omega) I (by rw [s2]; exact hS)
        rw [q_259_13, tm_sc, if_neg e0, if_neg e1]
        by_cases hc : ((W.2.2.1.2 (nI (4 * j)).toNatClampNeg) &&& 63).toInt < 0 ∨ (49 : Int) ≤ ((W.2.2.1.2 (nI (4 * j)).toNatClampNeg) &&& 63).toInt
        · rw [if_pos hc]
          exact step 1042 fun a b c => ⟨W, m, l, a, b, c, rfl, rfl, Inv_up h⟩
        · rw [if_neg hc]
          exact step _ (lw_at (by omega) h X (show ((W.2.2.1.2 (nI (4 * j)).toNatClampNeg) &&& 63).toInt.toNat < 49 by omega))
    · have e0 : Int32.ofNat W.2.2.1.1 - 4 < nI (4 * j) := by
        rcases Nat.lt_or_ge W.2.2.1.1 4 with z | z
        · exact Int32.lt_of_lt_of_le (pk_sneg (a := W.2.2.1.1) (b := 4) (by decide) z) (nI_pos' (by omega))
        · rw [show Int32.ofNat W.2.2.1.1 - 4 = nI (W.2.2.1.1 - 4) from pk_sub (b := 4) z]
          exact nI_lt (by omega) (by omega)
      rw [q_259_13, tm_sc, if_pos e0]
      obtain ⟨⟨-, -, -, -, g2, g3⟩, -⟩ := h
      exact ⟨W, m, l, rfl, by omega, by omega⟩
theorem law_run {sc : Nat × (Nat → Int32)} (hS : sc.1 ≤ 2048) : ∃ W' m' l', cl 259 [.float 0] (hl sc 0 []) = some (some (.int 1), tm W' m' l') ∧ W'.1 ≤ 200 + 10 * 513 ∧ W'.2.1 ≤ 30000 + 1200 * 513 := by
  have e0 := k0 (sc := sc) (s := 0 + 11)
  rw [q_259, hl_new]
  rw [show cl 0 [.ref (hl sc 0 []).1] (hl sc (0 + 11) ([] ++ [.inr (0, [.null, .null, .null, .null, .null, .null, .null, .null, .null, .null, .int 0])])) = _ from e0, kxv_s, hl_new]
  rw [show cl 67 [.ref (hl sc (0 + 11 + 4167) (.inr (0, [.ref 1, .ref 3, .ref 5, .ref 7, .ref 9, .ref 11, .ref 13, .ref 21, .ref 29, .ref 37, .int 0]) :: cA)).1] (hl sc (0 + 11 + 4167 + 36) ((.inr (0, [.ref 1, .ref 3, .ref 5, .ref 7, .ref 9, .ref 11, .ref 13, .ref 21, .ref 29, .ref 37, .int 0]) :: cA) ++ [.inr (8, [.null, .null, .null, .int 0, .null, .int 0, .null, .null, .null, .null, .int 0, .null, .int 0, .int 0, .int 0, .int 0, .null, .null, .int 0, .int 0, .int 0, .int 0, .int 0, .int 0, .null, .null, .null, .null, .null, .null, .null, .int 0, .null, .null, .null, .int 0])])) = _ from k67 (sc := sc) (s := 0 + 11 + 4167 + 36) (.inr (0, [.ref 1, .ref 3, .ref 5, .ref 7, .ref 9, .ref 11, .ref 13, .ref 21, .ref 29, .ref 37, .int 0]) :: cA) rfl, kxv_s, hl_new]
  rw [show hl sc (0 + 11 + 4167 + 36 + 1108 + 1108 + 1108 + 8864 + 16 + 16 + 16 + 200 + 128 + 200 + 200 + 16 + 16 + 16 + 200 + 200 + 200 + 160 + 64 + 64 + 64 + 1) (((.inr (0, [.ref 1, .ref 3, .ref 5, .ref 7, .ref 9, .ref 11, .ref 13, .ref 21, .ref 29, .ref 37, .int 0]) :: cA) ++ .inr (8, [.ref 40, .ref 41, .ref 42, .int 0, .ref 43, .int 0, .ref 44, .ref 45, .ref 46, .ref 47, .int 0, .ref 48, .int 0, .int 0, .int 0, .int 0, .ref 49, .ref 50, .int 0, .int 0, .int 0, .int 0, .int 0, .int 0, .ref 51, .ref 52, .ref 53, .ref 54, .ref 55, .ref 56, .ref 57, .int 0, .ref 58, .ref 59, .ref 60, .int 0]) :: cM) ++ [.inl (1, 1, ia_zero 1)]) = tm (W0 sc) M0 (fun _ _ => 0) from hl_tm]
  exact lw_loop 513 0 (W0 sc) M0 (fun _ _ => 0) none none none rfl Inv_0 hS
end TXZw


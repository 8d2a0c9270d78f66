section TXZe
variable {W : tm_W} {m : Nat → Nat → Int32} {l : Nat → Nat → Int64} {f g : Nat → Int32}
theorem iTxt_of {m' : Nat → Nat → Int32} (h : iTxt m) (h1 : m' 1 1 = m 1 1) (h2 : m' 2 = m 2) (h3 : m' 39 10 = m 39 10) (h4 : m' 47 = m 47) : iTxt m' := by
  obtain ⟨n, n1, n2, n3, n4⟩ := h
  exact ⟨n, n1, by rw [h1]; exact n2, by rw [h3]; exact n3, fun i hi => by rw [h2, h4]; exact n4 i hi⟩
theorem b_tempts {j : Nat} (hj : j < 600) (h : Inv j W m l) (x0 x1 x2 : Int32) : Both j W m l 27 133 [.int x0, .int x1, .int x2] [.int x0, .int x1, .int x2] := by
  obtain ⟨⟨C, M, -⟩, ⟨P, N, E, Sr, V, hE, hB⟩, -, -, R, hT, hrow⟩ := id h
  have bad : cl 27 [.ref 0, .int x0, .int x1, .int x2] (tm W m l) = some (some (.int (-1)), tm W m l) → cl 133 [.ref 39, .int x0, .int x1, .int x2] (tm W m l) = some (some (.int (-1)), tm W (m2 m 39 13 0) l) → Both j W m l 27 133 [.int x0, .int x1, .int x2] [.int x0, .int x1, .int x2] := fun h1 h2 => ⟨-1, W, m, l, W, m2 m 39 13 0, l, h1, h2, rfl, rfl, rfl, rfl, Inv_no h⟩
  have p12 := Sr.P12
  have n100 := Sr.N100
  have ev := wv_eta m 13
  have hP : m 13 0 = nI P := Sr.f4
  have hP' : m2 m 39 13 0 40 1104 = nI P := by rw [m2_r _ _ _ (by decide)]; exact Sr.g4
  rcases arg x0 P (by omega) with ⟨p, hp, rfl⟩ | h0
  · rcases arg x1 4 (by decide) with ⟨c, hc, rfl⟩ | h1
    · have a2 : (∃ t, 1 ≤ t ∧ t ≤ 40 ∧ x2 = nI t) ∨ (x2 < 1 ∨ ¬ x2 ≤ 40) := by
        rcases arg x2 41 (by decide) with ⟨t, ht, rfl⟩ | h2
        · by_cases z : t = 0
          · subst z
            exact Or.inr (Or.inl (by decide))
          · exact Or.inl ⟨t, by omega, by omega, rfl⟩
        · rcases h2 with h2 | h2
          · exact Or.inr (Or.inl (Int32.lt_trans h2 (by decide)))
          · exact Or.inr (Or.inr fun z => nI_ge (a := 40) (b := 41) (by decide) (by decide) (Int32.le_trans h2 z))
      rcases a2 with ⟨T, T1, T2, rfl⟩ | a2
      · obtain ⟨S, red, al, bn, RC, RR, hrr⟩ := rl_R (Y := m) (X := m) hc (R c hc)
        obtain ⟨t, ht, htp⟩ := V.1 p hp
        obtain ⟨ca, ca1, ca2⟩ := hB (12 + (4 * p + c)) (by omega)
        obtain ⟨pl, pl1, pl2⟩ := hB (108 + (4 * t + c)) (by omega)
        have hl : ∀ b, b < N → ∃ k, k ≤ 12 ∧ m 40 (304 + (8 * b + 2)) = nI k := fun b hb => by
          obtain ⟨-, -, ⟨k, k1, k2, -⟩, -⟩ := V.2.1 b hb
          exact ⟨k, k1, k2⟩
        obtain ⟨ow, how⟩ : ∃ ow, ow = owN (bw (m 40)) (nI p) (nI c) N 0 := ⟨_, rfl⟩
        have ow1 : ow ≤ 12 * N := by
          rw [how]
          exact owN_le N 0 fun b _ hb => hl b (by omega)
        have ebm : bmF (bw (vw m 13)) (nI p) (nI c) N = nI ow := by
          rw [bm_SR Sr, how]
          have e := owN_bm (B := bw (m 40)) (p := nI p) (c := nI c) N 0 0 fun b _ hb => hl b (by omega)
          rw [Nat.zero_add] at e
          exact e
        have e223 := c223' (m := m) (l := l) C Sr.f5 n100 (nI p) (nI c)
        rw [ev, ebm] at e223
        have e208 := c208 (m := m) (f := vw m 13) (l := l) C.now (show p < 12 by omega) hc
        rw [ev, Sr.mid (by omega) (by omega), ca2] at e208
        have eT := sl1 (m := m) (f := vw m 13) (l := l) C.now (show p < 12 by omega)
        rw [ev, Sr.tm hp, htp] at eT
        have e211 := c211 (m := m) (f := vw m 13) (l := l) C.now ht hc
        rw [ev, Sr.mid (by omega) (by omega), pl2] at e211
        obtain ⟨s, hs⟩ : ∃ s : TS, s = (ow, ca, pl, 0, 0) := ⟨_, rfl⟩
        have hN13 : m 13 2 = nI N := Sr.f5
        have d := d27 (l := l) (p := nI p) (N := N) C RC rfl hN13 n100 T2 T 0 s none (by omega) (by rw [hs]; show ow < 2 ^ 20; omega) (by rw [hs]; show pl + T < 2 ^ 20; omega) (by rw [hs]; show 0 + T < 2 ^ 10; omega)
        have eC : cl 27 [.ref 0, .int (nI p), .int (nI c), .int (nI T)] (tm W m l) = if N + (tsN bn (m 10 (12 * c + 2)) T s).2.2.2.2 ≤ 100 then some (some (Value.int (nI (tsN bn (m 10 (12 * c + 2)) T s).2.2.2.1)), tm W (rwm m [nI (tsN bn (m 10 (12 * c + 2)) T s).2.2.2.2, nI (tsN bn (m 10 (12 * c + 2)) T s).2.1]) l) else some (some (Value.int (-4)), tm W m l) := by
          have := d
          rw [hs] at this ⊢
          simp only [q_27, xok C, k52y C hP p12 hp, c49y hc, i10, eq_false (show ¬ nI T < 1 from fun z => Int32.not_le.mpr z (nI_le (a := 1) T1 (by omega))), eq_true (show nI T ≤ 40 from nI_le (b := 40) T2 (by decide)), xR6 C, sok C.now, e223, e208, sR4 C.now, eT, e211, Option.bind_some, kxi_s, if_true, if_false]
          exact this
        have fin : ∀ (Z : Nat → Nat → Int32), (∀ a, a ≠ 7 → a ≠ 8 → Z a = m a) → ∃ X : Nat → Nat → Int32, (∀ a, a ≠ 39 → a ≠ 41 → X a = Z a) ∧ (∀ k, k ≠ 13 → X 39 k = Z 39 k) ∧ (∀ i, i < 1108 → X 41 i = m 40 i) ∧ tsE W X l N (tsN bn (m 44 (4 * c + 2)) T s) (cl 133 [.ref 39, .int (nI p), .int (nI c), .int (nI T)] (tm W Z l)) := fun Z hZ => by
          obtain ⟨Z1, hZ1⟩ : ∃ Z1, Z1 = m2 Z 39 13 0 := ⟨_, rfl⟩
          have z1 : ∀ {a : Nat}, a ≠ 39 → a ≠ 7 → a ≠ 8 → Z1 a = m a := fun h1 h2 h3 => by rw [hZ1, m2_r _ _ _ h1, hZ _ h2 h3]
          have z40 : Z1 40 = m 40 := z1 (by decide) (by decide) (by decide)
          have e81 := c81 (m := Z1) (l := l) M
          rw [z40] at e81
          generalize hX : (m1 Z1 41 fun k => if k < 1108 then m 40 k else Z1 41 k) = X at *
          have xo : ∀ {a : Nat}, a ≠ 41 → X a = Z1 a := fun ha => by rw [← hX, m1_a _ _ ha]
          have x40 : X 40 = m 40 := (xo (by decide)).trans z40
          have dd := d133 (l := l) (N0 := N) (X := X) (t := t) (T := T) M (rlR_of ((xo (by decide)).trans (z1 (by decide) (by decide) (by decide))) ((xo (by decide)).trans (z1 (by decide) (by decide) (by decide))) ((xo (by decide)).trans (z1 (by decide) (by decide) (by decide))) RR) (rr := m 44 (4 * c + 2)) (by rw [xo (by decide), z1 (by decide) (by decide) (by decide)]) p12 hp ht T2 T 0 s (m 40) N E none none (by omega) (by rw [hs]; exact ⟨Sr.g4, Sr.g5, Sr.g7, n100, hl, how.symm, ca2, pl2, htp⟩) (by rw [hs]; rfl) (by omega) (by rw [hs]; show ca + T < 2 ^ 20; omega)
          have em : m1 X 40 (m 40) = X := by rw [← x40, m1_e]
          rw [em] at dd
          refine ⟨X, fun a h1 h2 => by rw [xo h2, hZ1, m2_r _ _ _ h1], fun k hk => by rw [xo (by decide), hZ1, m2_k _ _ _ _ hk], fun i hi => by rw [← hX, m1_s]; exact if_pos hi, ?_⟩
          have e69 : cl 69 [.long (nI T).toInt64, .long 1, .long 40] (tm W Z1 l) = some (some (.int 1), tm W Z1 l) := by
            have e := c69i (nI T) 1 40 (tm W Z1 l)
            rw [if_pos ⟨nI_le (a := 1) T1 (by omega), nI_le (b := 40) T2 (by decide)⟩] at e
            exact e
          have e4 : (12 + 4 * nI p) + nI c = nI (12 + (4 * p + c)) := by rw [mul4, show (12 : Int32) = nI 12 from rfl, nI_add, nI_add, Nat.add_assoc]
          have e5 : X 40 1105 = nI N := by rw [x40]; exact Sr.g5
          have eR : cl 133 [.ref 39, .int (nI p), .int (nI c), .int (nI T)] (tm W Z l) = dn 133 39 [some (.ref 39), some (.int (nI p)), some (.int (nI c)), some (.int (nI T)), some (.int (nI (12 + (4 * p + c)))), some (.int (nI N)), some (.int 0), some (.int 1), some (.int 0), none, none] [] (tm W X l) := by
            rw [q_133, ru13 M, Option.bind_some, ← hZ1]
            simp only [rok M, k77y M (show Z1 40 1104 = nI P by rw [z40]; exact Sr.g4) p12 hp, c75y hc, e69, i10, e81, rR0 M, rl5 M, e5, e4, Option.bind_some, kxi_s, kxv_s, if_true, if_false]
          rw [eR]
          rw [hs] at dd ⊢
          exact dd
        rw [← hrr] at fin
        generalize hf : tsN bn (m 10 (12 * c + 2)) T s = s' at *
        by_cases z : N + s'.2.2.2.2 ≤ 100
        · rw [if_pos z] at eC
          obtain ⟨X, X1, X2, X3, G, G1, G2⟩ := fin (rwm m [nI s'.2.2.2.2, nI s'.2.1]) fun a h1 h2 => rwm_o _ _ h1 h2
          rcases G2 with ⟨-, G2⟩ | ⟨G2, -⟩
          · have fo' : ∀ {a : Nat}, a ≠ 39 → a ≠ 40 → a ≠ 41 → a ≠ 7 → a ≠ 8 → m2 (m1 X 40 G) 39 12 (nI 2) a = m a := fun h1 h2 h3 h4 h5 => by rw [m2_r _ _ _ h1, m1_a _ _ h2, X1 _ h1 h3, rwm_o _ _ h4 h5]
            have f39 : ∀ {k : Nat}, k ≠ 12 → k ≠ 13 → m2 (m1 X 40 G) 39 12 (nI 2) 39 k = m 39 k := fun h1 h2 => by rw [m2_k _ _ _ _ h1, m1_a _ _ (by decide), X2 _ h2, rwm_o _ _ (by decide) (by decide)]
            refine ⟨nI s'.2.2.2.1, W, _, l, W, _, _, eC, G2, rfl, rfl, rfl, rfl, Inv_u h (fun a ha => fo' (by omega) (by omega) (by omega) (by omega) (by omega)) (fun i hi => by rw [m2_r _ _ _ (by decide), m1_s, G1 i hi, X3 i hi]) (by rw [fo' (by decide) (by decide) (by decide) (by decide) (by decide)]) (by rw [fo' (by decide) (by decide) (by decide) (by decide) (by decide)]) (by rw [fo' (by decide) (by decide) (by decide) (by decide) (by decide)]) (f39 (by decide) (by decide)) (f39 (by decide) (by decide)) (iTxt_of hT (by rw [fo' (by decide) (by decide) (by decide) (by decide) (by decide)]) (fo' (by decide) (by decide) (by decide) (by decide) (by decide)) (f39 (by decide) (by decide)) (fo' (by decide) (by decide) (by decide) (by decide) (by decide))) ?_⟩
            exact iRow_xs l (xs := [nI s'.2.2.2.2, nI s'.2.1]) (show 2 ≤ 100 by decide) (by rw [m2_r _ _ _ (by decide), m1_a _ _ (by decide), X1 _ (by decide) (by decide), rwm_7]) (fun i hi => by rw [m2_r _ _ _ (by decide), m1_a _ _ (by decide), X1 _ (by decide) (by decide), rwm_8 _ _ hi]) (m2_s _ _ _ _)
          · exact absurd z G2
        · rw [if_neg z] at eC
          obtain ⟨X, X1, X2, X3, G, G1, G2⟩ := fin m fun a _ _ => rfl
          rcases G2 with ⟨G2, -⟩ | ⟨-, G2⟩
          · exact absurd G2 z
          · have fo' : ∀ {a : Nat}, a ≠ 39 → a ≠ 40 → a ≠ 41 → m1 X 40 G a = m a := fun h1 h2 h3 => by rw [m1_a _ _ h2, X1 _ h1 h3]
            have f39 : ∀ {k : Nat}, k ≠ 13 → m1 X 40 G 39 k = m 39 k := fun h2 => by rw [m1_a _ _ (by decide), X2 _ h2]
            exact ⟨-4, W, _, l, W, _, _, eC, G2, rfl, rfl, rfl, rfl, Inv_u h (fun a ha => fo' (by omega) (by omega) (by omega)) (fun i hi => by rw [m1_s, G1 i hi, X3 i hi]) (by rw [fo' (by decide) (by decide) (by decide)]) (by rw [fo' (by decide) (by decide) (by decide)]) (by rw [fo' (by decide) (by decide) (by decide)]) (f39 (by decide)) (f39 (by decide)) (iTxt_of hT (by rw [fo' (by decide) (by decide) (by decide)]) (fo' (by decide) (by decide) (by decide)) (f39 (by decide)) (fo' (by decide) (by decide) (by decide))) (iRow_fr hrow (by rw [fo' (by decide) (by decide) (by decide)]) (fo' (by decide) (by decide) (by decide)) (f39 (by decide)))⟩
      · refine bad ?_ ?_
        · simp only [q_27, xok C, k52y C hP p12 hp, c49y hc, i10, kxi_s, if_true, if_false]
          by_cases z : x2 < 1
          · rw [if_pos z]
          · rw [if_neg z, if_neg (a2.resolve_left z)]
        · have e69 : cl 69 [.long x2.toInt64, .long 1, .long 40] (tm W (m2 m 39 13 0) l) = some (some (.int 0), tm W (m2 m 39 13 0) l) := by
            have e := c69i x2 1 40 (tm W (m2 m 39 13 0) l)
            rw [if_neg (fun z => a2.elim (fun y => Int32.not_le.mpr y z.1) (fun y => y z.2))] at e
            exact e
          simp only [q_133, ru13 M, rok M, k77y M hP' p12 hp, c75y hc, e69, i10, Option.bind_some, kxi_s, if_true, if_false]
    · refine bad ?_ ?_
      · simp only [q_27, xok C, k52y C hP p12 hp, c49n h1, i10, kxi_s, if_true, if_false]
      · simp only [q_133, ru13 M, rok M, k77y M hP' p12 hp, c75n h1, i10, Option.bind_some, kxi_s, if_true, if_false]
  · refine bad ?_ ?_
    · simp only [q_27, xok C, k52n C hP h0, kxi_s, if_true]
    · simp only [q_133, ru13 M, rok M, k77n M hP' p12 h0, Option.bind_some, kxi_s, if_true]
end TXZe

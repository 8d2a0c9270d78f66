section QRG
variable {W : tm_W} {m : Nat → Nat → Int32} {l : Nat → Nat → Int64} {f g : Nat → Int32}
/-! rule -/
theorem m1r (m : Nat → Nat → Int32) (v : Int32) (f : Nat → Int32) {a : Nat} (h : 41 ≤ a) : m1 (m2 m 39 13 v) 40 f a = m a := by
  rw [m1_a _ _ (by omega), m2_r _ _ _ (by omega)]
theorem r2s (s : Nat) : (4 : Int32) + 2 * nI s = nI (4 + 2 * s) := ixs s
theorem b_rule {j : Nat} (hj : j < 600) (h : Inv j W m l) (x0 x1 : Int32) : Both j W m l 5 110 [.int x0, .int x1] [.int x0, .int x1] := by
  obtain ⟨⟨C, M, -⟩, ⟨P, N, E, S, V, hE, hB⟩, -, -, R, -, hrow⟩ := id h
  rcases arg x0 4 (by decide) with ⟨c, hc, rfl⟩ | h0
  · obtain ⟨⟨q0, -⟩, ⟨n1, -, -, q1, q1'⟩, ⟨n2, -, q2, q2'⟩, s, hs, q3, q3', q4, -⟩ := R c hc
    rcases arg x1 12 (by decide) with ⟨k, hk, rfl⟩ | hk
    · have e0 : (nI k < 0) = False := eq_false (nI_pos (by omega))
      have e1 := in_y (n := 12) hk (by decide)
      rw [z64, show (nI 12 - 1).toInt64 = 11 by decide] at e1
      by_cases h4 : k < 4
      · have e2 : (nI k < nI (4 + 2 * s)) = True := eq_true ((nlt (by omega) (by omega)).mpr (by omega))
        have e3 : (nI k ≤ 3) = True := eq_true ((nle (b := 3) (by omega) (by decide)).mpr (by omega))
        have e5 : ((4 : Int32) ≤ nI k) = False := eq_false (fun q => by have := (nle (a := 4) (by decide) (by omega)).mp q; omega)
        have e4 : m 10 (12 * c + k) = m 44 (4 * c + k) := by
          obtain rfl | rfl | rfl | rfl : k = 0 ∨ k = 1 ∨ k = 2 ∨ k = 3 := by omega
          · exact q0
          · rw [q1, q1']
          · rw [q2, q2']
          · rw [q3, q3']
        refine Both_n h (r := m 10 (12 * c + k)) ?_ ?_
        · simp only [q_5, xok C, vok C, sok C.now, xR0 C, xR1 C, xR2 C, xR3 C, xR4 C, xR5 C, xR6 C, xR7 C, xR8 C, xR9 C, sR4 C.now, sR5 C.now, sR6 C.now, sR7 C.now, sR8 C.now, sR9 C.now, sR10 C.now, sI0 C.now, sI1 C.now, sI2 C.now, sI3 C.now, kxi_s, kxr_s, kxv_s, Option.bind_some, if_true, if_false, i10, c189w C, List.nil_append, List.cons_append, List.append_nil, c49y hc, e0, uok C, c197 C hc, wv10, q3, r2s, e2, c195 C hc hk]
        · rw [e4]
          simp only [q_110, rok M, rR0 M, rR1 M, rR2 M, rR4 M, rR6 M, rR7 M, rR8 M, rR9 M, rR11 M, rR16 M, rR17 M, rR24 M, rR25 M, rR26 M, rR27 M, rR28 M, rR29 M, rR30 M, rR32 M, rR33 M, rR34 M, wl4 M, wl5 M, wl6 M, wl7 M, ruw13 M, ruw12 M, kxi_s, kxr_s, kxv_s, Option.bind_some, if_true, if_false, i10, c71a M, c71b M, c71c M, c71d M, c75y hc, e1, e3, q_110_31, e5, ixf, rl44 M (show 4 * c + k < 16 by omega), m1r _ _ _ (show 41 ≤ 44 by decide)]
      · have e3 : (nI k ≤ 3) = False := eq_false (fun q => by have := (nle (b := 3) (by omega) (by decide)).mp q; omega)
        have e5 : ((4 : Int32) ≤ nI k) = True := eq_true ((nle (a := 4) (by decide) (by omega)).mpr (by omega))
        have e6 : (nI k - 4) / 2 = nI ((k - 4) / 2) := by
          obtain rfl | rfl | rfl | rfl | rfl | rfl | rfl | rfl : k = 4 ∨ k = 5 ∨ k = 6 ∨ k = 7 ∨ k = 8 ∨ k = 9 ∨ k = 10 ∨ k = 11 := by omega
          all_goals decide
        by_cases h2 : (k - 4) / 2 < s
        · have e2 : (nI k < nI (4 + 2 * s)) = True := eq_true ((nlt (by omega) (by omega)).mpr (by omega))
          have e7 : (nI ((k - 4) / 2) < nI s) = True := eq_true ((nlt (by omega) (by omega)).mpr h2)
          obtain ⟨n, g, -, -, -, -, t1, t2, t3, t4⟩ := q4 _ h2
          refine Both_n h (r := m 10 (12 * c + k)) ?_ ?_
          · simp only [q_5, xok C, vok C, sok C.now, xR0 C, xR1 C, xR2 C, xR3 C, xR4 C, xR5 C, xR6 C, xR7 C, xR8 C, xR9 C, sR4 C.now, sR5 C.now, sR6 C.now, sR7 C.now, sR8 C.now, sR9 C.now, sR10 C.now, sI0 C.now, sI1 C.now, sI2 C.now, sI3 C.now, kxi_s, kxr_s, kxv_s, Option.bind_some, if_true, if_false, i10, c189w C, List.nil_append, List.cons_append, List.append_nil, c49y hc, e0, uok C, c197 C hc, wv10, q3, r2s, e2, c195 C hc hk]
          · simp only [q_110, rok M, rR0 M, rR1 M, rR2 M, rR4 M, rR6 M, rR7 M, rR8 M, rR9 M, rR11 M, rR16 M, rR17 M, rR24 M, rR25 M, rR26 M, rR27 M, rR28 M, rR29 M, rR30 M, rR32 M, rR33 M, rR34 M, wl4 M, wl5 M, wl6 M, wl7 M, ruw13 M, ruw12 M, kxi_s, kxr_s, kxv_s, Option.bind_some, if_true, if_false, i10, c71a M, c71b M, c71c M, c71d M, c75y hc, e1, e3, q_110_31, e5, e6, ixf, ixf3, rl44 M (show 4 * c + 3 < 16 by omega), rl45 M (show 4 * c + (k - 4) / 2 < 16 by omega), rl46 M (show 4 * c + (k - 4) / 2 < 16 by omega), m1r _ _ _ (show 41 ≤ 44 by decide), m1r _ _ _ (show 41 ≤ 45 by decide), m1r _ _ _ (show 41 ≤ 46 by decide), q3', e7, t2, t4]
            by_cases hk2 : k % 2 = 0
            · rw [if_pos, show 12 * c + k = 12 * c + (4 + 2 * ((k - 4) / 2)) by omega, t1]
              obtain rfl | rfl | rfl | rfl | rfl | rfl | rfl | rfl : k = 4 ∨ k = 5 ∨ k = 6 ∨ k = 7 ∨ k = 8 ∨ k = 9 ∨ k = 10 ∨ k = 11 := by omega
              all_goals first | decide | omega
            · rw [if_neg, show 12 * c + k = 12 * c + (4 + 2 * ((k - 4) / 2) + 1) by omega, t3]
              obtain rfl | rfl | rfl | rfl | rfl | rfl | rfl | rfl : k = 4 ∨ k = 5 ∨ k = 6 ∨ k = 7 ∨ k = 8 ∨ k = 9 ∨ k = 10 ∨ k = 11 := by omega
              all_goals first | decide | omega
        · have e2 : (nI k < nI (4 + 2 * s)) = False := eq_false (fun q => by have := (nlt (by omega) (by omega)).mp q; omega)
          have e7 : (nI ((k - 4) / 2) < nI s) = False := eq_false (fun q => h2 ((nlt (by omega) (by omega)).mp q))
          refine Both_n h (r := -1) ?_ ?_
          · simp only [q_5, xok C, vok C, sok C.now, xR0 C, xR1 C, xR2 C, xR3 C, xR4 C, xR5 C, xR6 C, xR7 C, xR8 C, xR9 C, sR4 C.now, sR5 C.now, sR6 C.now, sR7 C.now, sR8 C.now, sR9 C.now, sR10 C.now, sI0 C.now, sI1 C.now, sI2 C.now, sI3 C.now, kxi_s, kxr_s, kxv_s, Option.bind_some, if_true, if_false, i10, c189w C, List.nil_append, List.cons_append, List.append_nil, c49y hc, e0, uok C, c197 C hc, wv10, q3, r2s, e2]
          · simp only [q_110, rok M, rR0 M, rR1 M, rR2 M, rR4 M, rR6 M, rR7 M, rR8 M, rR9 M, rR11 M, rR16 M, rR17 M, rR24 M, rR25 M, rR26 M, rR27 M, rR28 M, rR29 M, rR30 M, rR32 M, rR33 M, rR34 M, wl4 M, wl5 M, wl6 M, wl7 M, ruw13 M, ruw12 M, kxi_s, kxr_s, kxv_s, Option.bind_some, if_true, if_false, i10, c71a M, c71b M, c71c M, c71d M, c75y hc, e1, e3, e5, e6, ixf3, rl44 M (show 4 * c + 3 < 16 by omega), m1r _ _ _ (show 41 ≤ 44 by decide), q3', e7]
    · refine Both_n h (r := -1) ?_ ?_
      · simp only [q_5, xok C, vok C, sok C.now, xR0 C, xR1 C, xR2 C, xR3 C, xR4 C, xR5 C, xR6 C, xR7 C, xR8 C, xR9 C, sR4 C.now, sR5 C.now, sR6 C.now, sR7 C.now, sR8 C.now, sR9 C.now, sR10 C.now, sI0 C.now, sI1 C.now, sI2 C.now, sI3 C.now, kxi_s, kxr_s, kxv_s, Option.bind_some, if_true, if_false, i10, c189w C, List.nil_append, List.cons_append, List.append_nil, c49y hc, uok C, c197 C hc, wv10, q3, r2s]
        rcases hk with hk | hk
        · rw [if_pos hk]
        · rw [if_neg (show ¬ x1 < nI (4 + 2 * s) from fun q => by
            have := (nle (a := 4 + 2 * s) (b := 12) (by omega) (by decide)).mpr (by omega)
            exact absurd (Int32.lt_of_lt_of_le q this) (Int32.not_lt.mpr hk))]
          split <;> rfl
      · have e1 := in_n (n := 12) hk (by decide)
        rw [z64, show (nI 12 - 1).toInt64 = 11 by decide] at e1
        simp only [q_110, rok M, rR0 M, rR1 M, rR2 M, rR4 M, rR6 M, rR7 M, rR8 M, rR9 M, rR11 M, rR16 M, rR17 M, rR24 M, rR25 M, rR26 M, rR27 M, rR28 M, rR29 M, rR30 M, rR32 M, rR33 M, rR34 M, wl4 M, wl5 M, wl6 M, wl7 M, ruw13 M, ruw12 M, kxi_s, kxr_s, kxv_s, Option.bind_some, if_true, if_false, i10, c71a M, c71b M, c71c M, c71d M, c75y hc, e1]
  · refine Both_n h (r := -1) ?_ ?_
    · simp only [q_5, xok C, vok C, sok C.now, xR0 C, xR1 C, xR2 C, xR3 C, xR4 C, xR5 C, xR6 C, xR7 C, xR8 C, xR9 C, sR4 C.now, sR5 C.now, sR6 C.now, sR7 C.now, sR8 C.now, sR9 C.now, sR10 C.now, sI0 C.now, sI1 C.now, sI2 C.now, sI3 C.now, kxi_s, kxr_s, kxv_s, Option.bind_some, if_true, if_false, i10, c189w C, List.nil_append, List.cons_append, List.append_nil, c49n h0]
    · simp only [q_110, rok M, rR0 M, rR1 M, rR2 M, rR4 M, rR6 M, rR7 M, rR8 M, rR9 M, rR11 M, rR16 M, rR17 M, rR24 M, rR25 M, rR26 M, rR27 M, rR28 M, rR29 M, rR30 M, rR32 M, rR33 M, rR34 M, wl4 M, wl5 M, wl6 M, wl7 M, ruw13 M, ruw12 M, kxi_s, kxr_s, kxv_s, Option.bind_some, if_true, if_false, i10, c71a M, c71b M, c71c M, c71d M, c75n h0]
/-! cautions -/
def nxA (r : Nat → Int32) (v : Int32) : Nat → Nat → Nat
  | 0, k => k
  | n + 1, k => if v < r k then k else nxA r v n (k + 1)
theorem nxA_le (r : Nat → Int32) (v : Int32) : ∀ n k, k ≤ nxA r v n k ∧ nxA r v n k ≤ k + n
  | 0, k => ⟨Nat.le_refl _, Nat.le_refl _⟩
  | n + 1, k => by
    rw [nxA]
    have := nxA_le r v n (k + 1)
    split <;> omega
theorem nxA_cong {r r' : Nat → Int32} (v : Int32) : ∀ n k, (∀ i, k ≤ i → i < k + n → r i = r' i) → nxA r v n k = nxA r' v n k
  | 0, _, _ => rfl
  | n + 1, k, h => by
    rw [nxA, nxA, h k (Nat.le_refl _) (by omega), nxA_cong v n (k + 1) fun i h1 h2 => h i (by omega) (by omega)]
theorem d202 (C : isC W) {c S : Nat} (hc : c < 4) (hS : m 10 (12 * c + 3) = nI S) (hS2 : S ≤ 4) (v : Int32) : ∀ n k, k + n = S → dn 202 2 [some (.ref 9), some (.int (nI c)), some (.int v), some (.int (nI k))] [] (tm W m l) = some (some (.int (if nxA (fun k => m 10 (12 * c + (4 + 2 * k))) v n k = S then -1 else nI (nxA (fun k => m 10 (12 * c + (4 + 2 * k))) v n k))), tm W m l)
  | 0, k, h => by
    rw [q_202_2, if_pos (uok C _), c197 C hc, kxi_s, hS, if_pos (nI_le (by omega) (by omega)), nxA, if_pos (by omega)]
  | n + 1, k, h => by
    rw [q_202_2, if_pos (uok C _), c197 C hc, kxi_s, hS, if_neg (nI_ge (by omega) (by omega)), if_pos (uok C _), c198 C hc (by omega), kxi_s, nxA]
    by_cases hv : m 10 (12 * c + (4 + 2 * k)) ≤ v
    · rw [if_pos hv, nI_1]
      have hv' : ¬ v < m 10 (12 * c + (4 + 2 * k)) := Int32.not_lt.mpr hv
      simp only [if_neg hv']
      exact d202 C hc hS hS2 v n (k + 1) (by omega)
    · have hv' : v < m 10 (12 * c + (4 + 2 * k)) := Int32.not_le.mp hv
      simp only [if_neg hv, if_pos hv']
      rw [if_neg (by omega)]
theorem c202 (C : isC W) {c S : Nat} (hc : c < 4) (hS : m 10 (12 * c + 3) = nI S) (hS2 : S ≤ 4) (v : Int32) : cl 202 [.ref 9, .int (nI c), .int v] (tm W m l) = some (some (.int (if nxA (fun k => m 10 (12 * c + (4 + 2 * k))) v S 0 = S then -1 else nI (nxA (fun k => m 10 (12 * c + (4 + 2 * k))) v S 0))), tm W m l) := by
  rw [q_202]
  exact d202 C hc hS hS2 v S 0 (by omega)
theorem d139 (M : isM W) {c S : Nat} (hc : c < 4) (hS : m 44 (4 * c + 3) = nI S) (hS2 : S ≤ 4) (p v : Int32) : ∀ n k, k + n = S → dn 139 25 [some (.ref 39), some (.int p), some (.int (nI c)), some (.int v), some (.int (nI k)), none] [] (tm W (m1 m 40 f) l) = dn 139 47 [some (.ref 39), some (.int p), some (.int (nI c)), some (.int v), some (.int (nI (nxA (fun k => m 45 (4 * c + k)) v n k))), none] [] (tm W (m1 m 40 f) l)
  | 0, k, h => by
    rw [q_139_25, rR6 M, Option.bind_some, ixf3, rl44 M (by omega), Option.bind_some, m1_a _ _ (by decide), hS, if_pos (nI_le (by omega) (by omega)), nxA]
  | n + 1, k, h => by
    rw [q_139_25, rR6 M, Option.bind_some, ixf3, rl44 M (by omega), Option.bind_some, m1_a _ _ (by decide), hS, if_neg (nI_ge (by omega) (by omega)), rR7 M, Option.bind_some, ixf, rl45 M (by omega), Option.bind_some, m1_a _ _ (by decide), nxA]
    by_cases hv : v < m 45 (4 * c + k)
    · rw [if_pos hv, if_pos hv]
    · rw [if_neg hv, if_neg hv, nI_1]
      exact d139 M hc hS hS2 p v n (k + 1) (by omega)
theorem mm5 (m : Nat → Nat → Int32) (v w : Int32) (xs : List Int32) (f : Nat → Int32) {a : Nat} (h : 41 ≤ a) : m1 (m2 (m2 (rwm m xs) 39 13 v) 39 12 w) 40 f a = m a := by
  rw [m1_a _ _ (by omega), m2_r _ _ _ (by omega), m2_r _ _ _ (by omega), rwm_o _ _ (by omega) (by omega)]
theorem mm4 (m : Nat → Nat → Int32) (v : Int32) (xs : List Int32) (f : Nat → Int32) {a : Nat} (h : 41 ≤ a) : m1 (m2 (rwm m xs) 39 13 v) 40 f a = m a := by
  rw [m1_a _ _ (by omega), m2_r _ _ _ (by omega), rwm_o _ _ (by omega) (by omega)]
theorem mm3 (m : Nat → Nat → Int32) (v : Int32) (xs : List Int32) {a : Nat} (h : 41 ≤ a) : m2 (rwm m xs) 39 13 v a = m a := by
  rw [m2_r _ _ _ (by omega), rwm_o _ _ (by omega) (by omega)]
theorem wvr10 (m : Nat → Nat → Int32) (xs : List Int32) (f : Nat → Int32) : wv (rwm m xs) 13 f 10 = m 10 := by
  rw [wv10, rwm_o _ _ (by decide) (by decide)]
theorem b_cautions {j : Nat} (hj : j < 600) (h : Inv j W m l) (x0 x1 : Int32) : Both j W m l 25 139 [.int x0, .int x1] [.int x0, .int x1] := by
  obtain ⟨⟨C, M, -⟩, ⟨P, N, E, S, V, hE, hB⟩, -, -, R, -, hrow⟩ := id h
  have p12 := S.P12
  have n100 := S.N100
  rcases arg x0 P (by omega) with ⟨a0, h0, rfl⟩ | h0
  · rcases arg x1 4 (by decide) with ⟨a1, h1, rfl⟩ | h1
    · obtain ⟨-, -, -, s, hs, q3, q3', q4, -⟩ := R a1 h1
      have ex : nxA (fun k => m 10 (12 * a1 + (4 + 2 * k))) (m 40 (12 + (4 * a0 + a1))) s 0 = nxA (fun k => m 45 (4 * a1 + k)) (m 40 (12 + (4 * a0 + a1))) s 0 := nxA_cong _ s 0 fun k _ hk => by
        obtain ⟨n, g, -, -, -, -, t1, t2, t3, t4⟩ := q4 k (by omega)
        rw [t1, t2]
      have em : vw m 13 (12 + (4 * a0 + a1)) = m 40 (12 + (4 * a0 + a1)) := S.mid (by omega) (by omega)
      have e202 := fun (m' : Nat → Nat → Int32) (e : m' 10 = m 10) => c202 (m := m') (l := l) C h1 (by rw [e]; exact q3) hs (m 40 (12 + (4 * a0 + a1)))
      have e202' := e202 (wv m 13 (vw m 13)) (wv10 _ _)
      rw [wv10, ex] at e202'
      have ed := fun (xs : List Int32) => d139 (m := m2 (rwm m xs) 39 13 0) (l := l) (f := m 40) M h1 (by rw [mm3 _ _ _ (by decide)]; exact q3') hs (nI a0) (m 40 (12 + (4 * a0 + a1))) s 0 (by omega)
      simp only [mm3 _ _ _ (show 41 ≤ 45 by decide)] at ed
      have hx2 := (nxA_le (fun k => m 45 (4 * a1 + k)) (m 40 (12 + (4 * a0 + a1))) s 0).2
      generalize nxA (fun k => m 45 (4 * a1 + k)) (m 40 (12 + (4 * a0 + a1))) s 0 = K at *
      by_cases hx : K = s
      · refine Both_q h (r := m 40 (12 + (4 * a0 + a1))) (xs := [-1, -1]) (by simp) ?_ ?_
        · rw [if_pos hx] at e202'
          simp only [q_25, xok C, vok C, sok C.now, xR0 C, xR1 C, xR2 C, xR3 C, xR4 C, xR5 C, xR6 C, xR7 C, xR8 C, xR9 C, sR4 C.now, sR5 C.now, sR6 C.now, sR7 C.now, sR8 C.now, sR9 C.now, sR10 C.now, sI0 C.now, sI1 C.now, sI2 C.now, sI3 C.now, kxi_s, kxr_s, kxv_s, Option.bind_some, if_true, if_false, i10, c189w C, List.nil_append, List.cons_append, List.append_nil, c52y C S.f4 S.P12 h0, c49y h1, c208 C.now (show a0 < 12 by omega) h1, em, uok C, e202', w190a C, w190b C]
        · simp only [q_139, rok M, rR0 M, rR1 M, rR2 M, rR4 M, rR6 M, rR7 M, rR8 M, rR9 M, rR11 M, rR16 M, rR17 M, rR24 M, rR25 M, rR26 M, rR27 M, rR28 M, rR29 M, rR30 M, rR32 M, rR33 M, rR34 M, wl4 M, wl5 M, wl6 M, wl7 M, ruw13 M, ruw12 M, kxi_s, kxr_s, kxv_s, Option.bind_some, if_true, if_false, i10, c71a M, c71b M, c71c M, c71d M, c77y M S.g4 S.P12 h0, c75y h1, ixc, wl M (show 12 + (4 * a0 + a1) < 1108 by omega)]
          rw [show dn 139 25 [some (.ref 39), some (.int (nI a0)), some (.int (nI a1)), some (.int (m 40 (12 + (4 * a0 + a1)))), some (.int 0), none] [] (tm W (m1 (m2 (rwm m [-1, -1]) 39 13 0) 40 (m 40)) l) = _ from ed _, hx]
          simp only [q_139_47, rok M, rR0 M, rR1 M, rR2 M, rR4 M, rR6 M, rR7 M, rR8 M, rR9 M, rR11 M, rR16 M, rR17 M, rR24 M, rR25 M, rR26 M, rR27 M, rR28 M, rR29 M, rR30 M, rR32 M, rR33 M, rR34 M, wl4 M, wl5 M, wl6 M, wl7 M, ruw13 M, ruw12 M, kxi_s, kxr_s, kxv_s, Option.bind_some, if_true, if_false, i10, c71a M, c71b M, c71c M, c71d M, ixf3, rl44 M (show 4 * a1 + 3 < 16 by omega), mm4 _ _ _ _ (show 41 ≤ 44 by decide), q3', eq_true (Int32.le_refl (nI s)), q_139_60, q_139_80]
          rfl
      · obtain ⟨n, g, -, -, -, -, t1, t2, t3, t4⟩ := q4 K (by omega)
        have eK : (nI K = -1) = False := eq_false (nI_ne_m1 (by omega))
        refine Both_q h (r := m 40 (12 + (4 * a0 + a1))) (xs := [nI n - m 40 (12 + (4 * a0 + a1)), nI g]) (by simp) ?_ ?_
        · rw [if_neg hx] at e202'
          simp only [q_25, xok C, vok C, sok C.now, xR0 C, xR1 C, xR2 C, xR3 C, xR4 C, xR5 C, xR6 C, xR7 C, xR8 C, xR9 C, sR4 C.now, sR5 C.now, sR6 C.now, sR7 C.now, sR8 C.now, sR9 C.now, sR10 C.now, sI0 C.now, sI1 C.now, sI2 C.now, sI3 C.now, kxi_s, kxr_s, kxv_s, Option.bind_some, if_true, if_false, i10, c189w C, List.nil_append, List.cons_append, List.append_nil, c52y C S.f4 S.P12 h0, c49y h1, c208 C.now (show a0 < 12 by omega) h1, em, uok C, e202', eK, c198 C h1 (show K < 4 by omega), c199 C h1 (show K < 4 by omega), wvr10, t1, t3, w190a C, w190b C]
        · simp only [q_139, rok M, rR0 M, rR1 M, rR2 M, rR4 M, rR6 M, rR7 M, rR8 M, rR9 M, rR11 M, rR16 M, rR17 M, rR24 M, rR25 M, rR26 M, rR27 M, rR28 M, rR29 M, rR30 M, rR32 M, rR33 M, rR34 M, wl4 M, wl5 M, wl6 M, wl7 M, ruw13 M, ruw12 M, kxi_s, kxr_s, kxv_s, Option.bind_some, if_true, if_false, i10, c71a M, c71b M, c71c M, c71d M, c77y M S.g4 S.P12 h0, c75y h1, ixc, wl M (show 12 + (4 * a0 + a1) < 1108 by omega)]
          rw [show dn 139 25 [some (.ref 39), some (.int (nI a0)), some (.int (nI a1)), some (.int (m 40 (12 + (4 * a0 + a1)))), some (.int 0), none] [] (tm W (m1 (m2 (rwm m [nI n - m 40 (12 + (4 * a0 + a1)), nI g]) 39 13 0) 40 (m 40)) l) = _ from ed _]
          simp only [q_139_47, rok M, rR0 M, rR1 M, rR2 M, rR4 M, rR6 M, rR7 M, rR8 M, rR9 M, rR11 M, rR16 M, rR17 M, rR24 M, rR25 M, rR26 M, rR27 M, rR28 M, rR29 M, rR30 M, rR32 M, rR33 M, rR34 M, wl4 M, wl5 M, wl6 M, wl7 M, ruw13 M, ruw12 M, kxi_s, kxr_s, kxv_s, Option.bind_some, if_true, if_false, i10, c71a M, c71b M, c71c M, c71d M, ixf3, ixf, rl44 M (show 4 * a1 + 3 < 16 by omega), rl45 M (show 4 * a1 + K < 16 by omega), rl46 M (show 4 * a1 + K < 16 by omega), mm4 _ _ _ _ (show 41 ≤ 44 by decide), mm5 _ _ _ _ _ (show 41 ≤ 45 by decide), mm5 _ _ _ _ _ (show 41 ≤ 46 by decide), q3', eq_false (nI_ge (show K < s by omega) (show s < 2 ^ 31 by omega)), q_139_60, q_139_80, t2, t4]
          rfl
    · refine Both_n h (r := -1) ?_ ?_
      · simp only [q_25, xok C, vok C, sok C.now, xR0 C, xR1 C, xR2 C, xR3 C, xR4 C, xR5 C, xR6 C, xR7 C, xR8 C, xR9 C, sR4 C.now, sR5 C.now, sR6 C.now, sR7 C.now, sR8 C.now, sR9 C.now, sR10 C.now, sI0 C.now, sI1 C.now, sI2 C.now, sI3 C.now, kxi_s, kxr_s, kxv_s, Option.bind_some, if_true, if_false, i10, c189w C, List.nil_append, List.cons_append, List.append_nil, c52y C S.f4 S.P12 h0, c49n h1]
      · simp only [q_139, rok M, rR0 M, rR1 M, rR2 M, rR4 M, rR6 M, rR7 M, rR8 M, rR9 M, rR11 M, rR16 M, rR17 M, rR24 M, rR25 M, rR26 M, rR27 M, rR28 M, rR29 M, rR30 M, rR32 M, rR33 M, rR34 M, wl4 M, wl5 M, wl6 M, wl7 M, ruw13 M, ruw12 M, kxi_s, kxr_s, kxv_s, Option.bind_some, if_true, if_false, i10, c71a M, c71b M, c71c M, c71d M, c77y M S.g4 S.P12 h0, c75n h1]
  · refine Both_n h (r := -1) ?_ ?_
    · simp only [q_25, xok C, vok C, sok C.now, xR0 C, xR1 C, xR2 C, xR3 C, xR4 C, xR5 C, xR6 C, xR7 C, xR8 C, xR9 C, sR4 C.now, sR5 C.now, sR6 C.now, sR7 C.now, sR8 C.now, sR9 C.now, sR10 C.now, sI0 C.now, sI1 C.now, sI2 C.now, sI3 C.now, kxi_s, kxr_s, kxv_s, Option.bind_some, if_true, if_false, i10, c189w C, List.nil_append, List.cons_append, List.append_nil, c52n C S.f4 h0]
    · simp only [q_139, rok M, rR0 M, rR1 M, rR2 M, rR4 M, rR6 M, rR7 M, rR8 M, rR9 M, rR11 M, rR16 M, rR17 M, rR24 M, rR25 M, rR26 M, rR27 M, rR28 M, rR29 M, rR30 M, rR32 M, rR33 M, rR34 M, wl4 M, wl5 M, wl6 M, wl7 M, ruw13 M, ruw12 M, kxi_s, kxr_s, kxv_s, Option.bind_some, if_true, if_false, i10, c71a M, c71b M, c71c M, c71d M, c77n M S.g4 S.P12 h0]
end QRG

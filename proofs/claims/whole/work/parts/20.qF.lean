section QRF
variable {W : tm_W} {m : Nat → Nat → Int32} {l : Nat → Nat → Int64} {f g : Nat → Int32}
/-! RULES, on both sides -/
theorem uok (C : isC W) (as : List Value) : ia_ok (tm W m l) 4 (.ref 9 :: as) = true := tm_ok C.t9 (by decide)
theorem wv10 (m : Nat → Nat → Int32) (f : Nat → Int32) : wv m 13 f 10 = m 10 := wv_out _ _ (by omega)
theorem ixA (c k : Nat) : nI c * 12 + nI k = nI (12 * c + k) := by
  rw [show (12 : Int32) = nI 12 from rfl, pk_mul, nI_add, Nat.mul_comm]
theorem c195 (C : isC W) {c k : Nat} (hc : c < 4) (hk : k < 12) : cl 195 [.ref 9, .int (nI c), .int (nI k)] (tm W m l) = some (some (.int (m 10 (12 * c + k))), tm W m l) := by
  rw [q_195, tm_gR C.t9 rfl, Option.bind_some, ixA, tm_ld C.t10 (by decide) (by decide) (by omega) (by decide), Option.bind_some]
theorem c195_0 (C : isC W) {c : Nat} (hc : c < 4) : cl 195 [.ref 9, .int (nI c), .int 0] (tm W m l) = some (some (.int (m 10 (12 * c))), tm W m l) := c195 (k := 0) C hc (by decide)
theorem c195_1 (C : isC W) {c : Nat} (hc : c < 4) : cl 195 [.ref 9, .int (nI c), .int 1] (tm W m l) = some (some (.int (m 10 (12 * c + 1))), tm W m l) := c195 (k := 1) C hc (by decide)
theorem c195_2 (C : isC W) {c : Nat} (hc : c < 4) : cl 195 [.ref 9, .int (nI c), .int 2] (tm W m l) = some (some (.int (m 10 (12 * c + 2))), tm W m l) := c195 (k := 2) C hc (by decide)
theorem c195_3 (C : isC W) {c : Nat} (hc : c < 4) : cl 195 [.ref 9, .int (nI c), .int 3] (tm W m l) = some (some (.int (m 10 (12 * c + 3))), tm W m l) := c195 (k := 3) C hc (by decide)
theorem c197 (C : isC W) {c : Nat} (hc : c < 4) : cl 197 [.ref 9, .int (nI c)] (tm W m l) = some (some (.int (m 10 (12 * c + 3))), tm W m l) := by
  rw [q_197, if_pos (uok C _), c195_3 C hc, kxi_s]
theorem ixs (k : Nat) : (4 : Int32) + 2 * nI k = nI (4 + 2 * k) := by
  rw [show (2 : Int32) = nI 2 from rfl, pk_mul, show (4 : Int32) = nI 4 from rfl, nI_add]
theorem c198 (C : isC W) {c k : Nat} (hc : c < 4) (hk : k < 4) : cl 198 [.ref 9, .int (nI c), .int (nI k)] (tm W m l) = some (some (.int (m 10 (12 * c + (4 + 2 * k)))), tm W m l) := by
  rw [q_198, if_pos (uok C _), ixs, c195 C hc (by omega), kxi_s]
theorem c199 (C : isC W) {c k : Nat} (hc : c < 4) (hk : k < 4) : cl 199 [.ref 9, .int (nI c), .int (nI k)] (tm W m l) = some (some (.int (m 10 (12 * c + (4 + 2 * k + 1)))), tm W m l) := by
  rw [q_199, if_pos (uok C _), ixs, nI_1, c195 C hc (by omega), kxi_s]
/-- MATCHES of the STEP at v cautions: r the CAUTIONS of steps, q the MATCHES -/
def bnA (r q : Nat → Int32) (v : Int32) : Nat → Nat → Int32
  | 0, _ => 0
  | n + 1, k => if r k = v then q k else bnA r q v n (k + 1)
theorem d201 (C : isC W) {c S : Nat} (hc : c < 4) (hS : m 10 (12 * c + 3) = nI S) (hS2 : S ≤ 4) (v : Int32) : ∀ n k, k + n = S → dn 201 2 [some (.ref 9), some (.int (nI c)), some (.int v), some (.int (nI k))] [] (tm W m l) = some (some (.int (bnA (fun k => m 10 (12 * c + (4 + 2 * k))) (fun k => m 10 (12 * c + (4 + 2 * k + 1))) v n k)), tm W m l)
  | 0, k, h => by
    rw [q_201_2, if_pos (uok C _), c197 C hc, kxi_s, hS, if_pos (nI_le (by omega) (by omega))]
    rfl
  | n + 1, k, h => by
    rw [q_201_2, if_pos (uok C _), c197 C hc, kxi_s, hS, if_neg (nI_ge (by omega) (by omega)), if_pos (uok C _), c198 C hc (by omega), kxi_s, bnA]
    by_cases hv : m 10 (12 * c + (4 + 2 * k)) = v
    · rw [if_pos hv, if_pos hv, if_pos (uok C _), c199 C hc (by omega), kxi_s]
    · rw [if_neg hv, if_neg hv, nI_1]
      exact d201 C hc hS hS2 v n (k + 1) (by omega)
theorem c201 (C : isC W) {c S : Nat} (hc : c < 4) (hS : m 10 (12 * c + 3) = nI S) (hS2 : S ≤ 4) (v : Int32) : cl 201 [.ref 9, .int (nI c), .int v] (tm W m l) = some (some (.int (bnA (fun k => m 10 (12 * c + (4 + 2 * k))) (fun k => m 10 (12 * c + (4 + 2 * k + 1))) v S 0)), tm W m l) := by
  rw [q_201]
  exact d201 C hc hS hS2 v S 0 (by omega)
theorem d96 (M : isM W) {c S : Nat} (hc : c < 4) (hS : m 44 (4 * c + 3) = nI S) (hS2 : S ≤ 4) (v : Int32) : ∀ n k, k + n = S → dn 96 2 [some (.ref 39), some (.int (nI c)), some (.int v), some (.int (nI k))] [] (tm W (m1 m 40 f) l) = some (some (.int (bnA (fun k => m 45 (4 * c + k)) (fun k => m 46 (4 * c + k)) v n k)), tm W (m1 m 40 f) l)
  | 0, k, h => by
    rw [q_96_2, rR6 M, Option.bind_some, ixf3, rl44 M (by omega), Option.bind_some, m1_a _ _ (by decide), hS, if_pos (nI_le (by omega) (by omega))]
    rfl
  | n + 1, k, h => by
    rw [q_96_2, rR6 M, Option.bind_some, ixf3, rl44 M (by omega), Option.bind_some, m1_a _ _ (by decide), hS, if_neg (nI_ge (by omega) (by omega)), rR7 M, Option.bind_some, ixf, rl45 M (by omega), Option.bind_some, m1_a _ _ (by decide), bnA]
    by_cases hv : m 45 (4 * c + k) = v
    · rw [if_pos hv, if_pos hv, rR8 M, Option.bind_some, rl46 M (by omega), Option.bind_some, m1_a _ _ (by decide)]
    · rw [if_neg hv, if_neg hv, nI_1]
      exact d96 M hc hS hS2 v n (k + 1) (by omega)
theorem c96 (M : isM W) {c S : Nat} (hc : c < 4) (hS : m 44 (4 * c + 3) = nI S) (hS2 : S ≤ 4) (v : Int32) : cl 96 [.ref 39, .int (nI c), .int v] (tm W (m1 m 40 f) l) = some (some (.int (bnA (fun k => m 45 (4 * c + k)) (fun k => m 46 (4 * c + k)) v S 0)), tm W (m1 m 40 f) l) := by
  rw [q_96]
  exact d96 M hc hS hS2 v S 0 (by omega)
theorem bnA_cong {r q r' q' : Nat → Int32} (v : Int32) : ∀ n k, (∀ i, k ≤ i → i < k + n → r i = r' i ∧ q i = q' i) → bnA r q v n k = bnA r' q' v n k
  | 0, _, _ => rfl
  | n + 1, k, h => by
    rw [bnA, bnA, (h k (Nat.le_refl _) (by omega)).1, (h k (Nat.le_refl _) (by omega)).2, bnA_cong v n (k + 1) fun i h1 h2 => h i (by omega) (by omega)]
/-- what both sides say of a cup -/
theorem bn_R {r q a b : Nat → Int32} {c : Nat} (R : iRul r q a b c) : ∃ s, s ≤ 4 ∧ r (12 * c + 3) = nI s ∧ q (4 * c + 3) = nI s ∧ ∀ v, bnA (fun k => r (12 * c + (4 + 2 * k))) (fun k => r (12 * c + (4 + 2 * k + 1))) v s 0 = bnA (fun k => a (4 * c + k)) (fun k => b (4 * c + k)) v s 0 := by
  obtain ⟨-, -, -, s, h1, h2, h3, h4, -⟩ := R
  refine ⟨s, h1, h2, h3, fun v => bnA_cong v s 0 fun k _ hk => ?_⟩
  obtain ⟨n, g, -, -, -, -, e1, e2, e3, e4⟩ := h4 k (by omega)
  exact ⟨by rw [e1, e2], by rw [e3, e4]⟩
/-- ban of a step is 0, or 1 to 9 -/
theorem bn_v {r q a b : Nat → Int32} {c : Nat} (R : iRul r q a b c) {s : Nat} (hs : q (4 * c + 3) = nI s) (hs2 : s ≤ 4) (v : Int32) : ∃ n, n ≤ 9 ∧ bnA (fun k => a (4 * c + k)) (fun k => b (4 * c + k)) v s 0 = nI n := by
  obtain ⟨-, -, -, s', h1, h2, h3, h4, -⟩ := R
  have hss : s' = s := by
    rw [h3] at hs
    exact (nI_eq (by omega) (by omega)).mp hs
  subst hss
  have : ∀ n k, k + n = s' → ∃ x, x ≤ 9 ∧ bnA (fun k => a (4 * c + k)) (fun k => b (4 * c + k)) v n k = nI x := by
    intro n
    induction n with
    | zero => exact fun k _ => ⟨0, by omega, rfl⟩
    | succ n ih =>
      intro k hk
      rw [bnA]
      split
      · obtain ⟨n, g, -, -, -, e0, e1, e2, e3, e4⟩ := h4 k (by omega)
        exact ⟨g, e0, e4⟩
      · exact ih (k + 1) (by omega)
  exact this s' 0 (by omega)
/-! played -/
theorem nsub {r n : Nat} (hr : r < 2 ^ 30) (hn : n < 2 ^ 30) : (nI r - nI n).toInt = (r : Int) - n := by
  rw [Int32.toInt_sub, nI_toInt (by omega), nI_toInt (by omega)]
  exact Int.bmod_eq_of_le (by omega) (by omega)
theorem m44 (m : Nat → Nat → Int32) (v w : Int32) (xs : List Int32) (f : Nat → Int32) : m1 (m2 (m2 (rwm m xs) 39 13 v) 39 12 w) 40 f 44 = m 44 := by
  rw [m1_a _ _ (by decide), m2_r _ _ _ (by decide), m2_r _ _ _ (by decide), rwm_o _ _ (by decide) (by decide)]

theorem b_played {j : Nat} (hj : j < 600) (h : Inv j W m l) (x0 x1 : Int32) : Both j W m l 29 141 [.int x0, .int x1] [.int x0, .int x1] := by
  obtain ⟨⟨C, M, -⟩, ⟨P, N, E, S, V, hE, hB⟩, -, -, R, -, hrow⟩ := id h
  have p12 := S.P12
  have n100 := S.N100
  rcases arg x0 4 (by decide) with ⟨a0, h0, rfl⟩ | h0
  · rcases arg x1 4 (by decide) with ⟨a1, h1, rfl⟩ | h1
    · obtain ⟨n, hn, en⟩ := hB (108 + (4 * a0 + a1)) (Or.inr ⟨by omega, by omega⟩)
      obtain ⟨-, -, ⟨r, hr, er1, er2⟩, -⟩ := R a1 h1
      have em : vw m 13 (108 + (4 * a0 + a1)) = nI n := by
        rw [S.mid (by omega) (by omega), en]
      have es := nsub (r := r) (n := n) (by omega) (by omega)
      by_cases hrn : r ≤ n
      · have e1 : (nI r - nI n ≤ 0) = True := eq_true (by
          rw [Int32.le_iff_toInt_le, es]
          simp
          omega)
        have e2 : (nI r ≤ nI n) = True := eq_true ((nle (by omega) (by omega)).mpr hrn)
        refine Both_q h (r := nI n) (xs := [-1]) (by simp) ?_ ?_
        · simp only [q_29, xok C, vok C, sok C.now, xR0 C, xR1 C, xR2 C, xR3 C, xR4 C, xR5 C, xR6 C, xR7 C, xR8 C, xR9 C, sR4 C.now, sR5 C.now, sR6 C.now, sR7 C.now, sR8 C.now, sR9 C.now, sR10 C.now, sI0 C.now, sI1 C.now, sI2 C.now, sI3 C.now, kxi_s, kxr_s, kxv_s, Option.bind_some, if_true, if_false, i10, c189w C, List.nil_append, List.cons_append, List.append_nil, c50y h0, c49y h1, uok C, c211 C.now h0 h1, em, c195_2 C h1, wv10, er1, e1, w190a C]
        · simp only [q_141, rok M, rR0 M, rR1 M, rR2 M, rR4 M, rR6 M, rR7 M, rR8 M, rR9 M, rR11 M, rR16 M, rR17 M, rR24 M, rR25 M, rR26 M, rR27 M, rR28 M, rR29 M, rR30 M, rR32 M, rR33 M, rR34 M, wl4 M, wl5 M, wl6 M, wl7 M, ruw13 M, ruw12 M, kxi_s, kxr_s, kxv_s, Option.bind_some, if_true, if_false, i10, c71a M, c71b M, c71c M, c71d M, c76y h0, c75y h1, ixl, wl M (show 108 + (4 * a0 + a1) < 1108 by omega), en, ixf2, rl44 M (show 4 * a1 + 2 < 16 by omega), m44, er2, e2]
          rfl
      · have e1 : (nI r - nI n ≤ 0) = False := eq_false (by
          rw [Int32.le_iff_toInt_le, es]
          simp
          omega)
        have e2 : (nI r ≤ nI n) = False := eq_false (fun q => hrn ((nle (by omega) (by omega)).mp q))
        refine Both_q h (r := nI n) (xs := [nI r - nI n]) (by simp) ?_ ?_
        · simp only [q_29, xok C, vok C, sok C.now, xR0 C, xR1 C, xR2 C, xR3 C, xR4 C, xR5 C, xR6 C, xR7 C, xR8 C, xR9 C, sR4 C.now, sR5 C.now, sR6 C.now, sR7 C.now, sR8 C.now, sR9 C.now, sR10 C.now, sI0 C.now, sI1 C.now, sI2 C.now, sI3 C.now, kxi_s, kxr_s, kxv_s, Option.bind_some, if_true, if_false, i10, c189w C, List.nil_append, List.cons_append, List.append_nil, c50y h0, c49y h1, uok C, c211 C.now h0 h1, em, c195_2 C h1, wv10, er1, e1, w190a C]
        · simp only [q_141, rok M, rR0 M, rR1 M, rR2 M, rR4 M, rR6 M, rR7 M, rR8 M, rR9 M, rR11 M, rR16 M, rR17 M, rR24 M, rR25 M, rR26 M, rR27 M, rR28 M, rR29 M, rR30 M, rR32 M, rR33 M, rR34 M, wl4 M, wl5 M, wl6 M, wl7 M, ruw13 M, ruw12 M, kxi_s, kxr_s, kxv_s, Option.bind_some, if_true, if_false, i10, c71a M, c71b M, c71c M, c71d M, c76y h0, c75y h1, ixl, wl M (show 108 + (4 * a0 + a1) < 1108 by omega), en, ixf2, rl44 M (show 4 * a1 + 2 < 16 by omega), m44, er2, e2]
          rfl
    · refine Both_n h (r := -1) ?_ ?_
      · simp only [q_29, xok C, vok C, sok C.now, xR0 C, xR1 C, xR2 C, xR3 C, xR4 C, xR5 C, xR6 C, xR7 C, xR8 C, xR9 C, sR4 C.now, sR5 C.now, sR6 C.now, sR7 C.now, sR8 C.now, sR9 C.now, sR10 C.now, sI0 C.now, sI1 C.now, sI2 C.now, sI3 C.now, kxi_s, kxr_s, kxv_s, Option.bind_some, if_true, if_false, i10, c189w C, List.nil_append, List.cons_append, List.append_nil, c50y h0, c49n h1]
      · simp only [q_141, rok M, rR0 M, rR1 M, rR2 M, rR4 M, rR6 M, rR7 M, rR8 M, rR9 M, rR11 M, rR16 M, rR17 M, rR24 M, rR25 M, rR26 M, rR27 M, rR28 M, rR29 M, rR30 M, rR32 M, rR33 M, rR34 M, wl4 M, wl5 M, wl6 M, wl7 M, ruw13 M, ruw12 M, kxi_s, kxr_s, kxv_s, Option.bind_some, if_true, if_false, i10, c71a M, c71b M, c71c M, c71d M, c76y h0, c75n h1]
  · refine Both_n h (r := -1) ?_ ?_
    · simp only [q_29, xok C, vok C, sok C.now, xR0 C, xR1 C, xR2 C, xR3 C, xR4 C, xR5 C, xR6 C, xR7 C, xR8 C, xR9 C, sR4 C.now, sR5 C.now, sR6 C.now, sR7 C.now, sR8 C.now, sR9 C.now, sR10 C.now, sI0 C.now, sI1 C.now, sI2 C.now, sI3 C.now, kxi_s, kxr_s, kxv_s, Option.bind_some, if_true, if_false, i10, c189w C, List.nil_append, List.cons_append, List.append_nil, c50n h0]
    · simp only [q_141, rok M, rR0 M, rR1 M, rR2 M, rR4 M, rR6 M, rR7 M, rR8 M, rR9 M, rR11 M, rR16 M, rR17 M, rR24 M, rR25 M, rR26 M, rR27 M, rR28 M, rR29 M, rR30 M, rR32 M, rR33 M, rR34 M, wl4 M, wl5 M, wl6 M, wl7 M, ruw13 M, ruw12 M, kxi_s, kxr_s, kxv_s, Option.bind_some, if_true, if_false, i10, c71a M, c71b M, c71c M, c71d M, c76n h0]
end QRF

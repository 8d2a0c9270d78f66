section QRJ
variable {W : tm_W} {m : Nat → Nat → Int32} {l : Nat → Nat → Int64} {f g : Nat → Int32}
/-! worst -/
def wsC (f : Nat → Int32) (N : Nat) (p : Nat) (s : Int32 × Int32) : Int32 × Int32 := if lfF f (nI p) N ≤ s.2 then s else (nI p, lfF f (nI p) N)
def wsR (f : Nat → Int32) (N : Nat) (p : Nat) (s : Int32) : Int32 := if lfF f (nI p) N ≤ lfF f s N then s else nI p
theorem d37 (C : isC W) {P N : Nat} (hP : f 1104 = nI P) (hP2 : P ≤ 12) (hN : f 1105 = nI N) (hN2 : N ≤ 100) : ∀ n i (s : Int32 × Int32) (l4 : Option Value), i + n = P → dn 37 6 [some (.ref 0), some (.int s.1), some (.int s.2), some (.int (nI i)), l4] [] (tm W (wv m 13 f) l) = if ((fo (wsC f N) n i s)).1 = -1 then some (some (.int ((fo (wsC f N) n i s)).1), tm W (wv m 13 f) l) else some (some (.int ((fo (wsC f N) n i s)).1), tm W (wv (rwm m [((fo (wsC f N) n i s)).2]) 13 f) l)
  | 0, i, s, l4, h => by
    have hi : i = P := by omega
    subst hi
    rw [q_37_6]
    simp only [xok C, vok C, sok C.now, xR0 C, xR1 C, xR2 C, xR3 C, xR4 C, xR5 C, xR6 C, xR7 C, xR8 C, xR9 C, sR4 C.now, sR5 C.now, sR6 C.now, sR7 C.now, sR8 C.now, sR9 C.now, sR10 C.now, sI0 C.now, sI1 C.now, sI2 C.now, sI3 C.now, kxi_s, kxr_s, kxv_s, Option.bind_some, if_true, if_false, i10, c189w C, List.nil_append, List.cons_append, List.append_nil, hP, eq_true (Int32.le_refl (nI i)), fo, w190a C]
    rfl
  | n + 1, i, s, l4, h => by
    have ih := fun s l4 => d37 C hP hP2 hN hN2 n (i + 1) s l4 (by omega)
    rw [q_37_6]
    simp only [xok C, vok C, sok C.now, xR0 C, xR1 C, xR2 C, xR3 C, xR4 C, xR5 C, xR6 C, xR7 C, xR8 C, xR9 C, sR4 C.now, sR5 C.now, sR6 C.now, sR7 C.now, sR8 C.now, sR9 C.now, sR10 C.now, sI0 C.now, sI1 C.now, sI2 C.now, sI3 C.now, kxi_s, kxr_s, kxv_s, Option.bind_some, if_true, if_false, i10, c189w C, List.nil_append, List.cons_append, List.append_nil, hP, eq_false (nI_ge (show i < P by omega) (show P < 2 ^ 31 by omega)), c225' C hN hN2]
    rw [fo]
    by_cases c1 : lfF f (nI i) N ≤ s.2
    · have e : (wsC f N) i s = s := by simp [wsC, eq_true c1]
      rw [e]
      simp only [eq_true c1, if_true, if_false, i10, nI_1, Int32.add_zero, or0, Bool.false_eq_true, Bool.true_eq_false]
      exact ih (s) _
    · have e : (wsC f N) i s = (nI i, lfF f (nI i) N) := by simp [wsC, eq_false c1]
      rw [e]
      simp only [eq_false c1, if_true, if_false, i10, nI_1, Int32.add_zero, or0, Bool.false_eq_true, Bool.true_eq_false]
      exact ih ((nI i, lfF f (nI i) N)) _
theorem d155 (M : isM W) {P N : Nat} (hP : f 1104 = nI P) (hP2 : P ≤ 12) (hN : f 1105 = nI N) (hN2 : N ≤ 100) : ∀ n i (s : Int32), i + n = P → dn 155 14 [some (.ref 39), some (.int s), some (.int (nI i))] [] (tm W (m1 m 40 f) l) = dn 155 14 [some (.ref 39), some (.int (fo (wsR f N) n i s)), some (.int (nI P))] [] (tm W (m1 m 40 f) l)
  | 0, i, s, h => by
    rw [show i = P by omega]
    rfl
  | n + 1, i, s, h => by
    have ih := fun s => d155 M hP hP2 hN hN2 n (i + 1) s (by omega)
    rw [q_155_14]
    simp only [rok M, rR0 M, rR1 M, rR2 M, rR4 M, rR6 M, rR7 M, rR8 M, rR9 M, rR11 M, rR16 M, rR17 M, rR24 M, rR25 M, rR26 M, rR27 M, rR28 M, rR29 M, rR30 M, rR32 M, rR33 M, rR34 M, wl4 M, wl5 M, wl6 M, wl7 M, ruw13 M, ruw12 M, kxi_s, kxr_s, kxv_s, Option.bind_some, if_true, if_false, i10, c71a M, c71b M, c71c M, c71d M, hP, eq_false (nI_ge (show i < P by omega) (show P < 2 ^ 31 by omega)), c145 M hN hN2]
    rw [fo]
    by_cases c1 : lfF f (nI i) N ≤ lfF f s N
    · have e : (wsR f N) i s = s := by simp [wsR, eq_true c1]
      rw [e]
      simp only [eq_true c1, if_true, if_false, i10, nI_1, Int32.add_zero, or0, Bool.false_eq_true, Bool.true_eq_false]
      exact ih (s)
    · have e : (wsR f N) i s = nI i := by simp [wsR, eq_false c1]
      rw [e]
      simp only [eq_false c1, if_true, if_false, i10, nI_1, Int32.add_zero, or0, Bool.false_eq_true, Bool.true_eq_false]
      exact ih (nI i)
theorem ws_CR (f : Nat → Int32) (N : Nat) : ∀ n i x, fo (wsC f N) n i (x, lfF f x N) = (fo (wsR f N) n i x, lfF f (fo (wsR f N) n i x) N)
  | 0, _, _ => rfl
  | n + 1, i, x => by
    rw [fo, fo]
    have e : wsC f N i (x, lfF f x N) = (wsR f N i x, lfF f (wsR f N i x) N) := by
      unfold wsC wsR
      by_cases h : lfF f (nI i) N ≤ lfF f x N
      · rw [if_pos h, if_pos h]
      · rw [if_neg h, if_neg h]
    rw [e]
    exact ws_CR f N n (i + 1) _
theorem ws_x (f : Nat → Int32) (N : Nat) : ∀ n i x, (∃ k, k < 2 ^ 20 ∧ x = nI k) → i + n < 2 ^ 20 → ∃ k, k < 2 ^ 20 ∧ fo (wsR f N) n i x = nI k
  | 0, _, _, h, _ => h
  | n + 1, i, x, h, hn => by
    rw [fo]
    refine ws_x f N n (i + 1) _ ?_ (by omega)
    unfold wsR
    split
    · exact h
    · exact ⟨i, by omega, rfl⟩
theorem wsC_cong {P N E : Nat} (S : SR f g P N E) (n i : Nat) (s : Int32 × Int32) : fo (wsC f N) n i s = fo (wsC g N) n i s := by
  refine fo_cong n i s fun p s _ _ => ?_
  unfold wsC
  rw [lf_SR S]
theorem m1_lt (k : Nat) (hk : k < 2 ^ 31) : ¬ nI k ≤ -1 := by
  rw [Int32.le_iff_toInt_le, nI_toInt hk]
  have : (-1 : Int32).toInt = -1 := by decide
  omega
theorem b_worst {j : Nat} (hj : j < 600) (h : Inv j W m l) : Both j W m l 37 155 [] [] := by
  obtain ⟨⟨C, M, -⟩, ⟨P, N, E, S, V, hE, hB⟩, -, -, R, -, hrow⟩ := id h
  have p12 := S.P12
  have n100 := S.N100
  by_cases hP0 : P = 0
  · refine Both_n h (r := -1) ?_ ?_
    · rw [q_37]
      have e := d37 (m := m) (l := l) C S.f4 p12 S.f5 n100 P 0 (-1, -1) none (by omega)
      rw [show dn 37 6 [some (.ref 0), some (.int (-1)), some (.int (-1)), some (.int 0), none] [] (tm W (wv m 13 (vw m 13)) l) = _ from e, hP0]
      rfl
    · have e0 : (nI P = 0) = True := eq_true (by rw [hP0]; rfl)
      simp only [q_155, rok M, rR0 M, rR1 M, rR2 M, rR4 M, rR6 M, rR7 M, rR8 M, rR9 M, rR11 M, rR16 M, rR17 M, rR24 M, rR25 M, rR26 M, rR27 M, rR28 M, rR29 M, rR30 M, rR32 M, rR33 M, rR34 M, wl4 M, wl5 M, wl6 M, wl7 M, ruw13 M, ruw12 M, kxi_s, kxr_s, kxv_s, Option.bind_some, if_true, if_false, i10, c71a M, c71b M, c71c M, c71d M, S.g4, e0]
  · obtain ⟨P', rfl⟩ : ∃ P', P = P' + 1 := ⟨P - 1, by omega⟩
    have es : fo (wsC (vw m 13) N) (P' + 1) 0 (-1, -1) = (fo (wsR (m 40) N) P' 1 0, lfF (m 40) (fo (wsR (m 40) N) P' 1 0) N) := by
      rw [wsC_cong S, fo]
      have e1 : wsC (m 40) N 0 (-1, -1) = (0, lfF (m 40) 0 N) := by
        unfold wsC
        obtain ⟨k, hk, ek⟩ := lfF_v V n100 (nI 0)
        rw [ek, if_neg (m1_lt k (by omega)), ← ek]
        rfl
      rw [e1]
      exact ws_CR (m 40) N P' 1 0
    obtain ⟨k, hk, ek⟩ := ws_x (m 40) N P' 1 0 ⟨0, by decide, rfl⟩ (by omega)
    have hk1 : ¬ nI k = -1 := nI_ne_m1 (by omega)
    refine Both_q h (r := nI k) (xs := [lfF (m 40) (nI k) N]) (by simp) ?_ ?_
    · rw [q_37]
      have e := d37 (m := m) (l := l) C S.f4 p12 S.f5 n100 (P' + 1) 0 (-1, -1) none (by omega)
      rw [show dn 37 6 [some (.ref 0), some (.int (-1)), some (.int (-1)), some (.int 0), none] [] (tm W (wv m 13 (vw m 13)) l) = _ from e, es, ek, if_neg hk1]
    · have e0 : (nI (P' + 1) = 0) = False := eq_false (fun q => by have := (neq0 (by omega)).mp q; omega)
      simp only [q_155, rok M, rR0 M, rR1 M, rR2 M, rR4 M, rR6 M, rR7 M, rR8 M, rR9 M, rR11 M, rR16 M, rR17 M, rR24 M, rR25 M, rR26 M, rR27 M, rR28 M, rR29 M, rR30 M, rR32 M, rR33 M, rR34 M, wl4 M, wl5 M, wl6 M, wl7 M, ruw13 M, ruw12 M, kxi_s, kxr_s, kxv_s, Option.bind_some, if_true, if_false, i10, c71a M, c71b M, c71c M, c71d M, S.g4, e0]
      rw [show dn 155 14 [some (.ref 39), some (.int 0), some (.int 1)] [] _ = _ from d155 M S.g4 p12 S.g5 n100 P' 1 0 (by omega), ek]
      rw [q_155_14]
      simp only [rok M, rR0 M, rR1 M, rR2 M, rR4 M, rR6 M, rR7 M, rR8 M, rR9 M, rR11 M, rR16 M, rR17 M, rR24 M, rR25 M, rR26 M, rR27 M, rR28 M, rR29 M, rR30 M, rR32 M, rR33 M, rR34 M, wl4 M, wl5 M, wl6 M, wl7 M, ruw13 M, ruw12 M, kxi_s, kxr_s, kxv_s, Option.bind_some, if_true, if_false, i10, c71a M, c71b M, c71c M, c71d M, S.g4, eq_true (Int32.le_refl (nI (P' + 1))), c145 M S.g5 n100]
      rfl
/-! most -/
def moC (f : Nat → Int32) (c : Nat) (p : Nat) (s : Int32 × Int32 × Int32) : Int32 × Int32 × Int32 := if f (12 + (4 * p + c)) ≤ s.2.1 then (if f (12 + (4 * p + c)) = s.2.1 then (s.1, s.2.1, s.2.2 + 1) else s) else (nI p, f (12 + (4 * p + c)), 1)
def moR (f : Nat → Int32) (c : Nat) (p : Nat) (s : Nat × Int32) : Nat × Int32 := if f (12 + (4 * p + c)) ≤ f (12 + (4 * s.1 + c)) then (if f (12 + (4 * p + c)) = f (12 + (4 * s.1 + c)) then (s.1, s.2 + 1) else s) else (p, 1)
theorem d38 (C : isC W) {P : Nat} (hP : f 1104 = nI P) (hP2 : P ≤ 12) {c : Nat} (hc : c < 4) : ∀ n i (s : Int32 × Int32 × Int32) (l6 : Option Value), i + n = P → dn 38 13 [some (.ref 0), some (.int (nI c)), some (.int s.1), some (.int s.2.1), some (.int s.2.2), some (.int (nI i)), l6] [] (tm W (wv m 13 f) l) = if ((fo (moC f c) n i s)).1 = -1 then some (some (.int (-2)), tm W (wv m 13 f) l) else some (some (.int ((fo (moC f c) n i s)).1), tm W (wv (rwm m [((fo (moC f c) n i s)).2.1, ((fo (moC f c) n i s)).2.2]) 13 f) l)
  | 0, i, s, l6, h => by
    have hi : i = P := by omega
    subst hi
    rw [q_38_13]
    simp only [xok C, vok C, sok C.now, xR0 C, xR1 C, xR2 C, xR3 C, xR4 C, xR5 C, xR6 C, xR7 C, xR8 C, xR9 C, sR4 C.now, sR5 C.now, sR6 C.now, sR7 C.now, sR8 C.now, sR9 C.now, sR10 C.now, sI0 C.now, sI1 C.now, sI2 C.now, sI3 C.now, kxi_s, kxr_s, kxv_s, Option.bind_some, if_true, if_false, i10, c189w C, List.nil_append, List.cons_append, List.append_nil, hP, eq_true (Int32.le_refl (nI i)), fo, w190a C, w190b C]
    rfl
  | n + 1, i, s, l6, h => by
    have ih := fun s l6 => d38 C hP hP2 hc n (i + 1) s l6 (by omega)
    rw [q_38_13]
    simp only [xok C, vok C, sok C.now, xR0 C, xR1 C, xR2 C, xR3 C, xR4 C, xR5 C, xR6 C, xR7 C, xR8 C, xR9 C, sR4 C.now, sR5 C.now, sR6 C.now, sR7 C.now, sR8 C.now, sR9 C.now, sR10 C.now, sI0 C.now, sI1 C.now, sI2 C.now, sI3 C.now, kxi_s, kxr_s, kxv_s, Option.bind_some, if_true, if_false, i10, c189w C, List.nil_append, List.cons_append, List.append_nil, hP, eq_false (nI_ge (show i < P by omega) (show P < 2 ^ 31 by omega)), c208 C.now (show i < 12 by omega) hc, q_38_33]
    rw [fo]
    by_cases c1 : f (12 + (4 * i + c)) ≤ s.2.1
    · by_cases c2 : f (12 + (4 * i + c)) = s.2.1
      · have e : (moC f c) i s = (s.1, s.2.1, s.2.2 + 1) := by simp [moC, eq_true c1, eq_true c2]
        rw [e]
        simp only [eq_true c1, eq_true c2, if_true, if_false, i10, nI_1, Int32.add_zero, or0, Bool.false_eq_true, Bool.true_eq_false, s01]
        exact ih ((s.1, s.2.1, s.2.2 + 1)) _
      · have e : (moC f c) i s = s := by simp [moC, eq_true c1, eq_false c2]
        rw [e]
        simp only [eq_true c1, eq_false c2, if_true, if_false, i10, nI_1, Int32.add_zero, or0, Bool.false_eq_true, Bool.true_eq_false, s01]
        exact ih (s) _
    · have e : (moC f c) i s = (nI i, f (12 + (4 * i + c)), 1) := by simp [moC, eq_false c1]
      rw [e]
      simp only [eq_false c1, if_true, if_false, i10, nI_1, Int32.add_zero, or0, Bool.false_eq_true, Bool.true_eq_false, s01]
      exact ih ((nI i, f (12 + (4 * i + c)), 1)) _
theorem d156 (M : isM W) {P : Nat} (hP : f 1104 = nI P) (hP2 : P ≤ 12) {c : Nat} (hc : c < 4) : ∀ n i (s : Nat × Int32) (l5 : Option Value) (l6 : Option Value), i + n = P → s.1 < 12 → dn 156 21 [some (.ref 39), some (.int (nI c)), some (.int (nI s.1)), some (.int s.2), some (.int (nI i)), l5, l6] [] (tm W (m1 m 40 f) l) = some (some (.int (nI ((fo (moR f c) n i s)).1)), tm W (m1 (m2 m 39 12 (nI ([f (12 + (4 * ((fo (moR f c) n i s)).1 + c)), ((fo (moR f c) n i s)).2]).length)) 40 f) (llm l (([f (12 + (4 * ((fo (moR f c) n i s)).1 + c)), ((fo (moR f c) n i s)).2]).map Int32.toInt64)))
  | 0, i, s, l5, l6, h, hv => by
    have hi : i = P := by omega
    subst hi
    rw [q_156_21]
    simp only [rok M, rR0 M, rR1 M, rR2 M, rR4 M, rR6 M, rR7 M, rR8 M, rR9 M, rR11 M, rR16 M, rR17 M, rR24 M, rR25 M, rR26 M, rR27 M, rR28 M, rR29 M, rR30 M, rR32 M, rR33 M, rR34 M, wl4 M, wl5 M, wl6 M, wl7 M, ruw13 M, ruw12 M, kxi_s, kxr_s, kxv_s, Option.bind_some, if_true, if_false, i10, c71a M, c71b M, c71c M, c71d M, hP, eq_true (Int32.le_refl (nI i)), fo, ixc, wl M (show 12 + (4 * s.1 + c) < 1108 by omega)]
    rfl
  | n + 1, i, s, l5, l6, h, hv => by
    have ih := fun s l5 l6 => d156 M hP hP2 hc n (i + 1) s l5 l6 (by omega)
    rw [q_156_21]
    simp only [rok M, rR0 M, rR1 M, rR2 M, rR4 M, rR6 M, rR7 M, rR8 M, rR9 M, rR11 M, rR16 M, rR17 M, rR24 M, rR25 M, rR26 M, rR27 M, rR28 M, rR29 M, rR30 M, rR32 M, rR33 M, rR34 M, wl4 M, wl5 M, wl6 M, wl7 M, ruw13 M, ruw12 M, kxi_s, kxr_s, kxv_s, Option.bind_some, if_true, if_false, i10, c71a M, c71b M, c71c M, c71d M, hP, eq_false (nI_ge (show i < P by omega) (show P < 2 ^ 31 by omega)), ixc, wl M (show 12 + (4 * i + c) < 1108 by omega), wl M (show 12 + (4 * s.1 + c) < 1108 by omega), q_156_55]
    rw [fo]
    by_cases c1 : f (12 + (4 * i + c)) ≤ f (12 + (4 * s.1 + c))
    · by_cases c2 : f (12 + (4 * i + c)) = f (12 + (4 * s.1 + c))
      · have e : (moR f c) i s = (s.1, s.2 + 1) := by simp [moR, eq_true c1, eq_true c2]
        rw [e]
        simp only [eq_true c1, eq_true c2, if_true, if_false, i10, nI_1, Int32.add_zero, or0, Bool.false_eq_true, Bool.true_eq_false]
        exact ih ((s.1, s.2 + 1)) _ _ (by first | omega | (simp; omega))
      · have e : (moR f c) i s = s := by simp [moR, eq_true c1, eq_false c2]
        rw [e]
        simp only [eq_true c1, eq_false c2, if_true, if_false, i10, nI_1, Int32.add_zero, or0, Bool.false_eq_true, Bool.true_eq_false]
        exact ih (s) _ _ (by first | omega | (simp; omega))
    · have e : (moR f c) i s = (i, 1) := by simp [moR, eq_false c1]
      rw [e]
      simp only [eq_false c1, if_true, if_false, i10, nI_1, Int32.add_zero, or0, Bool.false_eq_true, Bool.true_eq_false]
      exact ih ((i, 1)) _ _ (by first | omega | (simp; omega))
theorem mo_CR (f : Nat → Int32) (c : Nat) : ∀ n i q x, fo (moC f c) n i (nI q, f (12 + (4 * q + c)), x) = (nI (fo (moR f c) n i (q, x)).1, f (12 + (4 * (fo (moR f c) n i (q, x)).1 + c)), (fo (moR f c) n i (q, x)).2)
  | 0, _, _, _ => rfl
  | n + 1, i, q, x => by
    rw [fo, fo]
    by_cases h1 : f (12 + (4 * i + c)) ≤ f (12 + (4 * q + c))
    · by_cases h2 : f (12 + (4 * i + c)) = f (12 + (4 * q + c))
      · rw [show moC f c i (nI q, f (12 + (4 * q + c)), x) = (nI q, f (12 + (4 * q + c)), x + 1) by simp [moC, h2], show moR f c i (q, x) = (q, x + 1) by simp [moR, h2]]
        exact mo_CR f c n (i + 1) q (x + 1)
      · rw [show moC f c i (nI q, f (12 + (4 * q + c)), x) = (nI q, f (12 + (4 * q + c)), x) by simp [moC, h1, h2], show moR f c i (q, x) = (q, x) by simp [moR, h1, h2]]
        exact mo_CR f c n (i + 1) q x
    · rw [show moC f c i (nI q, f (12 + (4 * q + c)), x) = (nI i, f (12 + (4 * i + c)), 1) by simp [moC, h1], show moR f c i (q, x) = (i, 1) by simp [moR, h1]]
      exact mo_CR f c n (i + 1) i 1
theorem mo_x (f : Nat → Int32) (c : Nat) : ∀ n i (s : Nat × Int32), s.1 < 12 → i + n ≤ 12 → (fo (moR f c) n i s).1 < 12
  | 0, _, _, h, _ => h
  | n + 1, i, s, h, hn => by
    rw [fo]
    refine mo_x f c n (i + 1) _ ?_ (by omega)
    unfold moR
    split
    · split
      · exact h
      · exact h
    · exact (show i < 12 by omega)
theorem moC_cong {P N E : Nat} (S : SR f g P N E) {c : Nat} (hc : c < 4) (n i : Nat) (s : Int32 × Int32 × Int32) (hn : i + n ≤ P) : fo (moC f c) n i s = fo (moC g c) n i s := by
  have := S.P12
  refine fo_cong n i s fun p s _ _ => ?_
  unfold moC
  rw [S.mid (by omega) (by omega)]
theorem b_most {j : Nat} (hj : j < 600) (h : Inv j W m l) (x0 : Int32) : Both j W m l 38 156 [.int x0] [.int x0] := by
  obtain ⟨⟨C, M, -⟩, ⟨P, N, E, S, V, hE, hB⟩, -, -, R, -, hrow⟩ := id h
  have p12 := S.P12
  have n100 := S.N100
  rcases arg x0 4 (by decide) with ⟨a0, h0, rfl⟩ | h0
  · by_cases hP0 : P = 0
    · refine Both_n h (r := -2) ?_ ?_
      · simp only [q_38, xok C, vok C, sok C.now, xR0 C, xR1 C, xR2 C, xR3 C, xR4 C, xR5 C, xR6 C, xR7 C, xR8 C, xR9 C, sR4 C.now, sR5 C.now, sR6 C.now, sR7 C.now, sR8 C.now, sR9 C.now, sR10 C.now, sI0 C.now, sI1 C.now, sI2 C.now, sI3 C.now, kxi_s, kxr_s, kxv_s, Option.bind_some, if_true, if_false, i10, c189w C, List.nil_append, List.cons_append, List.append_nil, c49y h0]
        have e := d38 (m := m) (l := l) C S.f4 p12 h0 P 0 (-1, -1, 0) none (by omega)
        rw [show dn 38 13 [some (.ref 0), some (.int (nI a0)), some (.int (-1)), some (.int (-1)), some (.int 0), some (.int 0), none] [] (tm W (wv m 13 (vw m 13)) l) = _ from e, hP0]
        rfl
      · have e0 : (nI P = 0) = True := eq_true (by rw [hP0]; rfl)
        simp only [q_156, rok M, rR0 M, rR1 M, rR2 M, rR4 M, rR6 M, rR7 M, rR8 M, rR9 M, rR11 M, rR16 M, rR17 M, rR24 M, rR25 M, rR26 M, rR27 M, rR28 M, rR29 M, rR30 M, rR32 M, rR33 M, rR34 M, wl4 M, wl5 M, wl6 M, wl7 M, ruw13 M, ruw12 M, kxi_s, kxr_s, kxv_s, Option.bind_some, if_true, if_false, i10, c71a M, c71b M, c71c M, c71d M, c75y h0, S.g4, e0]
    · obtain ⟨P', rfl⟩ : ∃ P', P = P' + 1 := ⟨P - 1, by omega⟩
      have es : fo (moC (vw m 13) a0) (P' + 1) 0 (-1, -1, 0) = (nI (fo (moR (m 40) a0) (P' + 1) 0 (0, 0)).1, m 40 (12 + (4 * (fo (moR (m 40) a0) (P' + 1) 0 (0, 0)).1 + a0)), (fo (moR (m 40) a0) (P' + 1) 0 (0, 0)).2) := by
        rw [moC_cong S h0 _ _ _ (by omega), fo, fo]
        obtain ⟨k, hk, ek⟩ := hB (12 + (4 * 0 + a0)) (Or.inl ⟨by omega, by omega⟩)
        have e1 : moC (m 40) a0 0 (-1, -1, 0) = (nI 0, m 40 (12 + (4 * 0 + a0)), 1) := by
          unfold moC
          rw [ek, if_neg (m1_lt k (by omega))]
        have e2 : moR (m 40) a0 0 (0, 0) = (0, 1) := by
          unfold moR
          rw [if_pos (Int32.le_refl _), if_pos rfl]
          rfl
        rw [e1, e2]
        exact mo_CR (m 40) a0 P' 1 0 1
      have hx := mo_x (m 40) a0 (P' + 1) 0 (0, 0) (by decide) (by omega)
      refine Both_q h (r := nI (fo (moR (m 40) a0) (P' + 1) 0 (0, 0)).1) (xs := [m 40 (12 + (4 * (fo (moR (m 40) a0) (P' + 1) 0 (0, 0)).1 + a0)), (fo (moR (m 40) a0) (P' + 1) 0 (0, 0)).2]) (by simp) ?_ ?_
      · simp only [q_38, xok C, vok C, sok C.now, xR0 C, xR1 C, xR2 C, xR3 C, xR4 C, xR5 C, xR6 C, xR7 C, xR8 C, xR9 C, sR4 C.now, sR5 C.now, sR6 C.now, sR7 C.now, sR8 C.now, sR9 C.now, sR10 C.now, sI0 C.now, sI1 C.now, sI2 C.now, sI3 C.now, kxi_s, kxr_s, kxv_s, Option.bind_some, if_true, if_false, i10, c189w C, List.nil_append, List.cons_append, List.append_nil, c49y h0]
        have e := d38 (m := m) (l := l) C S.f4 p12 h0 (P' + 1) 0 (-1, -1, 0) none (by omega)
        rw [show dn 38 13 [some (.ref 0), some (.int (nI a0)), some (.int (-1)), some (.int (-1)), some (.int 0), some (.int 0), none] [] (tm W (wv m 13 (vw m 13)) l) = _ from e, es, if_neg (nI_ne_m1 (by omega))]
      · have e0 : (nI (P' + 1) = 0) = False := eq_false (fun q => by have := (neq0 (by omega)).mp q; omega)
        simp only [q_156, rok M, rR0 M, rR1 M, rR2 M, rR4 M, rR6 M, rR7 M, rR8 M, rR9 M, rR11 M, rR16 M, rR17 M, rR24 M, rR25 M, rR26 M, rR27 M, rR28 M, rR29 M, rR30 M, rR32 M, rR33 M, rR34 M, wl4 M, wl5 M, wl6 M, wl7 M, ruw13 M, ruw12 M, kxi_s, kxr_s, kxv_s, Option.bind_some, if_true, if_false, i10, c71a M, c71b M, c71c M, c71d M, c75y h0, S.g4, e0]
        exact d156 M S.g4 p12 h0 (P' + 1) 0 (0, 0) none none (by omega) (by decide)
  · refine Both_n h (r := -1) ?_ ?_
    · simp only [q_38, xok C, vok C, sok C.now, xR0 C, xR1 C, xR2 C, xR3 C, xR4 C, xR5 C, xR6 C, xR7 C, xR8 C, xR9 C, sR4 C.now, sR5 C.now, sR6 C.now, sR7 C.now, sR8 C.now, sR9 C.now, sR10 C.now, sI0 C.now, sI1 C.now, sI2 C.now, sI3 C.now, kxi_s, kxr_s, kxv_s, Option.bind_some, if_true, if_false, i10, c189w C, List.nil_append, List.cons_append, List.append_nil, c49n h0]
    · simp only [q_156, rok M, rR0 M, rR1 M, rR2 M, rR4 M, rR6 M, rR7 M, rR8 M, rR9 M, rR11 M, rR16 M, rR17 M, rR24 M, rR25 M, rR26 M, rR27 M, rR28 M, rR29 M, rR30 M, rR32 M, rR33 M, rR34 M, wl4 M, wl5 M, wl6 M, wl7 M, ruw13 M, ruw12 M, kxi_s, kxr_s, kxv_s, Option.bind_some, if_true, if_false, i10, c71a M, c71b M, c71c M, c71d M, c75n h0]
end QRJ

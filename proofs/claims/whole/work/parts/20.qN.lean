section QRN
variable {W : tm_W} {m : Nat → Nat → Int32} {l : Nat → Nat → Int64} {f g : Nat → Int32}
/-! THE BOOK -/
theorem rem60' {k : Nat} (h : k < 2 ^ 30) : nI k - nI k / 60 * 60 = nI (k % 60) := rem60 h
theorem sub1 {E a : Nat} (h : a < E) : (nI E - 1) - nI a = nI (E - 1 - a) := by
  obtain ⟨k, rfl⟩ : ∃ k, E = k + 1 := ⟨E - 1, by omega⟩
  rw [nI_pred]
  have e : nI k = nI (k - a) + nI a := by
    rw [nI_add]
    congr 1
    omega
  rw [show k + 1 - 1 - a = k - a by omega, e]
  exact Int32.add_sub_cancel _ _
/-- the place of the entry that is a behind the latest -/
abbrev pgA (E a : Nat) : Nat := 3 * ((E - 1 - a) % 60)
theorem c236 (C : isC W) {E a k : Nat} (hE : f 1107 = nI E) (hE2 : E < 2 ^ 30) (ha : a < E) (hk : k < 3) : cl 236 [.ref 13, .int (nI a), .int (nI k)] (tm W (wv m 13 f) l) = some (some (.int (f (124 + (pgA E a + k)))), tm W (wv m 13 f) l) := by
  have hm : (E - 1 - a) % 60 < 60 := Nat.mod_lt _ (by decide)
  rw [q_236, sR10 C.now, Option.bind_some, sI3 C.now, Option.bind_some, hE, sub1 ha, rem60' (by omega), mul3, nI_add, sl7 C.now (by omega), Option.bind_some]
theorem c165 (M : isM W) {E a : Nat} (hE : f 1107 = nI E) (hE2 : E < 2 ^ 30) (ha : a < E) : cl 165 [.ref 39, .int (nI a)] (tm W (m1 m 40 f) l) = some (some (.int (nI (124 + pgA E a))), tm W (m1 m 40 f) l) := by
  rw [q_165, rR0 M, Option.bind_some, wl7 M, Option.bind_some, hE, sub1 ha, rem60' (by omega), show (124 : Int32) + 3 * nI ((E - 1 - a) % 60) = nI 124 + nI 3 * nI ((E - 1 - a) % 60) from rfl, pk_mul, nI_add]
theorem pg_lt {E a k : Nat} (ha : a < E) (hk : k < 3) : pgA E a + k < 3 * min E 60 := by
  unfold pgA
  omega
theorem b_book {j : Nat} (hj : j < 600) (h : Inv j W m l) (x0 x1 : Int32) : Both j W m l 45 166 [.int x0, .int x1] [.int x0, .int x1] := by
  obtain ⟨⟨C, M, -⟩, ⟨P, N, E, S, V, hE, hB⟩, -, -, R, -, hrow⟩ := id h
  have c235' : cl 235 [.ref 13] (tm W (wv m 13 (vw m 13)) l) = some (some (.int (nI (min E 60))), tm W (wv m 13 (vw m 13)) l) := by
    rw [c235 C.now, S.f7, (en_eq (E := E) (by omega)).1]
  have c164' : cl 164 [.ref 39] (tm W (m1 (m2 m 39 13 0) 40 (m 40)) l) = some (some (.int (nI (min E 60))), tm W (m1 (m2 m 39 13 0) 40 (m 40)) l) := by
    rw [c164 M, S.g7, (en_eq (E := E) (by omega)).2]
  rcases arg x0 (min E 60) (by omega) with ⟨a, ha, rfl⟩ | h0
  · have i1 := fun h => in_y (n := min E 60) ha (by omega) h
    rw [z64] at i1
    have e1 : (nI a < 0) = False := eq_false (nI_pos (by omega))
    have e2 : (nI (min E 60) ≤ nI a) = False := eq_false (nI_ge ha (by omega))
    rcases arg x1 3 (by decide) with ⟨k, hk, rfl⟩ | h1
    · have i2 := fun h => in_y (n := 3) hk (by decide) h
      rw [z64, show (nI 3 - 1).toInt64 = 2 by decide] at i2
      have e3 : (nI k < 0) = False := eq_false (nI_pos (by omega))
      have e4 : (nI k < 3) = True := eq_true (nI_lt (b := 3) hk (by decide))
      have hp := pg_lt (E := E) (a := a) (k := k) (by omega) hk
      refine Both_n h (r := m 40 (124 + (pgA E a + k))) ?_ ?_
      · simp only [q_45, xok C, vok C, sok C.now, xR0 C, xR1 C, xR2 C, xR3 C, xR4 C, xR5 C, xR6 C, xR7 C, xR8 C, xR9 C, sR4 C.now, sR5 C.now, sR6 C.now, sR7 C.now, sR8 C.now, sR9 C.now, sR10 C.now, sI0 C.now, sI1 C.now, sI2 C.now, sI3 C.now, kxi_s, kxr_s, kxv_s, Option.bind_some, if_true, if_false, i10, c189w C, List.nil_append, List.cons_append, List.append_nil, e1, e2, e3, e4, c235', c236 C S.f7 (show E < 2 ^ 30 by omega) (show a < E by omega) hk, S.ent hp]
      · simp only [q_166, rok M, rR0 M, rR1 M, rR2 M, rR4 M, rR6 M, rR7 M, rR8 M, rR9 M, rR11 M, rR16 M, rR17 M, rR24 M, rR25 M, rR26 M, rR27 M, rR28 M, rR29 M, rR30 M, rR32 M, rR33 M, rR34 M, wl4 M, wl5 M, wl6 M, wl7 M, ruw13 M, ruw12 M, kxi_s, kxr_s, kxv_s, Option.bind_some, if_true, if_false, i10, c71a M, c71b M, c71c M, c71d M, c164', i1, i2, c165 M S.g7 (show E < 2 ^ 30 by omega) (show a < E by omega), nI_add, Nat.add_assoc]
        rw [wl M (by unfold pgA; omega), Option.bind_some]
    · refine Both_n h (r := -1) ?_ ?_
      · simp only [q_45, xok C, vok C, sok C.now, xR0 C, xR1 C, xR2 C, xR3 C, xR4 C, xR5 C, xR6 C, xR7 C, xR8 C, xR9 C, sR4 C.now, sR5 C.now, sR6 C.now, sR7 C.now, sR8 C.now, sR9 C.now, sR10 C.now, sI0 C.now, sI1 C.now, sI2 C.now, sI3 C.now, kxi_s, kxr_s, kxv_s, Option.bind_some, if_true, if_false, i10, c189w C, List.nil_append, List.cons_append, List.append_nil, e1, e2, c235']
        rcases h1 with h1 | h1
        · rw [if_pos h1]
        · rw [if_neg (show ¬ x1 < 3 from Int32.not_lt.mpr h1)]
          split <;> rfl
      · have i2 := fun h => in_n (n := 3) h1 (by decide) h
        rw [z64, show (nI 3 - 1).toInt64 = 2 by decide] at i2
        simp only [q_166, rok M, rR0 M, rR1 M, rR2 M, rR4 M, rR6 M, rR7 M, rR8 M, rR9 M, rR11 M, rR16 M, rR17 M, rR24 M, rR25 M, rR26 M, rR27 M, rR28 M, rR29 M, rR30 M, rR32 M, rR33 M, rR34 M, wl4 M, wl5 M, wl6 M, wl7 M, ruw13 M, ruw12 M, kxi_s, kxr_s, kxv_s, Option.bind_some, if_true, if_false, i10, c71a M, c71b M, c71c M, c71d M, c164', i1, i2]
  · refine Both_n h (r := -1) ?_ ?_
    · simp only [q_45, xok C, vok C, sok C.now, xR0 C, xR1 C, xR2 C, xR3 C, xR4 C, xR5 C, xR6 C, xR7 C, xR8 C, xR9 C, sR4 C.now, sR5 C.now, sR6 C.now, sR7 C.now, sR8 C.now, sR9 C.now, sR10 C.now, sI0 C.now, sI1 C.now, sI2 C.now, sI3 C.now, kxi_s, kxr_s, kxv_s, Option.bind_some, if_true, if_false, i10, c189w C, List.nil_append, List.cons_append, List.append_nil, c235']
      rcases h0 with h0 | h0
      · rw [if_pos h0]
      · rw [if_pos h0]
        split <;> rfl
    · have i1 := fun h => in_n (n := min E 60) h0 (by omega) h
      rw [z64] at i1
      simp only [q_166, rok M, rR0 M, rR1 M, rR2 M, rR4 M, rR6 M, rR7 M, rR8 M, rR9 M, rR11 M, rR16 M, rR17 M, rR24 M, rR25 M, rR26 M, rR27 M, rR28 M, rR29 M, rR30 M, rR32 M, rR33 M, rR34 M, wl4 M, wl5 M, wl6 M, wl7 M, ruw13 M, ruw12 M, kxi_s, kxr_s, kxv_s, Option.bind_some, if_true, if_false, i10, c71a M, c71b M, c71c M, c71d M, c164', i1]
/-! told -/
/-- entry a is a w of player p -/
def isT (f : Nat → Int32) (E : Nat) (p : Int32) (a w : Nat) (b : Nat) : Prop := f (124 + (pgA E a + 0)) = nI w ∧ f (124 + (pgA E a + 1)) = nI b
/-- how many of the entries i .. i + n - 1 are of player p and what w -/
def kT (f : Nat → Int32) (E : Nat) (p : Int32) : Nat → Nat → Nat → Nat
  | 0, _, _ => 0
  | n + 1, i, w => (if f (304 + (8 * (f (124 + (pgA E i + 1))).toNatClampNeg)) = p ∧ f (124 + (pgA E i)) = nI w then 1 else 0) + kT f E p n (i + 1) w
theorem kT_le (f : Nat → Int32) (E : Nat) (p : Int32) (w : Nat) : ∀ n i, kT f E p n i w ≤ n
  | 0, _ => Nat.le_refl _
  | n + 1, i => by
    have := kT_le f E p w n (i + 1)
    unfold kT
    split <;> omega
theorem d237 (C : isC W) {E w : Nat} {N : Nat} (hN : f 1105 = nI N) (hN2 : N ≤ 100) (hE : f 1107 = nI E) (hE2 : E < 2 ^ 30) (hb : ∀ a, a < min E 60 → ∃ b, b < N ∧ f (124 + (pgA E a + 1)) = nI b) (p : Int32) : ∀ n i k, i + n = min E 60 → dn 237 4 [some (.ref 13), some (.int p), some (.int (nI w)), some (.int (nI k)), some (.int (nI i))] [] (tm W (wv m 13 f) l) = some (some (.int (nI (k + kT f E p n i w))), tm W (wv m 13 f) l)
  | 0, i, k, h => by
    rw [q_237_4, if_pos (sok C.now _), c235 C.now, kxi_s, hE, (en_eq (E := E) (by omega)).1, if_pos (nI_le (by omega) (by omega))]
    rfl
  | n + 1, i, k, h => by
    obtain ⟨b, hbN, eb⟩ := hb i (by omega)
    have e0 := c236 (m := m) (l := l) (k := 0) C hE hE2 (show i < E by omega) (by decide)
    have e1 := c236 (m := m) (l := l) (k := 1) C hE hE2 (show i < E by omega) (by decide)
    rw [eb] at e1
    rw [q_237_4, if_pos (sok C.now _), c235 C.now, kxi_s, hE, (en_eq (E := E) (by omega)).1, if_neg (nI_ge (by omega) (by omega)), if_pos (sok C.now _)]
    rw [show cl 236 [.ref 13, .int (nI i), .int 0] (tm W (wv m 13 f) l) = _ from e0, kxi_s, Nat.add_zero]
    have ek : kT f E p (n + 1) i w = (if f (304 + (8 * b)) = p ∧ f (124 + (pgA E i)) = nI w then 1 else 0) + kT f E p n (i + 1) w := by
      rw [kT, eb, nI_clamp (by omega)]
    by_cases hw : f (124 + pgA E i) = nI w
    · rw [if_pos hw, if_pos (sok C.now _), show cl 236 [.ref 13, .int (nI i), .int 1] (tm W (wv m 13 f) l) = _ from e1, kxi_s, if_pos (sok C.now _), c216_0 C.now (by omega), kxi_s]
      by_cases hp : f (304 + (8 * b)) = p
      · rw [if_pos hp, nI_1, nI_1, ek, if_pos ⟨hp, hw⟩, ← Nat.add_assoc]
        exact d237 C hN hN2 hE hE2 hb p n (i + 1) (k + 1) (by omega)
      · rw [if_neg hp, nI_1, ek, if_neg (fun q => hp q.1), Nat.zero_add]
        exact d237 C hN hN2 hE hE2 hb p n (i + 1) k (by omega)
    · rw [if_neg hw, nI_1, ek, if_neg (fun q => hw q.2), Nat.zero_add]
      exact d237 C hN hN2 hE hE2 hb p n (i + 1) k (by omega)
theorem c237 (C : isC W) {E w : Nat} {N : Nat} (hN : f 1105 = nI N) (hN2 : N ≤ 100) (hE : f 1107 = nI E) (hE2 : E < 2 ^ 30) (hb : ∀ a, a < min E 60 → ∃ b, b < N ∧ f (124 + (pgA E a + 1)) = nI b) (p : Int32) : cl 237 [.ref 13, .int p, .int (nI w)] (tm W (wv m 13 f) l) = some (some (.int (nI (kT f E p (min E 60) 0 w))), tm W (wv m 13 f) l) := by
  rw [q_237]
  have e := d237 (w := w) (m := m) (l := l) C hN hN2 hE hE2 hb p (min E 60) 0 0 (by omega)
  rw [Nat.zero_add] at e
  exact e
theorem llm_set (l : Nat → Nat → Int64) (ys : List Int64) {k : Nat} (hk : k < ys.length) (v : Int64) : m2 (llm l ys) 48 k v = llm l (ys.set k v) := by
  funext a i
  unfold m2 llm
  by_cases ha : a = 48
  · subst ha
    by_cases hi : i = k
    · subst hi
      rw [if_pos ⟨rfl, rfl⟩, if_pos ⟨rfl, by simpa using hk⟩]
      simp [List.getD, hk]
    · rw [if_neg (fun q => hi q.2)]
      by_cases hl : i < ys.length
      · rw [if_pos ⟨rfl, hl⟩, if_pos ⟨rfl, by simpa using hl⟩]
        simp [List.getD, List.getElem?_set, Ne.symm hi]
      · rw [if_neg (fun q => hl q.2), if_neg (fun q => hl (by simpa using q.2))]
  · rw [if_neg (fun q => ha q.1), if_neg (fun q => ha q.1), if_neg (fun q => ha q.1)]
abbrev ls6 (k : Nat → Nat) : List Int32 := [nI (k 0), nI (k 1), nI (k 2), nI (k 3), nI (k 4), nI (k 5)]
theorem w64 {k : Nat} (h : k < 2 ^ 30) : (nI k).toInt64 + 1 = (nI (k + 1)).toInt64 := by
  apply Int64.toInt_inj.mp
  rw [Int64.toInt_add, Int32.toInt_toInt64, Int32.toInt_toInt64, nI_toInt (by omega), nI_toInt (by omega)]
  have : (1 : Int64).toInt = 1 := by decide
  rw [this, Int.bmod_eq_of_le (by omega) (by omega)]
  omega
theorem ls6_set (k : Nat → Nat) {w : Nat} (hw : w < 6) (hk : k w < 2 ^ 30) : ((ls6 k).map Int32.toInt64).set w ((nI (k w)).toInt64 + 1) = (ls6 fun i => if i = w then k i + 1 else k i).map Int32.toInt64 := by
  rw [w64 hk]
  obtain rfl | rfl | rfl | rfl | rfl | rfl : w = 0 ∨ w = 1 ∨ w = 2 ∨ w = 3 ∨ w = 4 ∨ w = 5 := by omega
  all_goals simp
theorem ls6_get (l : Nat → Nat → Int64) (k : Nat → Nat) {w : Nat} (hw : w < 6) : llm l ((ls6 k).map Int32.toInt64) 48 w = (nI (k w)).toInt64 := by
  unfold llm
  rw [if_pos ⟨rfl, by simpa using hw⟩]
  obtain rfl | rfl | rfl | rfl | rfl | rfl : w = 0 ∨ w = 1 ∨ w = 2 ∨ w = 3 ∨ w = 4 ∨ w = 5 := by omega
  all_goals rfl
theorem d167 (M : isM W) {E : Nat} {N : Nat} (hN : f 1105 = nI N) (hN2 : N ≤ 100) (hE : f 1107 = nI E) (hE2 : E < 2 ^ 30) (hb : ∀ a, a < min E 60 → (∃ w, w < 6 ∧ f (124 + pgA E a) = nI w) ∧ ∃ b, b < N ∧ f (124 + (pgA E a + 1)) = nI b) (p : Int32) : ∀ n i (k : Nat → Nat) (t : Nat), i + n = min E 60 → (∀ w, k w ≤ i) → dn 167 28 [some (.ref 39), some (.int p), some (.int (nI t)), some (.int (nI i))] [] (tm W (m1 m 40 f) (llm l ((ls6 k).map Int32.toInt64))) =
      some (some (.int (nI (t + (kT f E p n i 0 + kT f E p n i 1 + kT f E p n i 2 + kT f E p n i 3 + kT f E p n i 4 + kT f E p n i 5)))), tm W (m1 m 40 f) (llm l ((ls6 fun w => k w + kT f E p n i w).map Int32.toInt64)))
  | 0, i, k, t, h, _ => by
    rw [q_167_28, if_pos (rok M _), c164 M, kxi_s, hE, (en_eq (E := E) (by omega)).2, if_pos (nI_le (by omega) (by omega))]
    rfl
  | n + 1, i, k, t, h, hk => by
    obtain ⟨⟨w, hw6, ew⟩, b, hbN, eb⟩ := hb i (by omega)
    have hm : (E - 1 - i) % 60 < 60 := Nat.mod_lt _ (by decide)
    have ek : ∀ v, kT f E p (n + 1) i v = (if f (304 + (8 * b)) = p ∧ nI w = nI v then 1 else 0) + kT f E p n (i + 1) v := by
      intro v
      rw [kT, eb, nI_clamp (by omega), ew]
    rw [q_167_28, if_pos (rok M _), c164 M, kxi_s, hE, (en_eq (E := E) (by omega)).2, if_neg (nI_ge (by omega) (by omega)), rR0 M, Option.bind_some, if_pos (rok M _), c165 M hE hE2 (by omega), kxi_s, nI_1, wl M (by unfold pgA; omega), Option.bind_some, Nat.add_assoc, eb, if_pos (rok M _), c79_0 M (by omega), kxi_s]
    by_cases hp : f (304 + (8 * b)) = p
    · rw [if_pos hp, rR11 M, Option.bind_some, rR0 M, Option.bind_some, if_pos (rok M _), c165 M hE hE2 (by omega), kxi_s, wl M (by unfold pgA; omega), Option.bind_some, ew, rl48 M (by omega), Option.bind_some, rs48 M (by omega), Option.bind_some, ls6_get l k hw6, llm_set l _ (by simpa using hw6), ls6_set k hw6 (by have := hk w; omega), nI_1, nI_1]
      have ev : ∀ v, v < 6 → kT f E p (n + 1) i v = (if v = w then 1 else 0) + kT f E p n (i + 1) v := by
        intro v hv
        rw [ek]
        by_cases hvw : v = w
        · subst hvw
          rw [if_pos ⟨hp, rfl⟩, if_pos rfl]
        · rw [if_neg hvw, if_neg (fun q => hvw ((nI_eq (by omega) (by omega)).mp q.2).symm)]
      rw [d167 M hN hN2 hE hE2 hb p n (i + 1) _ (t + 1) (by omega) (fun v => by have := hk v; split <;> omega)]
      have hA : ∀ v, v < 6 → (if v = w then k v + 1 else k v) + kT f E p n (i + 1) v = k v + kT f E p (n + 1) i v := by
        intro v hv
        rw [ev v hv]
        split <;> omega
      have hB : t + 1 + (kT f E p n (i + 1) 0 + kT f E p n (i + 1) 1 + kT f E p n (i + 1) 2 + kT f E p n (i + 1) 3 + kT f E p n (i + 1) 4 + kT f E p n (i + 1) 5) = t + (kT f E p (n + 1) i 0 + kT f E p (n + 1) i 1 + kT f E p (n + 1) i 2 + kT f E p (n + 1) i 3 + kT f E p (n + 1) i 4 + kT f E p (n + 1) i 5) := by
        rw [ev 0 (by decide), ev 1 (by decide), ev 2 (by decide), ev 3 (by decide), ev 4 (by decide), ev 5 (by decide)]
        obtain rfl | rfl | rfl | rfl | rfl | rfl : w = 0 ∨ w = 1 ∨ w = 2 ∨ w = 3 ∨ w = 4 ∨ w = 5 := by omega
        all_goals simp only [if_true, show ¬ (0 : Nat) = 1 by decide, show ¬ (0 : Nat) = 2 by decide, show ¬ (0 : Nat) = 3 by decide, show ¬ (0 : Nat) = 4 by decide, show ¬ (0 : Nat) = 5 by decide, show ¬ (1 : Nat) = 0 by decide, show ¬ (1 : Nat) = 2 by decide, show ¬ (1 : Nat) = 3 by decide, show ¬ (1 : Nat) = 4 by decide, show ¬ (1 : Nat) = 5 by decide, show ¬ (2 : Nat) = 0 by decide, show ¬ (2 : Nat) = 1 by decide, show ¬ (2 : Nat) = 3 by decide, show ¬ (2 : Nat) = 4 by decide, show ¬ (2 : Nat) = 5 by decide, show ¬ (3 : Nat) = 0 by decide, show ¬ (3 : Nat) = 1 by decide, show ¬ (3 : Nat) = 2 by decide, show ¬ (3 : Nat) = 4 by decide, show ¬ (3 : Nat) = 5 by decide, show ¬ (4 : Nat) = 0 by decide, show ¬ (4 : Nat) = 1 by decide, show ¬ (4 : Nat) = 2 by decide, show ¬ (4 : Nat) = 3 by decide, show ¬ (4 : Nat) = 5 by decide, show ¬ (5 : Nat) = 0 by decide, show ¬ (5 : Nat) = 1 by decide, show ¬ (5 : Nat) = 2 by decide, show ¬ (5 : Nat) = 3 by decide, show ¬ (5 : Nat) = 4 by decide, if_false] <;> omega
      rw [hB]
      simp only [ls6, hA 0 (by decide), hA 1 (by decide), hA 2 (by decide), hA 3 (by decide), hA 4 (by decide), hA 5 (by decide)]
    · rw [if_neg hp, nI_1]
      have ev : ∀ v, kT f E p (n + 1) i v = kT f E p n (i + 1) v := fun v => by rw [ek, if_neg (fun q => hp q.1), Nat.zero_add]
      simp only [ev]
      exact d167 M hN hN2 hE hE2 hb p n (i + 1) k t (by omega) (fun v => by have := hk v; omega)
theorem kT_SR {P N E : Nat} (S : SR f g P N E) (V : VR g P N E) (p : Int32) (w : Nat) : ∀ n i, i + n ≤ min E 60 → kT f E p n i w = kT g E p n i w
  | 0, _, _ => by rw [kT, kT]
  | n + 1, i, h => by
    have h0 := pg_lt (E := E) (a := i) (k := 0) (by omega) (by decide)
    have h1 := pg_lt (E := E) (a := i) (k := 1) (by omega) (by decide)
    have hm := V.2.2 ((E - 1 - i) % 60) (by omega)
    obtain ⟨-, b, hb, eb⟩ := hm
    rw [kT, kT, S.ent h1, show f (124 + pgA E i) = g (124 + pgA E i) from S.ent h0, show g (124 + (pgA E i + 1)) = nI b from eb, nI_clamp (by have := S.N100; omega), show f (304 + (8 * b)) = g (304 + (8 * b)) from S.row (j := 0) hb (by decide), kT_SR S V p w n (i + 1) (by omega)]
theorem w190e (C : isC W) (a b c d v : Int32) : cl 190 [.ref 7, .int v] (tm W (wv (rwm m [a, b, c, d]) 13 f) l) = some (some (.ref 7), tm W (wv (rwm m [a, b, c, d, v]) 13 f) l) := c190w (xs := [a, b, c, d]) C (by simp) v
theorem w190f (C : isC W) (a b c d e v : Int32) : cl 190 [.ref 7, .int v] (tm W (wv (rwm m [a, b, c, d, e]) 13 f) l) = some (some (.ref 7), tm W (wv (rwm m [a, b, c, d, e, v]) 13 f) l) := c190w (xs := [a, b, c, d, e]) C (by simp) v
theorem s45 : (4 : Int32) + 1 = 5 := rfl
theorem s56 : (5 : Int32) + 1 = 6 := rfl
theorem z6 (M : isM W) (l' : Nat → Nat → Int64) (ys : List Int64) (l3 : Option Value) (p : Int32) (h : ys.length < 6) : dn 167 14 [some (.ref 39), some (.int p), some (.int (nI ys.length)), l3] [] (tm W m (llm l' ys)) = dn 167 14 [some (.ref 39), some (.int p), some (.int (nI (ys ++ [0]).length)), l3] [] (tm W m (llm l' (ys ++ [0]))) := by
  rw [q_167_14, if_neg (show ¬ (6 : Int32) ≤ nI ys.length from nI_ge (b := 6) h (by decide)), rR11 M, Option.bind_some, rs48 M (by omega), Option.bind_some, llm_add, nI_1, List.length_append]
  rfl
theorem b_told {j : Nat} (hj : j < 600) (h : Inv j W m l) (x0 : Int32) : Both j W m l 46 167 [.int x0] [.int x0] := by
  obtain ⟨⟨C, M, -⟩, ⟨P, N, E, S, V, hE, hB⟩, -, -, R, -, hrow⟩ := id h
  have p12 := S.P12
  have n100 := S.N100
  rcases arg x0 P (by omega) with ⟨a0, h0, rfl⟩ | h0
  · have hbg : ∀ a, a < min E 60 → (∃ w, w < 6 ∧ m 40 (124 + pgA E a) = nI w) ∧ ∃ b, b < N ∧ m 40 (124 + (pgA E a + 1)) = nI b := fun a ha => V.2.2 ((E - 1 - a) % 60) (by omega)
    have hbf : ∀ a, a < min E 60 → ∃ b, b < N ∧ vw m 13 (124 + (pgA E a + 1)) = nI b := fun a ha => by
      rw [S.ent (pg_lt (by omega) (by decide))]
      exact (hbg a ha).2
    have eC := fun (w : Nat) (m' : Nat → Nat → Int32) => c237 (m := m') (l := l) (w := w) C S.f5 n100 S.f7 (show E < 2 ^ 30 by omega) hbf (nI a0)
    have eS := fun w => kT_SR S V (nI a0) w (min E 60) 0 (by omega)
    simp only [eS] at eC
    have e0 := fun m' => (show cl 237 [.ref 13, .int (nI a0), .int 0] (tm W (wv m' 13 (vw m 13)) l) = _ from eC 0 m')
    have e1 := fun m' => (show cl 237 [.ref 13, .int (nI a0), .int 1] (tm W (wv m' 13 (vw m 13)) l) = _ from eC 1 m')
    have e2 := fun m' => (show cl 237 [.ref 13, .int (nI a0), .int 2] (tm W (wv m' 13 (vw m 13)) l) = _ from eC 2 m')
    have e3 := fun m' => (show cl 237 [.ref 13, .int (nI a0), .int 3] (tm W (wv m' 13 (vw m 13)) l) = _ from eC 3 m')
    have e4 := fun m' => (show cl 237 [.ref 13, .int (nI a0), .int 4] (tm W (wv m' 13 (vw m 13)) l) = _ from eC 4 m')
    have e5 := fun m' => (show cl 237 [.ref 13, .int (nI a0), .int 5] (tm W (wv m' 13 (vw m 13)) l) = _ from eC 5 m')
    have eR := fun (m' : Nat → Nat → Int32) => d167 (m := m') (l := l) (f := m 40) M S.g5 n100 S.g7 (show E < 2 ^ 30 by omega) hbg (nI a0) (min E 60) 0 (fun _ => 0) 0 (by omega) (fun _ => Nat.le_refl _)
    simp only [Nat.zero_add] at eR
    generalize kT (m 40) E (nI a0) (min E 60) 0 = k at *
    refine Both_q h (r := nI (k 0 + k 1 + k 2 + k 3 + k 4 + k 5)) (xs := ls6 k) (by simp) ?_ ?_
    · simp only [q_46, xok C, vok C, sok C.now, xR0 C, xR1 C, xR2 C, xR3 C, xR4 C, xR5 C, xR6 C, xR7 C, xR8 C, xR9 C, sR4 C.now, sR5 C.now, sR6 C.now, sR7 C.now, sR8 C.now, sR9 C.now, sR10 C.now, sI0 C.now, sI1 C.now, sI2 C.now, sI3 C.now, kxi_s, kxr_s, kxv_s, Option.bind_some, if_true, if_false, i10, c189w C, List.nil_append, List.cons_append, List.append_nil, c52y C S.f4 S.P12 h0]
      rw [q_46_14]
      simp only [xok C, vok C, sok C.now, xR0 C, xR1 C, xR2 C, xR3 C, xR4 C, xR5 C, xR6 C, xR7 C, xR8 C, xR9 C, sR4 C.now, sR5 C.now, sR6 C.now, sR7 C.now, sR8 C.now, sR9 C.now, sR10 C.now, sI0 C.now, sI1 C.now, sI2 C.now, sI3 C.now, kxi_s, kxr_s, kxv_s, Option.bind_some, if_true, if_false, i10, c189w C, List.nil_append, List.cons_append, List.append_nil, show ((6 : Int32) ≤ 0) = False by decide, e0, w190a C, s01, zadd]
      rw [q_46_14]
      simp only [xok C, vok C, sok C.now, xR0 C, xR1 C, xR2 C, xR3 C, xR4 C, xR5 C, xR6 C, xR7 C, xR8 C, xR9 C, sR4 C.now, sR5 C.now, sR6 C.now, sR7 C.now, sR8 C.now, sR9 C.now, sR10 C.now, sI0 C.now, sI1 C.now, sI2 C.now, sI3 C.now, kxi_s, kxr_s, kxv_s, Option.bind_some, if_true, if_false, i10, c189w C, List.nil_append, List.cons_append, List.append_nil, show ((6 : Int32) ≤ 1) = False by decide, e1, w190b C, s12, nI_add]
      rw [q_46_14]
      simp only [xok C, vok C, sok C.now, xR0 C, xR1 C, xR2 C, xR3 C, xR4 C, xR5 C, xR6 C, xR7 C, xR8 C, xR9 C, sR4 C.now, sR5 C.now, sR6 C.now, sR7 C.now, sR8 C.now, sR9 C.now, sR10 C.now, sI0 C.now, sI1 C.now, sI2 C.now, sI3 C.now, kxi_s, kxr_s, kxv_s, Option.bind_some, if_true, if_false, i10, c189w C, List.nil_append, List.cons_append, List.append_nil, show ((6 : Int32) ≤ 2) = False by decide, e2, w190c C, s23, nI_add]
      rw [q_46_14]
      simp only [xok C, vok C, sok C.now, xR0 C, xR1 C, xR2 C, xR3 C, xR4 C, xR5 C, xR6 C, xR7 C, xR8 C, xR9 C, sR4 C.now, sR5 C.now, sR6 C.now, sR7 C.now, sR8 C.now, sR9 C.now, sR10 C.now, sI0 C.now, sI1 C.now, sI2 C.now, sI3 C.now, kxi_s, kxr_s, kxv_s, Option.bind_some, if_true, if_false, i10, c189w C, List.nil_append, List.cons_append, List.append_nil, show ((6 : Int32) ≤ 3) = False by decide, e3, w190d C, s34, nI_add]
      rw [q_46_14]
      simp only [xok C, vok C, sok C.now, xR0 C, xR1 C, xR2 C, xR3 C, xR4 C, xR5 C, xR6 C, xR7 C, xR8 C, xR9 C, sR4 C.now, sR5 C.now, sR6 C.now, sR7 C.now, sR8 C.now, sR9 C.now, sR10 C.now, sI0 C.now, sI1 C.now, sI2 C.now, sI3 C.now, kxi_s, kxr_s, kxv_s, Option.bind_some, if_true, if_false, i10, c189w C, List.nil_append, List.cons_append, List.append_nil, show ((6 : Int32) ≤ 4) = False by decide, e4, w190e C, s45, nI_add]
      rw [q_46_14]
      simp only [xok C, vok C, sok C.now, xR0 C, xR1 C, xR2 C, xR3 C, xR4 C, xR5 C, xR6 C, xR7 C, xR8 C, xR9 C, sR4 C.now, sR5 C.now, sR6 C.now, sR7 C.now, sR8 C.now, sR9 C.now, sR10 C.now, sI0 C.now, sI1 C.now, sI2 C.now, sI3 C.now, kxi_s, kxr_s, kxv_s, Option.bind_some, if_true, if_false, i10, c189w C, List.nil_append, List.cons_append, List.append_nil, show ((6 : Int32) ≤ 5) = False by decide, e5, w190f C, s56, nI_add]
      rw [q_46_14]
      simp only [show ((6 : Int32) ≤ 6) = True by decide, if_true]
    · simp only [q_167, rok M, rR0 M, rR1 M, rR2 M, rR4 M, rR6 M, rR7 M, rR8 M, rR9 M, rR11 M, rR16 M, rR17 M, rR24 M, rR25 M, rR26 M, rR27 M, rR28 M, rR29 M, rR30 M, rR32 M, rR33 M, rR34 M, wl4 M, wl5 M, wl6 M, wl7 M, ruw13 M, ruw12 M, kxi_s, kxr_s, kxv_s, Option.bind_some, if_true, if_false, i10, c71a M, c71b M, c71c M, c71d M, c77y M S.g4 S.P12 h0]
      have ez := fun (m' : Nat → Nat → Int32) => z6 (m := m') M l [] none (nI a0) (by decide)
      rw [llm_nil] at ez
      rw [show dn 167 14 [some (.ref 39), some (.int (nI a0)), some (.int 0), none] [] _ = _ from ez _, z6 M _ _ _ _ (by decide), z6 M _ _ _ _ (by decide), z6 M _ _ _ _ (by decide), z6 M _ _ _ _ (by decide), z6 M _ _ _ _ (by decide), q_167_14, if_pos (by decide)]
      exact eR _
  · refine Both_n h (r := -1) ?_ ?_
    · simp only [q_46, xok C, vok C, sok C.now, xR0 C, xR1 C, xR2 C, xR3 C, xR4 C, xR5 C, xR6 C, xR7 C, xR8 C, xR9 C, sR4 C.now, sR5 C.now, sR6 C.now, sR7 C.now, sR8 C.now, sR9 C.now, sR10 C.now, sI0 C.now, sI1 C.now, sI2 C.now, sI3 C.now, kxi_s, kxr_s, kxv_s, Option.bind_some, if_true, if_false, i10, c189w C, List.nil_append, List.cons_append, List.append_nil, c52n C S.f4 h0]
    · simp only [q_167, rok M, rR0 M, rR1 M, rR2 M, rR4 M, rR6 M, rR7 M, rR8 M, rR9 M, rR11 M, rR16 M, rR17 M, rR24 M, rR25 M, rR26 M, rR27 M, rR28 M, rR29 M, rR30 M, rR32 M, rR33 M, rR34 M, wl4 M, wl5 M, wl6 M, wl7 M, ruw13 M, ruw12 M, kxi_s, kxr_s, kxv_s, Option.bind_some, if_true, if_false, i10, c71a M, c71b M, c71c M, c71d M, c77n M S.g4 S.P12 h0]
end QRN

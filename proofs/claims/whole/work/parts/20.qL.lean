section QRL
variable {W : tm_W} {m : Nat → Nat → Int32} {l : Nat → Nat → Int64} {f g : Nat → Int32}
theorem bvb (b : BitVec 32) (t : Nat) (ht : t < 31) : ((b.sshiftRight t) &&& 1#32 = 0#32) ↔ (b &&& (1#32 <<< t) = 0#32) := by
  constructor
  · intro h
    have h0 := congrArg (fun x => x.getLsbD 0) h
    simp only [BitVec.getLsbD_and, BitVec.getLsbD_sshiftRight, BitVec.getLsbD_one, BitVec.getLsbD_zero] at h0
    simp [show t < 32 by omega] at h0
    apply BitVec.eq_of_getLsbD_eq
    intro i hi
    simp only [BitVec.getLsbD_and, BitVec.getLsbD_shiftLeft, BitVec.getLsbD_one, BitVec.getLsbD_zero]
    by_cases e : i = t
    · subst e
      have h1 : b.getLsbD i = false := by rw [BitVec.getLsbD_eq_getElem hi]; exact h0
      simp [h1]
    · by_cases e2 : i < t
      · simp [e2]
      · have : i - t ≠ 0 := by omega
        simp [this]
  · intro h
    have h0 := congrArg (fun x => x.getLsbD t) h
    simp only [BitVec.getLsbD_and, BitVec.getLsbD_shiftLeft, BitVec.getLsbD_one, BitVec.getLsbD_zero] at h0
    simp [show t < 32 by omega] at h0
    apply BitVec.eq_of_getLsbD_eq
    intro i hi
    simp only [BitVec.getLsbD_and, BitVec.getLsbD_sshiftRight, BitVec.getLsbD_one, BitVec.getLsbD_zero]
    by_cases e : i = 0
    · subst e
      simp [h0, show t < 32 by omega]
    · simp [e]
theorem bit0 (x : Int32) {t : Nat} (ht : t < 4) : ((x >>> (nI t &&& 31)) &&& 1 = 0) = (x &&& (1 <<< (nI t &&& 31)) = 0) := by
  apply propext
  rw [← Int32.toBitVec_inj, ← Int32.toBitVec_inj]
  have := bvb x.toBitVec t (by omega)
  obtain rfl | rfl | rfl | rfl : t = 0 ∨ t = 1 ∨ t = 2 ∨ t = 3 := by omega
  all_goals
    simpa [nI] using this
/-! fair -/
abbrev ptF (f : Nat → Int32) (t : Nat) : Int32 := f (60 + (3 * t)) + 3 * f (60 + (3 * t + 1))
def bsS (f : Nat → Int32) (x : Int32) (t : Nat) (s : Option Nat) : Option Nat := if x &&& (1 <<< (nI t &&& 31)) = 0 then (match s with | none => some t | some q => if ptF f q ≤ ptF f t then some q else some t) else s
theorem bs_lt {f : Nat → Int32} {x : Int32} {t n : Nat} {s : Option Nat} (hs : oLt s n) (hb : t < n) : oLt (bsS f x t s) n := by
  unfold bsS
  split
  · cases s with
    | none =>
      intro q hq
      cases hq
      exact hb
    | some q =>
      dsimp only
      split
      · exact hs
      · intro q' hq
        cases hq
        exact hb
  · exact hs
theorem bsS_SR {P N E : Nat} (S : SR f g P N E) (x : Int32) {t : Nat} {s : Option Nat} (ht : t < 4) (hs : oLt s 4) : bsS f x t s = bsS g x t s := by
  have e1 : f (60 + (3 * t)) = g (60 + (3 * t)) := S.mid (by omega) (by omega)
  have e2 : f (60 + (3 * t + 1)) = g (60 + (3 * t + 1)) := S.mid (by omega) (by omega)
  cases s with
  | none => simp only [bsS]
  | some q =>
    have hq := hs q rfl
    have e3 : f (60 + (3 * q)) = g (60 + (3 * q)) := S.mid (by omega) (by omega)
    have e4 : f (60 + (3 * q + 1)) = g (60 + (3 * q + 1)) := S.mid (by omega) (by omega)
    simp only [bsS, ptF, e1, e2, e3, e4]
theorem bs_SR {P N E : Nat} (S : SR f g P N E) (x : Int32) : ∀ n i s, i + n ≤ 4 → oLt s 4 → fo (bsS f x) n i s = fo (bsS g x) n i s
  | 0, _, _, _, _ => by rw [fo, fo]
  | n + 1, i, s, h, hs => by
    rw [fo, fo, bsS_SR S x (by omega) hs]
    exact bs_SR S x n (i + 1) _ (by omega) (bs_lt hs (by omega))
theorem d57 (C : isC W) (x : Int32) : ∀ n i (s : Option Nat), i + n = 4 → oLt s 4 → dn 57 4 [some (.ref 0), some (.int x), some (.int (enc s)), some (.int (nI i))] [] (tm W (wv m 13 f) l) = some (some (.int (enc (fo (bsS f x) n i s))), tm W (wv m 13 f) l)
  | 0, i, s, h, _ => by
    rw [show i = 4 by omega, q_57_4, if_pos (show (4 : Int32) ≤ nI 4 from Int32.le_refl _)]
    rfl
  | n + 1, i, s, h, hs => by
    have ih := fun s => d57 C x n (i + 1) s (by omega)
    rw [q_57_4]
    simp only [xok C, vok C, sok C.now, xR0 C, xR1 C, xR2 C, xR3 C, xR4 C, xR5 C, xR6 C, xR7 C, xR8 C, xR9 C, sR4 C.now, sR5 C.now, sR6 C.now, sR7 C.now, sR8 C.now, sR9 C.now, sR10 C.now, sI0 C.now, sI1 C.now, sI2 C.now, sI3 C.now, kxi_s, kxr_s, kxv_s, Option.bind_some, if_true, if_false, i10, c189w C, List.nil_append, List.cons_append, List.append_nil, eq_false (show ¬ (4 : Int32) ≤ nI i from nI_ge (show i < 4 by omega) (by decide)), c55, c215 C.now (show i < 4 by omega), nI_1]
    rw [fo]
    have hl := bs_lt (f := f) (x := x) hs (show i < 4 by omega)
    by_cases c1 : x &&& (1 <<< (nI i &&& 31)) = 0
    · rw [if_pos c1, if_pos rfl]
      cases s with
      | none =>
        rw [if_pos (show enc none = -1 from rfl)]
        rw [show bsS f x i none = some i by simp [bsS, c1]] at hl ⊢
        exact ih (some i) hl
      | some q =>
        have hq := hs q rfl
        rw [if_neg (show ¬ enc (some q) = -1 from nI_ne_m1 (by omega)), show enc (some q) = nI q from rfl, c215 C.now hq, kxi_s]
        by_cases c2 : ptF f q ≤ ptF f i
        · rw [if_pos c2]
          rw [show bsS f x i (some q) = some q by simp [bsS, c1, c2]] at hl ⊢
          exact ih (some q) hl
        · rw [if_neg c2]
          rw [show bsS f x i (some q) = some i by simp [bsS, c1, c2]] at hl ⊢
          exact ih (some i) hl
    · rw [if_neg c1, if_neg (by decide)]
      rw [show bsS f x i s = s by simp [bsS, c1]] at hl ⊢
      exact ih s hl
def bst (f : Nat → Int32) (x : Int32) : Int32 := enc (fo (bsS f x) 4 0 none)
theorem oLt0 (n : Nat) : oLt none n := fun q hq => by cases hq
theorem c57 (C : isC W) (x : Int32) : cl 57 [.ref 0, .int x] (tm W (wv m 13 f) l) = some (some (.int (bst f x)), tm W (wv m 13 f) l) := by
  rw [q_57]
  exact d57 C x 4 0 none (by omega) (oLt0 4)
theorem d160 (M : isM W) (x r : Int32) : ∀ n i (s : Option Nat), i + n = 4 → oLt s 4 → dn 160 17 [some (.ref 39), some (.int x), some (.int r), some (.int (enc s)), some (.int (nI i))] [] (tm W (m1 m 40 f) l) = dn 160 17 [some (.ref 39), some (.int x), some (.int r), some (.int (enc (fo (bsS f x) n i s))), some (.int 4)] [] (tm W (m1 m 40 f) l)
  | 0, i, s, h, _ => by
    rw [show i = 4 by omega]
    rfl
  | n + 1, i, s, h, hs => by
    have ih := fun s => d160 M x r n (i + 1) s (by omega)
    rw [q_160_17]
    simp only [rok M, rR0 M, rR1 M, rR2 M, rR4 M, rR6 M, rR7 M, rR8 M, rR9 M, rR11 M, rR16 M, rR17 M, rR24 M, rR25 M, rR26 M, rR27 M, rR28 M, rR29 M, rR30 M, rR32 M, rR33 M, rR34 M, wl4 M, wl5 M, wl6 M, wl7 M, ruw13 M, ruw12 M, kxi_s, kxr_s, kxv_s, Option.bind_some, if_true, if_false, i10, c71a M, c71b M, c71c M, c71d M, eq_false (show ¬ (4 : Int32) ≤ nI i from nI_ge (show i < 4 by omega) (by decide)), bit0 x (show i < 4 by omega), c158 M (show i < 4 by omega), nI_1]
    rw [fo]
    have hl := bs_lt (f := f) (x := x) hs (show i < 4 by omega)
    by_cases c1 : x &&& (1 <<< (nI i &&& 31)) = 0
    · rw [if_pos c1]
      cases s with
      | none =>
        rw [if_pos (show enc none = -1 from rfl)]
        rw [show bsS f x i none = some i by simp [bsS, c1]] at hl ⊢
        exact ih (some i) hl
      | some q =>
        have hq := hs q rfl
        rw [if_neg (show ¬ enc (some q) = -1 from nI_ne_m1 (by omega)), show enc (some q) = nI q from rfl, c158 M hq, kxi_s]
        by_cases c2 : ptF f q ≤ ptF f i
        · rw [if_pos c2]
          rw [show bsS f x i (some q) = some q by simp [bsS, c1, c2]] at hl ⊢
          exact ih (some q) hl
        · rw [if_neg c2]
          rw [show bsS f x i (some q) = some i by simp [bsS, c1, c2]] at hl ⊢
          exact ih (some i) hl
    · rw [if_neg c1]
      rw [show bsS f x i s = s by simp [bsS, c1]] at hl ⊢
      exact ih s hl
theorem c191w (C : isC W) {xs : List Int32} {i : Nat} (hi : i < xs.length) (hx : xs.length ≤ 100) : cl 191 [.ref 7, .int (nI i)] (tm W (wv (rwm m xs) 13 f) l) = some (some (.int (xs.getD i 0)), tm W (wv (rwm m xs) 13 f) l) := by
  rw [q_191, if_neg (nI_pos (by omega)), vI1 C, Option.bind_some, if_neg (nI_ge hi (by omega)), tm_gR C.t7 rfl, Option.bind_some, tm_ld C.t8 (by decide) (by decide) (by omega) (by decide), Option.bind_some, wv_out _ _ (by omega), rwm_8 _ _ hi]
abbrev mk1 (x e : Int32) : Int32 := x ||| (1 <<< (e &&& 31))
theorem e160 (M : isM W) (x r : Int32) (l3 l4 : Option Value) (h4 : ¬ 4 ≤ r) : dn 160 10 [some (.ref 39), some (.int x), some (.int r), l3, l4] [] (tm W (m1 m 40 f) l) = dn 160 17 [some (.ref 39), some (.int x), some (.int r), some (.int (bst f x)), some (.int 4)] [] (tm W (m1 m 40 f) l) := by
  rw [q_160_10, if_neg h4]
  exact d160 M x r 4 0 none (by omega) (oLt0 4)
theorem b_fair {j : Nat} (hj : j < 600) (h : Inv j W m l) : Both j W m l 41 160 [] [] := by
  obtain ⟨⟨C, M, -⟩, ⟨P, N, E, S, V, hE, hB⟩, -, -, R, -, hrow⟩ := id h
  have eb : ∀ x, bst (vw m 13) x = bst (m 40) x := fun x => by
    unfold bst
    rw [bs_SR S x 4 0 none (by omega) (oLt0 4)]
  generalize h0 : bst (m 40) 0 = e0
  generalize h1 : bst (m 40) (mk1 0 e0) = e1
  generalize h2 : bst (m 40) (mk1 (mk1 0 e0) e1) = e2
  generalize h3 : bst (m 40) (mk1 (mk1 (mk1 0 e0) e1) e2) = e3
  refine Both_q h (r := e0) (xs := [e0, e1, e2, e3]) (by simp) ?_ ?_
  · simp only [q_41, xok C, vok C, sok C.now, xR0 C, xR1 C, xR2 C, xR3 C, xR4 C, xR5 C, xR6 C, xR7 C, xR8 C, xR9 C, sR4 C.now, sR5 C.now, sR6 C.now, sR7 C.now, sR8 C.now, sR9 C.now, sR10 C.now, sI0 C.now, sI1 C.now, sI2 C.now, sI3 C.now, kxi_s, kxr_s, kxv_s, Option.bind_some, if_true, if_false, i10, c189w C, List.nil_append, List.cons_append, List.append_nil]
    rw [q_41_8]
    simp only [xok C, vok C, sok C.now, xR0 C, xR1 C, xR2 C, xR3 C, xR4 C, xR5 C, xR6 C, xR7 C, xR8 C, xR9 C, sR4 C.now, sR5 C.now, sR6 C.now, sR7 C.now, sR8 C.now, sR9 C.now, sR10 C.now, sI0 C.now, sI1 C.now, sI2 C.now, sI3 C.now, kxi_s, kxr_s, kxv_s, Option.bind_some, if_true, if_false, i10, c189w C, List.nil_append, List.cons_append, List.append_nil, l40, l41, l42, l43, l44, l30, l31, l32, l33, s01, s12, s23, s34, c57 C, eb, h0, c54, w190a C]
    rw [q_41_8]
    simp only [xok C, vok C, sok C.now, xR0 C, xR1 C, xR2 C, xR3 C, xR4 C, xR5 C, xR6 C, xR7 C, xR8 C, xR9 C, sR4 C.now, sR5 C.now, sR6 C.now, sR7 C.now, sR8 C.now, sR9 C.now, sR10 C.now, sI0 C.now, sI1 C.now, sI2 C.now, sI3 C.now, kxi_s, kxr_s, kxv_s, Option.bind_some, if_true, if_false, i10, c189w C, List.nil_append, List.cons_append, List.append_nil, l40, l41, l42, l43, l44, l30, l31, l32, l33, s01, s12, s23, s34, c57 C, eb, h1, c54, w190b C]
    rw [q_41_8]
    simp only [xok C, vok C, sok C.now, xR0 C, xR1 C, xR2 C, xR3 C, xR4 C, xR5 C, xR6 C, xR7 C, xR8 C, xR9 C, sR4 C.now, sR5 C.now, sR6 C.now, sR7 C.now, sR8 C.now, sR9 C.now, sR10 C.now, sI0 C.now, sI1 C.now, sI2 C.now, sI3 C.now, kxi_s, kxr_s, kxv_s, Option.bind_some, if_true, if_false, i10, c189w C, List.nil_append, List.cons_append, List.append_nil, l40, l41, l42, l43, l44, l30, l31, l32, l33, s01, s12, s23, s34, c57 C, eb, h2, c54, w190c C]
    rw [q_41_8]
    simp only [xok C, vok C, sok C.now, xR0 C, xR1 C, xR2 C, xR3 C, xR4 C, xR5 C, xR6 C, xR7 C, xR8 C, xR9 C, sR4 C.now, sR5 C.now, sR6 C.now, sR7 C.now, sR8 C.now, sR9 C.now, sR10 C.now, sI0 C.now, sI1 C.now, sI2 C.now, sI3 C.now, kxi_s, kxr_s, kxv_s, Option.bind_some, if_true, if_false, i10, c189w C, List.nil_append, List.cons_append, List.append_nil, l40, l41, l42, l43, l44, l30, l31, l32, l33, s01, s12, s23, s34, c57 C, eb, h3, c54, w190d C]
    rw [q_41_8]
    simp only [xok C, vok C, sok C.now, xR0 C, xR1 C, xR2 C, xR3 C, xR4 C, xR5 C, xR6 C, xR7 C, xR8 C, xR9 C, sR4 C.now, sR5 C.now, sR6 C.now, sR7 C.now, sR8 C.now, sR9 C.now, sR10 C.now, sI0 C.now, sI1 C.now, sI2 C.now, sI3 C.now, kxi_s, kxr_s, kxv_s, Option.bind_some, if_true, if_false, i10, c189w C, List.nil_append, List.cons_append, List.append_nil, l40, l41, l42, l43, l44, l30, l31, l32, l33, s01, s12, s23, s34]
    rw [show cl 191 [.ref 7, .int 0] (tm W (wv (rwm m [e0, e1, e2, e3]) 13 (vw m 13)) l) = _ from c191w (i := 0) C (by simp) (by simp), kxi_s]
    rfl
  · simp only [q_160, rok M, rR0 M, rR1 M, rR2 M, rR4 M, rR6 M, rR7 M, rR8 M, rR9 M, rR11 M, rR16 M, rR17 M, rR24 M, rR25 M, rR26 M, rR27 M, rR28 M, rR29 M, rR30 M, rR32 M, rR33 M, rR34 M, wl4 M, wl5 M, wl6 M, wl7 M, ruw13 M, ruw12 M, kxi_s, kxr_s, kxv_s, Option.bind_some, if_true, if_false, i10, c71a M, c71b M, c71c M, c71d M]
    rw [e160 M _ _ _ _ (by decide), h0, q_160_17]
    simp only [rok M, rR0 M, rR1 M, rR2 M, rR4 M, rR6 M, rR7 M, rR8 M, rR9 M, rR11 M, rR16 M, rR17 M, rR24 M, rR25 M, rR26 M, rR27 M, rR28 M, rR29 M, rR30 M, rR32 M, rR33 M, rR34 M, wl4 M, wl5 M, wl6 M, wl7 M, ruw13 M, ruw12 M, kxi_s, kxr_s, kxv_s, Option.bind_some, if_true, if_false, i10, c71a M, c71b M, c71c M, c71d M, l40, l41, l42, l43, l44, l30, l31, l32, l33, s01, s12, s23, s34]
    rw [e160 M _ _ _ _ (by decide), h1, q_160_17]
    simp only [rok M, rR0 M, rR1 M, rR2 M, rR4 M, rR6 M, rR7 M, rR8 M, rR9 M, rR11 M, rR16 M, rR17 M, rR24 M, rR25 M, rR26 M, rR27 M, rR28 M, rR29 M, rR30 M, rR32 M, rR33 M, rR34 M, wl4 M, wl5 M, wl6 M, wl7 M, ruw13 M, ruw12 M, kxi_s, kxr_s, kxv_s, Option.bind_some, if_true, if_false, i10, c71a M, c71b M, c71c M, c71d M, l40, l41, l42, l43, l44, l30, l31, l32, l33, s01, s12, s23, s34]
    rw [e160 M _ _ _ _ (by decide), h2, q_160_17]
    simp only [rok M, rR0 M, rR1 M, rR2 M, rR4 M, rR6 M, rR7 M, rR8 M, rR9 M, rR11 M, rR16 M, rR17 M, rR24 M, rR25 M, rR26 M, rR27 M, rR28 M, rR29 M, rR30 M, rR32 M, rR33 M, rR34 M, wl4 M, wl5 M, wl6 M, wl7 M, ruw13 M, ruw12 M, kxi_s, kxr_s, kxv_s, Option.bind_some, if_true, if_false, i10, c71a M, c71b M, c71c M, c71d M, l40, l41, l42, l43, l44, l30, l31, l32, l33, s01, s12, s23, s34]
    rw [e160 M _ _ _ _ (by decide), h3, q_160_17]
    simp only [rok M, rR0 M, rR1 M, rR2 M, rR4 M, rR6 M, rR7 M, rR8 M, rR9 M, rR11 M, rR16 M, rR17 M, rR24 M, rR25 M, rR26 M, rR27 M, rR28 M, rR29 M, rR30 M, rR32 M, rR33 M, rR34 M, wl4 M, wl5 M, wl6 M, wl7 M, ruw13 M, ruw12 M, kxi_s, kxr_s, kxv_s, Option.bind_some, if_true, if_false, i10, c71a M, c71b M, c71c M, c71d M, l40, l41, l42, l43, l44, l30, l31, l32, l33, s01, s12, s23, s34]
    rw [q_160_10]
    simp only [rok M, rR0 M, rR1 M, rR2 M, rR4 M, rR6 M, rR7 M, rR8 M, rR9 M, rR11 M, rR16 M, rR17 M, rR24 M, rR25 M, rR26 M, rR27 M, rR28 M, rR29 M, rR30 M, rR32 M, rR33 M, rR34 M, wl4 M, wl5 M, wl6 M, wl7 M, ruw13 M, ruw12 M, kxi_s, kxr_s, kxv_s, Option.bind_some, if_true, if_false, i10, c71a M, c71b M, c71c M, c71d M, l40, l41, l42, l43, l44, l30, l31, l32, l33, s01, s12, s23, s34]
    rw [show ia_ldL _ 48 0 = _ from rl48 (m := _) (l := llm l [e0.toInt64, e1.toInt64, e2.toInt64, e3.toInt64]) M (i := 0) (by decide), Option.bind_some]
    have : llm l [e0.toInt64, e1.toInt64, e2.toInt64, e3.toInt64] 48 0 = e0.toInt64 := by
      unfold llm
      rw [if_pos ⟨rfl, by simp⟩]
      rfl
    rw [this]
    simp
end QRL

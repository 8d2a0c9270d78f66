section TXO
variable {W : tm_W} {m : Nat → Nat → Int32} {l : Nat → Nat → Int64} {f g : Nat → Int32}
/-! PLAY: masks -/
def mkS (C : Nat → Prop) [DecidablePred C] (p : Nat) (s : Int32) : Int32 := if C p then s ||| (1 <<< (nI p &&& 31)) else s
theorem mk_or (C D : Nat → Prop) [DecidablePred C] [DecidablePred D] : ∀ (n i : Nat) (x y : Int32), fo (mkS C) n i x ||| fo (mkS D) n i y = fo (mkS fun p => C p ∨ D p) n i (x ||| y)
  | 0, i, x, y => rfl
  | n + 1, i, x, y => by
    rw [fo, fo, fo, mk_or C D n (i + 1)]
    refine congrArg (fo (mkS fun p => C p ∨ D p) n (i + 1)) ?_
    unfold mkS
    by_cases hc : C i
    · by_cases hd : D i
      · rw [if_pos hc, if_pos hd, if_pos (Or.inl hc)]
        apply Int32.toBitVec_inj.mp
        simp only [Int32.toBitVec_or]
        apply BitVec.eq_of_getLsbD_eq
        intro k hk
        simp only [BitVec.getLsbD_or]
        cases x.toBitVec.getLsbD k <;> cases y.toBitVec.getLsbD k <;> cases ((1 : Int32) <<< (nI i &&& 31)).toBitVec.getLsbD k <;> rfl
      · rw [if_pos hc, if_neg hd, if_pos (Or.inl hc), Int32.or_assoc, Int32.or_comm _ y, ← Int32.or_assoc]
    · by_cases hd : D i
      · rw [if_neg hc, if_pos hd, if_pos (Or.inr hd), Int32.or_assoc]
      · rw [if_neg hc, if_neg hd, if_neg (fun q => q.elim hc hd)]
theorem swr_in : ∀ p, p < 12 → ∀ x, x < 2 ^ p → swr (nI (x + 2 ^ p)) = swr (nI x) + 1 := by decide +kernel
theorem or_2p {a i : Nat} (h : a < 2 ^ i) : a ||| 2 ^ i = a + 2 ^ i := by
  have := Nat.two_pow_add_eq_or_of_lt h 1
  rw [Nat.mul_one] at this
  rw [Nat.or_comm, ← this, Nat.add_comm]
theorem mk_bits (C : Nat → Prop) [DecidablePred C] : ∀ (n i a c : Nat), i + n ≤ 12 → a < 2 ^ i → swr (nI a) = nI c → ∃ k, k < 2 ^ (i + n) ∧ fo (mkS C) n i (nI a) = nI k ∧ (∀ p, p < i → k.testBit p = a.testBit p) ∧ (∀ p, i ≤ p → p < i + n → (k.testBit p = true ↔ C p)) ∧ swr (nI k) = nI (fo (fun p s => if C p then s + 1 else s) n i c)
  | 0, i, a, c, h, ha, hc => ⟨a, ha, rfl, fun _ _ => rfl, fun p h1 h2 => by omega, hc⟩
  | n + 1, i, a, c, h, ha, hc => by
    have e2 : 2 ^ (i + 1) = 2 ^ i + 2 ^ i := by rw [Nat.pow_succ]; omega
    rw [fo, fo]
    by_cases hC : C i
    · have e1 : mkS C i (nI a) = nI (a + 2 ^ i) := by
        unfold mkS
        rw [if_pos hC, bit_all i (by omega), or_nI, or_2p ha]
      rw [e1, if_pos hC]
      obtain ⟨k, k1, k2, k3, k4, k5⟩ := mk_bits C n (i + 1) (a + 2 ^ i) (c + 1) (by omega) (by omega) (by rw [swr_in i (by omega) a ha, hc, nI_1])
      rw [show i + 1 + n = i + (n + 1) by omega] at k1
      have tb : ∀ p, (a + 2 ^ i).testBit p = (a.testBit p || decide (i = p)) := fun p => by
        rw [← or_2p ha, Nat.testBit_or, Nat.testBit_two_pow]
      refine ⟨k, k1, k2, fun p hp => ?_, fun p h1 h2 => ?_, k5⟩
      · rw [k3 p (by omega), tb, decide_eq_false (by omega), Bool.or_false]
      · by_cases hp : p = i
        · subst hp
          rw [k3 p (by omega), tb, decide_eq_true rfl, Bool.or_true]
          exact ⟨fun _ => hC, fun _ => rfl⟩
        · exact k4 p (by omega) (by omega)
    · have e1 : mkS C i (nI a) = nI a := if_neg hC
      rw [e1, if_neg hC]
      obtain ⟨k, k1, k2, k3, k4, k5⟩ := mk_bits C n (i + 1) a c (by omega) (by omega) hc
      rw [show i + 1 + n = i + (n + 1) by omega] at k1
      refine ⟨k, k1, k2, fun p hp => k3 p (by omega), fun p h1 h2 => ?_, k5⟩
      by_cases hp : p = i
      · subst hp
        rw [k3 p (by omega), Nat.testBit_lt_two_pow ha]
        exact ⟨fun q => (by cases q), fun q => absurd q hC⟩
      · exact k4 p (by omega) (by omega)
/-! who serves, told ahead -/
abbrev C0 (f0 : Nat → Int32) (c a b : Int32) (N p : Nat) : Prop := (f0 p = a ∨ f0 p = b) ∧ ¬ fbr (bw f0) (nI p) c N 0 = -1
def bgS (f0 : Nat → Int32) (c a b : Int32) (N p : Nat) (s : SV) : SV := if C0 f0 c a b N p then sv1 c N p s else s
theorem sv1_fbr {c : Int32} {N p p' : Nat} {s : SV} (hN : N ≤ 100) (hp : p < 2 ^ 31) (hp' : p' < 2 ^ 31) (hne : p' ≠ p) : fbr (bw (sv1 c N p s).1) (nI p') c N 0 = fbr (bw s.1) (nI p') c N 0 := fbr_cong _ c N 0 fun b _ hb => (sv1_oth hN hp hp' hne b (by omega)).1
theorem beg_eq {f0 : Nat → Int32} {c a b : Int32} {N : Nat} (hN : N ≤ 100) : ∀ (n i : Nat) (s : SV) (k : Nat) (o : Int32), i + n ≤ 12 → (∀ p, p < 12 → s.1 p = f0 p) → (∀ p, i ≤ p → p < 12 → fbr (bw s.1) (nI p) c N 0 = fbr (bw f0) (nI p) c N 0) → fo (svS c a b N) n i (s, k, o) = (fo (bgS f0 c a b N) n i s, fo (fun p s => if C0 f0 c a b N p then s + 1 else s) n i k, fo (mkS (C0 f0 c a b N)) n i o)
  | 0, i, s, k, o, _, _, _ => rfl
  | n + 1, i, s, k, o, h, h1, h2 => by
    rw [fo, fo, fo, fo]
    by_cases q : C0 f0 c a b N i
    · have e1 : svS c a b N i (s, k, o) = (sv1 c N i s, k + 1, o ||| (1 <<< (nI i &&& 31))) := if_pos (by
        show (s.1 i = a ∨ s.1 i = b) ∧ ¬ fbr (bw s.1) (nI i) c N 0 = -1
        rw [h1 i (by omega), h2 i (by omega) (by omega)]
        exact q)
      have e2 : bgS f0 c a b N i s = sv1 c N i s := if_pos q
      have e3 : mkS (C0 f0 c a b N) i o = o ||| (1 <<< (nI i &&& 31)) := if_pos q
      rw [e1, e2, e3, if_pos q]
      exact beg_eq hN n (i + 1) _ _ _ (by omega) (fun p hp => by rw [sv1_lo hN (by omega)]; exact h1 p hp) (fun p p1 p2 => by rw [sv1_fbr hN (by omega) (by omega) (by omega)]; exact h2 p (by omega) p2)
    · have e1 : svS c a b N i (s, k, o) = (s, k, o) := if_neg (by
        show ¬ ((s.1 i = a ∨ s.1 i = b) ∧ ¬ fbr (bw s.1) (nI i) c N 0 = -1)
        rw [h1 i (by omega), h2 i (by omega) (by omega)]
        exact q)
      have e2 : bgS f0 c a b N i s = s := if_neg q
      have e3 : mkS (C0 f0 c a b N) i o = o := if_neg q
      rw [e1, e2, e3, if_neg q]
      exact beg_eq hN n (i + 1) _ _ _ (by omega) h1 (fun p p1 p2 => h2 p (by omega) p2)
/-- SR, VR behind one who serves -/
theorem SR_sv {P N E b : Nat} (S : SR f g P N E) (hb : b < N) : SR (tSv f E b) (tSv g E b) P N (eSv g E b) := by
  have n100 := S.N100
  have e2 : f (304 + (8 * b + 2)) = g (304 + (8 * b + 2)) := S.ban (by omega)
  have e7 : f (304 + (8 * b + 7)) = g (304 + (8 * b + 7)) := S.ban (by omega)
  have S1 : SR (tSs f b) (tSs g b) P N E := by
    unfold tSs
    rw [e2, e7]
    exact SR_bu (SR_bu S hb (by decide) _) hb (by decide) _
  unfold tSv eSv
  rw [e2]
  split
  · exact SR_en (SR_en S1 _ _) _ _
  · exact SR_en S1 _ _
theorem bOK_cong {g g' : Nat → Int32} {P b : Nat} (h : ∀ j, j < 6 → g' (304 + (8 * b + j)) = g (304 + (8 * b + j))) (k : bOK g P b) : bOK g' P b := by
  unfold bOK at k ⊢
  rw [show g' (304 + 8 * b) = g (304 + 8 * b) from h 0 (by decide), h 1 (by decide), h 2 (by decide), h 4 (by decide), h 5 (by decide)]
  exact k
theorem VR_sv {P N E b k : Nat} (V : VR g P N E) (hP : P ≤ 12) (hN : N ≤ 100) (hb : b < N) (hk : g (304 + (8 * b + 2)) = nI k) (h1 : 1 ≤ k) (h2 : k ≤ 12) : VR (tSv g E b) P N (eSv g E b) := by
  have V1 : VR (tSs g b) P N E := by
    unfold tSs
    rw [hk, show nI k - 1 = nI (k - 1) from pk_sub (b := 1) h1]
    have bo := bOK_2 (n := k - 1) (V.2.1 b hb) hk (by omega) (by omega)
    have Va := VR_upd V (j := 2) (by decide) (show b < 100 by omega) hP (nI (k - 1)) (Or.inl bo)
    refine VR_upd Va (j := 7) (by decide) (show b < 100 by omega) hP _ (Or.inl ?_)
    exact bOK_cong (fun j hj => pk_un (by omega)) (Va.2.1 b hb)
  unfold tSv eSv
  split
  · exact VR_en (w := 2) (VR_en (w := 1) V1 (by decide) hb hP hN) (by decide) hb hP hN
  · exact VR_en (w := 1) V1 (by decide) hb hP hN
theorem CB_sv {B E b : Nat} (h : CB g B) : CB (tSv g E b) B := CB_lo h fun i hi => tSv_lo _ _ _ (Or.inl (by omega)) (by omega) (by omega)
theorem brs_left {B : Nat → Int32} {b : Nat} {p c : Int32} (h : brs B b p c = true) : ¬ B (8 * b + 2) ≤ 0 := by
  unfold brs at h
  simp only [Bool.and_eq_true, decide_eq_true_eq] at h
  exact h.1.1.2
theorem bg_SR {f0 : Nat → Int32} {c a b : Int32} {P N B : Nat} : ∀ (n i : Nat) (s t : SV), SR s.1 t.1 P N s.2 → s.2 = t.2 → VR t.1 P N t.2 → CB t.1 B → SR (fo (bgS f0 c a b N) n i s).1 (fo (bgS f0 c a b N) n i t).1 P N (fo (bgS f0 c a b N) n i s).2 ∧ (fo (bgS f0 c a b N) n i s).2 = (fo (bgS f0 c a b N) n i t).2 ∧ VR (fo (bgS f0 c a b N) n i t).1 P N (fo (bgS f0 c a b N) n i t).2 ∧ CB (fo (bgS f0 c a b N) n i t).1 B ∧ (fo (bgS f0 c a b N) n i t).2 ≤ t.2 + 2 * n
  | 0, i, s, t, S, e, V, h => ⟨S, e, V, h, by show t.2 ≤ t.2 + 2 * 0; omega⟩
  | n + 1, i, s, t, S, e, V, h => by
    rw [fo, fo]
    have hN := S.N100
    have key : SR (bgS f0 c a b N i s).1 (bgS f0 c a b N i t).1 P N (bgS f0 c a b N i s).2 ∧ (bgS f0 c a b N i s).2 = (bgS f0 c a b N i t).2 ∧ VR (bgS f0 c a b N i t).1 P N (bgS f0 c a b N i t).2 ∧ CB (bgS f0 c a b N i t).1 B ∧ (bgS f0 c a b N i t).2 ≤ t.2 + 2 := by
      unfold bgS
      split
      · unfold sv1
        rw [S.fbr]
        by_cases hf : fbr (bw t.1) (nI i) c N 0 = -1
        · rw [if_pos hf, if_pos hf]
          exact ⟨S, e, V, h, by omega⟩
        · rw [if_neg hf, if_neg hf]
          obtain ⟨q1, q2, q3⟩ := fbi_e hN hf
          have ef : fbi s.1 i c N = fbi t.1 i c N := by
            unfold fbi
            rw [S.fbr]
          obtain ⟨k, k1, k2⟩ := lf_v V q2
          have k3 := brs_left q3
          have k5 : bw t.1 (8 * fbi t.1 i c N + 2) = nI k := k2
          rw [k5, nle0 (by omega)] at k3
          have k4 : 1 ≤ k := by omega
          clear k3 k5
          rw [ef]
          have S' := SR_sv S q2
          have ee : eSv s.1 s.2 (fbi t.1 i c N) = eSv t.1 t.2 (fbi t.1 i c N) := by
            unfold eSv
            rw [S.ban (show 8 * fbi t.1 i c N + 2 < 8 * N by omega), e]
          refine ⟨?_, ee, VR_sv V S.P12 hN q2 k2 k4 k1, CB_sv h, (eSv_le _ _ _).1⟩
          rw [ee]
          rw [e] at S' ⊢
          exact S'
      · exact ⟨S, e, V, h, by omega⟩
    obtain ⟨a1, a2, a3, a4, a5⟩ := key
    obtain ⟨b1, b2, b3, b4, b5⟩ := bg_SR (f0 := f0) (c := c) (a := a) (b := b) (B := B) n (i + 1) _ _ a1 a2 a3 a4
    exact ⟨b1, b2, b3, b4, by omega⟩
/-! the match of the component: its object is q -/
def isQ (W : tm_W) (q : Nat) : Prop := tm_sh W q = .inl (7, [some 21, some 9, none, none, none, none, none, none])
theorem mq_0 {q : Nat} (Q : isQ W q) : ia_gR (tm W m l) 7 q 0 = some 21 := tm_gR Q rfl
theorem mq_1 {q : Nat} (Q : isQ W q) : ia_gR (tm W m l) 7 q 1 = some 9 := tm_gR Q rfl
theorem mq_g2 {q : Nat} (Q : isQ W q) : ia_gI (tm W m l) 7 q 2 = some (m q 2) := tm_gI Q rfl
theorem mq_g3 {q : Nat} (Q : isQ W q) : ia_gI (tm W m l) 7 q 3 = some (m q 3) := tm_gI Q rfl
theorem mq_g4 {q : Nat} (Q : isQ W q) : ia_gI (tm W m l) 7 q 4 = some (m q 4) := tm_gI Q rfl
theorem mq_g5 {q : Nat} (Q : isQ W q) : ia_gI (tm W m l) 7 q 5 = some (m q 5) := tm_gI Q rfl
theorem mq_g6 {q : Nat} (Q : isQ W q) : ia_gI (tm W m l) 7 q 6 = some (m q 6) := tm_gI Q rfl
theorem mq_g7 {q : Nat} (Q : isQ W q) : ia_gI (tm W m l) 7 q 7 = some (m q 7) := tm_gI Q rfl
theorem mq_p5 {q : Nat} (Q : isQ W q) (v : Int32) : ia_pF (tm W m l) 7 q 5 (.int v) = some (tm W (m2 m q 5 v) l) := tm_pI Q rfl
theorem mq_p6 {q : Nat} (Q : isQ W q) (v : Int32) : ia_pF (tm W m l) 7 q 6 (.int v) = some (tm W (m2 m q 6 v) l) := tm_pI Q rfl
theorem mq_p7 {q : Nat} (Q : isQ W q) (v : Int32) : ia_pF (tm W m l) 7 q 7 (.int v) = some (tm W (m2 m q 7 v) l) := tm_pI Q rfl
theorem mq_ok {q : Nat} (Q : isQ W q) (as : List Value) : ia_ok (tm W m l) 7 (.ref q :: as) = true := tm_ok Q (by decide)
theorem wv_m2 (Y : Nat → Nat → Int32) (f : Nat → Int32) {q k : Nat} (v : Int32) (hq : 62 ≤ q) : m2 (wv Y 21 f) q k v = wv (m2 Y q k v) 21 f := by
  funext a i
  by_cases ha : a = q
  · subst ha
    rw [wv21 _ _ (by omega)]
    by_cases hi : i = k
    · subst hi
      rw [m2_s, m2_s]
    · rw [m2_k _ _ _ _ hi, m2_k _ _ _ _ hi, wv21 _ _ (by omega)]
  · rw [m2_a _ _ _ _ ha]
    by_cases h : 21 ≤ a ∧ a < 29
    · unfold wv
      rw [m2_r _ _ _ ha]
    · rw [wv21 _ _ (by omega), wv21 _ _ (by omega), m2_r _ _ _ ha]
end TXO

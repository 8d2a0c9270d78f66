section TXP
variable {W : tm_W} {m : Nat → Nat → Int32} {l : Nat → Nat → Int64} {f g : Nat → Int32}
/-! PLAY: a match begins, a card is shown -/
def mtQ (Y : Nat → Nat → Int32) (q : Nat) (o ca se : Int32) : Nat → Nat → Int32 := m2 (m2 (m2 Y q 5 o) q 6 ca) q 7 se
theorem mtQ_5 (Y : Nat → Nat → Int32) (q : Nat) (o ca se : Int32) : mtQ Y q o ca se q 5 = o := by
  unfold mtQ
  rw [m2_k _ _ _ _ (by decide), m2_k _ _ _ _ (by decide), m2_s]
theorem mtQ_6 (Y : Nat → Nat → Int32) (q : Nat) (o ca se : Int32) : mtQ Y q o ca se q 6 = ca := by
  unfold mtQ
  rw [m2_k _ _ _ _ (by decide), m2_s]
theorem mtQ_7 (Y : Nat → Nat → Int32) (q : Nat) (o ca se : Int32) : mtQ Y q o ca se q 7 = se := m2_s _ _ _ _
theorem mtQ_k (Y : Nat → Nat → Int32) (q : Nat) (o ca se : Int32) {k : Nat} (hk : k < 5) : mtQ Y q o ca se q k = Y q k := by
  unfold mtQ
  rw [m2_k _ _ _ _ (by omega), m2_k _ _ _ _ (by omega), m2_k _ _ _ _ (by omega)]
theorem mtQ_o (Y : Nat → Nat → Int32) {q : Nat} (o ca se : Int32) {x : Nat} (h : x ≠ q) : mtQ Y q o ca se x = Y x := by
  unfold mtQ
  rw [m2_r _ _ _ h, m2_r _ _ _ h, m2_r _ _ _ h]
theorem mtQ_s5 (Y : Nat → Nat → Int32) (q : Nat) (o ca se v : Int32) : m2 (mtQ Y q o ca se) q 5 v = mtQ Y q v ca se := by
  unfold mtQ
  rw [m2_c (m2 (m2 Y q 5 o) q 6 ca) _ _ (by omega), m2_c (m2 Y q 5 o) _ _ (by omega), m2_m2]
theorem mtQ_s6 (Y : Nat → Nat → Int32) (q : Nat) (o ca se v : Int32) : m2 (mtQ Y q o ca se) q 6 v = mtQ Y q o v se := by
  unfold mtQ
  rw [m2_c (m2 (m2 Y q 5 o) q 6 ca) _ _ (by omega), m2_m2]
theorem mtQ_s7 (Y : Nat → Nat → Int32) (q : Nat) (o ca se v : Int32) : m2 (mtQ Y q o ca se) q 7 v = mtQ Y q o ca v := m2_m2 _ _ _ _ _
/-- a match that is played: cup c, teams a and b -/
def isP (Y : Nat → Nat → Int32) (q c a b : Nat) : Prop := Y q 2 = nI c ∧ Y q 3 = nI a ∧ Y q 4 = nI b
section QS
variable {q c a b : Nat} {Y : Nat → Nat → Int32} {o ca se : Int32}
theorem z_2 (Q : isQ W q) (hq : 62 ≤ q) (B : isP Y q c a b) : ia_gI (tm W (wv (mtQ Y q o ca se) 21 f) l) 7 q 2 = some (nI c) := by rw [mq_g2 Q, wv21 _ _ (by omega), mtQ_k _ _ _ _ _ (by decide), B.1]
theorem z_3 (Q : isQ W q) (hq : 62 ≤ q) (B : isP Y q c a b) : ia_gI (tm W (wv (mtQ Y q o ca se) 21 f) l) 7 q 3 = some (nI a) := by rw [mq_g3 Q, wv21 _ _ (by omega), mtQ_k _ _ _ _ _ (by decide), B.2.1]
theorem z_4 (Q : isQ W q) (hq : 62 ≤ q) (B : isP Y q c a b) : ia_gI (tm W (wv (mtQ Y q o ca se) 21 f) l) 7 q 4 = some (nI b) := by rw [mq_g4 Q, wv21 _ _ (by omega), mtQ_k _ _ _ _ _ (by decide), B.2.2]
theorem z_5 (Q : isQ W q) (hq : 62 ≤ q) : ia_gI (tm W (wv (mtQ Y q o ca se) 21 f) l) 7 q 5 = some o := by rw [mq_g5 Q, wv21 _ _ (by omega), mtQ_5]
theorem z_6 (Q : isQ W q) (hq : 62 ≤ q) : ia_gI (tm W (wv (mtQ Y q o ca se) 21 f) l) 7 q 6 = some ca := by rw [mq_g6 Q, wv21 _ _ (by omega), mtQ_6]
theorem z_7 (Q : isQ W q) (hq : 62 ≤ q) : ia_gI (tm W (wv (mtQ Y q o ca se) 21 f) l) 7 q 7 = some se := by rw [mq_g7 Q, wv21 _ _ (by omega), mtQ_7]
theorem z_p5 (Q : isQ W q) (hq : 62 ≤ q) (v : Int32) : ia_pF (tm W (wv (mtQ Y q o ca se) 21 f) l) 7 q 5 (.int v) = some (tm W (wv (mtQ Y q v ca se) 21 f) l) := by rw [mq_p5 Q, wv_m2 _ _ _ hq, mtQ_s5]
theorem z_p6 (Q : isQ W q) (hq : 62 ≤ q) (v : Int32) : ia_pF (tm W (wv (mtQ Y q o ca se) 21 f) l) 7 q 6 (.int v) = some (tm W (wv (mtQ Y q o v se) 21 f) l) := by rw [mq_p6 Q, wv_m2 _ _ _ hq, mtQ_s6]
theorem z_p7 (Q : isQ W q) (hq : 62 ≤ q) (v : Int32) : ia_pF (tm W (wv (mtQ Y q o ca se) 21 f) l) 7 q 7 (.int v) = some (tm W (wv (mtQ Y q o ca v) 21 f) l) := by rw [mq_p7 Q, wv_m2 _ _ _ hq, mtQ_s7]
end QS
theorem fo_mk {C D : Nat → Prop} [DecidablePred C] [DecidablePred D] (h : ∀ p, C p ↔ D p) (n i : Nat) (x : Int32) : fo (mkS C) n i x = fo (mkS D) n i x := by
  refine fo_cong n i x fun p s _ _ => ?_
  unfold mkS
  by_cases q : C p
  · rw [if_pos q, if_pos ((h p).mp q)]
  · rw [if_neg q, if_neg (fun z => q ((h p).mpr z))]
theorem d183 (C : isC W) {P N q c a b k : Nat} {Y : Nat → Nat → Int32} {ca se : Int32} {f0 : Nat → Int32} (Q : isQ W q) (hq : 62 ≤ q) (B : isP Y q c a b) (hP2 : P ≤ 12) (hN2 : N ≤ 100) (hk : k < 4096) (hb : ∀ p, p < P → (k.testBit p = true ↔ C0 f0 (nI c) (nI a) (nI b) N p)) : ∀ (n i : Nat) (s : SV), i + n = P → stP P N s → s.2 + 2 * n + 1 < 2 ^ 30 → dn 183 26 [some (.ref q), some (.int (nI i))] [] (tm W (wv (mtQ Y q (nI k) ca se) 21 s.1) l) = some (some (.int (swr (nI k))), tm W (wv (mtQ Y q (nI k) ca se) 21 (fo (bgS f0 (nI c) (nI a) (nI b) N) n i s).1) l)
  | 0, i, s, h, hs, hE => by
    rw [q_183_26]
    simp only [mq_0 Q, Option.bind_some, sI0 C.tho, hs.1, eq_true (nI_le (show P ≤ i by omega) (by omega)), if_true, z_5 Q hq, c257, kxi_s]
    rfl
  | n + 1, i, s, h, hs, hE => by
    have ih := fun s' => d183 C (ca := ca) (se := se) Q hq B hP2 hN2 hk hb n (i + 1) s' (by omega)
    have hE1 := (sv1_E (nI c) N i s).1
    rw [q_183_26, fo]
    simp only [mq_0 Q, Option.bind_some, sI0 C.tho, hs.1, eq_false (nI_ge (show i < P by omega) (by omega)), if_false, z_5 Q hq, c55, bitC hk (show i < 12 by omega), kxi_s, nI_1]
    by_cases ht : k.testBit i = true
    · have e1 : bgS f0 (nI c) (nI a) (nI b) N i s = sv1 (nI c) N i s := if_pos ((hb i (by omega)).mp ht)
      rw [e1]
      simp only [ht, Bool.true_eq_false, if_false, i10, Option.bind_some, z_2 Q hq B, sok C.tho, if_true, k231 C.tho hs hN2 (show s.2 + 1 < 2 ^ 30 by omega), kxi_s]
      exact ih _ (sv1_st hN2 hs) (by omega)
    · have e1 : bgS f0 (nI c) (nI a) (nI b) N i s = s := if_neg (fun z => ht ((hb i (by omega)).mpr z))
      have e2 : k.testBit i = false := by simpa using ht
      rw [e1]
      simp only [e2, if_true]
      exact ih _ hs (by omega)
theorem c183 (C : isC W) {P N q c a b : Nat} {Y : Nat → Nat → Int32} {o ca se : Int32} {s : SV} (Q : isQ W q) (hq : 62 ≤ q) (B : isP Y q c a b) (hP2 : P ≤ 12) (hN2 : N ≤ 100) (hs : stP P N s) (hE : s.2 + 25 < 2 ^ 30) : ∃ k, k < 4096 ∧ fo (mkS (C0 (upd s.1 1106 (s.1 1106 + 1)) (nI c) (nI a) (nI b) N)) P 0 0 = nI k ∧ (∀ p, p < P → (k.testBit p = true ↔ C0 (upd s.1 1106 (s.1 1106 + 1)) (nI c) (nI a) (nI b) N p)) ∧ swr (nI k) = nI (fo (fun p s' => if C0 (upd s.1 1106 (s.1 1106 + 1)) (nI c) (nI a) (nI b) N p then s' + 1 else s') P 0 0) ∧ cl 183 [.ref q] (tm W (wv (mtQ Y q o ca se) 21 s.1) l) = some (some (.int (swr (nI k))), tm W (wv (mtQ Y q (nI k) ca se) 21 (fo (bgS (upd s.1 1106 (s.1 1106 + 1)) (nI c) (nI a) (nI b) N) P 0 (upd s.1 1106 (s.1 1106 + 1), s.2)).1) l) := by
  obtain ⟨k, k1, k2, -, k4, k5⟩ := mk_bits (C0 (upd s.1 1106 (s.1 1106 + 1)) (nI c) (nI a) (nI b) N) P 0 0 0 (by omega) (by decide) (by decide)
  have hk : k < 4096 := Nat.lt_of_lt_of_le k1 (by rw [Nat.zero_add]; exact Nat.pow_le_pow_right (n := 2) (by decide) hP2)
  have hb : ∀ p, p < P → (k.testBit p = true ↔ C0 (upd s.1 1106 (s.1 1106 + 1)) (nI c) (nI a) (nI b) N p) := fun p hp => k4 p (by omega) (by omega)
  refine ⟨k, hk, k2, hb, k5, ?_⟩
  have hs1 : stP P N (upd s.1 1106 (s.1 1106 + 1), s.2) := stP_upd hs _ (by decide)
  have e226 := fun t : Nat => c226 (m := mtQ Y q o ca se) (l := l) C.tho (f := upd s.1 1106 (s.1 1106 + 1)) (P := P) (N := N) hs1.1 hP2 hs1.2.1 hN2 (nI t) (nI c)
  have eo : fo (fun p x => if upd s.1 1106 (s.1 1106 + 1) p = nI a ∧ ¬ fbr (bw (upd s.1 1106 (s.1 1106 + 1))) (nI p) (nI c) N 0 = -1 then x ||| (1 <<< (nI p &&& 31)) else x) P 0 0 ||| fo (fun p x => if upd s.1 1106 (s.1 1106 + 1) p = nI b ∧ ¬ fbr (bw (upd s.1 1106 (s.1 1106 + 1))) (nI p) (nI c) N 0 = -1 then x ||| (1 <<< (nI p &&& 31)) else x) P 0 0 = nI k := by
    have h1 := mk_or (fun p => upd s.1 1106 (s.1 1106 + 1) p = nI a ∧ ¬ fbr (bw (upd s.1 1106 (s.1 1106 + 1))) (nI p) (nI c) N 0 = -1) (fun p => upd s.1 1106 (s.1 1106 + 1) p = nI b ∧ ¬ fbr (bw (upd s.1 1106 (s.1 1106 + 1))) (nI p) (nI c) N 0 = -1) P 0 0 0
    refine Eq.trans h1 ?_
    rw [or0, fo_mk (D := C0 (upd s.1 1106 (s.1 1106 + 1)) (nI c) (nI a) (nI b) N) (fun p => ⟨fun z => z.elim (fun z => ⟨Or.inl z.1, z.2⟩) (fun z => ⟨Or.inr z.1, z.2⟩), fun z => z.1.elim (fun y => Or.inl ⟨y, z.2⟩) (fun y => Or.inr ⟨y, z.2⟩)⟩)]
    exact k2
  have d := d183 (l := l) C (ca := ca) (se := se) Q hq B hP2 hN2 hk hb P 0 (upd s.1 1106 (s.1 1106 + 1), s.2) (by omega) hs1 (by show s.2 + 2 * P + 1 < 2 ^ 30; omega)
  rw [q_183]
  simp only [mq_0 Q, Option.bind_some, sI1 C.tho, sp1 C.tho, z_3 Q hq B, z_4 Q hq B, z_2 Q hq B, sok C.tho, if_true, e226, kxi_s, eo, z_p5 Q hq]
  exact d
/-! a card -/
abbrev SH : Type := (Nat → Int32) × Nat × Nat × Nat × Nat
def inc (f : Nat → Int32) (i : Nat) (v : Int32) : Nat → Int32 := upd f i (f i + v)
theorem inc_o {f : Nat → Int32} {i k : Nat} {v : Int32} (h : k ≠ i) : inc f i v k = f k := pk_un h
theorem inc_s {f : Nat → Int32} {i : Nat} {v : Int32} : inc f i v i = f i + v := pk_us
def cdF (f : Nat → Int32) (p t w : Nat) : Nat → Int32 := inc (inc f (72 + (3 * p + w)) 1) (60 + (3 * t + w)) 1
theorem cdF_o {p t w k : Nat} (hp : p < 12) (ht : t < 4) (hw : w < 3) (hk : k < 60 ∨ 108 ≤ k) : cdF f p t w k = f k := by
  unfold cdF
  rw [inc_o (by omega), inc_o (by omega)]
def shLen (bn : Int32 → Nat) (red c kind p : Nat) (s : SH) : Nat := if kind = 1 then red else if s.2.2.2.1.testBit p = true then 1 else bn (s.1 (12 + (4 * p + c)) + 1)
def shF (c t kind p ca : Nat) (f : Nat → Int32) : Nat → Int32 := if kind = 1 then cdF (cdF f p t kind) p t 2 else if ca.testBit p = true then inc (cdF (cdF f p t kind) p t 2) (12 + (4 * p + c)) (-1) else inc (cdF f p t kind) (12 + (4 * p + c)) 1
def shT (al : Int32) (c t kind p len : Nat) (s : SH) : SH := (if len = 0 then shF c t kind p s.2.2.2.1 s.1 else tBn (shF c t kind p s.2.2.2.1 s.1) s.2.1 s.2.2.1 (nI p) (nI c) (nI len) al, if len = 0 then s.2.1 else s.2.1 + 1, if len = 0 then s.2.2.1 else s.2.2.1 + 1, if kind = 1 then s.2.2.2.1 else s.2.2.2.1 ||| 2 ^ p, if kind = 1 ∨ s.2.2.2.1.testBit p = true then s.2.2.2.2 ||| 2 ^ p else s.2.2.2.2)
def shC (o : Nat) (a b : Int32) (bn : Int32 → Nat) (red c kind p : Nat) (s : SH) : Int32 := if s.1 p = a ∨ s.1 p = b then (if (o ||| s.2.2.2.2).testBit p = true then -3 else if 0 < shLen bn red c kind p s ∧ s.2.2.1 = 100 then -4 else 0) else -2
theorem c214 (C : isC W) {p t w : Nat} (hp : p < 12) (ht : t < 4) (hw : w < 3) (hf : f p = nI t) : cl 214 [.ref 21, .int (nI p), .int (nI w)] (tm W (wv m 21 f) l) = some (none, tm W (wv m 21 (cdF f p t w)) l) := by
  have e1 : upd f (72 + (3 * p + w)) (f (72 + (3 * p + w)) + 1) p = nI t := by rw [pk_un (by omega)]; exact hf
  have e2 : upd f (72 + (3 * p + w)) (f (72 + (3 * p + w)) + 1) (60 + (3 * t + w)) = f (60 + (3 * t + w)) := pk_un (by omega)
  rw [q_214]
  simp only [sR7 C.tho, sR8 C.tho, sR4 C.tho, Option.bind_some, ix3, sl4 C.tho (show 3 * p + w < 36 by omega), ss4 C.tho (show 3 * p + w < 36 by omega), sl1 C.tho hp, e1, sl5 C.tho (show 3 * t + w < 12 by omega), ss5 C.tho (show 3 * t + w < 12 by omega), e2]
  unfold cdF inc
  rw [e2]
end TXP

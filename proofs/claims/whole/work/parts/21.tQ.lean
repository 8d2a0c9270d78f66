section TXQ
variable {W : tm_W} {m : Nat → Nat → Int32} {l : Nat → Nat → Int64} {f g : Nat → Int32}
/-! PLAY: a card is shown, on both sides -/
/-- the rules of a cup, as the component has them -/
def rlC (Y : Nat → Nat → Int32) (c S red : Nat) (al : Int32) (bn : Int32 → Nat) : Prop := c < 4 ∧ S ≤ 4 ∧ Y 10 (12 * c + 3) = nI S ∧ Y 10 (12 * c + 1) = nI red ∧ Y 10 (12 * c) = al ∧ (1 ≤ red ∧ red ≤ 9) ∧ ∀ v, bnC Y c S v = nI (bn v) ∧ bn v ≤ 9
def rlR (X : Nat → Nat → Int32) (c S red : Nat) (al : Int32) (bn : Int32 → Nat) : Prop := c < 4 ∧ S ≤ 4 ∧ X 44 (4 * c + 3) = nI S ∧ X 44 (4 * c + 1) = nI red ∧ X 44 (4 * c) = al ∧ (1 ≤ red ∧ red ≤ 9) ∧ ∀ v, bnR X c S v = nI (bn v) ∧ bn v ≤ 9
theorem l_01 : (nI 0 = (1 : Int32)) = False := by decide
theorem l_11 : (nI 1 = (1 : Int32)) = True := by decide
theorem l_00 : (nI 0 = (0 : Int32)) = True := by decide
theorem l_10 : (nI 1 = (0 : Int32)) = False := by decide
theorem u9 (C : isC W) (as : List Value) : ia_ok (tm W m l) 4 (.ref 9 :: as) = true := tm_ok C.t9 (by decide)
theorem bitO {p : Nat} (hp : p < 12) (x : Nat) : nI x ||| ((1 : Int32) <<< (nI p &&& 31)) = nI (x ||| 2 ^ p) := by rw [bit_all p (by omega), or_nI]
theorem or_lt12 {x p : Nat} (hx : x < 4096) (hp : p < 12) : x ||| 2 ^ p < 4096 := Nat.or_lt_two_pow (n := 12) hx (Nat.pow_lt_pow_right (by decide) (by omega))
section CD
variable {q c a b S red : Nat} {al : Int32} {bn : Int32 → Nat} {Y : Nat → Nat → Int32} {o ca se : Nat}
theorem zY {x : Nat} (hq : 62 ≤ q) (hx : x < 21) (o ca se : Int32) (f : Nat → Int32) : wv (mtQ Y q o ca se) 21 f x = Y x := by rw [wv21 _ _ (by omega), mtQ_o _ _ _ _ (by omega)]
theorem c201z (C : isC W) (hq : 62 ≤ q) (R : rlC Y c S red al bn) (o ca se : Int32) (v : Int32) : cl 201 [.ref 9, .int (nI c), .int v] (tm W (wv (mtQ Y q o ca se) 21 f) l) = some (some (.int (nI (bn v))), tm W (wv (mtQ Y q o ca se) 21 f) l) := by
  obtain ⟨r1, r2, r3, r4, r5, r6, r7⟩ := R
  have e := c201 (m := wv (mtQ Y q o ca se) 21 f) (l := l) C r1 (by rw [zY hq (by decide)]; exact r3) r2 v
  rw [zY hq (by decide)] at e
  rw [e]
  have := (r7 v).1
  rw [show bnA (fun k => Y 10 (12 * c + (4 + 2 * k))) (fun k => Y 10 (12 * c + (4 + 2 * k + 1))) v S 0 = nI (bn v) from this]
theorem c185 (C : isC W) {p kind N E : Nat} (Q : isQ W q) (hq : 62 ≤ q) (B : isP Y q c a b) (R : rlC Y c S red al bn) (hp : p < 12) (hca : ca < 4096) (hk : kind = 0 ∨ kind = 1) : cl 185 [.ref q, .int (nI kind), .int (nI p)] (tm W (wv (mtQ Y q (nI o) (nI ca) (nI se)) 21 f) l) = some (some (.int (nI (shLen bn red c kind p (f, E, N, ca, se)))), tm W (wv (mtQ Y q (nI o) (nI ca) (nI se)) 21 f) l) := by
  obtain ⟨r1, r2, r3, r4, r5, r6, r7⟩ := id R
  rcases hk with rfl | rfl
  · unfold shLen
    rw [if_neg (by decide)]
    by_cases ht : ca.testBit p = true
    · simp only [q_185, l_01, if_false, z_6 Q hq, Option.bind_some, c55, bitC hca hp, ht, Bool.true_eq_false, kxi_s, i10, if_true]
      rfl
    · have e2 : ca.testBit p = false := by simpa using ht
      simp only [q_185, l_01, if_false, z_6 Q hq, Option.bind_some, c55, bitC hca hp, e2, if_true, kxi_s, mq_0 Q, mq_1 Q, z_2 Q hq B, sok C.tho, c208 C.tho hp r1, u9 C, c201z C hq R, Bool.false_eq_true]
  · unfold shLen
    rw [if_pos rfl]
    simp only [q_185, l_11, if_true, mq_1 Q, z_2 Q hq B, Option.bind_some, u9 C, c195_1 C r1, zY hq (show 10 < 21 by decide), r4, kxi_s]
theorem e184_88 (C : isC W) {p N E len : Nat} {x1 x3 : Int32} {ca' se' : Int32} (Q : isQ W q) (hq : 62 ≤ q) (B : isP Y q c a b) (R : rlC Y c S red al bn) (hl : len ≤ 9) (hN : f 1105 = nI N) (hN2 : len = 0 ∨ N < 100) (hE : f 1107 = nI E) (hE2 : E < 2 ^ 30) : dn 184 88 [some (.ref q), some (.int x1), some (.int (nI p)), some (.int x3), some (.int (nI len))] [] (tm W (wv (mtQ Y q (nI o) ca' se') 21 f) l) = some (some (.int 0), tm W (wv (mtQ Y q (nI o) ca' se') 21 (if len = 0 then f else tBn f E N (nI p) (nI c) (nI len) al)) l) := by
  obtain ⟨r1, r2, r3, r4, r5, r6, r7⟩ := R
  by_cases h0 : len = 0
  · subst h0
    rw [q_184_88, if_pos (by decide), if_pos rfl]
  · have hN3 : N < 100 := hN2.resolve_left h0
    rw [q_184_88]
    simp only [eq_false (nI_nle (show 0 < len by omega) (by omega)), if_false, mq_0 Q, mq_1 Q, z_2 Q hq B, Option.bind_some, u9 C, if_true, c195_0 C r1, zY hq (show 10 < 21 by decide), r5, kxi_s, sok C.tho, c230 C.tho hN hN3 hE hE2, eq_false h0]
theorem e184_53 (C : isC W) {p t : Nat} {x1 x3 x4 : Int32} {ca' : Int32} (Q : isQ W q) (hq : 62 ≤ q) (hp : p < 12) (ht : t < 4) (hf : f p = nI t) : dn 184 53 [some (.ref q), some (.int x1), some (.int (nI p)), some (.int x3), some (.int x4)] [] (tm W (wv (mtQ Y q (nI o) ca' (nI se)) 21 f) l) = dn 184 65 [some (.ref q), some (.int x1), some (.int (nI p)), some (.int x3), some (.int x4)] [] (tm W (wv (mtQ Y q (nI o) ca' (nI (se ||| 2 ^ p))) 21 (cdF f p t 2)) l) := by
  have e2 : cl 214 [.ref 21, .int (nI p), .int 2] (tm W (wv (mtQ Y q (nI o) ca' (nI (se ||| 2 ^ p))) 21 f) l) = some (none, tm W (wv (mtQ Y q (nI o) ca' (nI (se ||| 2 ^ p))) 21 (cdF f p t 2)) l) := c214 C (w := 2) hp ht (by decide) hf
  rw [q_184_53]
  simp only [z_7 Q hq, c54, Option.bind_some, kxi_s, bitO hp, z_p7 Q hq, mq_0 Q, sok C.tho, if_true, e2, kxv_s]
theorem e184_65 (C : isC W) {p : Nat} {x3 x4 : Int32} {se' : Int32} (Q : isQ W q) (hq : 62 ≤ q) (B : isP Y q c a b) (hc : c < 4) (hp : p < 12) (hca : ca < 4096) : dn 184 65 [some (.ref q), some (.int (nI 0)), some (.int (nI p)), some (.int x3), some (.int x4)] [] (tm W (wv (mtQ Y q (nI o) (nI ca) se') 21 f) l) = dn 184 88 [some (.ref q), some (.int (nI 0)), some (.int (nI p)), some (.int x3), some (.int x4)] [] (tm W (wv (mtQ Y q (nI o) (nI (ca ||| 2 ^ p)) se') 21 (inc f (12 + (4 * p + c)) (if ca.testBit p = true then -1 else 1))) l) := by
  rw [q_184_65]
  by_cases ht : ca.testBit p = true
  · simp only [l_00, if_true, mq_0 Q, z_2 Q hq B, z_6 Q hq, Option.bind_some, c55, bitC hca hp, ht, Bool.true_eq_false, if_false, kxi_s, i10, q_184_80, sok C.tho, c209 C.tho hp hc, kxv_s, c54, bitO hp, z_p6 Q hq]
    rfl
  · have e2 : ca.testBit p = false := by simpa using ht
    simp only [l_00, if_true, mq_0 Q, z_2 Q hq B, z_6 Q hq, Option.bind_some, c55, bitC hca hp, e2, if_false, kxi_s, i10, q_184_80, sok C.tho, c209 C.tho hp hc, kxv_s, c54, bitO hp, z_p6 Q hq, Bool.false_eq_true]
    rfl
theorem shLen9 {kind p : Nat} {s : SH} (R : rlC Y c S red al bn) : shLen bn red c kind p s ≤ 9 := by
  obtain ⟨r1, r2, r3, r4, r5, r6, r7⟩ := R
  unfold shLen
  split
  · omega
  · split
    · omega
    · exact (r7 _).2
/-- ahead of the card's own change: why it can't be, or on -/
theorem e184 (C : isC W) {p t kind N E : Nat} (Q : isQ W q) (hq : 62 ≤ q) (B : isP Y q c a b) (R : rlC Y c S red al bn) (hp : p < 12) (ho : o < 4096) (hca : ca < 4096) (hse : se < 4096) (hk : kind = 0 ∨ kind = 1) (ht : t < 4) (hf : f p = nI t) (hN : f 1105 = nI N) (hN2 : N ≤ 100) : cl 184 [.ref q, .int (nI kind), .int (nI p)] (tm W (wv (mtQ Y q (nI o) (nI ca) (nI se)) 21 f) l) = if shC o (nI a) (nI b) bn red c kind p (f, E, N, ca, se) = 0 then dn 184 40 [some (.ref q), some (.int (nI kind)), some (.int (nI p)), some (.int (nI t)), some (.int (nI (shLen bn red c kind p (f, E, N, ca, se))))] [] (tm W (wv (mtQ Y q (nI o) (nI ca) (nI se)) 21 f) l) else some (some (.int (shC o (nI a) (nI b) bn red c kind p (f, E, N, ca, se))), tm W (wv (mtQ Y q (nI o) (nI ca) (nI se)) 21 f) l) := by
  have h9 := shLen9 (kind := kind) (p := p) (s := (f, E, N, ca, se)) R
  have hos : o ||| se < 4096 := Nat.or_lt_two_pow (n := 12) ho hse
  have E16 : dn 184 16 [some (.ref q), some (.int (nI kind)), some (.int (nI p)), some (.int (nI t)), none] [] (tm W (wv (mtQ Y q (nI o) (nI ca) (nI se)) 21 f) l) = if (o ||| se).testBit p = true then some (some (.int (-3)), tm W (wv (mtQ Y q (nI o) (nI ca) (nI se)) 21 f) l) else if 0 < shLen bn red c kind p (f, E, N, ca, se) ∧ N = 100 then some (some (.int (-4)), tm W (wv (mtQ Y q (nI o) (nI ca) (nI se)) 21 f) l) else dn 184 40 [some (.ref q), some (.int (nI kind)), some (.int (nI p)), some (.int (nI t)), some (.int (nI (shLen bn red c kind p (f, E, N, ca, se))))] [] (tm W (wv (mtQ Y q (nI o) (nI ca) (nI se)) 21 f) l) := by
    rw [q_184_16]
    simp only [z_5 Q hq, z_7 Q hq, Option.bind_some, c55, or_nI, bitC hos hp, kxi_s]
    by_cases hb : (o ||| se).testBit p = true
    · simp only [hb, Bool.true_eq_false, if_false, i10, if_true]
    · have e2 : (o ||| se).testBit p = false := by simpa using hb
      simp only [e2, if_true, Bool.false_eq_true, if_false, mq_ok Q, c185 C (N := N) (E := E) Q hq B R hp hca hk, kxi_s, mq_0 Q, Option.bind_some, sI2 C.tho, hN]
      by_cases h0 : shLen bn red c kind p (f, E, N, ca, se) = 0
      · simp only [h0, eq_true (show nI 0 ≤ 0 by decide), if_true, eq_false (show ¬ (0 < 0 ∧ N = 100) by omega), if_false]
      · rw [if_neg (nI_nle (show 0 < shLen bn red c kind p (f, E, N, ca, se) by omega) (by omega))]
        by_cases h1 : N = 100
        · rw [if_neg (show ¬ nI N < 100 by rw [h1]; decide), if_pos ⟨by omega, h1⟩]
        · rw [if_pos (show nI N < 100 from nI_lt (b := 100) (by omega) (by decide)), if_neg (fun z => h1 z.2)]
  have E1 : cl 184 [.ref q, .int (nI kind), .int (nI p)] (tm W (wv (mtQ Y q (nI o) (nI ca) (nI se)) 21 f) l) = if f p = nI a ∨ f p = nI b then dn 184 16 [some (.ref q), some (.int (nI kind)), some (.int (nI p)), some (.int (nI t)), none] [] (tm W (wv (mtQ Y q (nI o) (nI ca) (nI se)) 21 f) l) else some (some (.int (-2)), tm W (wv (mtQ Y q (nI o) (nI ca) (nI se)) 21 f) l) := by
    rw [q_184]
    simp only [mq_0 Q, Option.bind_some, sR4 C.tho, sl1 C.tho hp, hf, z_3 Q hq B, z_4 Q hq B]
    by_cases h1 : nI t = nI a
    · rw [if_pos h1, if_pos (Or.inl h1)]
    · rw [if_neg h1]
      by_cases h2 : nI t = nI b
      · rw [if_pos h2, if_pos (Or.inr h2)]
      · rw [if_neg h2, if_neg (fun z => z.elim h1 h2)]
  rw [E1, E16]
  unfold shC
  show _ = if (if f p = nI a ∨ f p = nI b then (if (o ||| se).testBit p = true then (-3 : Int32) else if 0 < shLen bn red c kind p (f, E, N, ca, se) ∧ N = 100 then -4 else 0) else -2) = 0 then _ else _
  by_cases h1 : f p = nI a ∨ f p = nI b
  · rw [if_pos h1, if_pos h1]
    by_cases h2 : (o ||| se).testBit p = true
    · rw [if_pos h2, if_pos h2, if_neg (by decide)]
    · rw [if_neg h2, if_neg h2]
      by_cases h3 : 0 < shLen bn red c kind p (f, E, N, ca, se) ∧ N = 100
      · rw [if_pos h3, if_pos h3, if_neg (by decide)]
      · rw [if_neg h3, if_neg h3, if_pos rfl]
  · rw [if_neg h1, if_neg h1, if_neg (by decide)]
theorem shF_o {t kind p k : Nat} (hc : c < 4) (hp : p < 12) (ht : t < 4) (hk : kind = 0 ∨ kind = 1) (h : k < 12 ∨ 108 ≤ k) : shF c t kind p ca f k = f k := by
  have e2 : ∀ F : Nat → Int32, cdF F p t 2 k = F k := fun F => cdF_o hp ht (by decide) (by omega)
  have e1 : ∀ F : Nat → Int32, cdF F p t kind k = F k := fun F => cdF_o hp ht (by omega) (by omega)
  unfold shF
  split
  · rw [e2, e1]
  · split
    · rw [inc_o (by omega), e2, e1]
    · rw [inc_o (by omega), e1]
/-- the card is shown -/
theorem k184 (C : isC W) {p t kind N E : Nat} (Q : isQ W q) (hq : 62 ≤ q) (B : isP Y q c a b) (R : rlC Y c S red al bn) (hp : p < 12) (ho : o < 4096) (hca : ca < 4096) (hse : se < 4096) (hk : kind = 0 ∨ kind = 1) (ht : t < 4) (hf : f p = nI t) (hN : f 1105 = nI N) (hN2 : N ≤ 100) (hE : f 1107 = nI E) (hE2 : E < 2 ^ 30) (h0 : shC o (nI a) (nI b) bn red c kind p (f, E, N, ca, se) = 0) : cl 184 [.ref q, .int (nI kind), .int (nI p)] (tm W (wv (mtQ Y q (nI o) (nI ca) (nI se)) 21 f) l) = some (some (.int 0), tm W (wv (mtQ Y q (nI o) (nI (shT al c t kind p (shLen bn red c kind p (f, E, N, ca, se)) (f, E, N, ca, se)).2.2.2.1) (nI (shT al c t kind p (shLen bn red c kind p (f, E, N, ca, se)) (f, E, N, ca, se)).2.2.2.2)) 21 (shT al c t kind p (shLen bn red c kind p (f, E, N, ca, se)) (f, E, N, ca, se)).1) l) := by
  have h9 := shLen9 (kind := kind) (p := p) (s := (f, E, N, ca, se)) R
  have hlN : shLen bn red c kind p (f, E, N, ca, se) = 0 ∨ N < 100 := by
    by_cases z : shLen bn red c kind p (f, E, N, ca, se) = 0
    · exact Or.inl z
    · right
      unfold shC at h0
      split at h0
      · split at h0
        · cases h0
        · split at h0
          · cases h0
          · rename_i w
            have w' : ¬ (0 < shLen bn red c kind p (f, E, N, ca, se) ∧ N = 100) := w
            omega
      · cases h0
  rw [e184 C (E := E) Q hq B R hp ho hca hse hk ht hf hN hN2, if_pos h0]
  generalize shLen bn red c kind p (f, E, N, ca, se) = len at *
  have hc := R.1
  have so : ∀ k, (k < 12 ∨ 108 ≤ k) → shF c t kind p ca f k = f k := fun k h => shF_o hc hp ht hk h
  have e1 : cdF f p t kind p = nI t := by rw [cdF_o hp ht (by omega) (by omega)]; exact hf
  rw [q_184_40]
  simp only [mq_0 Q, Option.bind_some, sok C.tho, if_true, c214 C hp ht (show kind < 3 by omega) hf, kxv_s]
  rcases hk with rfl | rfl
  · simp only [l_01, if_false, z_6 Q hq, Option.bind_some, c55, bitC hca hp, kxi_s]
    by_cases htb : ca.testBit p = true
    · simp only [htb, Bool.true_eq_false, if_false, i10]
      rw [e184_53 C Q hq hp ht e1, e184_65 C Q hq B hc hp hca, if_pos htb]
      have eF : shF c t 0 p ca f = inc (cdF (cdF f p t 0) p t 2) (12 + (4 * p + c)) (-1) := by
        unfold shF
        rw [if_neg (by decide), if_pos htb]
      rw [← eF, e184_88 C Q hq B R h9 (by rw [so _ (by decide)]; exact hN) hlN (by rw [so _ (by decide)]; exact hE) hE2]
      unfold shT
      dsimp only
      rw [if_neg (show ¬ (0 : Nat) = 1 by decide), if_pos (Or.inr htb)]
    · have e2 : ca.testBit p = false := by simpa using htb
      simp only [e2, if_true]
      rw [e184_65 C Q hq B hc hp hca, if_neg htb]
      have eF : shF c t 0 p ca f = inc (cdF f p t 0) (12 + (4 * p + c)) 1 := by
        unfold shF
        rw [if_neg (by decide), if_neg htb]
      rw [← eF, e184_88 C Q hq B R h9 (by rw [so _ (by decide)]; exact hN) hlN (by rw [so _ (by decide)]; exact hE) hE2]
      unfold shT
      dsimp only
      rw [if_neg (show ¬ (0 : Nat) = 1 by decide), if_neg (show ¬ ((0 : Nat) = 1 ∨ ca.testBit p = true) from fun z => z.elim (by decide) htb)]
  · simp only [l_11, if_true]
    rw [e184_53 C Q hq hp ht e1, q_184_65]
    simp only [l_10, if_false]
    have eF : shF c t 1 p ca f = cdF (cdF f p t 1) p t 2 := by
      unfold shF
      rw [if_pos rfl]
    rw [← eF, e184_88 C Q hq B R h9 (by rw [so _ (by decide)]; exact hN) hlN (by rw [so _ (by decide)]; exact hE) hE2]
    unfold shT
    dsimp only
    rw [if_pos rfl, if_pos (Or.inl rfl)]
end CD
end TXQ

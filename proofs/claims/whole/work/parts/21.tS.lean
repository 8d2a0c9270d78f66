section TXS
variable {W : tm_W} {m : Nat → Nat → Int32} {l : Nat → Nat → Int64} {f g : Nat → Int32}
/-! PLAY: all cards -/
def tOf (f : Nat → Int32) (p : Nat) : Nat := (f p).toNatClampNeg
theorem tOf_e {p t : Nat} (ht : t < 4) (h : f p = nI t) : tOf f p = t := by
  unfold tOf
  rw [h, nI_clamp (by omega)]
def shN (al : Int32) (bn : Int32 → Nat) (red c : Nat) (e : IT) (s : SH) : SH := shT al c (tOf s.1 e.2.1) e.1 e.2.1 (shLen bn red c e.1 e.2.1 s) s
def shL (al : Int32) (bn : Int32 → Nat) (red c a b o : Nat) : List IT → SH → Int32 × SH
  | [], s => (0, s)
  | e :: es, s => if shC o (nI a) (nI b) bn red c e.1 e.2.1 s = 0 then shL al bn red c a b o es (shN al bn red c e s) else (shC o (nI a) (nI b) bn red c e.1 e.2.1 s, s)
def okH (P : Nat) (s : SH) : Prop := s.1 1105 = nI s.2.2.1 ∧ s.2.2.1 ≤ 100 ∧ s.1 1107 = nI s.2.1 ∧ s.2.2.2.1 < 4096 ∧ s.2.2.2.2 < 4096 ∧ (∀ p, p < P → ∃ t, t < 4 ∧ s.1 p = nI t) ∧ s.1 1104 = nI P
def okK (P : Nat) (e : IT) : Prop := (e.1 = 0 ∨ e.1 = 1) ∧ e.2.1 < P
theorem tBn_lo {E N : Nat} {p c n a : Int32} (hN : N < 100) {k : Nat} (h : k < 124 ∨ k = 1104 ∨ k = 1106) : tBn f E N p c n a k = f k := by
  unfold tBn
  rw [tEn_lo _ _ _ _ (by omega), tBs_lo _ _ _ _ _ _ (by omega) (by omega)]
theorem shC_0 {o c kind p red : Nat} {a b : Int32} {bn : Int32 → Nat} {s : SH} (h : shC o a b bn red c kind p s = 0) : (s.1 p = a ∨ s.1 p = b) ∧ (o ||| s.2.2.2.2).testBit p = false ∧ (shLen bn red c kind p s = 0 ∨ s.2.2.1 ≠ 100) := by
  unfold shC at h
  split at h
  · rename_i h1
    split at h
    · cases h
    · rename_i h2
      split at h
      · cases h
      · rename_i h3
        exact ⟨h1, by simpa using h2, by omega⟩
  · cases h
theorem shN_ok {P c a b o red : Nat} {al : Int32} {bn : Int32 → Nat} {e : IT} {s : SH} (hP : P ≤ 12) (hc : c < 4) (hk : okK P e) (h : okH P s) (h0 : shC o (nI a) (nI b) bn red c e.1 e.2.1 s = 0) : okH P (shN al bn red c e s) ∧ (shN al bn red c e s).2.1 ≤ s.2.1 + 1 := by
  obtain ⟨h1, h2, h3, h4, h5, h6, h7⟩ := h
  obtain ⟨t, ht, htp⟩ := h6 e.2.1 hk.2
  obtain ⟨-, -, hl⟩ := shC_0 h0
  have hp : e.2.1 < 12 := by have := hk.2; omega
  have so : ∀ k, (k < 12 ∨ 108 ≤ k) → shF c (tOf s.1 e.2.1) e.1 e.2.1 s.2.2.2.1 s.1 k = s.1 k := fun k h => by
    rw [tOf_e ht htp]
    exact shF_o hc hp ht hk.1 h
  unfold shN shT okH
  dsimp only
  by_cases z : shLen bn red c e.1 e.2.1 s = 0
  · simp only [eq_true z, if_true]
    refine ⟨⟨by rw [so _ (by decide)]; exact h1, h2, by rw [so _ (by decide)]; exact h3, ?_, ?_, fun p hp => by rw [so _ (by omega)]; exact h6 p hp, by rw [so _ (by decide)]; exact h7⟩, by omega⟩
    · split
      · exact h4
      · exact or_lt12 h4 hp
    · split
      · exact or_lt12 h5 hp
      · exact h5
  · have hN : s.2.2.1 < 100 := by omega
    simp only [eq_false z, if_false]
    refine ⟨⟨tBn_5 _ _ _ hN _ _ _ _, by omega, tBn_7 _ _ _ _ _ _ _, ?_, ?_, fun p hp => by rw [tBn_lo hN (by omega), so _ (by omega)]; exact h6 p hp, by rw [tBn_lo hN (by omega), so _ (by decide)]; exact h7⟩, by omega⟩
    · split
      · exact h4
      · exact or_lt12 h4 hp
    · split
      · exact or_lt12 h5 hp
      · exact h5
section CD
variable {q c a b S red o : Nat} {al : Int32} {bn : Int32 → Nat} {Y X : Nat → Nat → Int32} {k0 : Int32}
theorem d9 (C : isC W) {P L : Nat} {x5 : Int32} (Q : isQ W q) (hq : 62 ≤ q) (B : isP Y q c a b) (R : rlC Y c S red al bn) (hP2 : P ≤ 12) (ho : o < 4096) (hL : L ≤ 67) (h5 : Y 5 1 = nI L) : ∀ (es : List IT) (i : Nat) (s : SH) (l7 : Option Value), i + es.length = L → (∀ (k : Nat) (e : IT), es[k]? = some e → Y 6 (3 * (i + k)) = nI e.1 ∧ Y 6 (3 * (i + k) + 1) = nI e.2.1) → (∀ (k : Nat) (e : IT), es[k]? = some e → okK P e) → okH P s → s.2.1 + es.length < 2 ^ 30 →
    ((shL al bn red c a b o es s).1 = 0 → ∃ l8, dn 9 42 [some (.ref 0), some (.int (nI c)), some (.int (nI a)), some (.int (nI b)), some (.ref q), some (.int x5), some (.int (nI i)), l7] [] (tm W (wv (mtQ Y q (nI o) (nI s.2.2.2.1) (nI s.2.2.2.2)) 21 s.1) l) = dn 9 42 [some (.ref 0), some (.int (nI c)), some (.int (nI a)), some (.int (nI b)), some (.ref q), some (.int x5), some (.int (nI L)), l8] [] (tm W (wv (mtQ Y q (nI o) (nI (shL al bn red c a b o es s).2.2.2.2.1) (nI (shL al bn red c a b o es s).2.2.2.2.2)) 21 (shL al bn red c a b o es s).2.1) l) ∧ okH P (shL al bn red c a b o es s).2) ∧
    ((shL al bn red c a b o es s).1 ≠ 0 → ∃ ca' se' G, dn 9 42 [some (.ref 0), some (.int (nI c)), some (.int (nI a)), some (.int (nI b)), some (.ref q), some (.int x5), some (.int (nI i)), l7] [] (tm W (wv (mtQ Y q (nI o) (nI s.2.2.2.1) (nI s.2.2.2.2)) 21 s.1) l) = some (some (.int (shL al bn red c a b o es s).1), tm W (wv (mtQ Y q (nI o) ca' se') 21 G) l))
  | [], i, s, l7, hi, hx, hk, hs, hE => by
    obtain rfl : i = L := by simpa using hi
    exact ⟨fun _ => ⟨l7, rfl, hs⟩, fun z => absurd rfl z⟩
  | e :: es, i, s, l7, hi, hx, hk, hs, hE => by
    have hi' : i + (es.length + 1) = L := hi
    have hE' : s.2.1 + (es.length + 1) < 2 ^ 30 := hE
    obtain ⟨a1, a2⟩ := hx 0 e rfl
    replace a1 : Y 6 (3 * i) = nI e.1 := a1
    replace a2 : Y 6 (3 * i + 1) = nI e.2.1 := a2
    have ok := hk 0 e rfl
    obtain ⟨h1, h2, h3, h4, h5', h6, h7⟩ := id hs
    obtain ⟨t, ht, htp⟩ := h6 e.2.1 ok.2
    have hp : e.2.1 < 12 := by have := ok.2; omega
    have hq5 : ∀ x, x < 21 → wv (mtQ Y q (nI o) (nI s.2.2.2.1) (nI s.2.2.2.2)) 21 s.1 x = Y x := fun x hx => zY hq hx _ _ _ _
    have E1 : dn 9 42 [some (.ref 0), some (.int (nI c)), some (.int (nI a)), some (.int (nI b)), some (.ref q), some (.int x5), some (.int (nI i)), l7] [] (tm W (wv (mtQ Y q (nI o) (nI s.2.2.2.1) (nI s.2.2.2.2)) 21 s.1) l) = kxi (cl 184 [.ref q, .int (nI e.1), .int (nI e.2.1)] (tm W (wv (mtQ Y q (nI o) (nI s.2.2.2.1) (nI s.2.2.2.2)) 21 s.1) l)) (fun r33 h32 => (if 0 ≤ r33 then dn 9 42 [some (.ref 0), some (.int (nI c)), some (.int (nI a)), some (.int (nI b)), some (.ref q), some (.int x5), some (.int (nI (i + 1))), some (.int r33)] [] h32 else some (some (.int r33), h32))) := by
      rw [q_9_42]
      simp only [xR2 C, Option.bind_some, i1g C, hq5 5 (by decide), h5, eq_false (nI_ge (show i < L by omega) (by omega)), if_false, i_ok C, if_true, c179 C (show i < 67 by omega), c180 C (show i < 67 by omega), hq5 6 (by decide), a1, a2, kxi_s, mq_ok Q, nI_1]
    have hsE : s = (s.1, s.2.1, s.2.2.1, s.2.2.2.1, s.2.2.2.2) := rfl
    rw [shL]
    by_cases h0 : shC o (nI a) (nI b) bn red c e.1 e.2.1 s = 0
    · rw [if_pos h0]
      obtain ⟨k1, k2⟩ := shN_ok (al := al) hP2 R.1 ok hs h0
      have ih := d9 C (x5 := x5) Q hq B R hP2 ho hL h5 es (i + 1) (shN al bn red c e s) (some (.int 0)) (by omega) (fun k e' he => by rw [show i + 1 + k = i + (k + 1) by omega]; exact hx (k + 1) e' he) (fun k e' he => hk (k + 1) e' he) k1 (by omega)
      have e184 := k184 (l := l) C Q hq B R hp ho h4 h5' ok.1 ht htp h1 h2 h3 (by omega) h0
      rw [e184, kxi_s, if_pos (Int32.le_refl 0)] at E1
      rw [E1]
      have et : shN al bn red c e s = shT al c t e.1 e.2.1 (shLen bn red c e.1 e.2.1 s) s := by
        unfold shN
        rw [tOf_e ht htp]
      rw [et] at ih ⊢
      exact ih
    · rw [if_neg h0]
      refine ⟨fun z => absurd z h0, fun _ => ⟨nI s.2.2.2.1, nI s.2.2.2.2, s.1, ?_⟩⟩
      have ee := e184 (l := l) C (E := s.2.1) Q hq B R hp ho h4 h5' ok.1 ht htp h1 h2
      rw [if_neg h0] at ee
      have hneg : ¬ 0 ≤ shC o (nI a) (nI b) bn red c e.1 e.2.1 s := by
        unfold shC at h0 ⊢
        split
        · split
          · decide
          · split
            · decide
            · rename_i y1 y2 y3
              rw [if_pos y1, if_neg y2, if_neg y3] at h0
              exact absurd rfl h0
        · decide
      rw [E1, ee, kxi_s, if_neg hneg]
theorem d114 (M : isM W) {P L : Nat} {x4 : Int32} (R : rlR X c S red al bn) (hP2 : P ≤ 12) (ho : o < 4096) (hL : L ≤ 67) (h18 : X 39 18 = nI L) : ∀ (es : List IT) (i : Nat) (s : SH), i + es.length = L → (∀ (k : Nat) (e : IT), es[k]? = some e → X 49 (i + k) = nI e.1 ∧ X 50 (i + k) = nI e.2.1) → (∀ (k : Nat) (e : IT), es[k]? = some e → okK P e) → okH P s → s.2.1 + es.length < 2 ^ 30 →
    ((shL al bn red c a b o es s).1 = 0 → dn 114 60 [some (.ref 39), some (.int (nI c)), some (.int (nI a)), some (.int (nI b)), some (.int x4), some (.int 0), some (.int (nI i))] [] (tm W (m1 (plM X k0 (nI o) (nI s.2.2.2.1) (nI s.2.2.2.2)) 40 s.1) l) = dn 114 75 [some (.ref 39), some (.int (nI c)), some (.int (nI a)), some (.int (nI b)), some (.int x4), some (.int 0), some (.int (nI L))] [] (tm W (m1 (plM X k0 (nI o) (nI (shL al bn red c a b o es s).2.2.2.2.1) (nI (shL al bn red c a b o es s).2.2.2.2.2)) 40 (shL al bn red c a b o es s).2.1) l)) ∧
    ((shL al bn red c a b o es s).1 ≠ 0 → ∃ ca' se' G x6, dn 114 60 [some (.ref 39), some (.int (nI c)), some (.int (nI a)), some (.int (nI b)), some (.int x4), some (.int 0), some (.int (nI i))] [] (tm W (m1 (plM X k0 (nI o) (nI s.2.2.2.1) (nI s.2.2.2.2)) 40 s.1) l) = dn 114 75 [some (.ref 39), some (.int (nI c)), some (.int (nI a)), some (.int (nI b)), some (.int x4), some (.int (shL al bn red c a b o es s).1), some (.int x6)] [] (tm W (m1 (plM X k0 (nI o) ca' se') 40 G) l))
  | [], i, s, hi, hx, hk, hs, hE => by
    obtain rfl : i = L := by simpa using hi
    refine ⟨fun _ => ?_, fun z => absurd rfl z⟩
    rw [q_114_60]
    simp only [rIw18 M, plM_k _ _ _ _ _ (show (18 : Nat) ≠ 14 by decide) (show (18 : Nat) ≠ 15 by decide) (show (18 : Nat) ≠ 19 by decide) (show (18 : Nat) ≠ 20 by decide), h18, Option.bind_some, eq_true (Int32.le_refl (nI i)), if_true]
    rfl
  | e :: es, i, s, hi, hx, hk, hs, hE => by
    have hi' : i + (es.length + 1) = L := hi
    have hE' : s.2.1 + (es.length + 1) < 2 ^ 30 := hE
    obtain ⟨a1, a2⟩ := hx 0 e rfl
    replace a1 : X 49 i = nI e.1 := a1
    replace a2 : X 50 i = nI e.2.1 := a2
    have ok := hk 0 e rfl
    obtain ⟨h1, h2, h3, h4, h5', h6, h7⟩ := id hs
    obtain ⟨t, ht, htp⟩ := h6 e.2.1 ok.2
    have hp : e.2.1 < 12 := by have := ok.2; omega
    have E1 : dn 114 60 [some (.ref 39), some (.int (nI c)), some (.int (nI a)), some (.int (nI b)), some (.int x4), some (.int 0), some (.int (nI i))] [] (tm W (m1 (plM X k0 (nI o) (nI s.2.2.2.1) (nI s.2.2.2.2)) 40 s.1) l) = kxi (cl 98 [.ref 39, .int (nI i), .int (nI c), .int (nI a), .int (nI b)] (tm W (m1 (plM X k0 (nI o) (nI s.2.2.2.1) (nI s.2.2.2.2)) 40 s.1) l)) (fun r3 h2 => dn 114 60 [some (.ref 39), some (.int (nI c)), some (.int (nI a)), some (.int (nI b)), some (.int x4), some (.int r3), some (.int (nI (i + 1)))] [] h2) := by
      rw [q_114_60]
      simp only [rIw18 M, plM_k _ _ _ _ _ (show (18 : Nat) ≠ 14 by decide) (show (18 : Nat) ≠ 15 by decide) (show (18 : Nat) ≠ 19 by decide) (show (18 : Nat) ≠ 20 by decide), h18, Option.bind_some, eq_false (nI_ge (show i < L by omega) (by omega)), if_false, if_true, rok M, nI_1]
    obtain ⟨y1, y2⟩ := k98 (l := l) M (a := a) (b := b) (k0 := k0) (show i < 200 by omega) a2 a1 R hp ho h4 h5' ok.1 ht htp h1 h2 h3 (by omega)
    rw [shL]
    by_cases h0 : shC o (nI a) (nI b) bn red c e.1 e.2.1 s = 0
    · rw [if_pos h0]
      obtain ⟨k1, k2⟩ := shN_ok (al := al) hP2 R.1 ok hs h0
      have ih := d114 M (x4 := x4) R hP2 ho hL h18 es (i + 1) (shN al bn red c e s) (by omega) (fun k e' he => by rw [show i + 1 + k = i + (k + 1) by omega]; exact hx (k + 1) e' he) (fun k e' he => hk (k + 1) e' he) k1 (by omega)
      rw [y1 h0, kxi_s] at E1
      rw [E1]
      have et : shN al bn red c e s = shT al c t e.1 e.2.1 (shLen bn red c e.1 e.2.1 s) s := by
        unfold shN
        rw [tOf_e ht htp]
      rw [et] at ih ⊢
      exact ih
    · rw [if_neg h0]
      refine ⟨fun z => absurd z h0, fun _ => ?_⟩
      obtain ⟨ca', se', G, z⟩ := y2 h0
      refine ⟨ca', se', G, nI (i + 1), ?_⟩
      rw [E1, z, kxi_s, q_114_60]
      simp only [rIw18 M, plM_k _ _ _ _ _ (show (18 : Nat) ≠ 14 by decide) (show (18 : Nat) ≠ 15 by decide) (show (18 : Nat) ≠ 19 by decide) (show (18 : Nat) ≠ 20 by decide), h18, Option.bind_some, eq_false h0, if_false, ite_self]
end CD
/-! both rows go on alike -/
def PL (P c B : Nat) (s t : SH) : Prop := s.2 = t.2 ∧ SR s.1 t.1 P t.2.2.1 t.2.1 ∧ VR t.1 P t.2.2.1 t.2.1 ∧ CB t.1 B ∧ ∀ p, p < P → t.2.2.2.1.testBit p = true → t.2.2.2.2.testBit p = false → ∃ n, 1 ≤ n ∧ n ≤ B ∧ t.1 (12 + (4 * p + c)) = nI n
theorem SR_inc {P N E i : Nat} (Sx : SR f g P N E) (h1 : 12 ≤ i) (h2 : i < 124) (v : Int32) : SR (inc f i v) (inc g i v) P N E := by
  unfold inc
  rw [Sx.mid h1 h2]
  exact SR_upd Sx _ (by omega) (by omega) (by omega)
theorem VR_inc {P N E i : Nat} (V : VR g P N E) (hP : P ≤ 12) (hN : N ≤ 100) (h1 : 12 ≤ i) (h2 : i < 124) (v : Int32) : VR (inc g i v) P N E := VR_mid V hP hN h1 (Or.inl h2) _
theorem SR_cd {P N E p t w : Nat} (Sx : SR f g P N E) (hp : p < 12) (ht : t < 4) (hw : w < 3) : SR (cdF f p t w) (cdF g p t w) P N E := SR_inc (SR_inc Sx (by omega) (by omega) 1) (by omega) (by omega) 1
theorem VR_cd {P N E p t w : Nat} (V : VR g P N E) (hP : P ≤ 12) (hN : N ≤ 100) (hp : p < 12) (ht : t < 4) (hw : w < 3) : VR (cdF g p t w) P N E := VR_inc (VR_inc V hP hN (by omega) (by omega) 1) hP hN (by omega) (by omega) 1
theorem PL_sh {P c a b o B red : Nat} {al : Int32} {bn : Int32 → Nat} {e : IT} {s t : SH} (hc : c < 4) (hB : B < 2 ^ 20) (hred : 1 ≤ red ∧ red ≤ 9) (hbn : ∀ v, bn v ≤ 9) (hk : okK P e) (h : PL P c B s t) (h0 : shC o (nI a) (nI b) bn red c e.1 e.2.1 s = 0) : shC o (nI a) (nI b) bn red c e.1 e.2.1 t = 0 ∧ PL P c (B + 1) (shN al bn red c e s) (shN al bn red c e t) := by
  obtain ⟨he, Sx, V, hCB, hI⟩ := h
  have hP := Sx.P12
  have hN := Sx.N100
  have hp : e.2.1 < 12 := by have := hk.2; omega
  obtain ⟨tt, ht, htp⟩ := V.1 e.2.1 hk.2
  have hfp : s.1 e.2.1 = t.1 e.2.1 := Sx.tm hk.2
  have hsp : s.1 e.2.1 = nI tt := by rw [hfp]; exact htp
  have hlen : shLen bn red c e.1 e.2.1 s = shLen bn red c e.1 e.2.1 t := by
    unfold shLen
    rw [Sx.mid (show 12 ≤ 12 + (4 * e.2.1 + c) by omega) (by omega), he]
  have hC : shC o (nI a) (nI b) bn red c e.1 e.2.1 t = 0 := by
    unfold shC at h0 ⊢
    rw [hfp, hlen, he] at h0
    exact h0
  have hl9 : shLen bn red c e.1 e.2.1 t ≤ 9 := by
    unfold shLen
    split
    · exact hred.2
    · split
      · omega
      · exact hbn _
  refine ⟨hC, ?_⟩
  obtain ⟨-, hbit, hlN⟩ := shC_0 hC
  have hse : t.2.2.2.2.testBit e.2.1 = false := by
    rw [Nat.testBit_or] at hbit
    simp only [Bool.or_eq_false_iff] at hbit
    exact hbit.2
  have e1 : tOf s.1 e.2.1 = tt := tOf_e ht hsp
  have e2 : tOf t.1 e.2.1 = tt := tOf_e ht htp
  -- the row, without the ban
  have SF : SR (shF c tt e.1 e.2.1 t.2.2.2.1 s.1) (shF c tt e.1 e.2.1 t.2.2.2.1 t.1) P t.2.2.1 t.2.1 := by
    unfold shF
    have s1 := SR_cd Sx hp ht (show e.1 < 3 by rcases hk.1 with q | q <;> omega)
    split
    · exact SR_cd s1 hp ht (by decide)
    · split
      · exact SR_inc (SR_cd s1 hp ht (by decide)) (by omega) (by omega) _
      · exact SR_inc s1 (by omega) (by omega) _
  have VF : VR (shF c tt e.1 e.2.1 t.2.2.2.1 t.1) P t.2.2.1 t.2.1 := by
    unfold shF
    have s1 := VR_cd V hP hN hp ht (show e.1 < 3 by rcases hk.1 with q | q <;> omega)
    split
    · exact VR_cd s1 hP hN hp ht (by decide)
    · split
      · exact VR_inc (VR_cd s1 hP hN hp ht (by decide)) hP hN (by omega) (by omega) _
      · exact VR_inc s1 hP hN (by omega) (by omega) _
  have hka : e.1 < 3 := by rcases hk.1 with q | q <;> omega
  have sFo : ∀ k, ((12 ≤ k ∧ k < 60) ∨ (108 ≤ k ∧ k < 124)) → k ≠ 12 + (4 * e.2.1 + c) → shF c tt e.1 e.2.1 t.2.2.2.1 t.1 k = t.1 k := fun k hk1 hk2 => by
    have z2 : ∀ F : Nat → Int32, cdF F e.2.1 tt 2 k = F k := fun F => cdF_o hp ht (by decide) (by omega)
    have z1 : ∀ F : Nat → Int32, cdF F e.2.1 tt e.1 k = F k := fun F => cdF_o hp ht hka (by omega)
    unfold shF
    split
    · rw [z2, z1]
    · split
      · rw [inc_o hk2, z2, z1]
      · rw [inc_o hk2, z1]
  obtain ⟨n0, hn0, hn1⟩ := hCB (12 + (4 * e.2.1 + c)) (by omega)
  have sFs : ∃ n, n ≤ B + 1 ∧ shF c tt e.1 e.2.1 t.2.2.2.1 t.1 (12 + (4 * e.2.1 + c)) = nI n ∧ (e.1 = 1 → n = n0) ∧ (e.1 = 0 → t.2.2.2.1.testBit e.2.1 = false → 1 ≤ n) := by
    have z2 : ∀ F : Nat → Int32, cdF F e.2.1 tt 2 (12 + (4 * e.2.1 + c)) = F (12 + (4 * e.2.1 + c)) := fun F => cdF_o hp ht (by decide) (by omega)
    have z1 : ∀ F : Nat → Int32, cdF F e.2.1 tt e.1 (12 + (4 * e.2.1 + c)) = F (12 + (4 * e.2.1 + c)) := fun F => cdF_o hp ht hka (by omega)
    unfold shF
    by_cases k1 : e.1 = 1
    · rw [if_pos k1, z2, z1]
      exact ⟨n0, by omega, hn1, fun _ => rfl, fun q => by omega⟩
    · rw [if_neg k1]
      by_cases tb : t.2.2.2.1.testBit e.2.1 = true
      · obtain ⟨n, n1, n2, n3⟩ := hI e.2.1 hk.2 tb hse
        rw [if_pos tb, inc_s, z2, z1, n3]
        exact ⟨n - 1, by omega, by rw [show nI n + -1 = nI n - 1 from (Int32.sub_eq_add_neg _ _).symm]; exact pk_sub (b := 1) n1, fun q => absurd q k1, fun _ q => by rw [tb] at q; cases q⟩
      · rw [if_neg tb, inc_s, z1, hn1, nI_1]
        exact ⟨n0 + 1, by omega, rfl, fun q => absurd q k1, fun _ _ => by omega⟩
  have CF : CB (shF c tt e.1 e.2.1 t.2.2.2.1 t.1) (B + 1) := fun i hi => by
    by_cases hi2 : i = 12 + (4 * e.2.1 + c)
    · subst hi2
      obtain ⟨n, y1, y2, -, -⟩ := sFs
      exact ⟨n, y1, y2⟩
    · obtain ⟨n, y1, y2⟩ := hCB i hi
      exact ⟨n, by omega, by rw [sFo i hi hi2]; exact y2⟩
  -- cautions of those who go on
  have IF : ∀ p, p < P → (if e.1 = 1 then t.2.2.2.1 else t.2.2.2.1 ||| 2 ^ e.2.1).testBit p = true → (if e.1 = 1 ∨ t.2.2.2.1.testBit e.2.1 = true then t.2.2.2.2 ||| 2 ^ e.2.1 else t.2.2.2.2).testBit p = false → ∃ n, 1 ≤ n ∧ n ≤ B + 1 ∧ shF c tt e.1 e.2.1 t.2.2.2.1 t.1 (12 + (4 * p + c)) = nI n := fun p hpP w1 w2 => by
    by_cases hpe : p = e.2.1
    · subst hpe
      have w3 : ¬ (e.1 = 1 ∨ t.2.2.2.1.testBit e.2.1 = true) := fun z => by
        rw [if_pos z, Nat.testBit_or, Nat.testBit_two_pow, decide_eq_true rfl, Bool.or_true] at w2
        cases w2
      obtain ⟨n, y1, y2, -, y4⟩ := sFs
      exact ⟨n, y4 (by rcases hk.1 with q | q; exact q; exact absurd (Or.inl q) w3) (by simpa using fun z => w3 (Or.inr z)), y1, y2⟩
    · have tb2 : ∀ x : Nat, (x ||| 2 ^ e.2.1).testBit p = x.testBit p := fun x => by
        rw [Nat.testBit_or, Nat.testBit_two_pow, decide_eq_false (fun q => hpe q.symm), Bool.or_false]
      have w1' : t.2.2.2.1.testBit p = true := by
        split at w1
        · exact w1
        · rwa [tb2] at w1
      have w2' : t.2.2.2.2.testBit p = false := by
        split at w2
        · rwa [tb2] at w2
        · exact w2
      obtain ⟨n, y1, y2, y3⟩ := hI p hpP w1' w2'
      exact ⟨n, y1, by omega, by rw [sFo _ (by omega) (by omega)]; exact y3⟩
  unfold shN
  rw [e1, e2, hlen]
  unfold shT PL
  dsimp only
  rw [he]
  by_cases z : shLen bn red c e.1 e.2.1 t = 0
  · simp only [eq_true z, if_true]
    exact ⟨trivial, SF, VF, CF, IF⟩
  · have hN' : t.2.2.1 < 100 := by omega
    simp only [eq_false z, if_false]
    refine ⟨trivial, SR_bn SF hN' _ _ _ _, VR_bn VF hN' hP hk.2 hc (by omega) hl9 _, CB_bn CF _ _ _ _, fun p hpP w1 w2 => ?_⟩
    rw [tBn_lo hN' (by omega)]
    exact IF p hpP w1 w2
theorem PL_L {P c a b o red : Nat} {al : Int32} {bn : Int32 → Nat} (hc : c < 4) (hred : 1 ≤ red ∧ red ≤ 9) (hbn : ∀ v, bn v ≤ 9) : ∀ (es : List IT) (B : Nat) (s t : SH), B + es.length < 2 ^ 20 → (∀ (k : Nat) (e : IT), es[k]? = some e → okK P e) → PL P c B s t → (shL al bn red c a b o es s).1 = (shL al bn red c a b o es t).1 ∧ PL P c (B + es.length) (shL al bn red c a b o es s).2 (shL al bn red c a b o es t).2
  | [], B, s, t, hB, hk, h => ⟨rfl, h⟩
  | e :: es, B, s, t, hB, hk, h => by
    have hB' : B + (es.length + 1) < 2 ^ 20 := hB
    have ok := hk 0 e rfl
    have hCeq : shC o (nI a) (nI b) bn red c e.1 e.2.1 s = shC o (nI a) (nI b) bn red c e.1 e.2.1 t := by
      obtain ⟨he, Sx, V, hCB, hI⟩ := h
      have hP := Sx.P12
      have h2 := ok.2
      unfold shC shLen
      rw [Sx.tm ok.2, Sx.mid (show 12 ≤ 12 + (4 * e.2.1 + c) by omega) (by omega), he]
    rw [shL, shL, ← hCeq]
    by_cases h0 : shC o (nI a) (nI b) bn red c e.1 e.2.1 s = 0
    · rw [if_pos h0, if_pos h0]
      have h1 := (PL_sh (al := al) (red := red) (bn := bn) hc (by omega) hred hbn ok h h0).2
      have ih := PL_L (P := P) (c := c) (a := a) (b := b) (o := o) (al := al) hc hred hbn es (B + 1) _ _ (by omega) (fun k e' he => hk (k + 1) e' he) h1
      rw [show B + 1 + es.length = B + (e :: es).length by simp; omega] at ih
      exact ih
    · rw [if_neg h0, if_neg h0]
      obtain ⟨he, Sx, V, hCB, hI⟩ := h
      exact ⟨rfl, he, Sx, V, CB_le hCB (by omega), fun p hp w1 w2 => by
        obtain ⟨n, y1, y2, y3⟩ := hI p hp w1 w2
        exact ⟨n, y1, by omega, y3⟩⟩
theorem shL_E {c a b o red : Nat} {al : Int32} {bn : Int32 → Nat} : ∀ (es : List IT) (s : SH), (shL al bn red c a b o es s).2.2.1 ≤ s.2.1 + es.length
  | [], s => Nat.le_refl _
  | e :: es, s => by
    rw [shL]
    split
    · have ih := shL_E (c := c) (a := a) (b := b) (o := o) (red := red) (al := al) (bn := bn) es (shN al bn red c e s)
      have : (shN al bn red c e s).2.1 ≤ s.2.1 + 1 := by
        show (if _ = 0 then s.2.1 else s.2.1 + 1) ≤ _
        split <;> omega
      show _ ≤ s.2.1 + (es.length + 1)
      omega
    · show s.2.1 ≤ s.2.1 + (es.length + 1)
      omega
end TXS

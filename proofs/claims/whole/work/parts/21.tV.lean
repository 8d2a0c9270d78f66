section TXV
variable {W : tm_W} {m : Nat → Nat → Int32} {l : Nat → Nat → Int64} {f g : Nat → Int32}
/-! PLAY: both sides put together -/
theorem tm_1 : (tm W m l).1 = W.1 := rfl
theorem play_C0 (C : isC W) (h62 : 62 ≤ W.1) {mr : Nat → Nat → Int32} {se : RS} {c a b k cnt : Nat} {sc : Nat → Int32} (hc : c < 4) (ha : a < 4) (hb : b < 4) (hab : a ≠ b) (e63 : cl 63 [.ref 0] (tm W m l) = some (none, tm W (txC mr se) l)) (hq : se.2 = none) (h183 : ∀ (W : tm_W) (q : Nat) (Y : Nat → Nat → Int32) (o ca s : Int32), isC W → isQ W q → 62 ≤ q → isP Y q c a b → cl 183 [.ref q] (tm W (wv (mtQ Y q o ca s) 21 (vw (txC (m2 mr 1 1 0) se) 13)) l) = some (some (.int (nI cnt)), tm W (wv (mtQ Y q (nI k) ca s) 21 sc) l)) :
    cl 9 [.ref 0, .int (nI c), .int (nI a), .int (nI b)] (tm W m l) = dn 9 42 [some (.ref 0), some (.int (nI c)), some (.int (nI a)), some (.int (nI b)), some (.ref W.1), some (.int (nI cnt)), some (.int 0), none] [] (tm (qW W) (wv (mtQ (m1 (txC (m2 mr 1 1 0) se) W.1 (qF (nI c) (nI a) (nI b))) W.1 (nI k) 0 0) 21 sc) l) := by
  have C1 : isC (qW W) := isC_of (fun x hx => qW_sh W (by omega)) C
  have B : isP (m1 (txC (m2 mr 1 1 0) se) W.1 (qF (nI c) (nI a) (nI b))) W.1 c a b := ⟨by rw [m1_s]; rfl, by rw [m1_s]; rfl, by rw [m1_s]; rfl⟩
  have e182 := k182 (W := W) (m := wv (txC (m2 mr 1 1 0) se) 21 (vw (txC (m2 mr 1 1 0) se) 13)) (l := l) (nI c) (nI a) (nI b)
  rw [m1_wv _ _ _ h62, ← mtQ_e (m1 (txC (m2 mr 1 1 0) se) W.1 (qF (nI c) (nI a) (nI b))) W.1 (by rw [m1_s]; rfl) (by rw [m1_s]; rfl) (by rw [m1_s]; rfl)] at e182
  have h0 : (0 : Nat) ≠ W.1 := by omega
  have g7 : ∀ (m' : Nat → Nat → Int32) e, ia_gR (ia_new (tm W m' l) 8 e) 0 0 7 = some 21 := fun m' e => by rw [gR_new (by rw [tm_1]; exact h0), xR7 C]
  have g4 : ∀ (m' : Nat → Nat → Int32) e, ia_gR (ia_new (tm W m' l) 8 e) 0 0 4 = some 9 := fun m' e => by rw [gR_new (by rw [tm_1]; exact h0), xR4 C]
  simp only [q_9, xok C, xR0 C, xR6 C, xR7 C, t_ok C, e63, c243 C, c246e C hq, c49y hc, c51y ha hb hab, sok C.tho, c205' C.tho C.now (by omega), g7, g4, tm_1, e182, mq_ok (qW_q W), h183 (qW W) W.1 _ 0 0 0 C1 (qW_q W) h62 B, Option.bind_some, kxi_s, kxv_s, if_true, if_false, i10]
theorem play_R0 (M : isM W) {mc Z mk : Nat → Nat → Int32} {se : RS} {c a b k cnt P N E E1 : Nat} {st : Nat → Int32} (hc : c < 4) (ha : a < 4) (hb : b < 4) (hab : a ≠ b) (r0 : cl 99 [.ref 39] (tm W (m2 mc 39 13 0) l) = some (none, tm W Z l)) (r1 : cl 113 [.ref 39] (tm W Z l) = some (none, tm W (txR mk se) l)) (hq : se.2 = none) (h40 : mk 40 = g) (hP2 : P ≤ 12) (hN2 : N ≤ 100) (hg : stP P N (g, E)) (hE : E + 24 < 2 ^ 30) (hsv : svF (nI c) (nI a) (nI b) P N (upd g 1106 (g 1106 + 1), E) = ((st, E1), cnt, nI k)) :
    cl 114 [.ref 39, .int (nI c), .int (nI a), .int (nI b)] (tm W mc l) = dn 114 60 [some (.ref 39), some (.int (nI c)), some (.int (nI a)), some (.int (nI b)), some (.int (nI N)), some (.int 0), some (.int 0)] [] (tm W (m1 (plM (m1 (txR mk se) 41 fun k => if k < 1108 then g k else txR mk se 41 k) (nI cnt) (nI k) 0 0) 40 st) l) := by
  have h40' : txR mk se 40 = g := by rw [txR_o _ _ (by decide)]; exact h40
  have es : enc se.2 = -1 := by rw [hq]; rfl
  have e81 := c81 (m := txR mk se) (l := l) M
  rw [h40'] at e81
  generalize hX : (m1 (txR mk se) 41 fun k => if k < 1108 then g k else txR mk se 41 k) = X1 at *
  have hX40 : X1 40 = g := by rw [← hX, m1_a _ _ (by decide)]; exact h40'
  have e81' : cl 81 [.ref 39] (tm W (txR mk se) l) = some (none, tm W (m1 X1 40 g) l) := by rw [e81, ← hX40, m1_e]
  have e93 := c93 (l := l) M (X := X1) (P := P) (N := N) (s := (upd g 1106 (g 1106 + 1), E)) hP2 hN2 ⟨by rw [show (upd g 1106 (g 1106 + 1), E).1 = upd g 1106 (g 1106 + 1) from rfl, pk_un (by decide)]; exact hg.1, by rw [show (upd g 1106 (g 1106 + 1), E).1 = upd g 1106 (g 1106 + 1) from rfl, pk_un (by decide)]; exact hg.2.1, by rw [show (upd g 1106 (g 1106 + 1), E).1 = upd g 1106 (g 1106 + 1) from rfl, pk_un (by decide)]; exact hg.2.2⟩ hE (nI c) (nI a) (nI b)
  rw [hsv] at e93
  have e93' : cl 93 [.ref 39, .int (nI c), .int (nI a), .int (nI b)] (tm W (m1 X1 40 (upd g 1106 (g 1106 + 1))) l) = some (none, tm W (m1 (svM X1 (nI cnt) (nI k)) 40 st) l) := e93
  have hg5 : upd g 1106 (g 1106 + 1) 1105 = nI N := by rw [pk_un (by decide)]; exact hg.2.1
  simp only [q_114, rok M, ru13 M, r0, r1, u_3 M, es, c75y hc, c76y ha, c76y hb, eq_false (show ¬ nI a = nI b from fun z => hab ((nI_eq (by omega) (by omega)).mp z)), e81', rR0 M, wl6 M, ws6 M, wl5 M, hg5, e93', ruw19 M, ruw20 M, Option.bind_some, kxi_s, kxv_s, if_true, if_false, i10]
  rfl
theorem play_C1 (C : isC W) {q c a b P N E B : Nat} {Y : Nat → Nat → Int32} {o ca se : Int32} (Q : isQ W q) (hq : 62 ≤ q) (hB : isP Y q c a b) (hc : c < 4) (ha : a < 4) (hb : b < 4) (S : SR f g P N E) (V : VR g P N E) (h : CB g B) (hB2 : B + 1 < 2 ^ 20) : cl 186 [.ref q] (tm W (wv (mtQ Y q o ca se) 21 f) l) = some (none, tm W (wv (mtQ Y q o ca se) 21 (tHp (Y 10 (12 * c + 2)) b c P (tHp (Y 10 (12 * c + 2)) a c P f))) l) := by
  obtain ⟨S1, V1, B1⟩ := hp_all (r := Y 10 (12 * c + 2)) hc ha S V h
  obtain ⟨n1, n2, n3⟩ := h (108 + (4 * a + c)) (by omega)
  obtain ⟨n4, n5, n6⟩ := B1 (108 + (4 * b + c)) (by omega)
  have e1 := c187 (l := l) (o := o) (ca := ca) (se := se) C Q hq hB S.P12 hc ha S.f4 ((S.mid (by omega) (by omega)).trans n3) (by omega)
  have e2 := c187 (l := l) (o := o) (ca := ca) (se := se) C Q hq hB S.P12 hc hb S1.f4 ((S1.mid (by omega) (by omega)).trans n6) (by omega)
  rw [q_186]
  simp only [z_3 Q hq hB, z_4 Q hq hB, mq_ok Q, e1, e2, Option.bind_some, kxv_s, if_true]
theorem play_C2 {W' : tm_W} (C : isC W) (C' : isC W') {q L N : Nat} {c a b x5 o : Int32} {l7 : Option Value} {Z Z2 mk : Nat → Nat → Int32} {fE : Nat → Int32} (Q : isQ W q) (Q' : isQ W' q) (hq : 62 ≤ q) (hL : L < 2 ^ 30) (h5 : Z 5 1 = nI L) (e186 : cl 186 [.ref q] (tm W Z l) = some (none, tm W Z2 l)) (e174 : cl 174 [.ref 37, .ref 13] (tm W Z2 l) = some (none, tm W' mk l)) (k21 : ∀ i, i < 1108 → vw mk 21 i = fE i) (k13 : mk 13 2 = nI N) (kq : mk q 5 = o) :
    dn 9 42 [some (.ref 0), some (.int c), some (.int a), some (.int b), some (.ref q), some (.int x5), some (.int (nI L)), l7] [] (tm W Z l) = some (some (.int (fE 1105 - nI N)), tm W' (wv (rwm mk [fE 1106, x5, o]) 13 fE) l) := by
  have e205 : cl 205 [.ref 13, .ref 21] (tm W' mk l) = some (none, tm W' (wv mk 13 fE) l) := by rw [c205' C'.now C'.tho (by omega), wv_cong mk 13 k21]
  have e2 : ia_gI (tm W' mk l) 5 21 2 = some (fE 1105) := by
    rw [tm_gI C'.tho.1 rfl, ← k21 1105 (by decide)]
    rfl
  have e2' : ia_gI (tm W' mk l) 5 13 2 = some (nI N) := by rw [s13_2 C', k13]
  have eq5 : ∀ xs, ia_gI (tm W' (wv (rwm mk xs) 13 fE) l) 7 q 5 = some o := fun xs => by rw [tm_gI Q' rfl, wv_out _ _ (by omega), rwm_o _ _ (by omega) (by omega), kq]
  rw [q_9_42]
  simp only [xR2 C, i1g C, h5, eq_true (nI_le (Nat.le_refl L) (by omega)), mq_ok Q, e186, xR9 C, xR6 C, hok C, e174, xR7 C', xR6 C', xR3 C', e2, e2', sok C'.now, e205, vok C', c189w C', sI1 C'.now, w190a C', w190b C', w190c C', eq5, Option.bind_some, kxi_s, kxv_s, kxr_s, if_true]
theorem play_R1 (M : isM W) {c a b P N E B s : Nat} {X : Nat → Nat → Int32} {x4 x6 k o ca se rr : Int32} (hc : c < 4) (ha : a < 4) (hb : b < 4) (S : SR f g P N E) (V : VR g P N E) (h : CB g B) (hs : s ≤ 8) (h5 : X 39 5 = nI s) (hrr : X 44 (4 * c + 2) = rr) :
    dn 114 75 [some (.ref 39), some (.int (nI c)), some (.int (nI a)), some (.int (nI b)), some (.int x4), some (.int 0), some (.int x6)] [] (tm W (m1 (plM X k o ca se) 40 g) l) = some (some (.int (tHp rr b c P (tHp rr a c P g) 1105 - x4)), tm W (m2 (cm (m1 (plM X k o ca se) 40 (tHp rr b c P (tHp rr a c P g))) (pst (X 43) (X 41) s) (nI (min (s + 1) 8))) 39 12 (nI 3)) (llm l [(tHp rr b c P (tHp rr a c P g) 1106).toInt64, k.toInt64, o.toInt64])) := by
  obtain ⟨S1, V1, B1⟩ := hp_all (r := rr) hc ha S V h
  have e1 := c94 (m := plM X k o ca se) (l := l) M S.g4 S.P12 ha hc
  rw [plM_o _ _ _ _ _ (by decide), hrr] at e1
  have e2 := c94 (m := plM X k o ca se) (l := l) M S1.g4 S.P12 hb hc
  rw [plM_o _ _ _ _ _ (by decide), hrr] at e2
  generalize hG : tHp rr b c P (tHp rr a c P g) = G at *
  have e3 := c83 (m := m1 (plM X k o ca se) 40 G) (l := l) M hs (by rw [m1_a _ _ (by decide), plM_k _ _ _ _ _ (by decide) (by decide) (by decide) (by decide)]; exact h5)
  rw [m1_a _ _ (show (43 : Nat) ≠ 40 by decide), m1_a _ _ (show (41 : Nat) ≠ 40 by decide), plM_o _ _ _ _ _ (show (43 : Nat) ≠ 39 by decide), plM_o _ _ _ _ _ (show (41 : Nat) ≠ 39 by decide)] at e3
  generalize hZ : cm (m1 (plM X k o ca se) 40 G) (pst (X 43) (X 41) s) (nI (min (s + 1) 8)) = Z at *
  have z40 : ∀ v, m2 Z 39 12 v 40 = G := fun v => by rw [m2_r _ _ _ (by decide), ← hZ, cm_o _ _ _ (by decide) (by decide), m1_s]
  have z14 : ∀ v, m2 Z 39 12 v 39 14 = k := fun v => by rw [m2_k _ _ _ _ (by decide), ← hZ, cm_39 _ _ _ (by decide), m1_a _ _ (by decide), plM_14]
  have z15 : ∀ v, m2 Z 39 12 v 39 15 = o := fun v => by rw [m2_k _ _ _ _ (by decide), ← hZ, cm_39 _ _ _ (by decide), m1_a _ _ (by decide), plM_15]
  rw [q_114_75]
  simp only [eq_true (show (0 : Int32) ≤ 0 by decide), rok M, e1, e2, e3, ru12 M, rR0 M, rl6 M, z40, c71p M, rI14 M, z14, c71q M, rI15 M, z15, c71r M, rl5 M, Option.bind_some, kxi_s, kxv_s, if_true]
theorem c82q (M : isM W) {X : Nat → Nat → Int32} (k o ca se : Int32) (G : Nat → Int32) : cl 82 [.ref 39] (tm W (m1 (plM X k o ca se) 40 G) l) = some (none, tm W (m1 (plM X k o ca se) 40 (fun k => if k < 1108 then X 41 k else G k)) l) := by
  have e := c82p (l := l) M (X := X) (A := X 41) k o ca se G
  rwa [m1_e] at e
theorem play_RL (M : isM W) {mc : Nat → Nat → Int32} {sg : Nat → Nat} {n c a b k cnt P N E red Sx : Nat} {al : Int32} {bn : Int32 → Nat} {st : SH} (hc : c < 4) (ha : a < 4) (hb : b < 4) (hab : a ≠ b) (h10 : mc 39 10 = nI n) (hn : n ≤ 200) (h47 : ∀ i, i < n → sg i < 256 ∧ mc 47 i = (nI (sg i)).toInt8.toInt32) (h40 : mc 40 = g) (hP2 : P ≤ 12) (hN2 : N ≤ 100) (hg : stP P N (g, E)) (hE : E + 24 < 2 ^ 30) (hsv : svF (nI c) (nI a) (nI b) P N (upd g 1106 (g 1106 + 1), E) = ((st.1, st.2.1), cnt, nI k)) (hst : st.2.2.2 = (0, 0)) (hk : k < 4096) (RR : rlR mc c Sx red al bn) (hok : okH P st) (hE2 : st.2.1 + 67 < 2 ^ 30) (hq : (plE sg n (itC sg n P)).1.2 = none) : ∃ X1 : Nat → Nat → Int32,
    (∀ x, x ≠ 39 → x ≠ 41 → x ≠ 49 → x ≠ 50 → X1 x = mc x) ∧ (∀ q, q ≠ 18 → q ≠ 22 → q ≠ 23 → q ≠ 21 → q ≠ 10 → q ≠ 13 → X1 39 q = mc 39 q) ∧ X1 39 10 = 0 ∧ X1 41 = (fun k => if k < 1108 then g k else mc 41 k) ∧
    ((shL al bn red c a b k (plE sg n (itC sg n P)).2 st).1 = 0 → cl 114 [.ref 39, .int (nI c), .int (nI a), .int (nI b)] (tm W mc l) = dn 114 75 [some (.ref 39), some (.int (nI c)), some (.int (nI a)), some (.int (nI b)), some (.int (nI N)), some (.int 0), some (.int (nI (plE sg n (itC sg n P)).2.length))] [] (tm W (m1 (plM X1 (nI cnt) (nI k) (nI (shL al bn red c a b k (plE sg n (itC sg n P)).2 st).2.2.2.2.1) (nI (shL al bn red c a b k (plE sg n (itC sg n P)).2 st).2.2.2.2.2)) 40 (shL al bn red c a b k (plE sg n (itC sg n P)).2 st).2.1) l)) ∧
    ((shL al bn red c a b k (plE sg n (itC sg n P)).2 st).1 ≠ 0 → ∃ ca' se' G x6, cl 114 [.ref 39, .int (nI c), .int (nI a), .int (nI b)] (tm W mc l) = dn 114 75 [some (.ref 39), some (.int (nI c)), some (.int (nI a)), some (.int (nI b)), some (.int (nI N)), some (.int (shL al bn red c a b k (plE sg n (itC sg n P)).2 st).1), some (.int x6)] [] (tm W (m1 (plM X1 (nI cnt) (nI k) ca' se') 40 G) l)) := by
  obtain ⟨hall, hlen⟩ := plC_all hn hq
  obtain ⟨mk, r0, r1, r2, r3⟩ := play_read (l := l) (mc := mc) (n := n) (P := P) (sg := sg) M h10 hn h47 (by rw [h40]; exact hg.1) hP2
  have hd := r3 hq
  generalize hXs : (plE sg n (itC sg n P)).2 = xs at *
  generalize hse : (plE sg n (itC sg n P)).1 = se at *
  have mo : ∀ x, x ≠ 39 → x ≠ 49 → x ≠ 50 → mk x = mc x := fun x h1 h2 h3 => by rw [r2.1 x h1 h2 h3, bgR_o _ _ h1, m2_r _ _ _ h1]
  have e0 := play_R0 (l := l) M hc ha hb hab r0 r1 hq ((mo 40 (by decide) (by decide) (by decide)).trans h40) hP2 hN2 hg hE hsv
  have e41 : txR mk se 41 = mc 41 := by rw [txR_o _ _ (by decide), mo _ (by decide) (by decide) (by decide)]
  rw [e41] at e0
  have f1 : ∀ x, x ≠ 39 → x ≠ 41 → x ≠ 49 → x ≠ 50 → m1 (txR mk se) 41 (fun k => if k < 1108 then g k else mc 41 k) x = mc x := fun x h1 h2 h3 h4 => by rw [m1_a _ _ h2, txR_o _ _ h1, mo x h1 h3 h4]
  refine ⟨m1 (txR mk se) 41 (fun k => if k < 1108 then g k else mc 41 k), f1, fun q q1 q2 q3 q4 q5 q6 => ?_, ?_, m1_s _ _ _, ?_⟩
  · rw [m1_a _ _ (by decide), txR_1 _ _ q2 q3, r2.2 q q1, bgR_k _ _ q4 q5, m2_k _ _ _ _ q6]
  · rw [m1_a _ _ (by decide), txR_1 _ _ (by decide) (by decide), r2.2 10 (by decide), bgR_10]
  · have d := d114 (l := l) (k0 := nI cnt) (x4 := nI N) (X := m1 (txR mk se) 41 (fun k => if k < 1108 then g k else mc 41 k)) (a := a) (b := b) (P := P) (L := xs.length) M (rlR_of (f1 44 (by decide) (by decide) (by decide) (by decide)) (f1 45 (by decide) (by decide) (by decide) (by decide)) (f1 46 (by decide) (by decide) (by decide) (by decide)) RR) hP2 hk hlen (by rw [m1_a _ _ (by decide), txR_1 _ _ (by decide) (by decide)]; exact hd.1) xs 0 st (by omega) (fun i e he => by
      rw [m1_a _ _ (by decide), txR_o _ _ (by decide), m1_a _ _ (by decide), txR_o _ _ (by decide), Nat.zero_add]
      exact hd.2 i e he) hall hok (by omega)
    rw [hst] at d
    exact ⟨fun hz => e0.trans (d.1 hz), fun hz => by
      obtain ⟨ca', se', G, x6, dd⟩ := d.2 hz
      exact ⟨ca', se', G, x6, e0.trans dd⟩⟩
end TXV

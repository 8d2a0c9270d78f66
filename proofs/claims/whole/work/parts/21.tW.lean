section TXW
variable {W : tm_W} {m : Nat → Nat → Int32} {l : Nat → Nat → Int64} {f g : Nat → Int32}
theorem play_good {j : Nat} (hj : j < 600) (h : Inv j W m l) {sg : Nat → Nat} {n c a b P N E : Nat} {mr : Nat → Nat → Int32} (hc : c < 4) (ha : a < 4) (hb : b < 4) (hab : a ≠ b) (S : SR (vw m 13) (m 40) P N E) (V : VR (m 40) P N E) (hE : E ≤ 300 * j) (hB : CB (m 40) (300 * j)) (hn : n ≤ 200) (h10 : m 39 10 = nI n) (h47 : ∀ i, i < n → sg i < 256 ∧ m 47 i = (nI (sg i)).toInt8.toInt32) (e63 : cl 63 [.ref 0] (tm W m l) = some (none, tm W (txC mr (plE sg n (itC sg n P)).1) l)) (F : frC m mr) (hq : (plE sg n (itC sg n P)).1.2 = none) (hd : hdC mr (plE sg n (itC sg n P)).2) : Both j W m l 9 114 [.int (nI c), .int (nI a), .int (nI b)] [.int (nI c), .int (nI a), .int (nI b)] := by
  obtain ⟨⟨C, M, h61, g1, g2, g3⟩, -, -, -, R, hT, hrow⟩ := id h
  have p12 := S.P12
  have n100 := S.N100
  obtain ⟨hall, hlen⟩ := plC_all hn hq
  obtain ⟨Sx, red, al, bn, RC, RR, hrr⟩ := rl_R (Y := m) (X := m) hc (R c hc)
  obtain ⟨sc, st, k, cnt, k1, k2, HPL, k4, k5, k6, k7, k8⟩ := play_beg (f := vw m 13) (g := m 40) (l := l) (c := c) (a := a) (b := b) hj S V hE hB
  have mo : ∀ s {x : Nat}, x ≠ 1 → x ≠ 5 → x ≠ 6 → txC (m2 mr 1 1 0) s x = m x := fun s x h1 h5 h6 => frC_o F s h1 h5 h6
  have e13 : vw (txC (m2 mr 1 1 0) (plE sg n (itC sg n P)).1) 13 = vw m 13 := vw_row fun x x1 x2 => mo _ (by omega) (by omega) (by omega)
  have eC0 := play_C0 (k := k) (cnt := cnt) (sc := sc.1) C g1 hc ha hb hab e63 hq (by rw [e13]; exact k8)
  have est : st.2.2.2 = (0, 0) := by rw [← HPL.1]; exact k2
  obtain ⟨Y, hY⟩ : ∃ Y, Y = m1 (txC (m2 mr 1 1 0) (plE sg n (itC sg n P)).1) W.1 (qF (nI c) (nI a) (nI b)) := ⟨_, rfl⟩
  rw [← hY] at eC0
  have Yo : ∀ {x : Nat}, x ≠ W.1 → x ≠ 1 → x ≠ 5 → x ≠ 6 → Y x = m x := fun h1 h2 h3 h4 => by rw [hY, m1_a _ _ h1, mo _ h2 h3 h4]
  have Y5 : Y 5 = mr 5 := by rw [hY, m1_a _ _ (by omega), txC_o _ _ (by decide), m2_r _ _ _ (by decide)]
  have Y6 : Y 6 = mr 6 := by rw [hY, m1_a _ _ (by omega), txC_o _ _ (by decide), m2_r _ _ _ (by decide)]
  have Y1 : Y 1 1 = 0 := by rw [hY, m1_a _ _ (by omega), txC_1 _ _ (by decide) (by decide), m2_s]
  have BP : isP Y W.1 c a b := ⟨by rw [hY, m1_s]; rfl, by rw [hY, m1_s]; rfl, by rw [hY, m1_s]; rfl⟩
  have sh62 : ∀ x, x < 62 → tm_sh (qW W) x = tm_sh W x := fun x hx => qW_sh W (by omega)
  have C1 : isC (qW W) := isC_of sh62 C
  have M1 : isM (qW W) := isM_of sh62 M
  have h61' : tm_sh (qW W) 61 = .inr (1, 1) := (sh62 61 (by decide)).trans h61
  have Q := qW_q W
  obtain ⟨okc, okt⟩ := PL_okH HPL (by rw [est]; decide) (by rw [est]; decide)
  obtain ⟨hcode, HP2⟩ := PL_L (a := a) (b := b) (o := k) (al := al) hc RR.2.2.2.2.2.1 (fun v => (RR.2.2.2.2.2.2 v).2) (plE sg n (itC sg n P)).2 (300 * j) sc st (by omega) hall HPL
  have eE : sc.2.1 = st.2.1 := by rw [HPL.1]
  have d := d9 (l := l) (x5 := nI cnt) (L := (plE sg n (itC sg n P)).2.length) C1 Q g1 BP (rlC_of (Yo (by omega) (by decide) (by decide) (by decide)) RC) p12 k1 hlen (by rw [Y5]; exact hd.1) (plE sg n (itC sg n P)).2 0 sc none (by omega) (fun i e he => by
    rw [Y6, Nat.zero_add]
    exact ⟨(hd.2 i e he).1, (hd.2 i e he).2.1⟩) hall okc (by omega)
  rw [k2] at d
  have hg : stP P N (m 40, E) := ⟨S.g4, S.g5, S.g7⟩
  generalize hXs : (plE sg n (itC sg n P)).2 = xs at *
  by_cases hz : (shL al bn red c a b k xs sc).1 = 0
  · have hz' : (shL al bn red c a b k xs st).1 = 0 := hcode.symm.trans hz
    obtain ⟨l8, dE, ok8⟩ := d.1 hz
    have hEl := shL_E (c := c) (a := a) (b := b) (o := k) (red := red) (al := al) (bn := bn) xs st
    obtain ⟨hpe, S2, V2, B2, -⟩ := HP2
    have eC1 := play_C1 (l := l) (o := nI k) (ca := nI (shL al bn red c a b k xs sc).2.2.2.2.1) (se := nI (shL al bn red c a b k xs sc).2.2.2.2.2) C1 Q g1 BP hc ha hb S2 V2 B2 (by omega)
    obtain ⟨S3, V3, B3⟩ := hp_all (r := m 44 (4 * c + 2)) hc ha S2 V2 B2
    obtain ⟨S4, V4, B4⟩ := hp_all (r := m 44 (4 * c + 2)) hc hb S3 V3 B3
    rw [Yo (show (10 : Nat) ≠ W.1 by omega) (by decide) (by decide) (by decide), hrr] at eC1
    generalize hfE : tHp (m 44 (4 * c + 2)) b c P (tHp (m 44 (4 * c + 2)) a c P (shL al bn red c a b k xs sc).2.1) = fE at *
    obtain ⟨Z, hZ⟩ : ∃ Z, Z = wv (mtQ Y W.1 (nI k) (nI (shL al bn red c a b k xs sc).2.2.2.2.1) (nI (shL al bn red c a b k xs sc).2.2.2.2.2)) 21 fE := ⟨_, rfl⟩
    rw [← hZ] at eC1
    have Zo : ∀ {x : Nat}, x ≠ W.1 → x ≠ 1 → x ≠ 5 → x ≠ 6 → (x < 21 ∨ 29 ≤ x) → Z x = m x := fun h1 h2 h3 h4 h5 => by rw [hZ, wv21 _ _ h5, mtQ_o _ _ _ _ h1, Yo h1 h2 h3 h4]
    obtain ⟨s, W', mk, hs8, h5s, ⟨C', M', hW, hsh, hsh1⟩, e174, q62, qq, hInv⟩ := act3 (W1 := qW W) (mc := Z) h C1 M1 h61' (by show W.1 ≤ W.1 + 1; omega) (by show W.1 + 1 ≤ W.1 + 1; omega) (by show W.2.1 + 8 ≤ W.2.1 + 10; omega) rfl (fun x hx => qW_sh W hx) rfl (Zo (by omega) (by decide) (by decide) (by decide) (by decide)) (fun x x1 x2 => Zo (by omega) (by omega) (by omega) (by omega) (by omega)) (vw_row fun x x1 x2 => Zo (by omega) (by omega) (by omega) (by omega) (by omega))
    have Q' : isQ W' W.1 := (hsh1 W.1 (by show W.1 < W.1 + 1; omega)).trans Q
    have eC2 := play_C2 (l := l) (c := nI c) (a := nI a) (b := nI b) (x5 := nI cnt) (o := nI k) (l7 := l8) (L := xs.length) (N := N) (fE := fE) (mk := mk) C1 C' Q Q' g1 (by omega) (by rw [wv21 _ _ (by decide), mtQ_o _ _ _ _ (by omega), Y5]; exact hd.1) eC1 e174 (fun i hi => by
      rw [vw_row (m := Z) fun x x1 x2 => q62 x (by omega) (by omega), hZ]
      exact vw_wv _ _ _ hi) (by
      rw [q62 13 (by decide) (by decide), Zo (by omega) (by decide) (by decide) (by decide) (by decide)]
      exact S.f5) (by rw [qq W.1 (Nat.le_refl _) (by show W.1 < W.1 + 1; omega), hZ, wv21 _ _ (by omega), mtQ_5])
    have Ko : ∀ {x : Nat}, x < 62 → x ≠ 37 → x ≠ 7 → x ≠ 8 → x ≠ 1 → x ≠ 5 → x ≠ 6 → (x < 13 ∨ 29 ≤ x) → wv (rwm mk [fE 1106, nI cnt, nI k]) 13 fE x = m x := fun h1 h2 h3 h4 h5 h6 h7 h8 => by
      rw [wv_out _ _ (by omega), rwm_o _ _ h3 h4, q62 _ h1 h2, Zo (by omega) h5 h6 h7 (by omega)]
    obtain ⟨X1, x1, x2, x3, x4, x5, -⟩ := play_RL (l := l) (W := W') (mc := wv (rwm mk [fE 1106, nI cnt, nI k]) 13 fE) (g := m 40) (st := st) (sg := sg) (n := n) M' hc ha hb hab (by rw [Ko (by decide) (by decide) (by decide) (by decide) (by decide) (by decide) (by decide) (by decide)]; exact h10) hn (fun i hi => by rw [Ko (by decide) (by decide) (by decide) (by decide) (by decide) (by decide) (by decide) (by decide)]; exact h47 i hi) (Ko (by decide) (by decide) (by decide) (by decide) (by decide) (by decide) (by decide) (by decide)) p12 n100 hg (by omega) k7 est k1 (rlR_of (Ko (by decide) (by decide) (by decide) (by decide) (by decide) (by decide) (by decide) (by decide)) (Ko (by decide) (by decide) (by decide) (by decide) (by decide) (by decide) (by decide) (by decide)) (Ko (by decide) (by decide) (by decide) (by decide) (by decide) (by decide) (by decide) (by decide)) RR) okt (by omega) hq
    rw [hXs] at x5
    have rE := x5 hz'
    have rF := play_R1 (l := l) (X := X1) (x4 := nI N) (x6 := nI xs.length) (k := nI cnt) (o := nI k) (ca := nI (shL al bn red c a b k xs st).2.2.2.2.1) (se := nI (shL al bn red c a b k xs st).2.2.2.2.2) (rr := m 44 (4 * c + 2)) M' hc ha hb S2 V2 B2 hs8 (by rw [x2 5 (by decide) (by decide) (by decide) (by decide) (by decide) (by decide), Ko (by decide) (by decide) (by decide) (by decide) (by decide) (by decide) (by decide) (by decide)]; exact h5s) (by rw [x1 44 (by decide) (by decide) (by decide) (by decide), Ko (by decide) (by decide) (by decide) (by decide) (by decide) (by decide) (by decide) (by decide)])
    generalize hgE : tHp (m 44 (4 * c + 2)) b c P (tHp (m 44 (4 * c + 2)) a c P (shL al bn red c a b k xs st).2.1) = gE at *
    have e5 : fE 1105 = gE 1105 := S4.f5.trans S4.g5.symm
    have e6 : fE 1106 = gE 1106 := S4.e6
    obtain ⟨U, hU⟩ : ∃ U, U = m2 (cm (m1 (plM X1 (nI cnt) (nI k) (nI (shL al bn red c a b k xs st).2.2.2.2.1) (nI (shL al bn red c a b k xs st).2.2.2.2.2)) 40 gE) (pst (X1 43) (X1 41) s) (nI (min (s + 1) 8))) 39 12 (nI 3) := ⟨_, rfl⟩
    rw [← hU] at rF
    have Uo : ∀ {x : Nat}, x ≠ 39 → x ≠ 40 → x ≠ 41 → x ≠ 43 → x ≠ 49 → x ≠ 50 → U x = wv (rwm mk [fE 1106, nI cnt, nI k]) 13 fE x := fun h1 h2 h3 h4 h5 h6 => by
      rw [hU, m2_r _ _ _ h1, cm_o _ _ _ h4 h1, m1_a _ _ h2, plM_o _ _ _ _ _ h1, x1 _ h1 h3 h5 h6]
    have U39 : ∀ {q : Nat}, q ≠ 12 → q ≠ 5 → q ≠ 14 → q ≠ 15 → q ≠ 19 → q ≠ 20 → U 39 q = X1 39 q := fun h1 h2 h3 h4 h5 h6 => by
      rw [hU, m2_k _ _ _ _ h1, cm_39 _ _ _ h2, m1_a _ _ (by decide), plM_k _ _ _ _ _ h3 h4 h5 h6]
    refine ⟨fE 1105 - nI N, W', wv (rwm mk [fE 1106, nI cnt, nI k]) 13 fE, l, W', U, _, eC0.trans (dE.trans eC2), (rE.trans rF).trans (by rw [e5]), hW, hW, hsh 0 (by decide), hsh 39 (by decide), hInv U _ fE gE P _ _ S4 V4 (by omega) (CB_le B4 (by omega)) (fun i hi => ?_) (fun i hi => ?_) (fun x hx => ?_) ?_ ?_ ?_ ?_ (fun x hx => ?_) (fun q i hi hk => ?_) ?_ ?_⟩
    · rw [vw_row (m := wv (rwm mk [fE 1106, nI cnt, nI k]) 13 fE) fun x x1 x2 => Uo (by omega) (by omega) (by omega) (by omega) (by omega) (by omega)]
      exact vw_wv _ _ _ hi
    · rw [hU, m2_r _ _ _ (by decide), cm_o _ _ _ (by decide) (by decide), m1_s]
    · rw [Uo (by omega) (by omega) (by omega) (by omega) (by omega) (by omega), Ko (by omega) (by omega) (by omega) (by omega) (by omega) (by omega) (by omega) (by omega)]
    · rw [Uo (by decide) (by decide) (by decide) (by decide) (by decide) (by decide), Ko (by decide) (by decide) (by decide) (by decide) (by decide) (by decide) (by decide) (by decide)]
    · rw [U39 (by decide) (by decide) (by decide) (by decide) (by decide) (by decide), x2 3 (by decide) (by decide) (by decide) (by decide) (by decide) (by decide), Ko (by decide) (by decide) (by decide) (by decide) (by decide) (by decide) (by decide) (by decide)]
    · rw [Uo (by decide) (by decide) (by decide) (by decide) (by decide) (by decide), wv_out _ _ (by decide), rwm_o _ _ (by decide) (by decide)]
    · rw [hU, m2_k _ _ _ _ (by decide), cm_5]
    · rw [Uo (by omega) (by omega) (by omega) (by omega) (by omega) (by omega), wv_out _ _ (by omega), rwm_o _ _ (by omega) (by omega)]
    · rw [hU, m2_r _ _ _ (by decide), cm_43, x1 43 (by decide) (by decide) (by decide) (by decide), x4, Ko (by decide) (by decide) (by decide) (by decide) (by decide) (by decide) (by decide) (by decide), Ko (by decide) (by decide) (by decide) (by decide) (by decide) (by decide) (by decide) (by decide)]
    · exact iTxt_0 (by rw [Uo (by decide) (by decide) (by decide) (by decide) (by decide) (by decide), wv_out _ _ (by decide), rwm_o _ _ (by decide) (by decide), q62 1 (by decide) (by decide), hZ, wv21 _ _ (by decide), mtQ_o _ _ _ _ (by omega), Y1]) (by rw [U39 (by decide) (by decide) (by decide) (by decide) (by decide) (by decide), x3])
    · rw [← e6]
      exact iRow_xs l (xs := [fE 1106, nI cnt, nI k]) (show 3 ≤ 100 by decide) (by rw [Uo (by decide) (by decide) (by decide) (by decide) (by decide) (by decide), wv_out _ _ (by decide), rwm_7]) (fun i hi => by rw [Uo (by decide) (by decide) (by decide) (by decide) (by decide) (by decide), wv_out _ _ (by decide), rwm_8 _ _ hi]) (by rw [hU, m2_s]; rfl)
  · obtain ⟨ca', se', G, dE⟩ := d.2 hz
    have hz' : (shL al bn red c a b k xs st).1 ≠ 0 := fun z => hz (hcode.trans z)
    have Zo : ∀ {x : Nat}, x ≠ W.1 → x ≠ 1 → x ≠ 5 → x ≠ 6 → (x < 21 ∨ 29 ≤ x) → wv (mtQ Y W.1 (nI k) ca' se') 21 G x = m x := fun h1 h2 h3 h4 h5 => by rw [wv21 _ _ h5, mtQ_o _ _ _ _ h1, Yo h1 h2 h3 h4]
    obtain ⟨X1, x1, x2, x3, x4, -, x6⟩ := play_RL (l := l) (W := qW W) (mc := wv (mtQ Y W.1 (nI k) ca' se') 21 G) (g := m 40) (st := st) (sg := sg) (n := n) M1 hc ha hb hab (by rw [Zo (by omega) (by decide) (by decide) (by decide) (by decide)]; exact h10) hn (fun i hi => by rw [Zo (by omega) (by decide) (by decide) (by decide) (by decide)]; exact h47 i hi) (Zo (by omega) (by decide) (by decide) (by decide) (by decide)) p12 n100 hg (by omega) k7 est k1 (rlR_of (Zo (by omega) (by decide) (by decide) (by decide) (by decide)) (Zo (by omega) (by decide) (by decide) (by decide) (by decide)) (Zo (by omega) (by decide) (by decide) (by decide) (by decide)) RR) okt (by omega) hq
    rw [hXs] at x6
    obtain ⟨ca2, se2, G2, y6, rE⟩ := x6 hz'
    have hneg := shL_neg _ _ hz'
    have fx : ∀ {x : Nat}, x ≠ 39 → x ≠ 40 → x ≠ 41 → x ≠ 49 → x ≠ 50 → m1 (plM X1 (nI cnt) (nI k) ca2 se2) 40 (fun k => if k < 1108 then X1 41 k else G2 k) x = wv (mtQ Y W.1 (nI k) ca' se') 21 G x := fun h1 h2 h3 h4 h5 => by
      rw [m1_a _ _ h2, plM_o _ _ _ _ _ h1, x1 _ h1 h3 h4 h5]
    have fm : ∀ {x : Nat}, x ≠ 39 → x ≠ 40 → x ≠ 41 → x ≠ 49 → x ≠ 50 → x ≠ W.1 → x ≠ 1 → x ≠ 5 → x ≠ 6 → (x < 21 ∨ 29 ≤ x) → m1 (plM X1 (nI cnt) (nI k) ca2 se2) 40 (fun k => if k < 1108 then X1 41 k else G2 k) x = m x := fun h1 h2 h3 h4 h5 h6 h7 h8 h9 h10 => by
      rw [fx h1 h2 h3 h4 h5, Zo h6 h7 h8 h9 h10]
    have f39 : ∀ {q : Nat}, q ≠ 14 → q ≠ 15 → q ≠ 19 → q ≠ 20 → m1 (plM X1 (nI cnt) (nI k) ca2 se2) 40 (fun k => if k < 1108 then X1 41 k else G2 k) 39 q = X1 39 q := fun h1 h2 h3 h4 => by
      rw [m1_a _ _ (by decide), plM_k _ _ _ _ _ h1 h2 h3 h4]
    have g39 : ∀ {q : Nat}, q ≠ 14 → q ≠ 15 → q ≠ 19 → q ≠ 20 → q ≠ 18 → q ≠ 22 → q ≠ 23 → q ≠ 21 → q ≠ 10 → q ≠ 13 → m1 (plM X1 (nI cnt) (nI k) ca2 se2) 40 (fun k => if k < 1108 then X1 41 k else G2 k) 39 q = m 39 q := fun h1 h2 h3 h4 h5 h6 h7 h8 h9 h10 => by
      rw [f39 h1 h2 h3 h4, x2 _ h5 h6 h7 h8 h9 h10, Zo (by omega) (by decide) (by decide) (by decide) (by decide)]
    refine ⟨(shL al bn red c a b k xs sc).1, qW W, wv (mtQ Y W.1 (nI k) ca' se') 21 G, l, qW W, m1 (plM X1 (nI cnt) (nI k) ca2 se2) 40 (fun k => if k < 1108 then X1 41 k else G2 k), l, eC0.trans dE, ?_, rfl, rfl, sh62 0 (by decide), sh62 39 (by decide), Inv_v h C1 M1 h61' (by show W.1 ≤ W.1 + 1; omega) (by show W.1 + 1 ≤ W.1 + 1; omega) (by show W.2.1 + 8 ≤ W.2.1 + 10; omega) (fun x hx => qW_sh W hx) rfl (fun x hx => ?_) (fun x y1 y2 => ?_) (fun i hi => ?_) ?_ ?_ ?_ ?_ ?_ ?_ ?_⟩
    · rw [rE, q_114_75]
      simp only [eq_false hneg, rok M1, c82q M1, kxv_s, if_true, if_false, hcode]
    · exact fm (by omega) (by omega) (by omega) (by omega) (by omega) (by omega) (by omega) (by omega) (by omega) (by omega)
    · exact fm (by omega) (by omega) (by omega) (by omega) (by omega) (by omega) (by omega) (by omega) (by omega) (by omega)
    · rw [m1_s, if_pos hi, x4]
      exact if_pos hi
    · rw [fm (by decide) (by decide) (by decide) (by decide) (by decide) (by omega) (by decide) (by decide) (by decide) (by decide)]
    · rw [fm (by decide) (by decide) (by decide) (by decide) (by decide) (by omega) (by decide) (by decide) (by decide) (by decide)]
    · rw [fm (by decide) (by decide) (by decide) (by decide) (by decide) (by omega) (by decide) (by decide) (by decide) (by decide)]
    · exact g39 (by decide) (by decide) (by decide) (by decide) (by decide) (by decide) (by decide) (by decide) (by decide) (by decide)
    · exact g39 (by decide) (by decide) (by decide) (by decide) (by decide) (by decide) (by decide) (by decide) (by decide) (by decide)
    · exact iTxt_0 (by rw [fx (by decide) (by decide) (by decide) (by decide) (by decide), wv21 _ _ (by decide), mtQ_o _ _ _ _ (by omega), Y1]) (by rw [f39 (by decide) (by decide) (by decide) (by decide), x3])
    · exact iRow_fr hrow (by rw [fm (by decide) (by decide) (by decide) (by decide) (by decide) (by omega) (by decide) (by decide) (by decide) (by decide)]) (fm (by decide) (by decide) (by decide) (by decide) (by decide) (by omega) (by decide) (by decide) (by decide) (by decide)) (g39 (by decide) (by decide) (by decide) (by decide) (by decide) (by decide) (by decide) (by decide) (by decide) (by decide))
theorem b_play {j : Nat} (hj : j < 600) (h : Inv j W m l) (x0 x1 x2 : Int32) : Both j W m l 9 114 [.int x0, .int x1, .int x2] [.int x0, .int x1, .int x2] := by
  obtain ⟨⟨C, M, h61, g1, g2, g3⟩, ⟨P, N, E, S, V, hE, hB⟩, -, -, R, hT, hrow⟩ := id h
  have p12 := S.P12
  have n100 := S.N100
  obtain ⟨n, sg, T, h10, h47⟩ := iTxt_sg hT
  have hn := T.2.1
  obtain ⟨mr, e63, F, hd⟩ := rd63 (l := l) C T (P := P) S.f4 p12
  have hoks := plE_ok (sg := sg) (it := itC sg n P) hn (fun s hs => itC_ok hn hs)
  have mo : ∀ s {a : Nat}, a ≠ 1 → a ≠ 5 → a ≠ 6 → txC (m2 mr 1 1 0) s a = m a := fun s a h1 h5 h6 => frC_o F s h1 h5 h6
  obtain ⟨mk, r0, r1, r2, r3⟩ := play_read (l := l) (mc := txC (m2 mr 1 1 0) (plE sg n (itC sg n P)).1) (n := n) (P := P) (sg := sg) M (by rw [mo _ (by decide) (by decide) (by decide)]; exact h10) hn (fun i hi => by rw [mo _ (by decide) (by decide) (by decide)]; exact h47 i hi) (by rw [mo _ (by decide) (by decide) (by decide)]; exact S.g4) p12
  have TF := tFr_K F (plE sg n (itC sg n P)).1 (plE sg n (itC sg n P)).1 r2
  by_cases hq : (plE sg n (itC sg n P)).1.2 = none
  · have es : enc (plE sg n (itC sg n P)).1.2 = -1 := by rw [hq]; rfl
    have bad : (nin x0 4 ∨ nin x1 4 ∨ nin x2 4 ∨ x1 = x2) → Both j W m l 9 114 [.int x0, .int x1, .int x2] [.int x0, .int x1, .int x2] := fun hbad => by
      refine ⟨-1, W, txC (m2 mr 1 1 0) (plE sg n (itC sg n P)).1, l, W, txR mk (plE sg n (itC sg n P)).1, l, ?_, ?_, rfl, rfl, rfl, rfl, Inv_tf h TF⟩
      · simp only [q_9, xok C, xR0 C, t_ok C, e63, c243 C, c246e C hq, Option.bind_some, kxi_s, kxv_s, if_true, if_false, i10]
        rcases arg x0 4 (by decide) with ⟨c, hc, rfl⟩ | h0
        · have hb2 : nin x1 4 ∨ nin x2 4 ∨ x1 = x2 := hbad.resolve_left fun z => by
            rcases z with z | z
            · exact nI_pos (show c < 2 ^ 31 by omega) z
            · exact nI_ge hc (by decide) z
          simp only [c49y hc, kxi_s, i10, if_false, c51n hb2, if_true]
        · simp only [c49n h0, kxi_s, if_true]
      · simp only [q_114, rok M, ru13 M, r0, r1, u_3 M, es, Option.bind_some, kxv_s, if_true]
        rcases arg x0 4 (by decide) with ⟨c, hc, rfl⟩ | h0
        · simp only [c75y hc, kxi_s, i10, if_false]
          rcases arg x1 4 (by decide) with ⟨a, ha, rfl⟩ | h1
          · simp only [c76y ha, kxi_s, i10, if_false]
            rcases arg x2 4 (by decide) with ⟨b, hb, rfl⟩ | h2
            · simp only [c76y hb, kxi_s, i10, if_false]
              have : nI a = nI b := by
                rcases hbad with z | z | z | z
                · rcases z with z | z
                  · exact absurd z (nI_pos (by omega))
                  · exact absurd z (nI_ge hc (by decide))
                · rcases z with z | z
                  · exact absurd z (nI_pos (by omega))
                  · exact absurd z (nI_ge ha (by decide))
                · rcases z with z | z
                  · exact absurd z (nI_pos (by omega))
                  · exact absurd z (nI_ge hb (by decide))
                · exact z
              simp only [eq_true this, if_true]
            · simp only [c76n h2, kxi_s, if_true]
          · simp only [c76n h1, kxi_s, if_true]
        · simp only [c75n h0, kxi_s, if_true]
    rcases arg x0 4 (by decide) with ⟨c, hc, rfl⟩ | h0
    · rcases arg x1 4 (by decide) with ⟨a, ha, rfl⟩ | h1
      · rcases arg x2 4 (by decide) with ⟨b, hb, rfl⟩ | h2
        · by_cases hab : a = b
          · exact bad (Or.inr (Or.inr (Or.inr (by rw [hab]))))
          · exact play_good hj h hc ha hb hab S V hE hB hn h10 h47 e63 F hq (hd hq)
        · exact bad (Or.inr (Or.inr (Or.inl h2)))
      · exact bad (Or.inr (Or.inl h1))
    · exact bad (Or.inl h0)
  · generalize hse : (plE sg n (itC sg n P)).1 = se at *
    obtain ⟨a, q⟩ := se
    cases q with
    | none => exact absurd rfl hq
    | some p =>
      have hp : p ≤ 200 := hoks.2 p rfl
      refine ⟨-21 - nI p, W, txC (m2 mr 1 1 0) (a, some p), l, W, txR mk (a, some p), l, ?_, ?_, rfl, rfl, rfl, rfl, Inv_tf h TF⟩
      · simp only [q_9, xok C, xR0 C, t_ok C, e63, c243 C, c246f C a hp, c58 C, Option.bind_some, kxi_s, kxv_s, if_true]
      · simp only [q_114, rok M, ru13 M, r0, r1, u_3 M, enc_s, eq_false (nI_ne_m1 (show p < 2 ^ 31 by omega)), kxv_s, Option.bind_some, if_true, if_false]
end TXW

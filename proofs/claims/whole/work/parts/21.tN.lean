section TXN
variable {W : tm_W} {m : Nat → Nat → Int32} {l : Nat → Nat → Int64} {f g : Nat → Int32}
theorem k52y (C : isC W) {P j : Nat} (hP : m 13 0 = nI P) (hP2 : P ≤ 12) (hj : j < P) : cl 52 [.ref 0, .int (nI j)] (tm W m l) = some (some (.int 1), tm W m l) := by
  rw [q_52, if_neg (nI_pos (by omega)), xR6 C, Option.bind_some, tm_gI C.now.1 rfl, Option.bind_some, hP, if_neg (nI_ge hj (by omega))]
theorem k52n (C : isC W) {P : Nat} (hP : m 13 0 = nI P) {x : Int32} (hx : nin x P) : cl 52 [.ref 0, .int x] (tm W m l) = some (some (.int 0), tm W m l) := by
  rw [q_52, xR6 C, Option.bind_some, tm_gI C.now.1 rfl, Option.bind_some, hP]
  rcases hx with hx | hx
  · rw [if_pos hx]
  · rw [if_pos hx]
    split <;> rfl
theorem k77y (M : isM W) {P j : Nat} (hP : m 40 1104 = nI P) (hP2 : P ≤ 12) (hj : j < P) : cl 77 [.ref 39, .int (nI j)] (tm W m l) = some (some (.int 1), tm W m l) := by
  have e := c77y (m := m) (l := l) (f := m 40) M hP hP2 hj
  rwa [m1_e] at e
theorem k77n (M : isM W) {P : Nat} (hP : m 40 1104 = nI P) (hP2 : P ≤ 12) {x : Int32} (hx : nin x P) : cl 77 [.ref 39, .int x] (tm W m l) = some (some (.int 0), tm W m l) := by
  have e := c77n (m := m) (l := l) (f := m 40) M hP hP2 hx
  rwa [m1_e] at e
/-! returns -/
theorem b_returns {j : Nat} (hj : j < 600) (h : Inv j W m l) (x0 : Int32) : Both j W m l 31 147 [.int x0] [.int x0] := by
  obtain ⟨⟨C, M, h61, g1, g2, g3⟩, ⟨P, N, E, S, V, hE, hB⟩, -, -, R, hT, hrow⟩ := id h
  have p12 := S.P12
  have n100 := S.N100
  obtain ⟨n, sg, T, h10, h47⟩ := iTxt_sg hT
  have hn := T.2.1
  obtain ⟨mr, e65, F, hd⟩ := rd65 (l := l) C T
  have hoks := plE_ok (sg := sg) (it := itL sg n) hn (fun s hs => (itL_ok hn hs).2.2.2)
  have mo : ∀ s {a : Nat}, a ≠ 1 → a ≠ 5 → a ≠ 6 → txC (m2 mr 1 1 0) s a = m a := fun s a h1 h5 h6 => frC_o F s h1 h5 h6
  have hP13 : ∀ s, txC (m2 mr 1 1 0) s 13 0 = nI P := fun s => by rw [mo _ (by decide) (by decide) (by decide)]; exact S.f4
  by_cases hq : (plE sg n (itL sg n)).1.2 = none
  · have hall := plL_all (sg := sg) hn hq
    have hlen := plL_len (sg := sg) hn hq
    have hd' := hd hq
    have es : enc (plE sg n (itL sg n)).1.2 = -1 := by rw [hq]; rfl
    rcases arg x0 P (by omega) with ⟨p0, hp, rfl⟩ | hx0
    · generalize hXs : (plE sg n (itL sg n)).2 = xs at *
      generalize hse : (plE sg n (itL sg n)).1 = se at *
      have sc : stP P N (vw m 13, E) := ⟨S.f4, S.f5, S.f7⟩
      have sr : stP P N (m 40, E) := ⟨S.g4, S.g5, S.g7⟩
      have c1 := d31 (l := l) C (Y := txC (m2 mr 1 1 0) se) (L := xs.length) (P := P) (N := N) (p0 := p0) (by omega) (by rw [txC_o _ _ (by decide), m2_a _ _ _ _ (by decide)]; exact hd'.1) (by omega) n100 xs 0 (vw m 13, E) 0 (by omega) (fun q e he => by
        rw [txC_o _ _ (by decide), m2_r _ _ _ (by decide), Nat.zero_add]
        exact hd'.2 q e he) sc (by show E + 2 * xs.length + 1 < 2 ^ 30; omega)
      have e205 := c205' (m := txC (m2 mr 1 1 0) se) (l := l) C.tho C.now (by omega)
      rw [show vw (txC (m2 mr 1 1 0) se) 13 = vw m 13 from vw_row fun x x1 x2 => mo _ (by omega) (by omega) (by omega)] at e205
      have hc : cl 31 [.ref 0, .int (nI p0)] (tm W m l) = rtO W (txC (m2 mr 1 1 0) se) l (rtF p0 N xs 0 (vw m 13, E) 0) := by
        simp only [q_31, xok C, xR0 C, xR6 C, xR7 C, t_ok C, e65, c243 C, c246e C hq, k52y C (hP13 se) p12 hp, sok C.tho, e205, Option.bind_some, kxi_s, kxv_s, if_true, if_false, i10]
        exact c1
      have key : ∀ (mc : Nat → Nat → Int32), (∀ {x : Nat}, x ≠ 1 → x ≠ 5 → x ≠ 6 → x ≠ 7 → x ≠ 8 → (x < 21 ∨ 29 ≤ x) → mc x = m x) → ∃ (mk : Nat → Nat → Int32) (A : Nat → Int32) (x3 a' b' : Int32) (G : Nat → Int32), frL (bgR (m2 mc 39 13 0) n) mk ∧ (∀ i, i < 1108 → A i = m 40 i) ∧ (∀ q, (rtF p0 N xs 0 (vw m 13, E) 0).1 = some q → x3 = nI q.2 ∧ q.1 < 2 ^ 31) ∧ cl 147 [.ref 39, .int (nI p0)] (tm W mc l) = (if rtX (rtF p0 N xs 0 (vw m 13, E) 0).1 = -2 then some (some (.int (-2)), tm W (m1 (svM (m1 (txR mk se) 41 A) a' b') 40 (fun k => if k < 1108 then A k else G k)) l) else some (some (.int (rtX (rtF p0 N xs 0 (vw m 13, E) 0).1)), tm W (m1 (m2 (svM (m1 (txR mk se) 41 A) a' b') 39 12 (nI 1)) 40 (fun k => if k < 1108 then A k else G k)) (llm l [x3.toInt64]))) := by
        intro mc ko
        obtain ⟨mk, r1, r2, r3⟩ := rd142 (l := l) (m := m2 mc 39 13 0) (n := n) (sg := sg) M (by rw [m2_k _ _ _ _ (by decide), ko (by decide) (by decide) (by decide) (by decide) (by decide) (by decide)]; exact h10) hn (fun i hi => by rw [m2_r _ _ _ (by decide), ko (by decide) (by decide) (by decide) (by decide) (by decide) (by decide)]; exact h47 i hi)
        rw [hXs, hse] at r3
        rw [hse] at r1
        have r3' := r3 hq
        have X40 : txR mk se 40 = m 40 := by rw [txR_o _ _ (by decide), r2.1 40 (by decide) (by decide) (by decide) (by decide), bgR_o _ _ (by decide), m2_r _ _ _ (by decide), ko (by decide) (by decide) (by decide) (by decide) (by decide) (by decide)]
        have e81 := c81 (m := txR mk se) (l := l) M
        rw [X40] at e81
        generalize hA : (fun k => if k < 1108 then m 40 k else txR mk se 41 k) = A at *
        have hAi : ∀ i, i < 1108 → A i = m 40 i := fun i hi => by rw [← hA]; exact if_pos hi
        obtain ⟨x3, x4, l6, a', b', G, d1, d2⟩ := d147 (l := l) M (X := m1 (txR mk se) 41 A) (L := xs.length) (P := P) (N := N) (p0 := p0) (by omega) (by rw [m1_a _ _ (by decide), txR_1 _ _ (by decide) (by decide)]; exact r3'.1) p12 hp n100 xs 0 (vw m 13, E) (m 40, E) 0 (m1 (txR mk se) 41 A 39 14) (m1 (txR mk se) 41 A 39 15) none (by omega) (fun q e he => by
          rw [m1_a _ _ (by decide), m1_a _ _ (by decide), m1_a _ _ (by decide), txR_o _ _ (by decide), txR_o _ _ (by decide), txR_o _ _ (by decide), Nat.zero_add]
          exact r3'.2 q e he) hall (K1_SR S hp) sr (by show E + 24 * xs.length + 24 < 2 ^ 30; omega)
        have em : m1 (svM (m1 (txR mk se) 41 A) (m1 (txR mk se) 41 A 39 14) (m1 (txR mk se) 41 A 39 15)) 40 (m 40) = m1 (txR mk se) 41 A := by
          rw [svM_e, ← X40]
          have := m1_e (m1 (txR mk se) 41 A) 40
          rwa [m1_a _ _ (show (40 : Nat) ≠ 41 by decide)] at this
        rw [em] at d1
        refine ⟨mk, A, x3, a', b', G, r2, hAi, d2, ?_⟩
        simp only [q_147, rok M, ru13 M, r1, u_3 M, es, k77y M (show txR mk se 40 1104 = nI P by rw [X40]; exact S.g4) p12 hp, e81, Option.bind_some, kxi_s, kxv_s, if_true, if_false, i10]
        rw [show dn 147 28 [some (.ref 39), some (.int (nI p0)), some (.int (-2)), some (.int 0), some (.int 0), none] [] _ = _ from d1, q_147_71]
        simp only [rok M, if_true, c82k M, kxv_s, ruw12 M, Option.bind_some, c71a M]
      generalize hrt : rtF p0 N xs 0 (vw m 13, E) 0 = rt at *
      obtain ⟨o, s⟩ := rt
      cases o with
      | none =>
        obtain ⟨mk, A, x3, a', b', G, k1, k2, k3, k4⟩ := key (wv (txC (m2 mr 1 1 0) se) 21 s.1) (fun h1 h2 h3 h4 h5 h6 => by rw [wv21 _ _ h6, mo _ h1 h2 h3])
        rw [if_pos (show rtX none = -2 from rfl)] at k4
        exact ⟨-2, W, wv (txC (m2 mr 1 1 0) se) 21 s.1, l, W, _, l, hc, k4, rfl, rfl, rfl, rfl, Inv_th0 h F k1 (fun i hi => by rw [if_pos hi]; exact k2 i hi)⟩
      | some q =>
        obtain ⟨mk, A, x3, a', b', G, k1, k2, k3, k4⟩ := key (wv (rwm (txC (m2 mr 1 1 0) se) [nI q.2]) 21 s.1) (fun h1 h2 h3 h4 h5 h6 => by rw [wv21 _ _ h6, rwm_o _ _ h4 h5, mo _ h1 h2 h3])
        obtain ⟨z1, z2⟩ := k3 q rfl
        rw [if_neg (show ¬ rtX (some q) = -2 from nI_ne_m2 z2), z1] at k4
        exact ⟨nI q.1, W, wv (rwm (txC (m2 mr 1 1 0) se) [nI q.2]) 21 s.1, l, W, _, _, hc, k4, rfl, rfl, rfl, rfl, Inv_th (xs := [nI q.2]) h F k1 (fun i hi => by rw [if_pos hi]; exact k2 i hi) (by simp)⟩
    · obtain ⟨mk, r1, r2, r3⟩ := rd142 (l := l) (m := m2 (txC (m2 mr 1 1 0) (plE sg n (itL sg n)).1) 39 13 0) (n := n) (sg := sg) M (by rw [m2_k _ _ _ _ (by decide), mo _ (by decide) (by decide) (by decide)]; exact h10) hn (fun i hi => by rw [m2_r _ _ _ (by decide), mo _ (by decide) (by decide) (by decide)]; exact h47 i hi)
      have TF := tFr_L F (plE sg n (itL sg n)).1 (plE sg n (itL sg n)).1 r2
      have X40 : txR mk (plE sg n (itL sg n)).1 40 1104 = nI P := by rw [TF.1 40 (by omega)]; exact S.g4
      refine ⟨-1, W, txC (m2 mr 1 1 0) (plE sg n (itL sg n)).1, l, W, txR mk (plE sg n (itL sg n)).1, l, ?_, ?_, rfl, rfl, rfl, rfl, Inv_tf h TF⟩
      · simp only [q_31, xok C, xR0 C, t_ok C, e65, c243 C, c246e C hq, k52n C (hP13 _) hx0, Option.bind_some, kxi_s, kxv_s, if_true, if_false, i10]
      · simp only [q_147, rok M, ru13 M, r1, u_3 M, es, k77n M X40 p12 hx0, kxi_s, kxv_s, Option.bind_some, if_true, if_false]
  · obtain ⟨mk, r1, r2, r3⟩ := rd142 (l := l) (m := m2 (txC (m2 mr 1 1 0) (plE sg n (itL sg n)).1) 39 13 0) (n := n) (sg := sg) M (by rw [m2_k _ _ _ _ (by decide), mo _ (by decide) (by decide) (by decide)]; exact h10) hn (fun i hi => by rw [m2_r _ _ _ (by decide), mo _ (by decide) (by decide) (by decide)]; exact h47 i hi)
    have TF := tFr_L F (plE sg n (itL sg n)).1 (plE sg n (itL sg n)).1 r2
    generalize hse : (plE sg n (itL sg n)).1 = se at *
    obtain ⟨a, q⟩ := se
    cases q with
    | none => exact absurd rfl hq
    | some p =>
      have hp : p ≤ 200 := hoks.2 p rfl
      refine ⟨-21 - nI p, W, txC (m2 mr 1 1 0) (a, some p), l, W, txR mk (a, some p), l, ?_, ?_, rfl, rfl, rfl, rfl, Inv_tf h TF⟩
      · simp only [q_31, xok C, xR0 C, t_ok C, e65, c243 C, c246f C a hp, c58 C, Option.bind_some, kxi_s, kxv_s, if_true]
      · simp only [q_147, rok M, ru13 M, r1, u_3 M, enc_s, eq_false (nI_ne_m1 (show p < 2 ^ 31 by omega)), kxv_s, Option.bind_some, if_true, if_false]
/-! plan -/
def pnF (p0 N : Nat) : List IT → Nat → SV × Nat × Nat → SV × Nat × Nat
  | [], _, s => s
  | e :: es, i, s => if (s.1.1 p0 = nI e.2.1 ∨ s.1.1 p0 = nI e.2.2) ∧ ¬ fbr (bw s.1.1) (nI p0) (nI e.1) N 0 = -1 then pnF p0 N es (i + 1) (sv1 (nI e.1) N p0 s.1, s.2.1 + 2 ^ i, s.2.2 + 1) else pnF p0 N es (i + 1) s
theorem pn_pc {p0 N : Nat} : ∀ (es : List IT) (i : Nat) (s : SV × Nat × Nat), i + es.length < 56 → s.2.1 < 2 ^ i → pcN s.2.1 = s.2.2 → pcN (pnF p0 N es i s).2.1 = (pnF p0 N es i s).2.2 ∧ (pnF p0 N es i s).2.1 < 2 ^ (i + es.length)
  | [], i, s, hi, hX, hc => ⟨hc, hX⟩
  | e :: es, i, s, hi, hX, hc => by
    have hi' : i + (es.length + 1) < 56 := hi
    have e1 : i + (e :: es).length = i + 1 + es.length := by simp; omega
    have e2 : 2 ^ (i + 1) = 2 ^ i + 2 ^ i := by rw [Nat.pow_succ]; omega
    rw [pnF, e1]
    split
    · exact pn_pc es (i + 1) _ (by omega) (by show s.2.1 + 2 ^ i < 2 ^ (i + 1); omega) (by show pcN (s.2.1 + 2 ^ i) = s.2.2 + 1; rw [pcN_in (by omega) hX, hc])
    · exact pn_pc es (i + 1) s (by omega) (by omega) hc
theorem d30 (C : isC W) {P N L p0 : Nat} {Y : Nat → Nat → Int32} (hL : L ≤ 50) (h5 : Y 5 1 = nI L) (hp : p0 < 12) (hN2 : N ≤ 100) : ∀ (es : List IT) (i : Nat) (s : SV × Nat × Nat), i + es.length = L → (∀ (q : Nat) (e : IT), es[q]? = some e → Y 6 (3 * (i + q)) = nI e.1 ∧ Y 6 (3 * (i + q) + 1) = nI e.2.1 ∧ Y 6 (3 * (i + q) + 2) = nI e.2.2) → s.2.1 < 2 ^ i → stP P N s.1 → s.1.2 + 2 * es.length + 1 < 2 ^ 30 → dn 30 28 [some (.ref 0), some (.int (nI p0)), some (.long (lN s.2.1)), none, some (.int (nI i))] [] (tm W (wv Y 21 s.1.1) l) = dn 30 28 [some (.ref 0), some (.int (nI p0)), some (.long (lN (pnF p0 N es i s).2.1)), none, some (.int (nI L))] [] (tm W (wv Y 21 (pnF p0 N es i s).1.1) l) ∧ stP P N (pnF p0 N es i s).1
  | [], i, s, hi, hx, hX, hs, hE => by
    obtain rfl : i = L := by simpa using hi
    exact ⟨rfl, hs⟩
  | e :: es, i, s, hi, hx, hX, hs, hE => by
    have hi' : i + (es.length + 1) = L := hi
    have hE' : s.1.2 + 2 * (es.length + 1) + 1 < 2 ^ 30 := hE
    obtain ⟨a1, a2, a3⟩ := hx 0 e rfl
    have y0 : wv Y 21 s.1.1 6 (3 * i) = nI e.1 := by rw [wv21 _ _ (by omega)]; exact a1
    have y1 : wv Y 21 s.1.1 6 (3 * i + 1) = nI e.2.1 := by rw [wv21 _ _ (by omega)]; exact a2
    have y2 : wv Y 21 s.1.1 6 (3 * i + 2) = nI e.2.2 := by rw [wv21 _ _ (by omega)]; exact a3
    have e2 : 2 ^ (i + 1) = 2 ^ i + 2 ^ i := by rw [Nat.pow_succ]; omega
    have ih := fun s' => d30 C (P := P) hL h5 hp hN2 es (i + 1) s' (by omega) (fun q e' he => by rw [show i + 1 + q = i + (q + 1) by omega]; exact hx (q + 1) e' he)
    have hE1 := (sv1_E (nI e.1) N p0 s.1).1
    rw [q_30_28, pnF]
    simp only [xok C, xR2 C, xR7 C, Option.bind_some, i1g C, wv21 Y _ (show 5 < 21 ∨ 29 ≤ 5 by omega), h5, eq_false (nI_ge (show i < L by omega) (by omega)), if_true, if_false, sR4 C.tho, sl1 C.tho hp, c56 C (show i < 67 by omega) y1 y2, kxi_s, nI_1]
    by_cases hc : s.1.1 p0 = nI e.2.1 ∨ s.1.1 p0 = nI e.2.2
    · simp only [eq_true hc, if_true, i10, if_false, i_ok C, c179 C (show i < 67 by omega), y0, kxi_s, sok C.tho, k231 C.tho hs hN2 (show s.1.2 + 1 < 2 ^ 30 by omega)]
      by_cases hf : fbr (bw s.1.1) (nI p0) (nI e.1) N 0 = -1
      · have e3 : sv1 (nI e.1) N p0 s.1 = s.1 := if_pos hf
        simp only [eq_true hf, if_true, e3, not_true, and_false, if_false]
        exact ih s (by omega) hs (by omega)
      · simp only [eq_false hf, if_false, i10, not_false_iff, and_self, if_true, orL (show i < 56 by omega) hX]
        exact ih (sv1 (nI e.1) N p0 s.1, s.2.1 + 2 ^ i, s.2.2 + 1) (by show s.2.1 + 2 ^ i < 2 ^ (i + 1); omega) (sv1_st hN2 hs) (by show (sv1 (nI e.1) N p0 s.1).2 + 2 * es.length + 1 < 2 ^ 30; omega)
    · simp only [eq_false hc, if_false, if_true, false_and]
      exact ih s (by omega) hs (by omega)
theorem d146 (M : isM W) {P N L p0 : Nat} {X : Nat → Nat → Int32} (hL : L ≤ 50) (h35 : X 39 35 = nI L) (hP2 : P ≤ 12) (hp : p0 < P) (hN2 : N ≤ 100) : ∀ (es : List IT) (i : Nat) (s : SV × Nat × Nat) (t : SV) (a b : Int32), i + es.length = L → (∀ (q : Nat) (e : IT), es[q]? = some e → X 58 (i + q) = nI e.1 ∧ X 59 (i + q) = nI e.2.1 ∧ X 60 (i + q) = nI e.2.2) → (∀ (q : Nat) (e : IT), es[q]? = some e → okL e) → s.2.1 < 2 ^ i → K1 p0 N s.1.1 t.1 → stP P N t → t.2 + 24 * es.length + 24 < 2 ^ 30 → ∃ (a' b' : Int32) (t' : SV), dn 146 29 [some (.ref 39), some (.int (nI p0)), some (.long (lN s.2.1)), none, some (.int (nI s.2.2)), some (.int (nI i))] [] (tm W (m1 (svM X a b) 40 t.1) l) = dn 146 29 [some (.ref 39), some (.int (nI p0)), some (.long (lN (pnF p0 N es i s).2.1)), none, some (.int (nI (pnF p0 N es i s).2.2)), some (.int (nI L))] [] (tm W (m1 (svM X a' b') 40 t'.1) l) ∧ K1 p0 N (pnF p0 N es i s).1.1 t'.1 ∧ stP P N t'
  | [], i, s, t, a, b, hi, hx, hq, hX, K, hs, hE => by
    obtain rfl : i = L := by simpa using hi
    exact ⟨a, b, t, rfl, K, hs⟩
  | e :: es, i, s, t, a, b, hi, hx, hq, hX, K, hs, hE => by
    have hi' : i + (es.length + 1) = L := hi
    have hE' : t.2 + 24 * (es.length + 1) + 24 < 2 ^ 30 := hE
    have e2 : 2 ^ (i + 1) = 2 ^ i + 2 ^ i := by rw [Nat.pow_succ]; omega
    obtain ⟨a1, a2, a3⟩ := hx 0 e rfl
    replace a1 : X 58 i = nI e.1 := a1
    replace a2 : X 59 i = nI e.2.1 := a2
    replace a3 : X 60 i = nI e.2.2 := a3
    have ok := hq 0 e rfl
    have b1 : m1 (svM X a b) 40 t.1 59 i = nI e.2.1 := by rw [m1_a _ _ (by decide), svM_o _ _ _ (by decide)]; exact a2
    have b2 : m1 (svM X a b) 40 t.1 60 i = nI e.2.2 := by rw [m1_a _ _ (by decide), svM_o _ _ _ (by decide)]; exact a3
    have b0 : m1 (svM X a b) 40 t.1 58 i = nI e.1 := by rw [m1_a _ _ (by decide), svM_o _ _ _ (by decide)]; exact a1
    have e144 := c144 (l := l) M (X := svM X a b) (s := t) (P := P) (N := N) (i := i) (e := e) (by omega) (by rw [svM_o _ _ _ (by decide)]; exact a1) (by rw [svM_o _ _ _ (by decide)]; exact a2) (by rw [svM_o _ _ _ (by decide)]; exact a3) ok hP2 hN2 hs (by omega)
    have e95 := c95 (l := l) M (X := svM X a b) hP2 hN2 hs (show t.2 + 24 < 2 ^ 30 by omega) ok.1 ok.2.1 ok.2.2
    have Kg := K1_gb (r := svM X a b 44 (4 * e.1 + 2)) hP2 hN2 ok.1 ok.2.1 ok.2.2 hp K
    rw [svM_sv] at e144
    have ih := fun s' a' b' hX' K' => d146 M hL h35 hP2 hp hN2 es (i + 1) s' (tGb (svM X a b 44 (4 * e.1 + 2)) e.1 e.2.1 e.2.2 P N t) a' b' (by omega) (fun q e' he => by rw [show i + 1 + q = i + (q + 1) by omega]; exact hx (q + 1) e' he) (fun q e' he => hq (q + 1) e' he) hX' K' e95.2.1 (by have := e95.2.2; omega)
    rw [q_146_29, pnF]
    simp only [rIw35 M, svM_k _ _ _ (show (35 : Nat) ≠ 14 by decide) (show (35 : Nat) ≠ 15 by decide), h35, Option.bind_some, eq_false (nI_ge (show i < L by omega) (by omega)), if_false, if_true, rR0 M, zadd, wl M (show p0 < 1108 by omega), rok M, c143 M (show i < 64 by omega) b1 b2, kxi_s]
    unfold own at Kg
    rw [K.1] at Kg ⊢
    by_cases hc : t.1 p0 = nI e.2.1 ∨ t.1 p0 = nI e.2.2
    · rw [if_pos hc] at Kg
      simp only [eq_true hc, if_true, i10, if_false, rR32 M, Option.bind_some, rl58 M (show i < 64 by omega), b0, c91 M hs.2.1 hN2, kxi_s, K1_fbr K, rok M, true_and]
      by_cases hf : fbr (bw t.1) (nI p0) (nI e.1) N 0 = -1
      · have e3 : sv1 (nI e.1) N p0 s.1 = s.1 := if_pos (by rw [K1_fbr K]; exact hf)
        rw [e3] at Kg
        simp only [eq_true hf, if_true, e144, kxv_s, nI_1, not_true, if_false]
        exact ih s _ _ (by omega) Kg
      · simp only [eq_false hf, if_false, i10, e144, kxv_s, nI_1, not_false_iff, if_true, orL (show i < 56 by omega) hX]
        exact ih (sv1 (nI e.1) N p0 s.1, s.2.1 + 2 ^ i, s.2.2 + 1) _ _ (by show s.2.1 + 2 ^ i < 2 ^ (i + 1); omega) Kg
    · rw [if_neg hc] at Kg
      simp only [eq_false hc, if_false, if_true, rok M, e144, kxv_s, nI_1, false_and]
      exact ih s _ _ (by omega) Kg
def BothL (j : Nat) (W : tm_W) (m : Nat → Nat → Int32) (l : Nat → Nat → Int64) (yc yr : Nat) (ac ar : List Value) : Prop :=
  ∃ (r : Int64) (W1 : tm_W) (m1' : Nat → Nat → Int32) (l1 : Nat → Nat → Int64) (W2 : tm_W) (m2' : Nat → Nat → Int32) (l2 : Nat → Nat → Int64),
    cl yc (.ref 0 :: ac) (tm W m l) = some (some (.long r), tm W1 m1' l1) ∧ cl yr (.ref 39 :: ar) (tm W1 m1' l1) = some (some (.long r), tm W2 m2' l2) ∧
    W1.2.2.1 = W.2.2.1 ∧ W2.2.2.1 = W.2.2.1 ∧ tm_sh W1 0 = tm_sh W 0 ∧ tm_sh W1 39 = tm_sh W 39 ∧ Inv (j + 1) W2 m2' l2
theorem b_plan {j : Nat} (hj : j < 600) (h : Inv j W m l) (x0 : Int32) : BothL j W m l 30 146 [.int x0] [.int x0] := by
  obtain ⟨⟨C, M, h61, g1, g2, g3⟩, ⟨P, N, E, S, V, hE, hB⟩, -, -, R, hT, hrow⟩ := id h
  have p12 := S.P12
  have n100 := S.N100
  obtain ⟨n, sg, T, h10, h47⟩ := iTxt_sg hT
  have hn := T.2.1
  obtain ⟨mr, e65, F, hd⟩ := rd65 (l := l) C T
  have hoks := plE_ok (sg := sg) (it := itL sg n) hn (fun s hs => (itL_ok hn hs).2.2.2)
  have mo : ∀ s {a : Nat}, a ≠ 1 → a ≠ 5 → a ≠ 6 → txC (m2 mr 1 1 0) s a = m a := fun s a h1 h5 h6 => frC_o F s h1 h5 h6
  have hP13 : ∀ s, txC (m2 mr 1 1 0) s 13 0 = nI P := fun s => by rw [mo _ (by decide) (by decide) (by decide)]; exact S.f4
  by_cases hq : (plE sg n (itL sg n)).1.2 = none
  · have hall := plL_all (sg := sg) hn hq
    have hlen := plL_len (sg := sg) hn hq
    have hd' := hd hq
    have es : enc (plE sg n (itL sg n)).1.2 = -1 := by rw [hq]; rfl
    rcases arg x0 P (by omega) with ⟨p0, hp, rfl⟩ | hx0
    · generalize hXs : (plE sg n (itL sg n)).2 = xs at *
      generalize hse : (plE sg n (itL sg n)).1 = se at *
      have sc : stP P N (vw m 13, E) := ⟨S.f4, S.f5, S.f7⟩
      have sr : stP P N (m 40, E) := ⟨S.g4, S.g5, S.g7⟩
      have y5 : txC (m2 mr 1 1 0) se 5 1 = nI xs.length := by rw [txC_o _ _ (by decide), m2_a _ _ _ _ (by decide)]; exact hd'.1
      obtain ⟨c1, c2⟩ := d30 (l := l) C (Y := txC (m2 mr 1 1 0) se) (L := xs.length) (P := P) (N := N) (p0 := p0) hlen y5 (by omega) n100 xs 0 ((vw m 13, E), 0, 0) (by omega) (fun q e he => by
        rw [txC_o _ _ (by decide), m2_r _ _ _ (by decide), Nat.zero_add]
        exact hd'.2 q e he) (show 0 < 2 ^ 0 by decide) sc (by show E + 2 * xs.length + 1 < 2 ^ 30; omega)
      obtain ⟨pc1, pc2⟩ := pn_pc (p0 := p0) (N := N) xs 0 ((vw m 13, E), 0, 0) (by omega) (show 0 < 2 ^ 0 by decide) (show pcN 0 = 0 by decide)
      have pc3 : (pnF p0 N xs 0 ((vw m 13, E), 0, 0)).2.1 < 2 ^ 56 := Nat.lt_of_lt_of_le pc2 (Nat.pow_le_pow_right (by decide) (by omega))
      have e205 := c205' (m := txC (m2 mr 1 1 0) se) (l := l) C.tho C.now (by omega)
      rw [show vw (txC (m2 mr 1 1 0) se) 13 = vw m 13 from vw_row fun x x1 x2 => mo _ (by omega) (by omega) (by omega)] at e205
      generalize hFc : pnF p0 N xs 0 ((vw m 13, E), 0, 0) = Fc at *
      have hc : cl 30 [.ref 0, .int (nI p0)] (tm W m l) = some (some (.long (lN Fc.2.1)), tm W (wv (rwm (txC (m2 mr 1 1 0) se) [nI Fc.2.2, lfF Fc.1.1 (nI p0) N]) 21 Fc.1.1) l) := by
        have h5 : wv (txC (m2 mr 1 1 0) se) 21 Fc.1.1 5 1 = nI xs.length := by rw [wv21 _ _ (by decide)]; exact y5
        have f225 : ∀ ys : List Int32, cl 225 [.ref 21, .int (nI p0)] (tm W (wv (rwm (txC (m2 mr 1 1 0) se) ys) 21 Fc.1.1) l) = some (some (.int (lfF Fc.1.1 (nI p0) N)), tm W (wv (rwm (txC (m2 mr 1 1 0) se) ys) 21 Fc.1.1) l) := fun ys => c225 C.tho c2.2.1 n100 _
        simp only [q_30, xok C, xR0 C, xR6 C, xR7 C, t_ok C, e65, c243 C, c246e C hq, k52y C (hP13 se) p12 hp, sok C.tho, e205, Option.bind_some, kxi_s, kxv_s, if_true, if_false, i10]
        rw [show dn 30 28 [some (.ref 0), some (.int (nI p0)), some (.long 0), none, some (.int 0)] [] _ = _ from c1, q_30_28]
        simp only [xR2 C, xR3 C, xR7 C, i1g C, h5, eq_true (Int32.le_refl (nI xs.length)), Option.bind_some, if_true, vok C, c189t C, c258 pc3, pc1, c190ta C, c190tb C, kxr_s, kxi_s, sok C.tho, f225]
      have ko : ∀ {x : Nat}, x ≠ 1 → x ≠ 5 → x ≠ 6 → x ≠ 7 → x ≠ 8 → (x < 21 ∨ 29 ≤ x) → wv (rwm (txC (m2 mr 1 1 0) se) [nI Fc.2.2, lfF Fc.1.1 (nI p0) N]) 21 Fc.1.1 x = m x := fun h1 h2 h3 h4 h5 h6 => by
        rw [wv21 _ _ h6, rwm_o _ _ h4 h5, mo _ h1 h2 h3]
      generalize hmc : wv (rwm (txC (m2 mr 1 1 0) se) [nI Fc.2.2, lfF Fc.1.1 (nI p0) N]) 21 Fc.1.1 = mc at *
      obtain ⟨mk, r1, r2, r3⟩ := rd142 (l := l) (m := m2 mc 39 13 0) (n := n) (sg := sg) M (by rw [m2_k _ _ _ _ (by decide), ko (by decide) (by decide) (by decide) (by decide) (by decide) (by decide)]; exact h10) hn (fun i hi => by rw [m2_r _ _ _ (by decide), ko (by decide) (by decide) (by decide) (by decide) (by decide) (by decide)]; exact h47 i hi)
      rw [hXs, hse] at r3
      rw [hse] at r1
      have r3' := r3 hq
      have X40 : txR mk se 40 = m 40 := by rw [txR_o _ _ (by decide), r2.1 40 (by decide) (by decide) (by decide) (by decide), bgR_o _ _ (by decide), m2_r _ _ _ (by decide), ko (by decide) (by decide) (by decide) (by decide) (by decide) (by decide)]
      have e81 := c81 (m := txR mk se) (l := l) M
      rw [X40] at e81
      generalize hA : (fun k => if k < 1108 then m 40 k else txR mk se 41 k) = A at *
      have hAi : ∀ i, i < 1108 → A i = m 40 i := fun i hi => by rw [← hA]; exact if_pos hi
      obtain ⟨a', b', t', d1, d2, d3⟩ := d146 (l := l) M (X := m1 (txR mk se) 41 A) (L := xs.length) (P := P) (N := N) (p0 := p0) hlen (by rw [m1_a _ _ (by decide), txR_1 _ _ (by decide) (by decide)]; exact r3'.1) p12 hp n100 xs 0 ((vw m 13, E), 0, 0) (m 40, E) (m1 (txR mk se) 41 A 39 14) (m1 (txR mk se) 41 A 39 15) (by omega) (fun q e he => by
        rw [m1_a _ _ (by decide), m1_a _ _ (by decide), m1_a _ _ (by decide), txR_o _ _ (by decide), txR_o _ _ (by decide), txR_o _ _ (by decide), Nat.zero_add]
        exact r3'.2 q e he) hall (show 0 < 2 ^ 0 by decide) (K1_SR S hp) sr (by show E + 24 * xs.length + 24 < 2 ^ 30; omega)
      have em : m1 (svM (m1 (txR mk se) 41 A) (m1 (txR mk se) 41 A 39 14) (m1 (txR mk se) 41 A 39 15)) 40 (m 40) = m1 (txR mk se) 41 A := by
        rw [svM_e, ← X40]
        have := m1_e (m1 (txR mk se) 41 A) 40
        rwa [m1_a _ _ (show (40 : Nat) ≠ 41 by decide)] at this
      rw [em] at d1
      rw [hFc] at d1 d2
      refine ⟨lN Fc.2.1, W, mc, l, W, m1 (m2 (svM (m1 (txR mk se) 41 A) a' b') 39 12 (nI 2)) 40 (fun k => if k < 1108 then A k else t'.1 k), llm l ([nI Fc.2.2, lfF Fc.1.1 (nI p0) N].map Int32.toInt64), hc, ?_, rfl, rfl, rfl, rfl, ?_⟩
      · have h35 : svM (m1 (txR mk se) 41 A) a' b' 39 35 = nI xs.length := by rw [svM_k _ _ _ (by decide) (by decide), m1_a _ _ (by decide), txR_1 _ _ (by decide) (by decide)]; exact r3'.1
        simp only [q_146, rok M, ru13 M, r1, u_3 M, es, k77y M (show txR mk se 40 1104 = nI P by rw [X40]; exact S.g4) p12 hp, e81, Option.bind_some, kxi_s, kxv_s, if_true, if_false, i10]
        rw [show dn 146 29 [some (.ref 39), some (.int (nI p0)), some (.long 0), none, some (.int 0), some (.int 0)] [] _ = _ from d1, q_146_29]
        simp only [rIw35 M, h35, eq_true (Int32.le_refl (nI xs.length)), Option.bind_some, if_true, rok M, c145 M d3.2.1 n100, c82k M, kxi_s, kxv_s, ruw12 M, c71a M, c71b M, ← K1_lf d2]
        rfl
      · rw [← hmc] at r2
        exact Inv_th (xs := [nI Fc.2.2, lfF Fc.1.1 (nI p0) N]) h F r2 (fun i hi => by rw [if_pos hi]; exact hAi i hi) (by simp)
    · obtain ⟨mk, r1, r2, r3⟩ := rd142 (l := l) (m := m2 (txC (m2 mr 1 1 0) (plE sg n (itL sg n)).1) 39 13 0) (n := n) (sg := sg) M (by rw [m2_k _ _ _ _ (by decide), mo _ (by decide) (by decide) (by decide)]; exact h10) hn (fun i hi => by rw [m2_r _ _ _ (by decide), mo _ (by decide) (by decide) (by decide)]; exact h47 i hi)
      have TF := tFr_L F (plE sg n (itL sg n)).1 (plE sg n (itL sg n)).1 r2
      have X40 : txR mk (plE sg n (itL sg n)).1 40 1104 = nI P := by rw [TF.1 40 (by omega)]; exact S.g4
      refine ⟨-1, W, txC (m2 mr 1 1 0) (plE sg n (itL sg n)).1, l, W, txR mk (plE sg n (itL sg n)).1, l, ?_, ?_, rfl, rfl, rfl, rfl, Inv_tf h TF⟩
      · simp only [q_30, xok C, xR0 C, t_ok C, e65, c243 C, c246e C hq, k52n C (hP13 _) hx0, Option.bind_some, kxi_s, kxv_s, if_true, if_false, i10]
      · simp only [q_146, rok M, ru13 M, r1, u_3 M, es, k77n M X40 p12 hx0, kxi_s, kxv_s, Option.bind_some, if_true, if_false]
  · obtain ⟨mk, r1, r2, r3⟩ := rd142 (l := l) (m := m2 (txC (m2 mr 1 1 0) (plE sg n (itL sg n)).1) 39 13 0) (n := n) (sg := sg) M (by rw [m2_k _ _ _ _ (by decide), mo _ (by decide) (by decide) (by decide)]; exact h10) hn (fun i hi => by rw [m2_r _ _ _ (by decide), mo _ (by decide) (by decide) (by decide)]; exact h47 i hi)
    have TF := tFr_L F (plE sg n (itL sg n)).1 (plE sg n (itL sg n)).1 r2
    generalize hse : (plE sg n (itL sg n)).1 = se at *
    obtain ⟨a, q⟩ := se
    cases q with
    | none => exact absurd rfl hq
    | some p =>
      have hp : p ≤ 200 := hoks.2 p rfl
      refine ⟨(-21 - nI p).toInt64, W, txC (m2 mr 1 1 0) (a, some p), l, W, txR mk (a, some p), l, ?_, ?_, rfl, rfl, rfl, rfl, Inv_tf h TF⟩
      · simp only [q_30, xok C, xR0 C, t_ok C, e65, c243 C, c246f C a hp, c58 C, Option.bind_some, kxi_s, kxv_s, if_true]
      · simp only [q_146, rok M, ru13 M, r1, u_3 M, enc_s, eq_false (nI_ne_m1 (show p < 2 ^ 31 by omega)), kxv_s, Option.bind_some, if_true, if_false]
end TXN

section TXU
variable {W : tm_W} {m : Nat → Nat → Int32} {l : Nat → Nat → Int64} {f g : Nat → Int32}
/-! PLAY -/
theorem rlC_of {Y Y' : Nat → Nat → Int32} {c S red : Nat} {al : Int32} {bn : Int32 → Nat} (h : Y' 10 = Y 10) (R : rlC Y c S red al bn) : rlC Y' c S red al bn := by
  obtain ⟨r1, r2, r3, r4, r5, r6, r7⟩ := R
  refine ⟨r1, r2, by rw [h]; exact r3, by rw [h]; exact r4, by rw [h]; exact r5, r6, fun v => ⟨?_, (r7 v).2⟩⟩
  have := (r7 v).1
  unfold bnC at this ⊢
  rw [h]
  exact this
theorem rlR_of {Y Y' : Nat → Nat → Int32} {c S red : Nat} {al : Int32} {bn : Int32 → Nat} (h4 : Y' 44 = Y 44) (h5 : Y' 45 = Y 45) (h6 : Y' 46 = Y 46) (R : rlR Y c S red al bn) : rlR Y' c S red al bn := by
  obtain ⟨r1, r2, r3, r4, r5, r6, r7⟩ := R
  refine ⟨r1, r2, by rw [h4]; exact r3, by rw [h4]; exact r4, by rw [h4]; exact r5, r6, fun v => ⟨?_, (r7 v).2⟩⟩
  have := (r7 v).1
  unfold bnR at this ⊢
  rw [h5, h6]
  exact this
theorem PL_okH {P c B : Nat} {s t : SH} (h : PL P c B s t) (hca : t.2.2.2.1 < 4096) (hse : t.2.2.2.2 < 4096) : okH P s ∧ okH P t := by
  obtain ⟨he, Sx, V, -, -⟩ := h
  refine ⟨⟨by rw [he]; exact Sx.f5, by rw [he]; exact Sx.N100, by rw [he]; exact Sx.f7, by rw [he]; exact hca, by rw [he]; exact hse, fun p hp => by rw [Sx.tm hp]; exact V.1 p hp, Sx.f4⟩, ⟨Sx.g5, Sx.N100, Sx.g7, hca, hse, V.1, Sx.g4⟩⟩
theorem shL_neg {c a b o red : Nat} {al : Int32} {bn : Int32 → Nat} : ∀ (es : List IT) (s : SH), (shL al bn red c a b o es s).1 ≠ 0 → ¬ 0 ≤ (shL al bn red c a b o es s).1
  | [], s, h => absurd rfl h
  | e :: es, s, h => by
    rw [shL] at h ⊢
    by_cases h0 : shC o (nI a) (nI b) bn red c e.1 e.2.1 s = 0
    · rw [if_pos h0] at h ⊢
      exact shL_neg es _ h
    · rw [if_neg h0]
      show ¬ 0 ≤ shC o (nI a) (nI b) bn red c e.1 e.2.1 s
      unfold shC at h0 ⊢
      split
      · split
        · decide
        · split
          · decide
          · rename_i y1 y2 y3
            rw [if_pos y1, if_neg y2, if_neg y3] at h0
            exact absurd rfl h0
      · decide
theorem shL_ok {P c a b o red : Nat} {al : Int32} {bn : Int32 → Nat} (hP : P ≤ 12) (hc : c < 4) : ∀ (es : List IT) (s : SH), (∀ (k : Nat) (e : IT), es[k]? = some e → okK P e) → okH P s → (shL al bn red c a b o es s).1 = 0 → okH P (shL al bn red c a b o es s).2
  | [], s, _, h, _ => h
  | e :: es, s, hk, h, hz => by
    rw [shL] at hz ⊢
    by_cases h0 : shC o (nI a) (nI b) bn red c e.1 e.2.1 s = 0
    · rw [if_pos h0] at hz ⊢
      exact shL_ok hP hc es _ (fun k e' he => hk (k + 1) e' he) (shN_ok hP hc (hk 0 e rfl) h h0).1 hz
    · rw [if_neg h0] at hz
      exact absurd hz h0
/-- what both sides know as the cards begin -/
theorem play_beg {P N E c a b j : Nat} (hj : j < 600) (S : SR f g P N E) (V : VR g P N E) (hE : E ≤ 300 * j) (hB : CB g (300 * j)) : ∃ (sc st : SH) (k cnt : Nat), k < 4096 ∧ sc.2.2.2 = (0, 0) ∧ PL P c (300 * j) sc st ∧ st.2.1 ≤ 300 * j + 24 ∧ sc.2.2.1 = N ∧ swr (nI k) = nI cnt ∧ svF (nI c) (nI a) (nI b) P N (upd g 1106 (g 1106 + 1), E) = ((st.1, st.2.1), cnt, nI k) ∧
    ∀ (W : tm_W) (q : Nat) (Y : Nat → Nat → Int32) (o ca se : Int32), isC W → isQ W q → 62 ≤ q → isP Y q c a b → cl 183 [.ref q] (tm W (wv (mtQ Y q o ca se) 21 f) l) = some (some (.int (nI cnt)), tm W (wv (mtQ Y q (nI k) ca se) 21 sc.1) l) := by
  have p12 := S.P12
  have n100 := S.N100
  have S1 : SR (upd f 1106 (f 1106 + 1)) (upd g 1106 (g 1106 + 1)) P N E := by
    rw [S.e6]
    exact SR_upd S _ (by decide) (by decide) (by decide)
  have V1 : VR (upd g 1106 (g 1106 + 1)) P N E := VR_mid V p12 n100 (by decide) (Or.inr rfl) _
  have B1 : CB (upd g 1106 (g 1106 + 1)) (300 * j) := CB_lo hB fun i hi => pk_un (by omega)
  have hC0 : ∀ p, p < P → (C0 (upd g 1106 (g 1106 + 1)) (nI c) (nI a) (nI b) N p ↔ C0 (upd f 1106 (f 1106 + 1)) (nI c) (nI a) (nI b) N p) := fun p hp => by
    unfold C0
    rw [S1.tm hp, S1.fbr]
  have b1 := beg_eq (f0 := upd g 1106 (g 1106 + 1)) (c := nI c) (a := nI a) (b := nI b) n100 P 0 (upd g 1106 (g 1106 + 1), E) 0 0 (by omega) (fun _ _ => rfl) (fun _ _ _ => rfl)
  have e1 : fo (bgS (upd g 1106 (g 1106 + 1)) (nI c) (nI a) (nI b) N) P 0 (upd g 1106 (g 1106 + 1), E) = fo (bgS (upd f 1106 (f 1106 + 1)) (nI c) (nI a) (nI b) N) P 0 (upd g 1106 (g 1106 + 1), E) := fo_cong P 0 _ fun p s _ hp => by
    unfold bgS
    by_cases q : C0 (upd f 1106 (f 1106 + 1)) (nI c) (nI a) (nI b) N p
    · rw [if_pos q, if_pos ((hC0 p (by omega)).mpr q)]
    · rw [if_neg q, if_neg (fun z => q ((hC0 p (by omega)).mp z))]
  have e2 : fo (fun p s => if C0 (upd g 1106 (g 1106 + 1)) (nI c) (nI a) (nI b) N p then s + 1 else s) P 0 0 = fo (fun p s => if C0 (upd f 1106 (f 1106 + 1)) (nI c) (nI a) (nI b) N p then s + 1 else s) P 0 0 := fo_cong P 0 _ fun p s _ hp => by
    by_cases q : C0 (upd f 1106 (f 1106 + 1)) (nI c) (nI a) (nI b) N p
    · rw [if_pos q, if_pos ((hC0 p (by omega)).mpr q)]
    · rw [if_neg q, if_neg (fun z => q ((hC0 p (by omega)).mp z))]
  have e3 : fo (mkS (C0 (upd g 1106 (g 1106 + 1)) (nI c) (nI a) (nI b) N)) P 0 0 = fo (mkS (C0 (upd f 1106 (f 1106 + 1)) (nI c) (nI a) (nI b) N)) P 0 0 := fo_cong P 0 _ fun p s _ hp => by
    unfold mkS
    by_cases q : C0 (upd f 1106 (f 1106 + 1)) (nI c) (nI a) (nI b) N p
    · rw [if_pos q, if_pos ((hC0 p (by omega)).mpr q)]
    · rw [if_neg q, if_neg (fun z => q ((hC0 p (by omega)).mp z))]
  obtain ⟨g1, g2, g3, g4, g5⟩ := bg_SR (f0 := upd f 1106 (f 1106 + 1)) (c := nI c) (a := nI a) (b := nI b) (P := P) (N := N) (B := 300 * j) P 0 (upd f 1106 (f 1106 + 1), E) (upd g 1106 (g 1106 + 1), E) S1 rfl V1 B1
  obtain ⟨k, k1, -, -, k4, k5⟩ := mk_bits (C0 (upd f 1106 (f 1106 + 1)) (nI c) (nI a) (nI b) N) P 0 0 0 (by omega) (by decide) (by decide)
  obtain ⟨k', kk1, kk2, kk3, kk4, kk5⟩ := mk_bits (C0 (upd f 1106 (f 1106 + 1)) (nI c) (nI a) (nI b) N) P 0 0 0 (by omega) (by decide) (by decide)
  have hk : k' < 4096 := Nat.lt_of_lt_of_le kk1 (by rw [Nat.zero_add]; exact Nat.pow_le_pow_right (n := 2) (by decide) p12)
  rw [e1, e2, e3] at b1
  refine ⟨((fo (bgS (upd f 1106 (f 1106 + 1)) (nI c) (nI a) (nI b) N) P 0 (upd f 1106 (f 1106 + 1), E)).1, (fo (bgS (upd f 1106 (f 1106 + 1)) (nI c) (nI a) (nI b) N) P 0 (upd f 1106 (f 1106 + 1), E)).2, N, 0, 0), ((fo (bgS (upd f 1106 (f 1106 + 1)) (nI c) (nI a) (nI b) N) P 0 (upd g 1106 (g 1106 + 1), E)).1, (fo (bgS (upd f 1106 (f 1106 + 1)) (nI c) (nI a) (nI b) N) P 0 (upd g 1106 (g 1106 + 1), E)).2, N, 0, 0), k', fo (fun p s => if C0 (upd f 1106 (f 1106 + 1)) (nI c) (nI a) (nI b) N p then s + 1 else s) P 0 0, hk, rfl, ⟨?_, ?_, g3, g4, fun p hp w => ?_⟩, ?_, rfl, kk5, ?_, fun W q Y o ca se C Q hq B => ?_⟩
  · show (_, N, 0, 0) = (_, N, 0, 0)
    rw [g2]
  · rw [g2] at g1
    exact g1
  · have w' : (0 : Nat).testBit p = true := w
    rw [Nat.zero_testBit] at w'
    cases w'
  · have g5' : (fo (bgS (upd f 1106 (f 1106 + 1)) (nI c) (nI a) (nI b) N) P 0 (upd g 1106 (g 1106 + 1), E)).2 ≤ E + 2 * P := g5
    show (fo (bgS (upd f 1106 (f 1106 + 1)) (nI c) (nI a) (nI b) N) P 0 (upd g 1106 (g 1106 + 1), E)).2 ≤ _
    omega
  · have kk2' : fo (mkS (C0 (upd f 1106 (f 1106 + 1)) (nI c) (nI a) (nI b) N)) P 0 0 = nI k' := kk2
    rw [kk2'] at b1
    exact b1
  · obtain ⟨k2, y1, y2, y3, y4, y5⟩ := c183 (l := l) C (s := (f, E)) (P := P) (N := N) (o := o) (ca := ca) (se := se) Q hq B p12 n100 ⟨S.f4, S.f5, S.f7⟩ (by show E + 25 < 2 ^ 30; omega)
    have e : nI k2 = nI k' := y2.symm.trans kk2
    rw [y5, e, kk5]
/-- cards of a text that is sound -/
theorem plC_all {sg : Nat → Nat} {n P : Nat} (hn : n ≤ 200) (hq : (plE sg n (itC sg n P)).1.2 = none) : (∀ (i : Nat) (e : IT), (plE sg n (itC sg n P)).2[i]? = some e → okK P e) ∧ (plE sg n (itC sg n P)).2.length ≤ 67 := plE_all (sg := sg) (it := itC sg n P) (Q := okK P) hn (fun s hs => itC_ok hn hs) (fun s hs => (itC_s hs).2.1) (fun s hs => by
    obtain ⟨c1, c2, c3, c4, c5, c6⟩ := itC_s hs
    exact ⟨c6, c4⟩) hq
/-- the reference reads the cards -/
theorem play_read (M : isM W) {n P : Nat} {sg : Nat → Nat} {mc : Nat → Nat → Int32} (h10 : mc 39 10 = nI n) (hn : n ≤ 200) (h47 : ∀ i, i < n → sg i < 256 ∧ mc 47 i = (nI (sg i)).toInt8.toInt32) (hP : mc 40 1104 = nI P) (hP2 : P ≤ 12) : ∃ mk, cl 99 [.ref 39] (tm W (m2 mc 39 13 0) l) = some (none, tm W (txR (bgR (m2 mc 39 13 0) n) (0, none)) l) ∧ cl 113 [.ref 39] (tm W (txR (bgR (m2 mc 39 13 0) n) (0, none)) l) = some (none, tm W (txR mk (plE sg n (itC sg n P)).1) l) ∧ frK (bgR (m2 mc 39 13 0) n) mk ∧ ((plE sg n (itC sg n P)).1.2 = none → hdK mk (plE sg n (itC sg n P)).2) := by
  have h10' : m2 mc 39 13 0 39 10 = nI n := by rw [m2_k _ _ _ _ (by decide)]; exact h10
  have T : txU (bgR (m2 mc 39 13 0) n) n sg := bgR_U hn fun i hi => by rw [m2_r _ _ _ (by decide)]; exact h47 i hi
  obtain ⟨mk, r1, r2, r3⟩ := rd113 (l := l) M T (P := P) (by rw [bgR_o _ _ (by decide), m2_r _ _ _ (by decide)]; exact hP) hP2
  exact ⟨mk, c99 M h10', r1, r2, r3⟩
end TXU

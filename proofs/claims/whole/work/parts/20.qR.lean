section QRR
variable {W : tm_W} {m : Nat → Nat → Int32} {l : Nat → Nat → Int64} {f g : Nat → Int32}
/-! ACTS: the invariant behind them -/
theorem CB_of {g g' : Nat → Int32} {B : Nat} (h : CB g B) (hg : ∀ i, i < 1108 → g' i = g i) : CB g' B := fun i hi => by
  rw [hg i (by omega)]
  exact h i hi
/-- what is past, behind an act -/
theorem iHis_act {W' : tm_W} {m0 mf : Nat → Nat → Int32} {a nx s B B' : Nat} {F : Nat → Int32} (hnx : nx < 8) (hs : s ≤ 8)
    (t6 : ∀ i b, i < 8 → tm_rf W 38 i = some b → 62 ≤ b ∧ b + 8 ≤ W.1 ∧ isSt W b)
    (t7 : ∀ i k b c, i < 8 → k < 8 → i ≠ k → tm_rf W 38 i = some b → tm_rf W 38 k = some c → b + 8 ≤ c ∨ c + 8 ≤ b)
    (t8 : ∀ k, k < s → ∃ b P N E, tm_rf W 38 ((nx + 8 - s + k) % 8) = some b ∧ SR (vw m b) (fun i => m 43 (1108 * k + i)) P N E ∧ VR (fun i => m 43 (1108 * k + i)) P N E ∧ E ≤ B ∧ CB (fun i => m 43 (1108 * k + i)) B)
    (now : ∃ P N E, SR (vw m 13) F P N E ∧ VR F P N E ∧ E ≤ B ∧ CB F B)
    (K : Kept W m nx W' m0 a) (hB : B ≤ B')
    (e371 : mf 37 1 = nI ((nx + 1) % 8)) (e372 : mf 37 2 = nI (min (s + 1) 8)) (e395 : mf 39 5 = nI (min (s + 1) 8))
    (ea : ∀ i, i < 1108 → vw mf a i = vw m 13 i) (eb : ∀ b, 62 ≤ b → b + 8 ≤ W.1 → (a + 8 ≤ b ∨ b + 8 ≤ a) → vw mf b = vw m b)
    (e43 : ∀ k i, i < 1108 → k < 8 → mf 43 (1108 * k + i) = pst (m 43) F s (1108 * k + i)) : iHis W' mf B' := by
  obtain ⟨⟨-, -, -, kW1, kW2, -, -, -⟩, ⟨ka1, ka2, ka3⟩, ⟨kn1, kn2⟩, kst, kd, -⟩ := K
  refine ⟨(nx + 1) % 8, min (s + 1) 8, Nat.mod_lt _ (by decide), by omega, e371, e372, e395, fun i b hi hb => ?_, fun i k b c hi hk hik hb hc => ?_, fun k hk => ?_⟩
  · by_cases hin : i = nx
    · subst hin
      rw [kn1] at hb
      cases hb
      exact ⟨ka1, ka2, ka3⟩
    · rw [kn2 i hin] at hb
      obtain ⟨b1, b2, b3⟩ := t6 i b hi hb
      exact ⟨b1, by omega, kst b b2 b3⟩
  · by_cases hin : i = nx
    · subst hin
      rw [kn1] at hb
      cases hb
      rw [kn2 k (Ne.symm hik)] at hc
      exact kd k c hk (Ne.symm hik) hc
    · rw [kn2 i hin] at hb
      by_cases hkn : k = nx
      · subst hkn
        rw [kn1] at hc
        cases hc
        exact (kd i b hi hin hb).symm
      · rw [kn2 k hkn] at hc
        exact t7 i k b c hi hk hik hb hc
  · by_cases hl : k = min (s + 1) 8 - 1
    · obtain ⟨P, N, E, n1, n2, n3, n4⟩ := now
      have eF : ∀ i, i < 1108 → (fun i => mf 43 (1108 * k + i)) i = F i := fun i hi => by
        show mf 43 (1108 * k + i) = F i
        rw [e43 k i hi (by omega), hl]
        exact pst_new hs hi
      refine ⟨a, P, N, E, ?_, SR_of n1 (fun i hi => ea i hi) eF, VR_of n2 n1.P12 n1.N100 eF, by omega, CB_le (CB_of n4 eF) hB⟩
      rw [show ((nx + 1) % 8 + 8 - min (s + 1) 8 + k) % 8 = nx by omega]
      exact kn1
    · have hk' : (if s = 8 then k + 1 else k) < s := by
        split <;> omega
      obtain ⟨b, P, N, E, n0, n1, n2, n3, n4⟩ := t8 _ hk'
      have eF : ∀ i, i < 1108 → (fun i => mf 43 (1108 * k + i)) i = (fun i => m 43 (1108 * (if s = 8 then k + 1 else k) + i)) i := fun i hi => by
        show mf 43 (1108 * k + i) = _
        rw [e43 k i hi (by omega)]
        exact pst_old hs hi hk hl
      have ei : ((nx + 1) % 8 + 8 - min (s + 1) 8 + k) % 8 = (nx + 8 - s + (if s = 8 then k + 1 else k)) % 8 := by
        split <;> omega
      have en : (nx + 8 - s + (if s = 8 then k + 1 else k)) % 8 ≠ nx := by
        split <;> omega
      have hlt : (nx + 8 - s + (if s = 8 then k + 1 else k)) % 8 < 8 := Nat.mod_lt _ (by decide)
      obtain ⟨b1, b2, b3⟩ := t6 _ b hlt n0
      refine ⟨b, P, N, E, ?_, SR_of n1 (fun i hi => by rw [eb b b1 b2 (kd _ b hlt en n0)]) eF, VR_of n2 n1.P12 n1.N100 eF, by omega, CB_le (CB_of n4 eF) hB⟩
      rw [ei, kn2 _ en]
      exact n0
set_option maxRecDepth 16384 in
theorem Inv_act {j : Nat} {W' : tm_W} {m0 mf : Nat → Nat → Int32} {lf : Nat → Nat → Int64} {a nx s : Nat} (h : Inv j W m l) (K : Kept W m nx W' m0 a) (hnx : nx < 8) (hs : s ≤ 8) (g371 : m 37 1 = nI nx) (g372 : m 37 2 = nI s)
    {f' g' : Nat → Int32} {P' N' E' : Nat} (S' : SR f' g' P' N' E') (V' : VR g' P' N' E') (hE' : E' ≤ 300 * (j + 1)) (B' : CB g' (300 * (j + 1)))
    (e13 : ∀ i, i < 1108 → vw mf 13 i = f' i) (e40 : ∀ i, i < 1108 → mf 40 i = g' i)
    (er : ∀ x, (x = 2 ∨ x = 10 ∨ (29 ≤ x ∧ x < 37) ∨ x = 42 ∨ (44 ≤ x ∧ x < 48)) → mf x = m x)
    (e0 : mf 0 10 = m 0 10) (e1 : mf 1 1 = m 1 1) (e3 : mf 39 3 = m 39 3) (e10 : mf 39 10 = m 39 10)
    (e371 : mf 37 1 = nI ((nx + 1) % 8)) (e372 : mf 37 2 = nI (min (s + 1) 8)) (e395 : mf 39 5 = nI (min (s + 1) 8))
    (ea : ∀ i, i < 1108 → vw mf a i = vw m 13 i) (eb : ∀ b, 62 ≤ b → b + 8 ≤ W.1 → (a + 8 ≤ b ∨ b + 8 ≤ a) → vw mf b = vw m b)
    (e43 : ∀ k i, i < 1108 → k < 8 → mf 43 (1108 * k + i) = pst (m 43) (fun k => if k < 1108 then m 40 k else m 41 k) s (1108 * k + i)) (hrow : iRow mf lf) : Inv (j + 1) W' mf lf := by
  obtain ⟨⟨hC, hM, h61, g1, g2, g3⟩, ⟨P, N, E, s1, s2, s3, s4⟩, ⟨k1, k2⟩, ⟨nx', s', t1, t2, t3, t4, t5, t6, t7, t8⟩, hR, ⟨n, x1, x2, x3, x4⟩, -⟩ := h
  have hnn : nx' = nx := by
    rw [t3] at g371
    exact (nI_eq (by omega) (by omega)).mp g371
  have hss : s' = s := by
    rw [t4] at g372
    exact (nI_eq (by omega) (by omega)).mp g372
  subst hnn
  subst hss
  have eF : ∀ i, i < 1108 → (fun k => if k < 1108 then m 40 k else m 41 k) i = m 40 i := fun i hi => if_pos hi
  have hH : iHis W' mf (300 * (j + 1)) := iHis_act hnx hs t6 t7 t8 ⟨P, N, E, SR_of s1 (fun _ _ => rfl) eF, VR_of s2 s1.P12 s1.N100 eF, s3, CB_of s4 eF⟩ K (by omega) e371 e372 e395 ea eb e43
  obtain ⟨⟨kC, kM, k61, kW1, kW2, kW3, -, -⟩, -, -, -, -, -⟩ := K
  have e29 : vw mf 29 = vw m 29 := vw_row fun x a1 a2 => er x (by omega)
  have e42 : mf 42 = m 42 := er 42 (by omega)
  refine ⟨⟨kC, kM, k61, by omega, by omega, by omega⟩, ⟨P', N', E', SR_of S' e13 e40, VR_of V' S'.P12 S'.N100 e40, hE', CB_of B' e40⟩, ⟨by rw [e0, e3]; exact k1, ?_⟩, hH, fun c hc => ?_, ⟨n, x1, by rw [e1]; exact x2, by rw [e10]; exact x3, fun i hi => ?_⟩, hrow⟩
  · rw [e3, e29, e42]
    rcases k2 with k2 | ⟨k2, P', N', E', q1, q2, q3, q4⟩
    · exact Or.inl k2
    · exact Or.inr ⟨k2, P', N', E', q1, q2, by omega, CB_le q4 (by omega)⟩
  · rw [er 10 (by omega), er 44 (by omega), er 45 (by omega), er 46 (by omega)]
    exact hR c hc
  · rw [er 2 (by omega), er 47 (by omega)]
    exact x4 i hi
theorem kpM_o (m0 : Nat → Nat → Int32) {a : Nat} (f : Nat → Int32) (nx s : Nat) {x : Nat} (h1 : x < a ∨ a + 8 ≤ x) (h2 : x ≠ 37) : kpM m0 a f nx s x = m0 x := by
  unfold kpM
  rw [m2_r _ _ _ h2, m2_r _ _ _ h2, wv_out _ _ h1]
theorem kpM_1 (m0 : Nat → Nat → Int32) (a : Nat) (f : Nat → Int32) (nx s : Nat) : kpM m0 a f nx s 37 1 = nI nx := by
  unfold kpM
  rw [m2_k _ _ _ _ (by decide), m2_s]
theorem kpM_2 (m0 : Nat → Nat → Int32) (a : Nat) (f : Nat → Int32) (nx s : Nat) : kpM m0 a f nx s 37 2 = nI s := m2_s _ _ _ _
theorem kpM_a (m0 : Nat → Nat → Int32) {a : Nat} (ha : 62 ≤ a) (f : Nat → Int32) (nx s : Nat) {i : Nat} (hi : i < 1108) : vw (kpM m0 a f nx s) a i = f i := by
  rw [vw_row (m := wv m0 a f) fun x h1 h2 => by
    unfold kpM
    rw [m2_r _ _ _ (by omega), m2_r _ _ _ (by omega)]]
  exact vw_wv _ _ _ hi
theorem kpM_b (m0 : Nat → Nat → Int32) {a b : Nat} (f : Nat → Int32) (nx s : Nat) (hb : 62 ≤ b ∨ b + 8 ≤ 37) (hd : a + 8 ≤ b ∨ b + 8 ≤ a) : vw (kpM m0 a f nx s) b = vw m0 b := vw_row fun x h1 h2 => kpM_o _ _ _ _ (by omega) (by omega)
/-- what an act without a row leaves, and the invariant there -/
theorem act_keep2 {j : Nat} (h : Inv j W m l) : ∃ nx s W' mk, (nx < 8 ∧ s ≤ 8) ∧ (isC W' ∧ isM W' ∧ W'.2.2.1 = W.2.2.1 ∧ (∀ x, x < 62 → tm_sh W' x = tm_sh W x)) ∧ ((∀ x, x < 62 → x ≠ 37 → mk x = m x) ∧ m 39 5 = nI s) ∧
    cl 174 [.ref 37, .ref 13] (tm W (wv m 13 (vw m 13)) l) = some (none, tm W' (wv mk 13 (vw m 13)) l) ∧
    ∀ f' g' P' N' E', SR f' g' P' N' E' → VR g' P' N' E' → E' ≤ 300 * (j + 1) → CB g' (300 * (j + 1)) → Inv (j + 1) W' (m1 (rkM (m1 (m2 (wv mk 13 f') 39 13 0) 40 (m 40)) s) 40 g') l := by
  obtain ⟨⟨hC, hM, h61, g1, g2, g3⟩, -, -, ⟨nx, s, t1, t2, t3, t4, t5, t6, t7, t8⟩, -, -, hrow⟩ := id h
  obtain ⟨W', m0, a, K, e174⟩ := c174 (l := l) hC hM h61 g1 t3 t1 t4 t2 t6 t7
  obtain ⟨⟨kC, kM, k61, kW1, kW2, kW3, kW4, ksh⟩, ⟨ka1, ka2, ka3⟩, -, -, kd, km⟩ := id K
  have ko : ∀ x, x < 62 → x ≠ 37 → kpM m0 a (vw m 13) ((nx + 1) % 8) (min (s + 1) 8) x = m x := fun x hx h7 => by
    rw [kpM_o _ _ _ _ (by omega) h7, km x (by omega)]
  have k13 : vw (kpM m0 a (vw m 13) ((nx + 1) % 8) (min (s + 1) 8)) 13 = vw m 13 := vw_row fun x h1 h2 => ko x (by omega) (by omega)
  refine ⟨nx, s, W', kpM m0 a (vw m 13) ((nx + 1) % 8) (min (s + 1) 8), ⟨t1, t2⟩, ⟨kC, kM, kW4, ksh⟩, ⟨ko, t5⟩, ?_, fun f' g' P' N' E' S' V' hE' B' => ?_⟩
  · rw [wv_eta, e174]
    have := wv_eta (kpM m0 a (vw m 13) ((nx + 1) % 8) (min (s + 1) 8)) 13
    rw [k13] at this
    rw [this]
  · have mo : ∀ x, x ≠ 43 → x ≠ 39 → x ≠ 41 → x ≠ 40 → (x < 13 ∨ 21 ≤ x) → m1 (rkM (m1 (m2 (wv (kpM m0 a (vw m 13) ((nx + 1) % 8) (min (s + 1) 8)) 13 f') 39 13 0) 40 (m 40)) s) 40 g' x = kpM m0 a (vw m 13) ((nx + 1) % 8) (min (s + 1) 8) x := by
      intro x h1 h2 h3 h4 h5
      rw [m1_a _ _ h4, rkM_o _ _ h1 h2 h3, m1_a _ _ h4, m2_r _ _ _ h2, wv_out _ _ (by omega)]
    have m39 : ∀ k, k ≠ 5 → k ≠ 13 → m1 (rkM (m1 (m2 (wv (kpM m0 a (vw m 13) ((nx + 1) % 8) (min (s + 1) 8)) 13 f') 39 13 0) 40 (m 40)) s) 40 g' 39 k = m 39 k := by
      intro k h1 h2
      rw [m1_a _ _ (by decide), rkM_39 _ _ h1, m1_a _ _ (by decide), m2_k _ _ _ _ h2, wv_out _ _ (by omega), ko 39 (by decide) (by decide)]
    refine Inv_act h K t1 t2 t3 t4 S' V' hE' B' (fun i hi => ?_) (fun i hi => by rw [m1_s]) (fun x hx => ?_) ?_ ?_ ?_ ?_ ?_ ?_ ?_ (fun i hi => ?_) (fun b b1 b2 b3 => ?_) (fun k i hi hk => ?_) ?_
    · rw [vw_row (m := wv (kpM m0 a (vw m 13) ((nx + 1) % 8) (min (s + 1) 8)) 13 f') fun x h1 h2 => by
        rw [m1_a _ _ (by omega), rkM_o _ _ (by omega) (by omega) (by omega), m1_a _ _ (by omega), m2_r _ _ _ (by omega)]]
      exact vw_wv _ _ _ hi
    · rw [mo x (by omega) (by omega) (by omega) (by omega) (by omega), ko x (by omega) (by omega)]
    · rw [mo 0 (by decide) (by decide) (by decide) (by decide) (by decide), ko 0 (by decide) (by decide)]
    · rw [mo 1 (by decide) (by decide) (by decide) (by decide) (by decide), ko 1 (by decide) (by decide)]
    · exact m39 3 (by decide) (by decide)
    · exact m39 10 (by decide) (by decide)
    · rw [mo 37 (by decide) (by decide) (by decide) (by decide) (by decide), kpM_1]
    · rw [mo 37 (by decide) (by decide) (by decide) (by decide) (by decide), kpM_2]
    · rw [m1_a _ _ (by decide), rkM_5]
    · rw [vw_row (m := kpM m0 a (vw m 13) ((nx + 1) % 8) (min (s + 1) 8)) fun x h1 h2 => mo x (by omega) (by omega) (by omega) (by omega) (by omega), kpM_a _ ka1 _ _ _ hi]
    · rw [vw_row (m := kpM m0 a (vw m 13) ((nx + 1) % 8) (min (s + 1) 8)) fun x h1 h2 => mo x (by omega) (by omega) (by omega) (by omega) (by omega), kpM_b _ _ _ _ (Or.inl b1) b3]
      exact vw_row fun x h1 h2 => km x (by omega)
    · rw [m1_a _ _ (by decide), rkM_43, m1_a _ _ (by decide), m1_s, m1_a _ _ (by decide), m2_r _ _ _ (by decide), m2_r _ _ _ (by decide), wv_out _ _ (by omega), wv_out _ _ (by omega), ko 43 (by decide) (by decide), ko 41 (by decide) (by decide)]
    · obtain ⟨n, r1, r2, r3, r4⟩ := hrow
      refine ⟨n, r1, ?_, ?_, fun i hi => ?_⟩
      · rw [mo 7 (by decide) (by decide) (by decide) (by decide) (by decide), ko 7 (by decide) (by decide)]
        exact r2
      · rw [m39 12 (by decide) (by decide)]
        exact r3
      · rw [mo 8 (by decide) (by decide) (by decide) (by decide) (by decide), ko 8 (by decide) (by decide)]
        exact r4 i hi
theorem act_keep {j : Nat} (h : Inv j W m l) : ∃ nx s W' mk, (nx < 8 ∧ s ≤ 8) ∧ (isC W' ∧ isM W' ∧ W'.2.2.1 = W.2.2.1 ∧ (∀ x, x < 62 → tm_sh W' x = tm_sh W x)) ∧ (mk 39 = m 39 ∧ mk 10 = m 10 ∧ mk 44 = m 44 ∧ mk 40 = m 40 ∧ m 39 5 = nI s) ∧
    cl 174 [.ref 37, .ref 13] (tm W (wv m 13 (vw m 13)) l) = some (none, tm W' (wv mk 13 (vw m 13)) l) ∧
    ∀ f' g' P' N' E', SR f' g' P' N' E' → VR g' P' N' E' → E' ≤ 300 * (j + 1) → CB g' (300 * (j + 1)) → Inv (j + 1) W' (m1 (rkM (m1 (m2 (wv mk 13 f') 39 13 0) 40 (m 40)) s) 40 g') l := by
  obtain ⟨nx, s, W', mk, a1, a2, ⟨ko, a3⟩, a4, a5⟩ := act_keep2 h
  exact ⟨nx, s, W', mk, a1, a2, ⟨ko 39 (by decide) (by decide), ko 10 (by decide) (by decide), ko 44 (by decide) (by decide), ko 40 (by decide) (by decide), a3⟩, a4, a5⟩
end QRR

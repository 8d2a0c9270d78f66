section TXF
variable {W : tm_W} {m : Nat → Nat → Int32} {l : Nat → Nat → Int64}
/-! what was is kept: what is elsewhere stays -/
theorem c174b {nx s : Nat} (C : isC W) (M : isM W) (h61 : tm_sh W 61 = .inr (1, 1)) (h62 : 62 ≤ W.1) (h1 : m 37 1 = nI nx) (hnx : nx < 8) (h2 : m 37 2 = nI s) (hs : s ≤ 8) (t6 : ∀ i a, i < 8 → tm_rf W 38 i = some a → 62 ≤ a ∧ a + 8 ≤ W.1 ∧ isSt W a)
    (t7 : ∀ i k a b, i < 8 → k < 8 → i ≠ k → tm_rf W 38 i = some a → tm_rf W 38 k = some b → a + 8 ≤ b ∨ b + 8 ≤ a) : ∃ W' m0 a, Kept W m nx W' m0 a ∧ (∀ x, x < W.1 → tm_sh W' x = tm_sh W x) ∧ (tm_rf W 38 nx = some a ∨ a = W.1) ∧ cl 174 [.ref 37, .ref 13] (tm W m l) = some (none, tm W' (kpM m0 a (vw m 13) ((nx + 1) % 8) (min (s + 1) 8)) l) := by
  rw [q_174, tm_gR C.t37 rfl, Option.bind_some, tm_gI C.t37 rfl, Option.bind_some, h1, tm_ldR C.t38 hnx (by decide), Option.bind_some]
  cases hr : tm_rf W 38 nx with
  | some a =>
    obtain ⟨a1, a2, a3⟩ := t6 nx a hnx hr
    refine ⟨W, m, a, ⟨⟨C, M, h61, Nat.le_refl _, by omega, by omega, rfl, fun _ _ => rfl⟩, ⟨a1, a2, a3⟩, ⟨hr, fun _ _ => rfl⟩, fun _ _ h => h, fun i b hi hn hb => t7 nx i a b hnx hi (Ne.symm hn) hr hb, fun _ _ => rfl⟩, fun _ _ => rfl, Or.inl rfl, ?_⟩
    show dn 174 18 _ _ _ = _
    exact d174 C a3 a1 h1 hnx h2 hs
  | none =>
    have sh : ∀ x, x < W.1 → tm_sh (tm_sR (stW W) 38 nx W.1) x = tm_sh W x := fun x hx => stW_sh W (Or.inl hx)
    have C' : isC (stW W) := isC_of (fun x hx => stW_sh W (Or.inl (by omega))) C
    have C2 : isC (tm_sR (stW W) 38 nx W.1) := isC_of (fun x hx => sh x (by omega)) C
    have M2 : isM (tm_sR (stW W) 38 nx W.1) := isM_of (fun x hx => sh x (by omega)) M
    have S2 : isSt (tm_sR (stW W) 38 nx W.1) W.1 := stW_St W
    have em : ∀ x, x < W.1 → stM m W.1 x = m x := fun x hx => funext fun k => if_neg (by omega)
    have rf : ∀ i, tm_rf (tm_sR (stW W) 38 nx W.1) 38 i = if i = nx then some W.1 else tm_rf W 38 i := fun i => by
      show (if (38 : Nat) = 38 then (fun k => if k = nx then some W.1 else tm_rf (stW W) 38 k) else tm_rf (stW W) 38) i = _
      rw [if_pos rfl]
      rfl
    refine ⟨tm_sR (stW W) 38 nx W.1, stM m W.1, W.1, ⟨⟨C2, M2, by rw [sh 61 (by omega)]; exact h61, by show W.1 ≤ W.1 + 8; omega, by show W.1 + 8 ≤ W.1 + 8; omega, by show W.2.1 + 1115 ≤ W.2.1 + 1115; omega, rfl, fun x hx => sh x (by omega)⟩, ⟨h62, by show W.1 + 8 ≤ W.1 + 8; omega, S2⟩, ⟨by rw [rf, if_pos rfl], fun i hi => by rw [rf, if_neg hi]⟩, fun b hb h => isSt_of (fun x _ _ => sh x (by omega)) h, fun i b hi hn hb => Or.inr (t6 i b hi hb).2.1, em⟩, sh, Or.inr rfl, ?_⟩
    simp only [Option.elim]
    rw [show (tm W m l).1 = W.1 from rfl, c204, kxv_s, tm_gR C'.t37 rfl, Option.bind_some, tm_gI C'.t37 rfl, Option.bind_some, em 37 (by omega), h1, tm_stR C'.t38 (stW_St W).1 hnx (by decide), Option.bind_some]
    have e := d174 (m := stM m W.1) (l := l) C2 S2 h62 (by rw [em 37 (by omega)]; exact h1) hnx (by rw [em 37 (by omega)]; exact h2) hs
    rw [show vw (stM m W.1) 13 = vw m 13 from vw_row fun x _ _ => em x (by omega)] at e
    exact e
theorem iHis_act2 {c0 : Nat} {W' : tm_W} {m0 mf : Nat → Nat → Int32} {a nx s B B' : Nat} {F : Nat → Int32} (hnx : nx < 8) (hs : s ≤ 8)
    (t6 : ∀ i b, i < 8 → tm_rf W 38 i = some b → 62 ≤ b ∧ b + 8 ≤ W.1 ∧ isSt W b)
    (t7 : ∀ i k b c, i < 8 → k < 8 → i ≠ k → tm_rf W 38 i = some b → tm_rf W 38 k = some c → b + 8 ≤ c ∨ c + 8 ≤ b)
    (t8 : ∀ k, k < s → ∃ b P N E, tm_rf W 38 ((nx + 8 - s + k) % 8) = some b ∧ SR (vw m b) (fun i => m 43 (1108 * k + i)) P N E ∧ VR (fun i => m 43 (1108 * k + i)) P N E ∧ E ≤ B ∧ CB (fun i => m 43 (1108 * k + i)) B)
    (hb6 : ∀ i b, i < 8 → tm_rf W 38 i = some b → b + 8 ≤ c0)
    (now : ∃ P N E, SR (vw m 13) F P N E ∧ VR F P N E ∧ E ≤ B ∧ CB F B)
    (K : Kept W m nx W' m0 a) (hB : B ≤ B')
    (e371 : mf 37 1 = nI ((nx + 1) % 8)) (e372 : mf 37 2 = nI (min (s + 1) 8)) (e395 : mf 39 5 = nI (min (s + 1) 8))
    (ea : ∀ i, i < 1108 → vw mf a i = vw m 13 i) (eb : ∀ b, 62 ≤ b → b + 8 ≤ c0 → (a + 8 ≤ b ∨ b + 8 ≤ a) → vw mf b = vw m b)
    (e43 : ∀ k i, i < 1108 → k < 8 → mf 43 (1108 * k + i) = pst (m 43) F s (1108 * k + i)) : iHis W' mf B' := by
  obtain ⟨⟨-, -, -, kW1, kW2, -, -, -⟩, ⟨ka1, ka2, ka3⟩, ⟨kn1, kn2⟩, kst, kd, -⟩ := K
  refine ⟨(nx + 1) % 8, min (s + 1) 8, Nat.mod_lt _ (by decide), by omega, e371, e372, e395, fun i b hi hb => ?_, fun i k b c hi hk hik hb hc => ?_, fun k hk => ?_⟩
  · by_cases hin : i = nx
    · subst hin
      rw [kn1] at hb
      cases hb
      exact ⟨ka1, ka2, ka3⟩
    · rw [kn2 i hin] at hb
      obtain ⟨b1, b2, b3⟩ := t6 i b hi hb
      exact ⟨b1, by omega, kst b b2 b3⟩
  · by_cases hin : i = nx
    · subst hin
      rw [kn1] at hb
      cases hb
      rw [kn2 k (Ne.symm hik)] at hc
      exact kd k c hk (Ne.symm hik) hc
    · rw [kn2 i hin] at hb
      by_cases hkn : k = nx
      · subst hkn
        rw [kn1] at hc
        cases hc
        exact (kd i b hi hin hb).symm
      · rw [kn2 k hkn] at hc
        exact t7 i k b c hi hk hik hb hc
  · by_cases hl : k = min (s + 1) 8 - 1
    · obtain ⟨P, N, E, n1, n2, n3, n4⟩ := now
      have eF : ∀ i, i < 1108 → (fun i => mf 43 (1108 * k + i)) i = F i := fun i hi => by
        show mf 43 (1108 * k + i) = F i
        rw [e43 k i hi (by omega), hl]
        exact pst_new hs hi
      refine ⟨a, P, N, E, ?_, SR_of n1 (fun i hi => ea i hi) eF, VR_of n2 n1.P12 n1.N100 eF, by omega, CB_le (CB_of n4 eF) hB⟩
      rw [show ((nx + 1) % 8 + 8 - min (s + 1) 8 + k) % 8 = nx by omega]
      exact kn1
    · have hk' : (if s = 8 then k + 1 else k) < s := by
        split <;> omega
      obtain ⟨b, P, N, E, n0, n1, n2, n3, n4⟩ := t8 _ hk'
      have eF : ∀ i, i < 1108 → (fun i => mf 43 (1108 * k + i)) i = (fun i => m 43 (1108 * (if s = 8 then k + 1 else k) + i)) i := fun i hi => by
        show mf 43 (1108 * k + i) = _
        rw [e43 k i hi (by omega)]
        exact pst_old hs hi hk hl
      have ei : ((nx + 1) % 8 + 8 - min (s + 1) 8 + k) % 8 = (nx + 8 - s + (if s = 8 then k + 1 else k)) % 8 := by
        split <;> omega
      have en : (nx + 8 - s + (if s = 8 then k + 1 else k)) % 8 ≠ nx := by
        split <;> omega
      have hlt : (nx + 8 - s + (if s = 8 then k + 1 else k)) % 8 < 8 := Nat.mod_lt _ (by decide)
      obtain ⟨b1, b2, b3⟩ := t6 _ b hlt n0
      refine ⟨b, P, N, E, ?_, SR_of n1 (fun i hi => by rw [eb b b1 (hb6 _ b hlt n0) (kd _ b hlt en n0)]) eF, VR_of n2 n1.P12 n1.N100 eF, by omega, CB_le (CB_of n4 eF) hB⟩
      rw [ei, kn2 _ en]
      exact n0
set_option maxRecDepth 16384 in
theorem act3 {j : Nat} {W1 : tm_W} {mc : Nat → Nat → Int32} (h : Inv j W m l) (hC1 : isC W1) (hM1 : isM W1) (h61 : tm_sh W1 61 = .inr (1, 1)) (w1 : W.1 ≤ W1.1) (w2 : W1.1 ≤ W.1 + 1) (w3 : W1.2.1 ≤ W.2.1 + 10) (w4 : W1.2.2.1 = W.2.2.1) (w5 : ∀ x, x < W.1 → tm_sh W1 x = tm_sh W x) (w6 : tm_rf W1 38 = tm_rf W 38)
    (c37 : mc 37 = m 37) (cb : ∀ x, 62 ≤ x → x < W.1 → mc x = m x) (c13 : vw mc 13 = vw m 13) :
    ∃ s W' mk, s ≤ 8 ∧ m 39 5 = nI s ∧ (isC W' ∧ isM W' ∧ W'.2.2.1 = W.2.2.1 ∧ (∀ x, x < 62 → tm_sh W' x = tm_sh W x) ∧ ∀ x, x < W1.1 → tm_sh W' x = tm_sh W1 x) ∧ cl 174 [.ref 37, .ref 13] (tm W1 mc l) = some (none, tm W' mk l) ∧ (∀ x, x < 62 → x ≠ 37 → mk x = mc x) ∧ (∀ x, W.1 ≤ x → x < W1.1 → mk x = mc x) ∧
    ∀ (mf : Nat → Nat → Int32) (lf : Nat → Nat → Int64) (f' g' : Nat → Int32) (P' N' E' : Nat), SR f' g' P' N' E' → VR g' P' N' E' → E' ≤ 300 * (j + 1) → CB g' (300 * (j + 1)) → (∀ i, i < 1108 → vw mf 13 i = f' i) → (∀ i, i < 1108 → mf 40 i = g' i) → (∀ x, (x = 10 ∨ (29 ≤ x ∧ x < 37) ∨ x = 42 ∨ (44 ≤ x ∧ x < 47)) → mf x = m x) → mf 0 10 = m 0 10 → mf 39 3 = m 39 3 → mf 37 = mk 37 → mf 39 5 = nI (min (s + 1) 8) → (∀ x, 62 ≤ x → mf x = mk x) →
      (∀ k i, i < 1108 → k < 8 → mf 43 (1108 * k + i) = pst (m 43) (fun k => if k < 1108 then m 40 k else m 41 k) s (1108 * k + i)) → iTxt mf → iRow mf lf → Inv (j + 1) W' mf lf := by
  obtain ⟨⟨hC, hM, -, g1, g2, g3⟩, ⟨P, N, E, s1, s2, s3, s4⟩, ⟨k1, k2⟩, ⟨nx, s, t1, t2, t3, t4, t5, t6, t7, t8⟩, hR, -, -⟩ := h
  have t6' : ∀ i a, i < 8 → tm_rf W1 38 i = some a → 62 ≤ a ∧ a + 8 ≤ W1.1 ∧ isSt W1 a := fun i a hi ha => by
    rw [w6] at ha
    obtain ⟨a1, a2, a3⟩ := t6 i a hi ha
    exact ⟨a1, by omega, isSt_of (fun x x1 x2 => w5 x (by omega)) a3⟩
  have t7' : ∀ i k a b, i < 8 → k < 8 → i ≠ k → tm_rf W1 38 i = some a → tm_rf W1 38 k = some b → a + 8 ≤ b ∨ b + 8 ≤ a := by
    rw [w6]
    exact t7
  obtain ⟨W', m0, a, K, hsh, ha, e174⟩ := c174b (m := mc) (l := l) hC1 hM1 h61 (by omega) (by rw [c37]; exact t3) t1 (by rw [c37]; exact t4) t2 t6' t7'
  obtain ⟨⟨kC, kM, k61, kW1, kW2, kW3, kW4, ksh⟩, ⟨ka1, ka2, ka3⟩, kn, kst, kd, km⟩ := id K
  have K' : Kept W1 m nx W' m a := ⟨⟨kC, kM, k61, kW1, kW2, kW3, kW4, ksh⟩, ⟨ka1, ka2, ka3⟩, kn, kst, kd, fun _ _ => rfl⟩
  have hout : a + 8 ≤ W.1 ∨ W1.1 ≤ a := by
    rcases ha with ha | ha
    · rw [w6] at ha
      exact Or.inl (t6 nx a t1 ha).2.1
    · exact Or.inr (by omega)
  rw [c13] at e174
  refine ⟨s, W', _, t2, t5, ⟨kC, kM, by rw [kW4, w4], fun x hx => by rw [ksh x hx, w5 x (by omega)], hsh⟩, e174, fun x hx h7 => ?_, fun x x1 x2 => ?_, fun mf lf f' g' P' N' E' S' V' hE' B' e13 e40 er e0 e3 e37 e395 e62 e43 ht hrow => ?_⟩
  · rw [kpM_o _ _ _ _ (by omega) h7, km x (by omega)]
  · rw [kpM_o _ _ _ _ (by omega) (by omega), km x (by omega)]
  · have eF : ∀ i, i < 1108 → (fun k => if k < 1108 then m 40 k else m 41 k) i = m 40 i := fun i hi => if_pos hi
    have t8' : ∀ k, k < s → ∃ b P N E, tm_rf W1 38 ((nx + 8 - s + k) % 8) = some b ∧ SR (vw m b) (fun i => m 43 (1108 * k + i)) P N E ∧ VR (fun i => m 43 (1108 * k + i)) P N E ∧ E ≤ 300 * j ∧ CB (fun i => m 43 (1108 * k + i)) (300 * j) := by
      rw [w6]
      exact t8
    have ea : ∀ i, i < 1108 → vw mf a i = vw m 13 i := fun i hi => by
      rw [vw_row (m := kpM m0 a (vw m 13) ((nx + 1) % 8) (min (s + 1) 8)) fun x x1 x2 => e62 x (by omega), kpM_a _ ka1 _ _ _ hi]
    have ebb : ∀ b, 62 ≤ b → b + 8 ≤ W.1 → (a + 8 ≤ b ∨ b + 8 ≤ a) → vw mf b = vw m b := fun b b1 b2 b3 => by
      rw [vw_row (m := kpM m0 a (vw m 13) ((nx + 1) % 8) (min (s + 1) 8)) fun x x1 x2 => e62 x (by omega), kpM_b _ _ _ _ (Or.inl b1) b3]
      exact vw_row fun x x1 x2 => by rw [km x (by omega), cb x (by omega) (by omega)]
    have hH : iHis W' mf (300 * (j + 1)) := by
      obtain ⟨q1, q2, q3, q4, q5, q6, q7, q8, q9, q10⟩ : iHis W' mf (300 * (j + 1)) := by
        refine iHis_act2 t1 t2 t6' t7' t8' (fun i b hi hb => (t6 i b hi (by rw [← w6]; exact hb)).2.1) ⟨P, N, E, SR_of s1 (fun _ _ => rfl) eF, VR_of s2 s1.P12 s1.N100 eF, s3, CB_of s4 eF⟩ K' (by omega) ?_ ?_ e395 ea ebb e43
        · rw [e37, kpM_1]
        · rw [e37, kpM_2]
      exact ⟨q1, q2, q3, q4, q5, q6, q7, q8, q9, q10⟩
    have e29 : vw mf 29 = vw m 29 := vw_row fun x a1 a2 => er x (by omega)
    have e42 : mf 42 = m 42 := er 42 (by omega)
    refine ⟨⟨kC, kM, k61, by omega, by omega, by omega⟩, ⟨P', N', E', SR_of S' e13 e40, VR_of V' S'.P12 S'.N100 e40, hE', CB_of B' e40⟩, ⟨by rw [e0, e3]; exact k1, ?_⟩, hH, fun c hc => ?_, ht, hrow⟩
    · rw [e3, e29, e42]
      rcases k2 with k2 | ⟨k2, P', N', E', q1, q2, q3, q4⟩
      · exact Or.inl k2
      · exact Or.inr ⟨k2, P', N', E', q1, q2, by omega, CB_le q4 (by omega)⟩
    · rw [er 10 (by omega), er 44 (by omega), er 45 (by omega), er 46 (by omega)]
      exact hR c hc
end TXF

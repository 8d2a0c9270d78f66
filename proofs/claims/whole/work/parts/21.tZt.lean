section TXZt
variable {W : tm_W} {m : Nat → Nat → Int32} {l : Nat → Nat → Int64} {f g : Nat → Int32}
/-! RULES: from the text's begin to its end -/
def ruE (sg : Nat → Nat) (n : Nat) : RS × Nat × (Nat → CV) := if n = 0 then ((0, none), 0, fun _ => v0) else ruP sg n (n + 1) 0 0 (fun _ => v0)
theorem okW_0 : okW 0 (fun _ => v0) := fun _ _ => ⟨okV_0, fun _ => rfl⟩
theorem ruE_ok {sg : Nat → Nat} {n : Nat} (hn : n ≤ 200) : okS n (ruE sg n).1 ∧ (ruE sg n).2.1 < 16 ∧ okW (ruE sg n).2.1 (ruE sg n).2.2 := by
  unfold ruE
  split
  · exact ⟨okS0 n, by decide, okW_0⟩
  · exact ruP_ok hn _ _ _ _ (by omega) (by decide) okW_0
theorem rd59 (C : isC W) {n : Nat} {sg : Nat → Nat} (T : txT m n sg) : ∃ m', cl 59 [.ref 0] (tm W m l) = some (some (.int (swr (nI (ruE sg n).2.1))), tm W (txC m' (ruE sg n).1) l) ∧ (∀ x, x ≠ 12 → m' x = m x) ∧ ((ruE sg n).1.2 = none → ∀ c, c < 4 → duC (m' 12) c ((ruE sg n).2.2 c)) := by
  obtain ⟨m1', r1, r2, r3⟩ := c193 (m := m) (l := l) C
  have T1 : txT m1' n sg := txT_of T (by rw [r2 1 (by decide)]) (r2 2 (by decide))
  rw [q_59, xR5 C, Option.bind_some, if_pos (dok C _), r1, kxv_s, xR0 C, Option.bind_some, if_pos (t_ok C _), c245 C T1, kxi_s]
  unfold ruE
  by_cases h : n = 0
  · rw [if_pos h, if_pos h]
    exact ⟨m1', e59 (k := 0) C, r2, fun _ => r3⟩
  · rw [if_neg h, if_neg h]
    obtain ⟨m', q1, q2, q3⟩ := d59 (l := l) (sg := sg) (n := n) C (n + 1) 0 0 0 (fun _ => v0) m1' none T1 (by omega) (by decide) okW_0 r3 (by omega) (by decide)
    exact ⟨m', q1, fun x hx => by rw [q2 x hx, r2 x hx], q3⟩
theorem d1087 (M : isM W) (l2 : Option Value) : ∀ (j c : Nat) (m : Nat → Nat → Int32), c + j = 4 → (∀ d, d < c → duR (m 51) (m 52) (m 53) d v0) → ∃ m', dn 108 7 [some (.ref 39), some (.int (nI c)), l2] [] (tm W (txR m (0, none)) l) = dn 108 7 [some (.ref 39), some (.int 4), l2] [] (tm W (txR m' (0, none)) l) ∧ (∀ x, x ≠ 51 → m' x = m x) ∧ ∀ d, d < 4 → duR (m' 51) (m' 52) (m' 53) d v0
  | 0, c, m, h, hd => by
    obtain rfl : c = 4 := by omega
    exact ⟨m, rfl, fun _ _ => rfl, hd⟩
  | j + 1, c, m, h, hd => by
    have st : ∀ (m' : Nat → Nat → Int32) (k : Nat) (v : Int32), k < 16 → ia_st (tm W (txR m' (0, none)) l) 0 51 (nI k) v = some (tm W (txR (m2 m' 51 k v) (0, none)) l) := fun m' k v hk => by rw [rs51 M hk, txR_m2 _ _ _ (by omega)]
    have i0 : 4 * nI c = nI (4 * c) := mul4 c
    have i1 : nI (4 * c) + 1 = nI (4 * c + 1) := nI_1 _
    have i2 : nI (4 * c) + 2 = nI (4 * c + 2) := nI_add _ 2
    have i3 : nI (4 * c) + 3 = nI (4 * c + 3) := nI_add _ 3
    obtain ⟨m', e1, e2, e3⟩ := d1087 M l2 j (c + 1) (hdR m c (nI 0) (nI 1) (nI 0)) (by omega) (fun d hd' => by
      rw [hdR_o _ _ _ _ _ (show (52 : Nat) ≠ 51 by decide), hdR_o _ _ _ _ _ (show (53 : Nat) ≠ 51 by decide)]
      by_cases z : d = c
      · rw [z]
        exact hdR_d
      · exact duR_fr (hd d (by omega)) okV_0 fun i i1 i2 => ⟨hdR_k _ _ _ _ (by omega), rfl, rfl⟩)
    refine ⟨m', ?_, fun x hx => by rw [e2 x hx, hdR_o _ _ _ _ _ hx], e3⟩
    rw [← e1, q_108_7, if_neg (show ¬ ((4 : Int32) ≤ nI c) from nI_ge (b := 4) (by omega) (by decide)), i0]
    simp only [rR24 M, i1, i2, i3, st _ _ _ (show 4 * c < 16 by omega), st _ _ _ (show 4 * c + 1 < 16 by omega), st _ _ _ (show 4 * c + 2 < 16 by omega), st _ _ _ (show 4 * c + 3 < 16 by omega), Option.bind_some, nI_1]
    rfl
theorem d1088 (M : isM W) {K : Nat} (hK : K < 16) : ∀ (j i : Nat) (m : Nat → Nat → Int32), i + j = 16 → (∀ k, k < i → m 44 k = m 51 k ∧ m 45 k = m 52 k ∧ m 46 k = m 53 k) → ∃ m', dn 108 87 [some (.ref 39), some (.int (nI K)), some (.int (nI i))] [] (tm W m l) = some (some (.int (swr (nI K))), tm W m' l) ∧ (∀ x, x ≠ 44 → x ≠ 45 → x ≠ 46 → m' x = m x) ∧ ∀ k, k < 16 → m' 44 k = m 51 k ∧ m' 45 k = m 52 k ∧ m' 46 k = m 53 k
  | 0, i, m, h, hd => by
    obtain rfl : i = 16 := by omega
    exact ⟨m, by rw [q_108_87, if_pos (by decide), c72 (show K < 4096 by omega), kxi_s], fun _ _ _ _ => rfl, hd⟩
  | j + 1, i, m, h, hd => by
    have hi : i < 16 := by omega
    obtain ⟨m', e1, e2, e3⟩ := d1088 M hK j (i + 1) (m2 (m2 (m2 m 44 i (m 51 i)) 45 i (m 52 i)) 46 i (m 53 i)) (by omega) (fun k hk => by
      rw [m2_r _ _ _ (show (51 : Nat) ≠ 46 by decide), m2_r _ _ _ (show (51 : Nat) ≠ 45 by decide), m2_r _ _ _ (show (51 : Nat) ≠ 44 by decide), m2_r _ _ _ (show (52 : Nat) ≠ 46 by decide), m2_r _ _ _ (show (52 : Nat) ≠ 45 by decide), m2_r _ _ _ (show (52 : Nat) ≠ 44 by decide), m2_r _ _ _ (show (53 : Nat) ≠ 46 by decide), m2_r _ _ _ (show (53 : Nat) ≠ 45 by decide), m2_r _ _ _ (show (53 : Nat) ≠ 44 by decide), m2_r _ _ _ (show (44 : Nat) ≠ 46 by decide), m2_r _ _ _ (show (44 : Nat) ≠ 45 by decide), m2_r _ _ _ (show (45 : Nat) ≠ 46 by decide)]
      by_cases z : k = i
      · subst z
        exact ⟨m2_s _ _ _ _, m2_s _ _ _ _, m2_s _ _ _ _⟩
      · simp only [m2_k _ _ _ _ z]
        exact hd k (by omega))
    refine ⟨m', ?_, fun x a b c => by rw [e2 x a b c, m2_r _ _ _ c, m2_r _ _ _ b, m2_r _ _ _ a], fun k hk => ?_⟩
    · rw [← e1, q_108_87, if_neg (show ¬ ((16 : Int32) ≤ nI i) from nI_ge (b := 16) hi (by decide))]
      simp only [rR6 M, rR7 M, rR8 M, rR24 M, rR25 M, rR26 M, rl51 M hi, rl52 M hi, rl53 M hi, rs44 M hi, rs45 M hi, rs46 M hi, Option.bind_some, nI_1, m2_a _ _ _ _ (show (52 : Nat) ≠ 44 by decide), m2_a _ _ _ _ (show (53 : Nat) ≠ 44 by decide), m2_a _ _ _ _ (show (53 : Nat) ≠ 45 by decide)]
    · have := e3 k hk
      rwa [m2_r _ _ _ (show (51 : Nat) ≠ 46 by decide), m2_r _ _ _ (show (51 : Nat) ≠ 45 by decide), m2_r _ _ _ (show (51 : Nat) ≠ 44 by decide), m2_r _ _ _ (show (52 : Nat) ≠ 46 by decide), m2_r _ _ _ (show (52 : Nat) ≠ 45 by decide), m2_r _ _ _ (show (52 : Nat) ≠ 44 by decide), m2_r _ _ _ (show (53 : Nat) ≠ 46 by decide), m2_r _ _ _ (show (53 : Nat) ≠ 45 by decide), m2_r _ _ _ (show (53 : Nat) ≠ 44 by decide)] at this
theorem rd108 (M : isM W) {n : Nat} {sg : Nat → Nat} (h10 : m2 m 39 13 0 39 10 = nI n) (hn : n ≤ 200) (h47 : ∀ i, i < n → sg i < 256 ∧ m2 m 39 13 0 47 i = (nI (sg i)).toInt8.toInt32) : ∃ mk x', cl 108 [.ref 39] (tm W m l) = kxv (some (none, tm W (txR mk (ruE sg n).1) l)) (fun h1 => ((ia_gI h1 8 39 23).bind fun v2 => (if v2 = (-1) then dn 108 87 [some (.ref 39), some (.int x'), some (.int 0)] [] h1 else ((ia_gI h1 8 39 23).bind fun v3 => some (some (.int ((-21) - v3)), h1))))) ∧ (∀ x, x ≠ 51 → x ≠ 52 → x ≠ 53 → mk x = bgR (m2 m 39 13 0) n x) ∧ ((ruE sg n).1.2 = none → x' = nI (ruE sg n).2.1 ∧ ∀ c, c < 4 → duR (mk 51) (mk 52) (mk 53) c ((ruE sg n).2.2 c)) := by
  have T := bgR_U (m := m2 m 39 13 0) hn h47
  obtain ⟨m1', r1, r2, r3⟩ := d1087 (l := l) M none 4 0 (bgR (m2 m 39 13 0) n) (by omega) (fun d hd => by omega)
  have T1 : txU m1' n sg := txU_of T (by rw [r2 39 (by decide)]) (r2 47 (by decide))
  have r1' : dn 108 7 [some (.ref 39), some (.int 0), none] [] (tm W (txR (bgR (m2 m 39 13 0) n) (0, none)) l) = _ := r1
  rw [q_108, ru13 M, Option.bind_some, if_pos (rok M _), c99 M h10, kxv_s, r1', q_108_7, if_pos (by decide), u_1 M, Option.bind_some, T1.1]
  unfold ruE
  by_cases h : n = 0
  · rw [if_pos h, if_pos (show nI n ≤ 0 by rw [h]; decide)]
    refine ⟨m1', 0, ?_, fun x a b c => r2 x a, fun _ => ⟨rfl, r3⟩⟩
    have e6 := c100 (l := l) M T1 (s := (0, none)) (Nat.zero_le _)
    have n59 : ¬ enc (pke sg n 0) = (59 : Int32) := fun z => by
      rw [pke_n (by omega)] at z
      revert z
      decide
    rw [q_108_55, u_3 M, Option.bind_some, if_pos (show enc none = -1 from rfl), if_pos (rok M _), e6, kxi_s, if_neg n59, q_108_74, if_pos (rok M _), c105 M T1 (okS0 n), show en n (0, none) = (0, none) from if_neg (by omega)]
  · rw [if_neg h, if_neg (nI_nle (show 0 < n by omega) (by omega)), if_pos (rok M _)]
    obtain ⟨m', s', x', q1, q2, q3, q4, q5⟩ := d108 (l := l) (sg := sg) (n := n) M none (n + 1) 0 0 (fun _ => v0) m1' T1 (by omega) (by decide) okW_0 r3 (by omega)
    have T2 : txU m' n sg := txU_of T1 (by rw [q4 39 (by decide) (by decide) (by decide)]) (q4 47 (by decide) (by decide) (by decide))
    have q1' : kxi (cl 107 [.ref 39, .int 0] (tm W (txR m1' (0, none)) l)) (fun r h => dn 108 55 [some (.ref 39), some (.int r), none] [] h) = _ := q1
    refine ⟨m', x', ?_, fun x a b c => by rw [q4 x a b c, r2 x a], q5⟩
    rw [q1', q_108_74, if_pos (rok M _), c105 M T2 q2, q3]
theorem c194 (C : isC W) : cl 194 [.ref 9, .ref 11] (tm W m l) = some (none, tm W (m1 m 10 fun i => if i < 48 then m 12 i else m 10 i) l) := by
  rw [q_194, tm_gR C.t11 rfl, Option.bind_some, tm_gR C.t9 rfl, Option.bind_some, Option.bind_some, tm_len C.t10 (by decide), Option.bind_some, tm_cp C.t12 C.t10 (by decide), Option.bind_some]
theorem Inv_r {j : Nat} {m' : Nat → Nat → Int32} {l' : Nat → Nat → Int64} (h : Inv j W m l) (hr : ∀ a, ((13 ≤ a ∧ a < 21) ∨ (29 ≤ a ∧ a < 37) ∨ a = 40 ∨ (42 ≤ a ∧ a < 44) ∨ 62 ≤ a) → m' a = m a)
    (h0 : m' 0 10 = m 0 10) (h371 : m' 37 1 = m 37 1) (h372 : m' 37 2 = m 37 2) (h393 : m' 39 3 = m 39 3) (h395 : m' 39 5 = m 39 5) (hR : ∀ c, c < 4 → iRul (m' 10) (m' 44) (m' 45) (m' 46) c) (ht : iTxt m') (hrow : iRow m' l') : Inv (j + 1) W m' l' := by
  obtain ⟨⟨hC, hM, h61, g1, g2, g3⟩, ⟨P, N, E, s1, s2, s3, s4⟩, ⟨k1, k2⟩, hH, -, -, -⟩ := h
  have e13 : vw m' 13 = vw m 13 := vw_row fun a a1 a2 => hr a (by omega)
  have e29 : vw m' 29 = vw m 29 := vw_row fun a a1 a2 => hr a (by omega)
  have e40 : m' 40 = m 40 := hr 40 (by omega)
  have e42 : m' 42 = m 42 := hr 42 (by omega)
  refine ⟨⟨hC, hM, h61, g1, by omega, by omega⟩, ⟨P, N, E, by rw [e13, e40]; exact s1, by rw [e40]; exact s2, by omega, by rw [e40]; exact CB_le s4 (by omega)⟩, ⟨by rw [h0, h393]; exact k1, ?_⟩, iHis_same (by omega) hH (hr 43 (by omega)) (fun x hx => hr x (by omega)) h371 h372 h395, hR, ht, hrow⟩
  rw [h393, e29, e42]
  rcases k2 with k2 | ⟨k2, P', N', E', q1, q2, q3, q4⟩
  · exact Or.inl k2
  · exact Or.inr ⟨k2, P', N', E', q1, q2, by omega, CB_le q4 (by omega)⟩
theorem b_rules {j : Nat} (hj : j < 600) (h : Inv j W m l) : Both j W m l 3 108 [] [] := by
  obtain ⟨⟨C, M, h61, g1, g2, g3⟩, -, -, -, R, hT, hrow⟩ := id h
  obtain ⟨n, sg, T, h10, h47⟩ := iTxt_sg hT
  have hn := T.2.1
  obtain ⟨mr, e59', F, hd⟩ := rd59 (l := l) C T
  obtain ⟨ok1, ok2, ok3⟩ := ruE_ok (sg := sg) hn
  have mo : ∀ s {x : Nat}, x ≠ 1 → x ≠ 12 → txC (m2 mr 1 1 0) s x = m x := fun s x h1 h5 => by rw [txC_o _ _ h1, m2_r _ _ _ h1, F x h5]
  by_cases hq : (ruE sg n).1.2 = none
  · obtain ⟨mc, hmc⟩ : ∃ mc, mc = m1 (txC (m2 mr 1 1 0) (ruE sg n).1) 10 (fun i => if i < 48 then txC (m2 mr 1 1 0) (ruE sg n).1 12 i else txC (m2 mr 1 1 0) (ruE sg n).1 10 i) := ⟨_, rfl⟩
    have co : ∀ {x : Nat}, x ≠ 1 → x ≠ 10 → x ≠ 12 → mc x = m x := fun h1 h2 h3 => by rw [hmc, m1_a _ _ h2, mo _ h1 h3]
    obtain ⟨mk, x', k1, k2, k3⟩ := rd108 (m := mc) (l := l) (sg := sg) (n := n) M (by rw [m2_k _ _ _ _ (by decide), co (by decide) (by decide) (by decide)]; exact h10) hn (fun i hi => by rw [m2_r _ _ _ (by decide), co (by decide) (by decide) (by decide)]; exact h47 i hi)
    obtain ⟨kx, kd⟩ := k3 hq
    have ko : ∀ {x : Nat}, x ≠ 39 → x ≠ 51 → x ≠ 52 → x ≠ 53 → txR mk (ruE sg n).1 x = mc x := fun h1 h2 h3 h4 => by rw [txR_o _ _ h1, k2 _ h2 h3 h4, bgR_o _ _ h1, m2_r _ _ _ h1]
    have k39 : ∀ {k : Nat}, k ≠ 10 → k ≠ 13 → k ≠ 21 → k ≠ 22 → k ≠ 23 → txR mk (ruE sg n).1 39 k = m 39 k := fun h1 h2 h3 h4 h5 => by rw [txR_1 _ _ h4 h5, k2 _ (by decide) (by decide) (by decide), bgR_k _ _ h3 h1, m2_k _ _ _ _ h2, co (by decide) (by decide) (by decide)]
    obtain ⟨mf, f1, f2, f3⟩ := d1088 (l := l) M ok2 16 0 (txR mk (ruE sg n).1) (by omega) (fun k hk => by omega)
    have f1' : dn 108 87 [some (.ref 39), some (.int (nI (ruE sg n).2.1)), some (.int 0)] [] (tm W (txR mk (ruE sg n).1) l) = _ := f1
    have fo : ∀ {x : Nat}, x ≠ 1 → x ≠ 10 → x ≠ 12 → x ≠ 39 → x ≠ 44 → x ≠ 45 → x ≠ 46 → x ≠ 51 → x ≠ 52 → x ≠ 53 → mf x = m x := fun a1 a2 a3 a4 a5 a6 a7 a8 a9 a10 => by rw [f2 _ a5 a6 a7, ko a4 a8 a9 a10, co a1 a2 a3]
    have f39 : ∀ {k : Nat}, k ≠ 10 → k ≠ 13 → k ≠ 21 → k ≠ 22 → k ≠ 23 → mf 39 k = m 39 k := fun h1 h2 h3 h4 h5 => by rw [f2 39 (by decide) (by decide) (by decide), k39 h1 h2 h3 h4 h5]
    have f10 : ∀ i, i < 48 → mf 10 i = mr 12 i := fun i hi => by
      rw [f2 10 (by decide) (by decide) (by decide), ko (by decide) (by decide) (by decide) (by decide), hmc, m1_s, txC_o _ _ (by decide), m2_r _ _ _ (by decide)]
      exact if_pos hi
    refine ⟨swr (nI (ruE sg n).2.1), W, mc, l, W, mf, l, ?_, ?_, rfl, rfl, rfl, rfl, ?_⟩
    · rw [q_3, if_pos (xok C _), e59', kxi_s, xR0 C, Option.bind_some, if_pos (t_ok C _), c243 C, kxv_s, xR0 C, Option.bind_some, if_pos (t_ok C _), c246e C hq, kxi_s, if_neg (by decide), xR4 C, Option.bind_some, xR5 C, Option.bind_some, if_pos (tm_ok C.t9 (by decide)), c194 C, kxv_s, hmc]
    · have ez : enc (ruE sg n).1.2 = -1 := by rw [hq]; rfl
      rw [k1, kxv_s, u_3 M, Option.bind_some, ez, if_pos rfl, kx]
      exact f1'
    · refine Inv_r h (fun a ha => fo (by omega) (by omega) (by omega) (by omega) (by omega) (by omega) (by omega) ?_ ?_ ?_) ?_ ?_ ?_ (f39 (by decide) (by decide) (by decide) (by decide) (by decide)) (f39 (by decide) (by decide) (by decide) (by decide) (by decide)) (fun c hc => ?_) (iTxt_0 ?_ ?_) (iRow_fr hrow ?_ ?_ (f39 (by decide) (by decide) (by decide) (by decide) (by decide)))
      · omega
      · omega
      · omega
      · rw [fo (by decide) (by decide) (by decide) (by decide) (by decide) (by decide) (by decide) (by decide) (by decide) (by decide)]
      · rw [fo (by decide) (by decide) (by decide) (by decide) (by decide) (by decide) (by decide) (by decide) (by decide) (by decide)]
      · rw [fo (by decide) (by decide) (by decide) (by decide) (by decide) (by decide) (by decide) (by decide) (by decide) (by decide)]
      · refine iRul_V (ok3 c hc).1 (duC_fr (hd hq c hc) (ok3 c hc).1 fun i i1 i2 => f10 i (by omega)) (duR_fr (kd c hc) (ok3 c hc).1 fun i i1 i2 => ?_)
        have := f3 i (by omega)
        rwa [txR_o _ _ (by decide), txR_o _ _ (by decide), txR_o _ _ (by decide)] at this
      · rw [f2 1 (by decide) (by decide) (by decide), ko (by decide) (by decide) (by decide) (by decide), hmc, m1_a _ _ (by decide), txC_1 _ _ (by decide) (by decide), m2_s]
      · rw [f2 39 (by decide) (by decide) (by decide), txR_1 _ _ (by decide) (by decide), k2 39 (by decide) (by decide) (by decide), bgR_10]
      · rw [fo (by decide) (by decide) (by decide) (by decide) (by decide) (by decide) (by decide) (by decide) (by decide) (by decide)]
      · rw [fo (by decide) (by decide) (by decide) (by decide) (by decide) (by decide) (by decide) (by decide) (by decide) (by decide)]
  · obtain ⟨mk, x', k1, k2, -⟩ := rd108 (m := txC (m2 mr 1 1 0) (ruE sg n).1) (l := l) (sg := sg) (n := n) M (by rw [m2_k _ _ _ _ (by decide), mo _ (by decide) (by decide)]; exact h10) hn (fun i hi => by rw [m2_r _ _ _ (by decide), mo _ (by decide) (by decide)]; exact h47 i hi)
    have fo : ∀ {x : Nat}, x ≠ 1 → x ≠ 12 → x ≠ 39 → x ≠ 51 → x ≠ 52 → x ≠ 53 → txR mk (ruE sg n).1 x = m x := fun a1 a3 a4 a8 a9 a10 => by rw [txR_o _ _ a4, k2 _ a8 a9 a10, bgR_o _ _ a4, m2_r _ _ _ a4, mo _ a1 a3]
    have f39 : ∀ {k : Nat}, k ≠ 10 → k ≠ 13 → k ≠ 21 → k ≠ 22 → k ≠ 23 → txR mk (ruE sg n).1 39 k = m 39 k := fun h1 h2 h3 h4 h5 => by rw [txR_1 _ _ h4 h5, k2 _ (by decide) (by decide) (by decide), bgR_k _ _ h3 h1, m2_k _ _ _ _ h2, mo _ (by decide) (by decide)]
    have I : Inv (j + 1) W (txR mk (ruE sg n).1) l := by
      refine Inv_t h (fun a ha => fo ?_ ?_ ?_ ?_ ?_ ?_) ?_ ?_ ?_ (f39 (by decide) (by decide) (by decide) (by decide) (by decide)) (f39 (by decide) (by decide) (by decide) (by decide) (by decide)) (iTxt_0 ?_ ?_) (iRow_fr hrow ?_ ?_ (f39 (by decide) (by decide) (by decide) (by decide) (by decide)))
      · omega
      · omega
      · omega
      · omega
      · omega
      · omega
      · rw [fo (by decide) (by decide) (by decide) (by decide) (by decide) (by decide)]
      · rw [fo (by decide) (by decide) (by decide) (by decide) (by decide) (by decide)]
      · rw [fo (by decide) (by decide) (by decide) (by decide) (by decide) (by decide)]
      · rw [txR_o _ _ (by decide), k2 _ (by decide) (by decide) (by decide), bgR_o _ _ (by decide), m2_r _ _ _ (by decide), txC_1 _ _ (by decide) (by decide), m2_s]
      · rw [txR_1 _ _ (by decide) (by decide), k2 39 (by decide) (by decide) (by decide), bgR_10]
      · rw [fo (by decide) (by decide) (by decide) (by decide) (by decide) (by decide)]
      · rw [fo (by decide) (by decide) (by decide) (by decide) (by decide) (by decide)]
    generalize hse : (ruE sg n).1 = se at *
    obtain ⟨a, q⟩ := se
    cases q with
    | none => exact absurd rfl hq
    | some p =>
      have hp : p ≤ 200 := ok1.2 p rfl
      have ne : ¬ enc (some p) = -1 := nI_ne_m1 (by omega)
      refine ⟨-21 - nI p, W, txC (m2 mr 1 1 0) (a, some p), l, W, txR mk (a, some p), l, ?_, ?_, rfl, rfl, rfl, rfl, I⟩
      · rw [q_3, if_pos (xok C _), e59', kxi_s, xR0 C, Option.bind_some, if_pos (t_ok C _), c243 C, kxv_s, xR0 C, Option.bind_some, if_pos (t_ok C _), c246f C a hp, kxi_s, if_pos rfl, if_pos (xok C _), c58 C, kxi_s]
      · rw [k1, kxv_s, u_3 M, Option.bind_some, if_neg ne, Option.bind_some]
        rfl
end TXZt

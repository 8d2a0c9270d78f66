section TXK
variable {W : tm_W} {m : Nat → Nat → Int32} {l : Nat → Nat → Int64} {f g : Nat → Int32}
theorem m1_m1 {α : Type} (m : Nat → Nat → α) (a : Nat) (f g : Nat → α) : m1 (m1 m a f) a g = m1 m a g := by
  funext x
  unfold m1
  by_cases h : x = a
  · rw [if_pos h, if_pos h]
  · rw [if_neg h, if_neg h, if_neg h]
theorem svM_e (X : Nat → Nat → Int32) : svM X (X 39 14) (X 39 15) = X := by
  funext a k
  unfold svM m2
  by_cases h1 : a = 39 ∧ k = 15
  · rw [if_pos h1, h1.1, h1.2]
  · rw [if_neg h1]
    by_cases h2 : a = 39 ∧ k = 14
    · rw [if_pos h2, h2.1, h2.2]
    · rw [if_neg h2]
theorem c189t (C : isC W) : cl 189 [.ref 7] (tm W (wv m 21 f) l) = some (some (.ref 7), tm W (wv (rwm m []) 21 f) l) := by
  rw [c189 C, rwm_wv _ _ _ (by decide)]
theorem c190t (C : isC W) {xs : List Int32} (h : xs.length < 100) (v : Int32) : cl 190 [.ref 7, .int v] (tm W (wv (rwm m xs) 21 f) l) = some (some (.ref 7), tm W (wv (rwm m (xs ++ [v])) 21 f) l) := by
  rw [← rwm_wv _ _ _ (by decide), c190 C h, rwm_wv _ _ _ (by decide)]
theorem c190ta (C : isC W) (v : Int32) : cl 190 [.ref 7, .int v] (tm W (wv (rwm m []) 21 f) l) = some (some (.ref 7), tm W (wv (rwm m [v]) 21 f) l) := c190t C (xs := []) (by decide) v
theorem c190tb (C : isC W) (a v : Int32) : cl 190 [.ref 7, .int v] (tm W (wv (rwm m [a]) 21 f) l) = some (some (.ref 7), tm W (wv (rwm m [a, v]) 21 f) l) := c190t C (xs := [a]) (by simp) v
theorem iRow_xs {mf : Nat → Nat → Int32} (l : Nat → Nat → Int64) {xs : List Int32} (hx : xs.length ≤ 100) (h7 : mf 7 1 = nI xs.length) (h8 : ∀ i, i < xs.length → mf 8 i = xs.getD i 0) (h12 : mf 39 12 = nI xs.length) : iRow mf (llm l (xs.map Int32.toInt64)) := by
  refine ⟨xs.length, hx, h7, h12, fun i hi => ?_⟩
  rw [h8 i hi]
  unfold llm
  rw [if_pos ⟨rfl, by rw [List.length_map]; exact hi⟩]
  simp [List.getD, hi]
/-- the frame of what was done in thought: F the component's thought, G what is put back -/
theorem Inv_th {j n : Nat} {mr mk : Nat → Nat → Int32} {s s' : RS} {xs : List Int32} {Ff A G : Nat → Int32} {a b : Int32} (h : Inv j W m l) (F : frC m mr) (K : frL (bgR (m2 (wv (rwm (txC (m2 mr 1 1 0) s) xs) 21 Ff) 39 13 0) n) mk) (hG : ∀ i, i < 1108 → G i = m 40 i) (hx : xs.length ≤ 100) : Inv (j + 1) W (m1 (m2 (svM (m1 (txR mk s') 41 A) a b) 39 12 (nI xs.length)) 40 G) (llm l (xs.map Int32.toInt64)) := by
  have e : ∀ {x : Nat}, x ≠ 39 → x ≠ 40 → x ≠ 41 → x ≠ 58 → x ≠ 59 → x ≠ 60 → m1 (m2 (svM (m1 (txR mk s') 41 A) a b) 39 12 (nI xs.length)) 40 G x = wv (rwm (txC (m2 mr 1 1 0) s) xs) 21 Ff x := fun h1 h2 h3 h4 h5 h6 => by
    rw [m1_a _ _ h2, m2_r _ _ _ h1, svM_o _ _ _ h1, m1_a _ _ h3, txR_o _ _ h1, K.1 _ h1 h4 h5 h6, bgR_o _ _ h1, m2_r _ _ _ h1]
  have e2 : ∀ {x : Nat}, x ≠ 39 → x ≠ 40 → x ≠ 41 → x ≠ 58 → x ≠ 59 → x ≠ 60 → x ≠ 1 → x ≠ 5 → x ≠ 6 → x ≠ 7 → x ≠ 8 → (x < 21 ∨ 29 ≤ x) → m1 (m2 (svM (m1 (txR mk s') 41 A) a b) 39 12 (nI xs.length)) 40 G x = m x := fun h1 h2 h3 h4 h5 h6 h7 h8 h9 h10 h11 h12 => by
    rw [e h1 h2 h3 h4 h5 h6, wv21 _ _ h12, rwm_o _ _ h10 h11, frC_o F s h7 h8 h9]
  have e39 : ∀ {k : Nat}, k ≠ 10 → k ≠ 12 → k ≠ 13 → k ≠ 14 → k ≠ 15 → k ≠ 21 → k ≠ 22 → k ≠ 23 → k ≠ 35 → m1 (m2 (svM (m1 (txR mk s') 41 A) a b) 39 12 (nI xs.length)) 40 G 39 k = m 39 k := fun h1 h2 h3 h4 h5 h6 h7 h8 h9 => by
    rw [m1_a _ _ (by decide), m2_k _ _ _ _ h2, svM_k _ _ _ h4 h5, m1_a _ _ (by decide), txR_1 _ _ h7 h8, K.2 _ h9, bgR_k _ _ h6 h1, m2_k _ _ _ _ h3, wv21 _ _ (by omega), rwm_o _ _ (by decide) (by decide), frC_o F s (by decide) (by decide) (by decide)]
  refine Inv_u h (fun x hx => e2 (by omega) (by omega) (by omega) (by omega) (by omega) (by omega) (by omega) (by omega) (by omega) (by omega) (by omega) (by omega)) (fun i hi => by rw [m1_s, hG i hi]) ?_ ?_ ?_ ?_ ?_ (iTxt_0 ?_ ?_) (iRow_xs l hx ?_ (fun i hi => ?_) ?_)
  · rw [e2 (by decide) (by decide) (by decide) (by decide) (by decide) (by decide) (by decide) (by decide) (by decide) (by decide) (by decide) (by decide)]
  · rw [e2 (by decide) (by decide) (by decide) (by decide) (by decide) (by decide) (by decide) (by decide) (by decide) (by decide) (by decide) (by decide)]
  · rw [e2 (by decide) (by decide) (by decide) (by decide) (by decide) (by decide) (by decide) (by decide) (by decide) (by decide) (by decide) (by decide)]
  · exact e39 (by decide) (by decide) (by decide) (by decide) (by decide) (by decide) (by decide) (by decide) (by decide)
  · exact e39 (by decide) (by decide) (by decide) (by decide) (by decide) (by decide) (by decide) (by decide) (by decide)
  · rw [e (by decide) (by decide) (by decide) (by decide) (by decide) (by decide), wv21 _ _ (by decide), rwm_o _ _ (by decide) (by decide), txC_1 _ _ (by decide) (by decide), m2_s]
  · rw [m1_a _ _ (by decide), m2_k _ _ _ _ (by decide), svM_k _ _ _ (by decide) (by decide), m1_a _ _ (by decide), txR_1 _ _ (by decide) (by decide), K.2 _ (by decide), bgR_10]
  · rw [e (by decide) (by decide) (by decide) (by decide) (by decide) (by decide), wv21 _ _ (by decide), rwm_7]
  · rw [e (by decide) (by decide) (by decide) (by decide) (by decide) (by decide), wv21 _ _ (by decide), rwm_8 _ _ hi]
  · rw [m1_a _ _ (by decide), m2_s]
theorem Inv_th0 {j n : Nat} {mr mk : Nat → Nat → Int32} {s s' : RS} {Ff A G : Nat → Int32} {a b : Int32} (h : Inv j W m l) (F : frC m mr) (K : frL (bgR (m2 (wv (txC (m2 mr 1 1 0) s) 21 Ff) 39 13 0) n) mk) (hG : ∀ i, i < 1108 → G i = m 40 i) : Inv (j + 1) W (m1 (svM (m1 (txR mk s') 41 A) a b) 40 G) l := by
  have e : ∀ {x : Nat}, x ≠ 39 → x ≠ 40 → x ≠ 41 → x ≠ 58 → x ≠ 59 → x ≠ 60 → m1 (svM (m1 (txR mk s') 41 A) a b) 40 G x = wv (txC (m2 mr 1 1 0) s) 21 Ff x := fun h1 h2 h3 h4 h5 h6 => by
    rw [m1_a _ _ h2, svM_o _ _ _ h1, m1_a _ _ h3, txR_o _ _ h1, K.1 _ h1 h4 h5 h6, bgR_o _ _ h1, m2_r _ _ _ h1]
  have e2 : ∀ {x : Nat}, x ≠ 39 → x ≠ 40 → x ≠ 41 → x ≠ 58 → x ≠ 59 → x ≠ 60 → x ≠ 1 → x ≠ 5 → x ≠ 6 → (x < 21 ∨ 29 ≤ x) → m1 (svM (m1 (txR mk s') 41 A) a b) 40 G x = m x := fun h1 h2 h3 h4 h5 h6 h7 h8 h9 h12 => by
    rw [e h1 h2 h3 h4 h5 h6, wv21 _ _ h12, frC_o F s h7 h8 h9]
  have e39 : ∀ {k : Nat}, k ≠ 10 → k ≠ 13 → k ≠ 14 → k ≠ 15 → k ≠ 21 → k ≠ 22 → k ≠ 23 → k ≠ 35 → m1 (svM (m1 (txR mk s') 41 A) a b) 40 G 39 k = m 39 k := fun h1 h3 h4 h5 h6 h7 h8 h9 => by
    rw [m1_a _ _ (by decide), svM_k _ _ _ h4 h5, m1_a _ _ (by decide), txR_1 _ _ h7 h8, K.2 _ h9, bgR_k _ _ h6 h1, m2_k _ _ _ _ h3, wv21 _ _ (by omega), frC_o F s (by decide) (by decide) (by decide)]
  refine Inv_u h (fun x hx => e2 (by omega) (by omega) (by omega) (by omega) (by omega) (by omega) (by omega) (by omega) (by omega) (by omega)) (fun i hi => by rw [m1_s, hG i hi]) ?_ ?_ ?_ ?_ ?_ (iTxt_0 ?_ ?_) (iRow_fr h.2.2.2.2.2.2 ?_ ?_ ?_)
  · rw [e2 (by decide) (by decide) (by decide) (by decide) (by decide) (by decide) (by decide) (by decide) (by decide) (by decide)]
  · rw [e2 (by decide) (by decide) (by decide) (by decide) (by decide) (by decide) (by decide) (by decide) (by decide) (by decide)]
  · rw [e2 (by decide) (by decide) (by decide) (by decide) (by decide) (by decide) (by decide) (by decide) (by decide) (by decide)]
  · exact e39 (by decide) (by decide) (by decide) (by decide) (by decide) (by decide) (by decide) (by decide)
  · exact e39 (by decide) (by decide) (by decide) (by decide) (by decide) (by decide) (by decide) (by decide)
  · rw [e (by decide) (by decide) (by decide) (by decide) (by decide) (by decide), wv21 _ _ (by decide), txC_1 _ _ (by decide) (by decide), m2_s]
  · rw [m1_a _ _ (by decide), svM_k _ _ _ (by decide) (by decide), m1_a _ _ (by decide), txR_1 _ _ (by decide) (by decide), K.2 _ (by decide), bgR_10]
  · rw [e2 (by decide) (by decide) (by decide) (by decide) (by decide) (by decide) (by decide) (by decide) (by decide) (by decide)]
  · rw [e2 (by decide) (by decide) (by decide) (by decide) (by decide) (by decide) (by decide) (by decide) (by decide) (by decide)]
  · exact e39 (by decide) (by decide) (by decide) (by decide) (by decide) (by decide) (by decide) (by decide)
/-- the reference puts back what lay aside -/
theorem c82k (M : isM W) {X : Nat → Nat → Int32} {A : Nat → Int32} (a b : Int32) (G : Nat → Int32) : cl 82 [.ref 39] (tm W (m1 (svM (m1 X 41 A) a b) 40 G) l) = some (none, tm W (m1 (svM (m1 X 41 A) a b) 40 (fun k => if k < 1108 then A k else G k)) l) := by
  rw [c82 M, m1_m1, m1_s, m1_a _ _ (show (41 : Nat) ≠ 40 by decide), svM_o _ _ _ (by decide), m1_s]
theorem b_behind {j : Nat} (hj : j < 600) (h : Inv j W m l) : Both j W m l 32 150 [] [] := by
  obtain ⟨⟨C, M, h61, g1, g2, g3⟩, ⟨P, N, E, S, V, hE, hB⟩, -, -, R, hT, hrow⟩ := id h
  have p12 := S.P12
  have n100 := S.N100
  obtain ⟨n, sg, T, h10, h47⟩ := iTxt_sg hT
  have hn := T.2.1
  obtain ⟨mr, e65, F, hd⟩ := rd65 (l := l) C T
  have hoks := plE_ok (sg := sg) (it := itL sg n) hn (fun s hs => (itL_ok hn hs).2.2.2)
  have mo : ∀ s {a : Nat}, a ≠ 1 → a ≠ 5 → a ≠ 6 → txC (m2 mr 1 1 0) s a = m a := fun s a h1 h5 h6 => frC_o F s h1 h5 h6
  by_cases hq : (plE sg n (itL sg n)).1.2 = none
  · have hall := plL_all (sg := sg) hn hq
    have hlen := plL_len (sg := sg) hn hq
    have hd' := hd hq
    have es : enc (plE sg n (itL sg n)).1.2 = -1 := by rw [hq]; rfl
    generalize hXs : (plE sg n (itL sg n)).2 = xs at *
    generalize hse : (plE sg n (itL sg n)).1 = se at *
    have sc : stP P N (vw m 13, E) := ⟨S.f4, S.f5, S.f7⟩
    have sr : stP P N (m 40, E) := ⟨S.g4, S.g5, S.g7⟩
    obtain ⟨l4, c1, c2⟩ := d32 (l := l) C (Y := txC (m2 mr 1 1 0) se) (L := xs.length) (P := P) (N := N) (by omega) (by rw [txC_o _ _ (by decide), m2_a _ _ _ _ (by decide)]; exact hd'.1) p12 n100 xs 0 ((vw m 13, E), 0) none (by omega) (fun q e he => by
      rw [txC_o _ _ (by decide), m2_r _ _ _ (by decide), Nat.zero_add]
      exact hd'.2 q e he) sc (by show E + 24 * xs.length + 1 < 2 ^ 30; omega)
    obtain ⟨k1, k2⟩ := bh_KA (rr := fun c => m 44 (4 * c + 2)) p12 n100 xs ((vw m 13, E), 0) ((m 40, E), 0) hall (KA_SR S) rfl
    generalize hFc : bhF P N xs ((vw m 13, E), 0) = Fc at *
    have e205 := c205' (m := txC (m2 mr 1 1 0) se) (l := l) C.tho C.now (by omega)
    rw [show vw (txC (m2 mr 1 1 0) se) 13 = vw m 13 from vw_row fun x x1 x2 => mo _ (by omega) (by omega) (by omega)] at e205
    have hc : cl 32 [.ref 0] (tm W m l) = some (some (.int (fo (osS Fc.1.1 N) P 0 0)), tm W (wv (rwm (txC (m2 mr 1 1 0) se) [nI Fc.2, fo (cOp Fc.1.1) N 0 0]) 21 Fc.1.1) l) := by
      have h5 : wv (txC (m2 mr 1 1 0) se) 21 Fc.1.1 5 1 = nI xs.length := by rw [wv21 _ _ (by decide), txC_o _ _ (by decide), m2_a _ _ _ _ (by decide)]; exact hd'.1
      have f228 : ∀ ys : List Int32, cl 228 [.ref 21] (tm W (wv (rwm (txC (m2 mr 1 1 0) se) ys) 21 Fc.1.1) l) = some (some (.int (fo (cOp Fc.1.1) N 0 0)), tm W (wv (rwm (txC (m2 mr 1 1 0) se) ys) 21 Fc.1.1) l) := fun ys => c228 C.tho c2.2.1 n100
      simp only [q_32, xok C, xR0 C, xR6 C, xR7 C, t_ok C, e65, c243 C, c246e C hq, sok C.tho, e205, Option.bind_some, kxi_s, kxv_s, if_true, if_false, i10]
      rw [show dn 32 21 [some (.ref 0), some (.int 0), some (.int 0), none] [] _ = _ from c1, q_32_21]
      simp only [xR2 C, xR3 C, xR7 C, i1g C, h5, eq_true (Int32.le_refl (nI xs.length)), Option.bind_some, if_true, vok C, c189t C, c190ta C, c190tb C, kxr_s, kxi_s, sok C.tho, f228, c227o C.tho c2.1 p12 c2.2.1 n100]
    have ko : ∀ {x : Nat}, x ≠ 1 → x ≠ 5 → x ≠ 6 → x ≠ 7 → x ≠ 8 → (x < 21 ∨ 29 ≤ x) → wv (rwm (txC (m2 mr 1 1 0) se) [nI Fc.2, fo (cOp Fc.1.1) N 0 0]) 21 Fc.1.1 x = m x := fun h1 h2 h3 h4 h5 h6 => by
      rw [wv21 _ _ h6, rwm_o _ _ h4 h5, mo _ h1 h2 h3]
    generalize hmc : wv (rwm (txC (m2 mr 1 1 0) se) [nI Fc.2, fo (cOp Fc.1.1) N 0 0]) 21 Fc.1.1 = mc at *
    obtain ⟨mk, r1, r2, r3⟩ := rd142 (l := l) (m := m2 mc 39 13 0) (n := n) (sg := sg) M (by rw [m2_k _ _ _ _ (by decide), ko (by decide) (by decide) (by decide) (by decide) (by decide) (by decide)]; exact h10) hn (fun i hi => by rw [m2_r _ _ _ (by decide), ko (by decide) (by decide) (by decide) (by decide) (by decide) (by decide)]; exact h47 i hi)
    rw [hXs, hse] at r3
    rw [hse] at r1
    have r3' := r3 hq
    have X40 : txR mk se 40 = m 40 := by rw [txR_o _ _ (by decide), r2.1 40 (by decide) (by decide) (by decide) (by decide), bgR_o _ _ (by decide), m2_r _ _ _ (by decide), ko (by decide) (by decide) (by decide) (by decide) (by decide) (by decide)]
    have X44 : txR mk se 44 = m 44 := by rw [txR_o _ _ (by decide), r2.1 44 (by decide) (by decide) (by decide) (by decide), bgR_o _ _ (by decide), m2_r _ _ _ (by decide), ko (by decide) (by decide) (by decide) (by decide) (by decide) (by decide)]
    have e81 := c81 (m := txR mk se) (l := l) M
    rw [X40] at e81
    generalize hA : (fun k => if k < 1108 then m 40 k else txR mk se 41 k) = A at *
    have hAi : ∀ i, i < 1108 → A i = m 40 i := fun i hi => by rw [← hA]; exact if_pos hi
    obtain ⟨a', b', d1, d2⟩ := d150 (l := l) M (X := m1 (txR mk se) 41 A) (L := xs.length) (P := P) (N := N) (by omega) (by rw [m1_a _ _ (by decide), txR_1 _ _ (by decide) (by decide)]; exact r3'.1) p12 n100 none xs 0 ((m 40, E), 0) (m1 (txR mk se) 41 A 39 14) (m1 (txR mk se) 41 A 39 15) (by omega) (fun q e he => by
      rw [m1_a _ _ (by decide), m1_a _ _ (by decide), m1_a _ _ (by decide), txR_o _ _ (by decide), txR_o _ _ (by decide), txR_o _ _ (by decide), Nat.zero_add]
      exact r3'.2 q e he) hall sr (by show E + 24 * xs.length + 24 < 2 ^ 30; omega)
    have em : m1 (svM (m1 (txR mk se) 41 A) (m1 (txR mk se) 41 A 39 14) (m1 (txR mk se) 41 A 39 15)) 40 (m 40) = m1 (txR mk se) 41 A := by
      rw [svM_e, ← X40]
      have := m1_e (m1 (txR mk se) 41 A) 40
      rwa [m1_a _ _ (show (40 : Nat) ≠ 41 by decide)] at this
    rw [show m1 (txR mk se) 41 A 44 = m 44 by rw [m1_a _ _ (by decide), X44]] at d1 d2
    rw [em] at d1
    generalize hFr : bhR (fun c => m 44 (4 * c + 2)) P N xs ((m 40, E), 0) = Fr at *
    refine ⟨fo (osS Fc.1.1 N) P 0 0, W, mc, l, W, m1 (m2 (svM (m1 (txR mk se) 41 A) a' b') 39 12 (nI 2)) 40 (fun k => if k < 1108 then A k else Fr.1.1 k), llm l ([nI Fc.2, fo (cOp Fc.1.1) N 0 0].map Int32.toInt64), hc, ?_, rfl, rfl, rfl, rfl, ?_⟩
    · have h35 : svM (m1 (txR mk se) 41 A) a' b' 39 35 = nI xs.length := by rw [svM_k _ _ _ (by decide) (by decide), m1_a _ _ (by decide), txR_1 _ _ (by decide) (by decide)]; exact r3'.1
      simp only [q_150, rok M, ru13 M, r1, u_3 M, es, e81, Option.bind_some, kxv_s, if_true]
      rw [show dn 150 20 [some (.ref 39), some (.int 0), some (.int 0), none] [] _ = _ from d1, q_150_20]
      simp only [rIw35 M, h35, eq_true (Int32.le_refl (nI xs.length)), Option.bind_some, if_true, rok M, c148 M d2.1 p12 d2.2.1 n100, c149 M d2.2.1 n100, c82k M, kxi_s, kxv_s, ruw12 M, c71a M, c71b M, ← k2, ← KA_cOp k1, ← KA_os k1]
      rfl
    · rw [← hmc] at r2
      exact Inv_th (xs := [nI Fc.2, fo (cOp Fc.1.1) N 0 0]) h F r2 (fun i hi => by rw [if_pos hi]; exact hAi i hi) (by simp)
  · obtain ⟨mk, r1, r2, r3⟩ := rd142 (l := l) (m := m2 (txC (m2 mr 1 1 0) (plE sg n (itL sg n)).1) 39 13 0) (n := n) (sg := sg) M (by rw [m2_k _ _ _ _ (by decide), mo _ (by decide) (by decide) (by decide)]; exact h10) hn (fun i hi => by rw [m2_r _ _ _ (by decide), mo _ (by decide) (by decide) (by decide)]; exact h47 i hi)
    have TF := tFr_L F (plE sg n (itL sg n)).1 (plE sg n (itL sg n)).1 r2
    generalize hse : (plE sg n (itL sg n)).1 = se at *
    obtain ⟨a, q⟩ := se
    cases q with
    | none => exact absurd rfl hq
    | some p =>
      have hp : p ≤ 200 := hoks.2 p rfl
      refine ⟨-21 - nI p, W, txC (m2 mr 1 1 0) (a, some p), l, W, txR mk (a, some p), l, ?_, ?_, rfl, rfl, rfl, rfl, Inv_tf h TF⟩
      · simp only [q_32, xok C, xR0 C, t_ok C, e65, c243 C, c246f C a hp, c58 C, Option.bind_some, kxi_s, kxv_s, if_true]
      · simp only [q_150, rok M, ru13 M, r1, u_3 M, enc_s, eq_false (nI_ne_m1 (show p < 2 ^ 31 by omega)), kxv_s, Option.bind_some, if_true, if_false]
end TXK

section TXX
variable {W : tm_W} {m : Nat → Nat → Int32} {l : Nat → Nat → Int64} {f g : Nat → Int32}
/-! SIGN: bytes -/
def byt (x : Int32) (k : Nat) : Nat := x.toBitVec.toNat / 2 ^ k % 256
theorem byt_lt (x : Int32) (k : Nat) : byt x k < 256 := Nat.mod_lt _ (by decide)
theorem nI_tn {v : Nat} (h : v < 2 ^ 32) : (nI v).toBitVec.toNat = v := by
  have e := pk_char (nI v)
  show (BitVec.ofNat 32 v).toNat = v
  rw [BitVec.toNat_ofNat]
  omega
theorem chr_b : ∀ v, v < 256 → ((nI v).toUInt32.toUInt16.toUInt32.toInt32) = nI v := by decide +kernel
theorem cmp_b (x s : Int32) (k : Nat) (hs : ((s.toUInt32 &&& Int32.toUInt32 31).toBitVec % 32).toNat = k) : (((((x.toUInt32 >>> (s.toUInt32 &&& Int32.toUInt32 31)).toInt32) &&& 255).toUInt32 % 65536).toInt32) = nI (byt x k) := by
  rw [pk_char, pk_and _ (m := 255) 8 (by decide), pk_ushr x s k hs]
  have h := byt_lt x k
  unfold byt at h ⊢
  rw [nI_tn (by omega), Nat.mod_eq_of_lt (by omega)]
theorem t8_eq {y z : Int32} (h : y.toBitVec.toNat % 256 = z.toBitVec.toNat % 256) : y.toInt8 = z.toInt8 := by
  apply Int8.toBitVec_inj.mp
  show y.toBitVec.signExtend 8 = z.toBitVec.signExtend 8
  rw [BitVec.signExtend_eq_setWidth_of_le _ (by decide), BitVec.signExtend_eq_setWidth_of_le _ (by decide)]
  apply BitVec.eq_of_toNat_eq
  rw [BitVec.toNat_setWidth, BitVec.toNat_setWidth]
  exact h
theorem ti_c (y : Int32) : (y.toInt = (y.toBitVec.toNat : Int) ∨ y.toInt = (y.toBitVec.toNat : Int) - 4294967296) ∧ y.toBitVec.toNat < 4294967296 := by
  refine ⟨?_, y.toBitVec.isLt⟩
  have e : y.toInt = y.toBitVec.toInt := rfl
  rw [e, BitVec.toInt_eq_toNat_cond]
  split
  · exact Or.inl rfl
  · exact Or.inr (by omega)
theorem shr_b (x s : Int32) (k : Nat) (hk : k = 0 ∨ k = 8 ∨ k = 16 ∨ k = 24) (hs : (s.toBitVec.smod 32).toNat = k) : (x >>> s).toBitVec.toNat % 256 = byt x k := by
  have e := pk_shr x s k hs
  rw [Int.shiftRight_eq_div_pow] at e
  obtain ⟨h1, h2⟩ := ti_c x
  obtain ⟨h3, h4⟩ := ti_c (x >>> s)
  unfold byt
  rcases hk with rfl | rfl | rfl | rfl
  · have e' : (x >>> s).toInt = x.toInt / 1 := e
    show _ = x.toBitVec.toNat / 1 % 256
    omega
  · have e' : (x >>> s).toInt = x.toInt / 256 := e
    show _ = x.toBitVec.toNat / 256 % 256
    omega
  · have e' : (x >>> s).toInt = x.toInt / 65536 := e
    show _ = x.toBitVec.toNat / 65536 % 256
    omega
  · have e' : (x >>> s).toInt = x.toInt / 16777216 := e
    show _ = x.toBitVec.toNat / 16777216 % 256
    omega
theorem ref_b (x s : Int32) (k : Nat) (hk : k = 0 ∨ k = 8 ∨ k = 16 ∨ k = 24) (hs : (s.toBitVec.smod 32).toNat = k) : (((x >>> s).toInt8.toInt32).toInt8.toInt32) = (nI (byt x k)).toInt8.toInt32 := by
  have h := byt_lt x k
  rw [show ((x >>> s).toInt8.toInt32).toInt8 = (x >>> s).toInt8 by simp, t8_eq (y := x >>> s) (z := nI (byt x k)) (by rw [shr_b x s k hk hs, nI_tn (by omega), Nat.mod_eq_of_lt h])]
/-! signs put behind a text -/
def apM (φ : Nat → Int32) (o f r : Nat) : Nat → List Nat → (Nat → Nat → Int32) → Nat → Nat → Int32
  | _, [], m => m
  | n, v :: vs, m => apM φ o f r (n + 1) vs (m2 (m2 m r n (φ v)) o f (nI (n + 1)))
section AP
variable {φ : Nat → Int32} {o fd r : Nat}
theorem apM_o {x : Nat} (h1 : x ≠ o) (h2 : x ≠ r) : ∀ (vs : List Nat) (n : Nat) (m : Nat → Nat → Int32), apM φ o fd r n vs m x = m x
  | [], n, m => rfl
  | v :: vs, n, m => (apM_o h1 h2 vs (n + 1) _).trans (by rw [m2_r _ _ _ h1, m2_r _ _ _ h2])
theorem apM_k {k : Nat} (h1 : k ≠ fd) (h2 : o ≠ r) : ∀ (vs : List Nat) (n : Nat) (m : Nat → Nat → Int32), apM φ o fd r n vs m o k = m o k
  | [], n, m => rfl
  | v :: vs, n, m => (apM_k h1 h2 vs (n + 1) _).trans (by rw [m2_k _ _ _ _ h1, m2_a _ _ _ _ h2])
theorem apM_f : ∀ (vs : List Nat) (n : Nat) (m : Nat → Nat → Int32), m o fd = nI n → apM φ o fd r n vs m o fd = nI (n + vs.length)
  | [], n, m, h => h
  | v :: vs, n, m, h => (apM_f vs (n + 1) _ (m2_s _ _ _ _)).trans (by rw [List.length_cons]; congr 1; omega)
theorem apM_lo (h2 : o ≠ r) : ∀ (vs : List Nat) (n : Nat) (m : Nat → Nat → Int32) (k : Nat), k < n → apM φ o fd r n vs m r k = m r k
  | [], n, m, k, h => rfl
  | v :: vs, n, m, k, h => (apM_lo h2 vs (n + 1) _ k (by omega)).trans (by rw [m2_a _ _ _ _ (Ne.symm h2), m2_k _ _ _ _ (by omega)])
theorem apM_at (h2 : o ≠ r) : ∀ (vs : List Nat) (n : Nat) (m : Nat → Nat → Int32) (i v : Nat), vs[i]? = some v → apM φ o fd r n vs m r (n + i) = φ v
  | [], n, m, i, v, h => by simp at h
  | w :: vs, n, m, 0, v, h => by
    have h' : w = v := by simpa using h
    subst h'
    exact (apM_lo h2 vs (n + 1) _ n (by omega)).trans (by rw [m2_a _ _ _ _ (Ne.symm h2), m2_s])
  | w :: vs, n, m, i + 1, v, h => by
    have e := apM_at h2 vs (n + 1) (m2 (m2 m r n (φ w)) o fd (nI (n + 1))) i v (by simpa using h)
    rw [show n + 1 + i = n + (i + 1) by omega] at e
    exact e
theorem apM_app : ∀ (xs ys : List Nat) (n : Nat) (m : Nat → Nat → Int32), apM φ o fd r n (xs ++ ys) m = apM φ o fd r (n + xs.length) ys (apM φ o fd r n xs m)
  | [], ys, n, m => rfl
  | x :: xs, ys, n, m => by
    show apM φ o fd r (n + 1) (xs ++ ys) _ = apM φ o fd r (n + (xs.length + 1)) ys (apM φ o fd r (n + 1) xs _)
    rw [apM_app xs ys (n + 1), show n + 1 + xs.length = n + (xs.length + 1) by omega]
end AP
def fC (v : Nat) : Int32 := nI v
def fB (v : Nat) : Int32 := (nI v).toInt8.toInt32
theorem c240t (C : isC W) {n v : Nat} (h : m 1 1 = nI n) (hn : n < 200) (hv : v < 256) : cl 240 [.ref 1, .int (nI v)] (tm W m l) = some (none, tm W (m2 (m2 m 2 n (fC v)) 1 1 (nI (n + 1))) l) := by
  rw [q_240, tm_gI C.t1 rfl, Option.bind_some, h, if_neg (show ¬ ((200 : Int32) ≤ nI n) from nI_ge (b := 200) hn (by decide)), tm_gR C.t1 rfl, Option.bind_some, chr_b v hv, Option.bind_some, tm_st C.t2 (by decide) (by decide) hn (by decide), Option.bind_some, tm_gI C.t1 rfl, Option.bind_some, m2_a _ _ _ _ (by decide), h, nI_1, tm_pI C.t1 rfl, Option.bind_some]
  rfl
theorem c240p (C : isC W) {n v : Nat} (h : m 3 1 = nI n) (hn : n < 200) (hv : v < 256) : cl 240 [.ref 3, .int (nI v)] (tm W m l) = some (none, tm W (m2 (m2 m 4 n (fC v)) 3 1 (nI (n + 1))) l) := by
  rw [q_240, tm_gI C.t3 rfl, Option.bind_some, h, if_neg (show ¬ ((200 : Int32) ≤ nI n) from nI_ge (b := 200) hn (by decide)), tm_gR C.t3 rfl, Option.bind_some, chr_b v hv, Option.bind_some, tm_st C.t4 (by decide) (by decide) hn (by decide), Option.bind_some, tm_gI C.t3 rfl, Option.bind_some, m2_a _ _ _ _ (by decide), h, nI_1, tm_pI C.t3 rfl, Option.bind_some]
  rfl
theorem c135 (M : isM W) {n v : Nat} (h : m 39 31 = nI n) (hn : n < 160) : cl 135 [.ref 39, .int (nI v)] (tm W m l) = some (none, tm W (m2 (m2 m 57 n (fB v)) 39 31 (nI (n + 1))) l) := by
  rw [q_135, rR30 M, Option.bind_some, rI31 M, Option.bind_some, h, rs57 M hn, Option.bind_some, rI31 M, Option.bind_some, m2_a _ _ _ _ (by decide), h, nI_1, ru31 M, Option.bind_some, show ((nI v).toInt8.toInt32).toInt8 = (nI v).toInt8 by simp]
  rfl
theorem b_sign {j : Nat} (h : Inv j W m l) (x : Int32) : Both j W m l 1 73 [.int x] [.int x] := by
  obtain ⟨⟨C, M, h61, g1, g2, g3⟩, -, -, -, R, hT, hrow⟩ := id h
  obtain ⟨n, n1, n2, n3, n4⟩ := id hT
  have e4 : nI n + 4 = nI (n + 4) := nI_add n 4
  by_cases hn : n + 4 ≤ 200
  · obtain ⟨vs, hvs⟩ : ∃ vs, vs = [byt x 24, byt x 16, byt x 8, byt x 0] := ⟨_, rfl⟩
    obtain ⟨mc, hmc⟩ : ∃ mc, mc = apM fC 1 1 2 n vs m := ⟨_, rfl⟩
    obtain ⟨mf, hmf⟩ : ∃ mf, mf = apM fB 39 10 47 n vs (m2 mc 39 13 0) := ⟨_, rfl⟩
    have eo : ∀ {a : Nat}, a ≠ 1 → a ≠ 2 → a ≠ 39 → a ≠ 47 → mf a = m a := fun h1 h2 h3 h4 => by
      rw [hmf, apM_o h3 h4, m2_r _ _ _ h3, hmc, apM_o h1 h2]
    have e39 : ∀ {k : Nat}, k ≠ 10 → k ≠ 13 → mf 39 k = m 39 k := fun h1 h2 => by
      rw [hmf, apM_k h1 (by decide), m2_k _ _ _ _ h2, hmc, apM_o (by decide) (by decide)]
    refine ⟨nI (n + 4), W, mc, l, W, mf, l, ?_, ?_, rfl, rfl, rfl, rfl, Inv_t h (fun a ha => eo (by omega) (by omega) (by omega) (by omega)) (by rw [eo (by decide) (by decide) (by decide) (by decide)]) (by rw [eo (by decide) (by decide) (by decide) (by decide)]) (by rw [eo (by decide) (by decide) (by decide) (by decide)]) (e39 (by decide) (by decide)) (e39 (by decide) (by decide)) ?_ (iRow_fr hrow (by rw [eo (by decide) (by decide) (by decide) (by decide)]) (eo (by decide) (by decide) (by decide) (by decide)) (e39 (by decide) (by decide)))⟩
    · have E : cl 239 [.ref 1, .int x] (tm W m l) = some (some (.int 1), tm W mc l) := by
        rw [q_239, tm_gI C.t1 rfl, Option.bind_some, n2, e4, if_pos (show nI (n + 4) ≤ (200 : Int32) from nI_le (b := 200) hn (by decide)), q_239_10, if_neg (by decide), if_pos (t_ok C _), cmp_b x 24 24 (by decide), c240t C n2 (by omega) (byt_lt _ _), kxv_s, show (24 : Int32) + -8 = 16 by decide, q_239_10, if_neg (by decide), if_pos (t_ok C _), cmp_b x 16 16 (by decide), c240t C (m2_s _ _ _ _) (by omega) (byt_lt _ _), kxv_s, show (16 : Int32) + -8 = 8 by decide, q_239_10, if_neg (by decide), if_pos (t_ok C _), cmp_b x 8 8 (by decide), c240t C (m2_s _ _ _ _) (by omega) (byt_lt _ _), kxv_s, show (8 : Int32) + -8 = 0 by decide, q_239_10, if_neg (by decide), if_pos (t_ok C _), cmp_b x 0 0 (by decide), c240t C (m2_s _ _ _ _) (by omega) (byt_lt _ _), kxv_s, show (0 : Int32) + -8 = -8 by decide, q_239_10, if_pos (by decide), hmc, hvs]
        rfl
      have e1 : mc 1 1 = nI (n + 4) := by
        rw [hmc, apM_f vs n m n2, hvs]
        rfl
      simp only [q_1, xR0 C, t_ok C, E, tx1g C, e1, Option.bind_some, kxi_s, if_true, if_false, i10]
    · have n3' : m2 mc 39 13 0 39 10 = nI n := by rw [m2_k _ _ _ _ (by decide), hmc, apM_o (by decide) (by decide)]; exact n3
      have st : ∀ (Z : Nat → Nat → Int32) (q : Nat) (x2 : Int32) (k : Nat), Z 39 10 = nI q → q < 200 → ¬ x2 < 0 → (k = 0 ∨ k = 8 ∨ k = 16 ∨ k = 24) → (((8 * x2) &&& 31).toBitVec.smod 32).toNat = k → dn 73 13 [some (.ref 39), some (.int x), some (.int x2)] [] (tm W Z l) = dn 73 13 [some (.ref 39), some (.int x), some (.int (x2 + (-1)))] [] (tm W (m2 (m2 Z 47 q (fB (byt x k))) 39 10 (nI (q + 1))) l) := fun Z q x2 k h1 h2 h3 h4 h5 => by
        rw [q_73_13, if_neg h3, rR9 M, Option.bind_some, rI10 M, Option.bind_some, h1, nI_1, ru10 M, Option.bind_some, rs47 M h2, Option.bind_some, ref_b x _ k h4 h5, m2_c _ _ _ (by omega)]
        rfl
      rw [q_73, ru13 M, Option.bind_some, rI10 M, Option.bind_some, n3', e4, if_pos (show nI (n + 4) ≤ (200 : Int32) from nI_le (b := 200) hn (by decide)), st _ n 3 24 n3' (by omega) (by decide) (by decide) (by decide), show (3 : Int32) + -1 = 2 by decide, st _ (n + 1) 2 16 (m2_s _ _ _ _) (by omega) (by decide) (by decide) (by decide), show (2 : Int32) + -1 = 1 by decide, st _ (n + 1 + 1) 1 8 (m2_s _ _ _ _) (by omega) (by decide) (by decide) (by decide), show (1 : Int32) + -1 = 0 by decide, st _ (n + 1 + 1 + 1) 0 0 (m2_s _ _ _ _) (by omega) (by decide) (by decide) (by decide), q_73_13, if_pos (by decide), rI10 M, Option.bind_some, m2_s, hmf, hvs]
      rfl
    · have l4 : vs.length = 4 := by rw [hvs]; rfl
      refine ⟨n + 4, hn, ?_, ?_, fun i hi => ?_⟩
      · rw [hmf, apM_o (by decide) (by decide), m2_r _ _ _ (by decide), hmc, apM_f _ _ _ n2, l4]
      · rw [hmf, apM_f _ _ _ (by rw [m2_k _ _ _ _ (by decide), hmc, apM_o (by decide) (by decide)]; exact n3), l4]
      · have e2 : mf 2 = mc 2 := by rw [hmf, apM_o (by decide) (by decide), m2_r _ _ _ (by decide)]
        by_cases h1 : i < n
        · obtain ⟨v, v1, v2, v3⟩ := n4 i h1
          exact ⟨v, v1, by rw [e2, hmc, apM_lo (by decide) _ _ _ _ h1]; exact v2, by rw [hmf, apM_lo (by decide) _ _ _ _ h1, m2_r _ _ _ (by decide), hmc, apM_o (by decide) (by decide)]; exact v3⟩
        · obtain ⟨k, rfl⟩ : ∃ k, i = n + k := ⟨i - n, by omega⟩
          have hk : k < vs.length := by omega
          have hb : ∀ v ∈ vs, v < 256 := fun v hv => by
            rw [hvs] at hv
            simp only [List.mem_cons, List.not_mem_nil, or_false] at hv
            rcases hv with rfl | rfl | rfl | rfl <;> exact byt_lt _ _
          exact ⟨vs[k], hb _ (List.getElem_mem hk), by rw [e2, hmc, apM_at (by decide) _ _ _ _ _ (List.getElem?_eq_getElem hk)]; rfl, by rw [hmf, apM_at (by decide) _ _ _ _ _ (List.getElem?_eq_getElem hk)]; rfl⟩
  · have nle : ¬ nI (n + 4) ≤ 200 := nI_ge (a := 200) (b := n + 4) (by omega) (by omega)
    have n3' : m2 m 39 13 0 39 10 = nI n := by rw [m2_k _ _ _ _ (by decide)]; exact n3
    refine ⟨-1, W, m, l, W, m2 m 39 13 0, l, ?_, ?_, rfl, rfl, rfl, rfl, Inv_t h (fun a ha => m2_r _ _ _ (by omega)) (by rw [m2_r _ _ _ (by decide)]) (by rw [m2_r _ _ _ (by decide)]) (by rw [m2_r _ _ _ (by decide)]) (m2_k _ _ _ _ (by decide)) (m2_k _ _ _ _ (by decide)) ?_ (iRow_no hrow)⟩
    · have E : cl 239 [.ref 1, .int x] (tm W m l) = some (some (.int 0), tm W m l) := by
        rw [q_239, tm_gI C.t1 rfl, Option.bind_some, n2, e4, if_neg nle]
      simp only [q_1, xR0 C, t_ok C, E, Option.bind_some, kxi_s, if_true]
    · rw [q_73, ru13 M, Option.bind_some, rI10 M, Option.bind_some, n3', e4, if_neg nle]
    · exact ⟨n, n1, by rw [m2_r _ _ _ (by decide)]; exact n2, n3', fun i hi => by rw [m2_r _ _ _ (by decide), m2_r _ _ _ (by decide)]; exact n4 i hi⟩
end TXX

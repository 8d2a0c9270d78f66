section TXH
variable {W : tm_W} {m : Nat → Nat → Int32} {l : Nat → Nat → Int64}
/-! squads -/
def tmP (sg : Nat → Nat) (n : Nat) : Nat → Nat → RS
  | 0, a => (a, none)
  | k + 1, a => if a < n then (if a < 12 ∧ 48 ≤ sg a ∧ sg a ≤ 51 then tmP sg n k (a + 1) else (a, some a)) else (a, none)
theorem tmP_ok {sg : Nat → Nat} {n : Nat} (hn : n ≤ 200) : ∀ k a, a ≤ n → okS n (tmP sg n k a)
  | 0, a, h => ⟨h, fun p hp => by cases hp⟩
  | k + 1, a, h => by
    simp only [tmP]
    split
    · split
      · exact tmP_ok hn k (a + 1) (by omega)
      · exact ⟨h, fun p hp => by cases hp; omega⟩
    · exact ⟨h, fun p hp => by cases hp⟩
theorem c249_12 (C : isC W) : cl 249 [.ref 1, .int 12] (tm W (txC m (12, none)) l) = some (none, tm W (txC m (12, some 12)) l) := c249s C 12 12
theorem d62 (C : isC W) {n : Nat} {sg : Nat → Nat} : ∀ (k i : Nat) (m : Nat → Nat → Int32), txT m n sg → i ≤ n → i ≤ 12 → (m 5 1 = nI i ∧ ∀ q, q < i → m 6 (3 * q) = nI (sg q - 48)) → n < i + k →
    ∃ m', dn 62 9 [some (.ref 0), some (.int (if i < n then 1 else 0)), some (.int (nI i))] [] (tm W (txC m (i, none)) l) = some (none, tm W (txC m' (tmP sg n k i)) l) ∧ frC m m' ∧ ((tmP sg n k i).2 = none → tmP sg n k i = (n, none) ∧ n ≤ 12 ∧ m' 5 1 = nI n ∧ (∀ q, q < n → m' 6 (3 * q) = nI (sg q - 48)) ∧ ∀ q, i ≤ q → q < n → 48 ≤ sg q ∧ sg q ≤ 51)
  | 0, i, m, T, hi, h12, hd, hk => by omega
  | k + 1, i, m, T, hi, h12, hd, hk => by
    have hn := T.2.1
    by_cases h : i < n
    · by_cases h2 : i < 12
      · have hs : okS n (i, none) := ⟨hi, fun p hp => by cases hp⟩
        have T' : ∀ x y z, txT (itA m i x y z) n sg := fun x y z => txT_of T (by rw [itA_o _ _ _ _ _ (by decide) (by decide)]) (itA_o _ _ _ _ _ (by decide) (by decide))
        have e12 : ((12 : Int32) ≤ nI i) = False := eq_false (show ¬ nI 12 ≤ nI i from nI_ge h2 (by decide))
        by_cases hD : 48 ≤ sg i ∧ sg i ≤ 51
        · have hg : dg sg n 0 3 (i, none) = ((i + 1, none), some (sg i - 48)) := if_pos (show i < n ∧ 48 + 0 ≤ sg i ∧ sg i ≤ 48 + 3 by omega)
          have hs' : i + 1 ≤ n := by omega
          obtain ⟨m', r1, r2, r3⟩ := d62 C k (i + 1) (itA m i (nI (sg i - 48)) 0 0) (T' _ _ _) hs' (by omega) ⟨by unfold itA; rw [m2_s], fun q hq => by
            rw [itA_6]
            by_cases hqi : q = i
            · subst hqi
              rw [if_neg (by omega), if_neg (by omega), if_pos rfl]
            · rw [if_neg (by omega), if_neg (by omega), if_neg (by omega)]
              exact hd.2 q (by omega)⟩ (by omega)
          have et : tmP sg n (k + 1) i = tmP sg n k (i + 1) := by
            simp only [tmP, eq_true h, eq_true (show i < 12 ∧ 48 ≤ sg i ∧ sg i ≤ 51 from ⟨h2, hD⟩), if_true]
          rw [et]
          refine ⟨m', ?_, fun a h5 h6 => by rw [r2 a h5 h6, itA_o _ _ _ _ _ h5 h6], fun q => ?_⟩
          · rw [← r1, if_pos h, q_62_9]
            simp only [e12, xR0 C, xR2 C, t_ok C, t_R C, t_1 C, t_2 C, t_3 C, Option.bind_some, kxi_s, kxv_s, kxr_s, if_true, if_false, i10, c253_03 C T hs, hg, enc_s, i_ok C, c178 C hd.1 (show i < 67 by omega), c246s C, c247 C (T' _ _ _) (s := (i + 1, none)) hs', nI_1]
            by_cases h3 : i + 1 < n
            · simp only [eq_true h3, if_true]
            · simp only [eq_false h3, if_false, i10]
          · obtain ⟨z1, z2, z3, z4, z5⟩ := r3 q
            refine ⟨z1, z2, z3, z4, fun q hq1 hq2 => ?_⟩
            by_cases hqi : q = i
            · subst hqi
              exact hD
            · exact z5 q (by omega) hq2
        · have hg : dg sg n 0 3 (i, none) = ((i, some i), none) := if_neg (show ¬ (i < n ∧ 48 + 0 ≤ sg i ∧ sg i ≤ 48 + 3) by omega)
          have et : tmP sg n (k + 1) i = (i, some i) := by
            simp only [tmP, eq_true h, eq_false (show ¬ (i < 12 ∧ 48 ≤ sg i ∧ sg i ≤ 51) from fun q => hD q.2), if_true, if_false]
          rw [et]
          refine ⟨itA m i (-1) 0 0, ?_, fun a h5 h6 => itA_o _ _ _ _ _ h5 h6, fun q => by cases q⟩
          rw [if_pos h, q_62_9]
          simp only [e12, xR0 C, xR2 C, t_ok C, t_R C, t_1 C, t_2 C, t_3 C, Option.bind_some, kxi_s, kxv_s, kxr_s, if_true, if_false, i10, c253_03 C T hs, hg, enc_n, i_ok C, c178 C hd.1 (show i < 67 by omega), c246f C i (show i ≤ 200 by omega), nI_1]
          rw [q_62_9]
          split
          · rw [if_pos rfl]
          · rw [if_pos rfl, if_pos rfl]
      · obtain rfl : i = 12 := by omega
        have et : tmP sg n (k + 1) 12 = (12, some 12) := by
          simp only [tmP, eq_true h, eq_false (show ¬ (12 < 12 ∧ 48 ≤ sg 12 ∧ sg 12 ≤ 51) by omega), if_true, if_false]
        rw [et]
        refine ⟨m, ?_, fun _ _ _ => rfl, fun q => by cases q⟩
        rw [if_pos h, q_62_9]
        simp only [eq_true (show (12 : Int32) ≤ nI 12 from Int32.le_refl _), xR0 C, t_ok C, t_R C, t_1 C, t_2 C, t_3 C, Option.bind_some, kxi_s, kxv_s, kxr_s, if_true, if_false, i10, c249_12 C]
    · obtain rfl : i = n := by omega
      have et : tmP sg i (k + 1) i = (i, none) := by
        simp only [tmP, eq_false h, if_false]
      rw [et]
      refine ⟨m, ?_, fun _ _ _ => rfl, fun _ => ⟨rfl, h12, hd.1, hd.2, fun q h1 h2 => by omega⟩⟩
      rw [if_neg h, q_62_9]
      split
      · rw [if_pos rfl]
      · rw [if_pos rfl, if_pos rfl]
theorem rd62 (C : isC W) {n : Nat} {sg : Nat → Nat} (T : txT m n sg) : ∃ m', cl 62 [.ref 0] (tm W m l) = some (none, tm W (txC m' (tmP sg n (n + 1) 0)) l) ∧ frC m m' ∧ ((tmP sg n (n + 1) 0).2 = none → tmP sg n (n + 1) 0 = (n, none) ∧ n ≤ 12 ∧ m' 5 1 = nI n ∧ (∀ q, q < n → m' 6 (3 * q) = nI (sg q - 48)) ∧ ∀ q, 0 ≤ q → q < n → 48 ≤ sg q ∧ sg q ≤ 51) := by
  have E : cl 62 [.ref 0] (tm W m l) = dn 62 9 [some (.ref 0), some (.int (if 0 < n then 1 else 0)), some (.int 0)] [] (tm W (txC (m2 m 5 1 0) (0, none)) l) := by
    simp only [q_62, xR0 C, xR2 C, t_ok C, i_ok C, c245 C T, c177 C, Option.bind_some, kxi_s, kxv_s, if_true]
    by_cases h : n = 0
    · rw [if_pos h, if_neg (by omega)]
    · rw [if_neg h, if_pos (by omega)]
  obtain ⟨m', r1, r2, r3⟩ := d62 (l := l) C (n + 1) 0 (m2 m 5 1 0) (txT_of T (m2_a _ _ _ _ (by decide)) (m2_r _ _ _ (by decide))) (by omega) (by decide) ⟨m2_s _ _ _ _, fun q hq => by omega⟩ (by omega)
  exact ⟨m', E.trans r1, fun a h5 h6 => by rw [r2 a h5 h6, m2_r _ _ _ h5], r3⟩
theorem d109 (M : isM W) {n : Nat} {sg : Nat → Nat} (T : txU m n sg) : ∀ (k a : Nat) (l1 : Option Value), a ≤ n → n < a + k → ∃ l2, dn 109 5 [some (.ref 39), l1] [] (tm W (txR m (a, none)) l) = dn 109 33 [some (.ref 39), l2] [] (tm W (txR m (tmP sg n k a)) l)
  | 0, a, l1, ha, hk => by omega
  | k + 1, a, l1, ha, hk => by
    have hn := T.2.1
    by_cases h : a < n
    · by_cases h2 : a < 12
      · have hs : okS n (a, none) := ⟨ha, fun p hp => by cases hp⟩
        have e12 : ((12 : Int32) ≤ nI a) = False := eq_false (show ¬ nI 12 ≤ nI a from nI_ge h2 (by decide))
        by_cases hD : 48 ≤ sg a ∧ sg a ≤ 51
        · have hg : dg sg n 0 3 (a, none) = ((a + 1, none), some (sg a - 48)) := if_pos (show a < n ∧ 48 + 0 ≤ sg a ∧ sg a ≤ 48 + 3 by omega)
          obtain ⟨l2, r⟩ := d109 M T k (a + 1) (some (.int (nI (sg a - 48)))) (by omega) (by omega)
          have et : tmP sg n (k + 1) a = tmP sg n k (a + 1) := by
            simp only [tmP, eq_true h, eq_true (show a < 12 ∧ 48 ≤ sg a ∧ sg a ≤ 51 from ⟨h2, hD⟩), if_true]
          rw [et]
          refine ⟨l2, ?_⟩
          rw [← r, q_109_5]
          simp only [rok M, rR9 M, u_1 M, u_2 M, u_3 M, Option.bind_some, kxi_s, kxv_s, kxr_s, if_true, if_false, i10, enc_n, T.1, eq_false (nI_ge h (by omega)), e12, c103_03 M T hs, hg, Option.getD_some, eq_false (nI_ne_m1 (show sg a - 48 < 2 ^ 31 by omega))]
        · have hg : dg sg n 0 3 (a, none) = ((a, some a), none) := if_neg (show ¬ (a < n ∧ 48 + 0 ≤ sg a ∧ sg a ≤ 48 + 3) by omega)
          have et : tmP sg n (k + 1) a = (a, some a) := by
            simp only [tmP, eq_true h, eq_false (show ¬ (a < 12 ∧ 48 ≤ sg a ∧ sg a ≤ 51) from fun q => hD q.2), if_true, if_false]
          rw [et]
          refine ⟨some (.int (nI 0)), ?_⟩
          rw [q_109_5]
          simp only [rok M, rR9 M, u_1 M, u_2 M, u_3 M, Option.bind_some, kxi_s, kxv_s, kxr_s, if_true, if_false, i10, enc_n, T.1, eq_false (nI_ge h (by omega)), e12, c103_03 M T hs, hg, Option.getD_none, eq_false (nI_ne_m1 (show 0 < 2 ^ 31 by omega))]
          rw [q_109_5]
          simp only [rok M, rR9 M, u_1 M, u_2 M, u_3 M, Option.bind_some, kxi_s, kxv_s, kxr_s, if_true, if_false, i10, enc_s, eq_false (nI_ne_m1 (show a < 2 ^ 31 by omega))]
      · have e12 : ((12 : Int32) ≤ nI a) = True := eq_true (show nI 12 ≤ nI a from nI_le (by omega) (by omega))
        have et : tmP sg n (k + 1) a = (a, some a) := by
          simp only [tmP, eq_true h, eq_false (show ¬ (a < 12 ∧ 48 ≤ sg a ∧ sg a ≤ 51) by omega), if_true, if_false]
        rw [et]
        refine ⟨some (.int (-1)), ?_⟩
        rw [q_109_5]
        simp only [rok M, rR9 M, u_1 M, u_2 M, u_3 M, Option.bind_some, kxi_s, kxv_s, kxr_s, if_true, if_false, i10, enc_n, T.1, eq_false (nI_ge h (by omega)), e12, c101s M]
        rw [q_109_5]
        simp only [rok M, rR9 M, u_1 M, u_2 M, u_3 M, Option.bind_some, kxi_s, kxv_s, kxr_s, if_true, if_false, i10, enc_s, eq_false (nI_ne_m1 (show a < 2 ^ 31 by omega))]
    · have et : tmP sg n (k + 1) a = (a, none) := by
        simp only [tmP, eq_false h, if_false]
      rw [et]
      refine ⟨l1, ?_⟩
      rw [q_109_5]
      simp only [rok M, rR9 M, u_1 M, u_2 M, u_3 M, Option.bind_some, kxi_s, kxv_s, kxr_s, if_true, if_false, i10, enc_n, T.1, eq_true (nI_le (show n ≤ a by omega) (by omega))]
theorem d109b (M : isM W) {f : Nat → Int32} : ∀ n i, i + n = 1108 → dn 109 44 [some (.ref 39), some (.int (nI i))] [] (tm W (m1 m 40 fun k => if k < i then 0 else f k) l) = dn 109 56 [some (.ref 39), some (.int 0)] [] (tm W (m1 m 40 fun k => if k < 1108 then 0 else f k) l)
  | 0, i, h => by
    rw [q_109_44, show i = 1108 by omega, if_pos (show (1108 : Int32) ≤ nI 1108 from Int32.le_refl _)]
  | n + 1, i, h => by
    rw [q_109_44, if_neg (show ¬ (1108 : Int32) ≤ nI i from nI_ge (b := 1108) (by omega) (by decide)), rR0 M, Option.bind_some, wst M (by omega), Option.bind_some, nI_1, show upd (fun k => if k < i then 0 else f k) i 0 = (fun k => if k < i + 1 then 0 else f k) from funext (upd_cp (r := fun _ => 0) fun _ => rfl)]
    exact d109b M n (i + 1) (by omega)
theorem d109c (M : isM W) {z : Nat → Int32} {n : Nat} {sg : Nat → Nat} (hn : n ≤ 12) (h21 : m 39 21 = nI n) (h47 : ∀ p, p < n → m 47 p = nI (sg p) ∧ 48 ≤ sg p) : ∀ k p, p + k = n → dn 109 56 [some (.ref 39), some (.int (nI p))] [] (tm W (m1 m 40 fun k => if k < p then nI (sg k - 48) else z k) l) = some (some (.int (nI n)), tm W (m2 (m2 (m1 m 40 (upd (fun k => if k < n then nI (sg k - 48) else z k) 1104 (nI n))) 39 5 0) 39 3 0) l)
  | 0, p, h => by
    obtain rfl : p = n := by omega
    have e0 : ia_st (tm W (m1 m 40 fun k => if k < p then nI (sg k - 48) else z k) l) 0 40 1104 (nI p) = some (tm W (m1 m 40 (upd (fun k => if k < p then nI (sg k - 48) else z k) 1104 (nI p))) l) := wst M (i := 1104) (by decide) _
    rw [q_109_56]
    simp only [rIw21 M, h21, rR0 M, Option.bind_some, eq_true (Int32.le_refl (nI p)), if_true, e0, ru5 M, ru3 M, rI21 M, m2_k _ _ _ _ (show (21 : Nat) ≠ 5 by decide), m2_k _ _ _ _ (show (21 : Nat) ≠ 3 by decide), m1_a _ _ (show (39 : Nat) ≠ 40 by decide)]
  | k + 1, p, h => by
    obtain ⟨a1, a2⟩ := h47 p (by omega)
    have e1 : nI (sg p) - 48 = nI (sg p - 48) := pk_sub (b := 48) a2
    rw [q_109_56]
    simp only [rIw21 M, h21, rR0 M, rR9 M, Option.bind_some, eq_false (nI_ge (show p < n by omega) (by omega)), if_false, rl47 M (show p < 200 by omega), m1_a _ _ (show (47 : Nat) ≠ 40 by decide), a1, e1, zadd, wst M (show p < 1108 by omega), nI_1, show upd (fun k => if k < p then nI (sg k - 48) else z k) p (nI (sg p - 48)) = (fun k => if k < p + 1 then nI (sg k - 48) else z k) from funext (upd_cp (r := fun k => nI (sg k - 48)) fun _ => rfl)]
    exact d109c M hn h21 h47 k (p + 1) (by omega)
theorem d206 (C : isC W) {z : Nat → Int32} {n : Nat} {sg : Nat → Nat} (hn : n ≤ 12) (hz : z 1104 = nI n) (h6 : ∀ q, q < n → m 6 (3 * q) = nI (sg q - 48)) : ∀ k p, p + k = n → dn 206 8 [some (.ref 13), some (.ref 5), some (.int (nI p))] [] (tm W (wv m 13 fun k => if k < p then nI (sg k - 48) else z k) l) = dn 206 8 [some (.ref 13), some (.ref 5), some (.int (nI n))] [] (tm W (wv m 13 fun k => if k < n then nI (sg k - 48) else z k) l)
  | 0, p, h => by rw [show p = n by omega]
  | k + 1, p, h => by
    have e0 : (fun k => if k < p then nI (sg k - 48) else z k) 1104 = nI n := (if_neg (by omega)).trans hz
    rw [q_206_8]
    simp only [sI0 C.now, e0, Option.bind_some, eq_false (nI_ge (show p < n by omega) (by omega)), if_false, if_true, sR4 C.now, i_ok C, c179 C (show p < 67 by omega), wv5 m _ (show 6 < 13 by decide), h6 p (by omega), kxi_s, ss1 C.now (show p < 12 by omega), nI_1, show upd (fun k => if k < p then nI (sg k - 48) else z k) p (nI (sg p - 48)) = (fun k => if k < p + 1 then nI (sg k - 48) else z k) from funext (upd_cp (r := fun k => nI (sg k - 48)) fun _ => rfl)]
    exact d206 C hn hz h6 k (p + 1) (by omega)
def tZ (a n : Nat) (f : Nat → Int32) : Nat → Int32 := fun k => if a ≤ k ∧ k < a + n then 0 else f k
def tSq (sg : Nat → Nat) (n : Nat) (f : Nat → Int32) : Nat → Int32 := tZ 60 12 (tZ 72 36 (tZ 108 16 (tZ 12 48 (upd (upd (upd (fun k => if k < n then nI (sg k - 48) else upd f 1104 (nI n) k) 1106 0) 1105 0) 1107 0))))
theorem c206 (C : isC W) {f : Nat → Int32} {n : Nat} {sg : Nat → Nat} (hn : n ≤ 12) (h5 : m 5 1 = nI n) (h6 : ∀ q, q < n → m 6 (3 * q) = nI (sg q - 48)) : cl 206 [.ref 13, .ref 5] (tm W (wv m 13 f) l) = some (none, tm W (wv m 13 (tSq sg n f)) l) := by
  have e1 : (if (12 : Int32) < nI n then 12 else nI n) = nI n := if_neg (show ¬ nI 12 < nI n from nI_nlt hn (by decide))
  have e2 := d206 (m := m) (l := l) C (z := upd f 1104 (nI n)) (sg := sg) hn pk_us h6 n 0 (by omega)
  rw [show (fun k => if k < 0 then nI (sg k - 48) else upd f 1104 (nI n) k) = upd f 1104 (nI n) from funext fun k => if_neg (by omega)] at e2
  have e3 : (fun k => if k < n then nI (sg k - 48) else upd f 1104 (nI n) k) 1104 = nI n := (if_neg (by omega)).trans pk_us
  have f2 := fun (q : Nat → Int32) => (show cl 256 [.ref 15, .int 0] (tm W (wv m 13 q) l) = _ from c256_2 C.now)
  have f3 := fun (q : Nat → Int32) => (show cl 256 [.ref 16, .int 0] (tm W (wv m 13 q) l) = _ from c256_3 C.now)
  have f4 := fun (q : Nat → Int32) => (show cl 256 [.ref 17, .int 0] (tm W (wv m 13 q) l) = _ from c256_4 C.now)
  have f5 := fun (q : Nat → Int32) => (show cl 256 [.ref 18, .int 0] (tm W (wv m 13 q) l) = _ from c256_5 C.now)
  rw [q_206]
  simp only [i1g C, wv5 m _ (show 5 < 13 by decide), h5, e1, Option.bind_some, sp0 C.now]
  rw [show dn 206 8 [some (.ref 13), some (.ref 5), some (.int 0)] [] _ = _ from e2, q_206_8]
  simp only [sI0 C.now, e3, Option.bind_some, eq_true (Int32.le_refl (nI n)), if_true, sp1 C.now, sp2 C.now, sp3 C.now, sR5 C.now, sR6 C.now, sR7 C.now, sR8 C.now, f2, f3, f4, f5, kxv_s]
  rfl
theorem tSq_t {sg : Nat → Nat} {n : Nat} {f : Nat → Int32} (hn : n ≤ 12) {k : Nat} (hk : k < n) : tSq sg n f k = nI (sg k - 48) := by
  unfold tSq tZ
  rw [if_neg (by omega), if_neg (by omega), if_neg (by omega), if_neg (by omega), pk_un (by omega), pk_un (by omega), pk_un (by omega), if_pos hk]
theorem tSq_m {sg : Nat → Nat} {n : Nat} {f : Nat → Int32} {k : Nat} (h1 : 12 ≤ k) (h2 : k < 124) : tSq sg n f k = 0 := by
  unfold tSq tZ
  by_cases a1 : 60 ≤ k ∧ k < 60 + 12
  · rw [if_pos a1]
  rw [if_neg a1]
  by_cases a2 : 72 ≤ k ∧ k < 72 + 36
  · rw [if_pos a2]
  rw [if_neg a2]
  by_cases a3 : 108 ≤ k ∧ k < 108 + 16
  · rw [if_pos a3]
  rw [if_neg a3, if_pos (by omega)]
theorem tSq_4 {sg : Nat → Nat} {n : Nat} {f : Nat → Int32} (hn : n ≤ 12) : tSq sg n f 1104 = nI n ∧ tSq sg n f 1105 = 0 ∧ tSq sg n f 1106 = 0 ∧ tSq sg n f 1107 = 0 := by
  unfold tSq tZ
  refine ⟨?_, ?_, ?_, ?_⟩
  · rw [if_neg (by omega), if_neg (by omega), if_neg (by omega), if_neg (by omega), pk_un (by omega), pk_un (by omega), pk_un (by omega), if_neg (by omega), pk_us]
  · rw [if_neg (by omega), if_neg (by omega), if_neg (by omega), if_neg (by omega), pk_un (by omega), pk_us]
  · rw [if_neg (by omega), if_neg (by omega), if_neg (by omega), if_neg (by omega), pk_un (by omega), pk_un (by omega), pk_us]
  · rw [if_neg (by omega), if_neg (by omega), if_neg (by omega), if_neg (by omega), pk_us]
def tSr (sg : Nat → Nat) (n : Nat) (f : Nat → Int32) : Nat → Int32 := upd (fun k => if k < n then nI (sg k - 48) else (fun k => if k < 1108 then 0 else f k) k) 1104 (nI n)
theorem tSr_z {sg : Nat → Nat} {n : Nat} {f : Nat → Int32} (hn : n ≤ 12) {k : Nat} (h1 : 12 ≤ k) (h2 : k < 1108) (h3 : k ≠ 1104) : tSr sg n f k = 0 := by
  unfold tSr
  rw [pk_un h3, if_neg (by omega)]
  exact if_pos h2
theorem tSr_t {sg : Nat → Nat} {n : Nat} {f : Nat → Int32} (hn : n ≤ 12) {k : Nat} (hk : k < n) : tSr sg n f k = nI (sg k - 48) := by
  unfold tSr
  rw [pk_un (by omega), if_pos hk]
theorem sq_SR {sg : Nat → Nat} {n : Nat} {f g : Nat → Int32} (hn : n ≤ 12) : SR (tSq sg n f) (tSr sg n g) n 0 0 := by
  obtain ⟨a1, a2, a3, a4⟩ := tSq_4 (sg := sg) (f := f) hn
  refine ⟨hn, by decide, a1, pk_us, a2, tSr_z hn (by decide) (by decide) (by decide), a4, tSr_z hn (by decide) (by decide) (by decide), by rw [a3, tSr_z hn (by decide) (by decide) (by decide)], fun i hi => by rw [tSq_t hn hi, tSr_t hn hi], fun i h1 h2 => by rw [tSq_m h1 h2, tSr_z hn h1 (by omega) (by omega)], fun i hi => absurd hi (by simp), fun i hi => absurd hi (by omega)⟩
theorem sq_VR {sg : Nat → Nat} {n : Nat} {g : Nat → Int32} (hn : n ≤ 12) (h : ∀ q, 0 ≤ q → q < n → 48 ≤ sg q ∧ sg q ≤ 51) : VR (tSr sg n g) n 0 0 := by
  refine ⟨fun p hp => ⟨sg p - 48, by have := h p (by omega) hp; omega, tSr_t hn hp⟩, fun b hb => by omega, fun e he => absurd he (by simp)⟩
theorem c173 (C : isC W) : cl 173 [.ref 37] (tm W m l) = some (none, tm W (m2 m 37 2 0) l) := by
  rw [q_173, tm_pI C.t37 rfl, Option.bind_some]
theorem b_squads {j : Nat} (hj : j < 600) (h : Inv j W m l) : Both j W m l 4 109 [] [] := by
  obtain ⟨⟨C, M, h61, g1, g2, g3⟩, -, -, ⟨nx, s, t1, t2, t3, t4, t5, t6, t7, t8⟩, R, hT, hrow⟩ := id h
  obtain ⟨n, sg, T, h10, h47⟩ := iTxt_sg hT
  have hn := T.2.1
  obtain ⟨mr, e62, F, hd⟩ := rd62 (l := l) C T
  have hoks := tmP_ok (sg := sg) hn (n + 1) 0 (by omega)
  have mo : ∀ s {a : Nat}, a ≠ 1 → a ≠ 5 → a ≠ 6 → txC (m2 mr 1 1 0) s a = m a := fun s a h1 h5 h6 => frC_o F s h1 h5 h6
  by_cases hq : (tmP sg n (n + 1) 0).2 = none
  · obtain ⟨d1, d2, d3, d4, d5⟩ := hd hq
    rw [d1] at e62
    have ev : wv (txC (m2 mr 1 1 0) (n, none)) 13 (vw m 13) = txC (m2 mr 1 1 0) (n, none) := by
      have := wv_eta (txC (m2 mr 1 1 0) (n, none)) 13
      rwa [show vw (txC (m2 mr 1 1 0) (n, none)) 13 = vw m 13 from vw_row fun x x1 x2 => mo _ (by omega) (by omega) (by omega)] at this
    have e206 := c206 (m := txC (m2 mr 1 1 0) (n, none)) (l := l) C (f := vw m 13) (sg := sg) d2 (by rw [txC_o _ _ (by decide), m2_r _ _ _ (by decide)]; exact d3) (fun q hq => by rw [txC_o _ _ (by decide), m2_r _ _ _ (by decide)]; exact d4 q hq)
    rw [ev] at e206
    obtain ⟨mc, hmc⟩ : ∃ mc, mc = m2 (m2 (wv (txC (m2 mr 1 1 0) (n, none)) 13 (tSq sg n (vw m 13))) 37 2 0) 0 10 0 := ⟨_, rfl⟩
    have eo : ∀ {x : Nat}, x ≠ 0 → x ≠ 1 → x ≠ 5 → x ≠ 6 → x ≠ 37 → (x < 13 ∨ 21 ≤ x) → mc x = m x := fun h0 h1 h2 h3 h4 h5 => by
      rw [hmc, m2_r _ _ _ h0, m2_r _ _ _ h4, wv_out _ _ (by omega), mo _ h1 h2 h3]
    have T' : txU (bgR (m2 mc 39 13 0) n) n sg := bgR_U hn fun i hi => by
      rw [m2_r _ _ _ (by decide), eo (by decide) (by decide) (by decide) (by decide) (by decide) (by decide)]
      exact h47 i hi
    have h10' : m2 mc 39 13 0 39 10 = nI n := by
      rw [m2_k _ _ _ _ (by decide), eo (by decide) (by decide) (by decide) (by decide) (by decide) (by decide)]
      exact h10
    obtain ⟨l2, r1⟩ := d109 (m := bgR (m2 mc 39 13 0) n) (l := l) M T' (n + 1) 0 none (by omega) (by omega)
    rw [d1] at r1
    have X40 : txR (bgR (m2 mc 39 13 0) n) (n, none) 40 = m 40 := by rw [txR_o _ _ (by decide), bgR_o _ _ (by decide), m2_r _ _ _ (by decide), eo (by decide) (by decide) (by decide) (by decide) (by decide) (by decide)]
    have r2 := d109b (m := txR (bgR (m2 mc 39 13 0) n) (n, none)) (l := l) M (f := m 40) 1108 0 (by omega)
    rw [show (fun k => if k < 0 then 0 else m 40 k) = m 40 from funext fun k => if_neg (by omega), ← X40, m1_e, X40] at r2
    have r3 := d109c (m := txR (bgR (m2 mc 39 13 0) n) (n, none)) (l := l) M (z := fun k => if k < 1108 then 0 else m 40 k) (sg := sg) d2 (by rw [txR_1 _ _ (by decide) (by decide)]; exact T'.1) (fun p hp => by
      have := d5 p (by omega) hp
      rw [txR_o _ _ (by decide), (T'.2.2 p hp).2, by128 _ (by omega)]
      exact ⟨rfl, this.1⟩) n 0 (by omega)
    rw [show (fun k => if k < 0 then nI (sg k - 48) else (fun k => if k < 1108 then 0 else m 40 k) k) = (fun k => if k < 1108 then 0 else m 40 k) from funext fun k => if_neg (by omega)] at r3
    have fo39 : ∀ {x : Nat}, x ≠ 39 → x ≠ 40 → m2 (m2 (m1 (txR (bgR (m2 mc 39 13 0) n) (n, none)) 40 (tSr sg n (m 40))) 39 5 0) 39 3 0 x = mc x := fun h1 h2 => by
      rw [m2_r _ _ _ h1, m2_r _ _ _ h1, m1_a _ _ h2, txR_o _ _ h1, bgR_o _ _ h1, m2_r _ _ _ h1]
    have fo40 : m2 (m2 (m1 (txR (bgR (m2 mc 39 13 0) n) (n, none)) 40 (tSr sg n (m 40))) 39 5 0) 39 3 0 40 = tSr sg n (m 40) := by
      rw [m2_r _ _ _ (by decide), m2_r _ _ _ (by decide), m1_s]
    have e13 : ∀ i, i < 1108 → vw (m2 (m2 (m1 (txR (bgR (m2 mc 39 13 0) n) (n, none)) 40 (tSr sg n (m 40))) 39 5 0) 39 3 0) 13 i = tSq sg n (vw m 13) i := fun i hi => by
      rw [vw_row (m := wv (txC (m2 mr 1 1 0) (n, none)) 13 (tSq sg n (vw m 13))) fun x x1 x2 => by rw [fo39 (by omega) (by omega), hmc, m2_r _ _ _ (by omega), m2_r _ _ _ (by omega)]]
      exact vw_wv _ _ _ hi
    refine ⟨nI n, W, mc, l, W, m2 (m2 (m1 (txR (bgR (m2 mc 39 13 0) n) (n, none)) 40 (tSr sg n (m 40))) 39 5 0) 39 3 0, l, ?_, ?_, rfl, rfl, rfl, rfl, ?_⟩
    · have e0 : ia_gI (tm W (m2 (m2 (wv (txC (m2 mr 1 1 0) (n, none)) 13 (tSq sg n (vw m 13))) 37 2 0) 0 10 0) l) 5 13 0 = some (nI n) := by
        rw [tm_gI C.now.1 rfl, m2_a _ _ _ _ (by decide), m2_a _ _ _ _ (by decide), wv_f0, (tSq_4 d2).1]
      rw [hmc]
      simp only [q_4, xok C, xR0 C, xR2 C, xR6 C, xR9 C, t_ok C, e62, c243 C, c246s C, sok C.now, e206, hok C, c173 C, xp10 C, e0, Option.bind_some, kxi_s, kxv_s, if_true, if_false, i10]
    · simp only [q_109, rok M, ru13 M, c99 M h10', Option.bind_some, kxv_s, if_true]
      rw [r1, q_109_33]
      simp only [u_3 M, enc_n, Option.bind_some, if_true]
      rw [show dn 109 44 [some (.ref 39), some (.int 0)] [] _ = _ from r2]
      exact r3
    · refine ⟨⟨C, M, h61, g1, by omega, by omega⟩, ⟨n, 0, 0, SR_of (sq_SR d2) e13 (fun i hi => by rw [fo40]), by rw [fo40]; exact sq_VR d2 d5, by omega, fun i hi => ⟨0, by omega, by rw [fo40]; exact tSr_z d2 (by omega) (by omega) (by omega)⟩⟩, ⟨?_, Or.inl (m2_s _ _ _ _)⟩, ⟨nx, 0, t1, by omega, ?_, ?_, ?_, t6, t7, fun k hk => by omega⟩, fun c hc => ?_, iTxt_0 ?_ ?_, iRow_fr hrow ?_ ?_ ?_⟩
      · rw [fo39 (by decide) (by decide), hmc, m2_s, m2_s]
      · rw [fo39 (by decide) (by decide), hmc, m2_a _ _ _ _ (by decide), m2_k _ _ _ _ (by decide), wv_out _ _ (by decide), mo _ (by decide) (by decide) (by decide)]
        exact t3
      · rw [fo39 (by decide) (by decide), hmc, m2_a _ _ _ _ (by decide), m2_s]
        rfl
      · rw [m2_k _ _ _ _ (by decide), m2_s]
        rfl
      · rw [fo39 (by decide) (by decide), fo39 (by decide) (by decide), fo39 (by decide) (by decide), fo39 (by decide) (by decide), eo (by decide) (by decide) (by decide) (by decide) (by decide) (by decide), eo (by decide) (by decide) (by decide) (by decide) (by decide) (by decide), eo (by decide) (by decide) (by decide) (by decide) (by decide) (by decide), eo (by decide) (by decide) (by decide) (by decide) (by decide) (by decide)]
        exact R c hc
      · rw [fo39 (by decide) (by decide), hmc, m2_a _ _ _ _ (by decide), m2_a _ _ _ _ (by decide), wv_out _ _ (by decide), txC_1 _ _ (by decide) (by decide), m2_s]
      · rw [m2_k _ _ _ _ (by decide), m2_k _ _ _ _ (by decide), m1_a _ _ (by decide), txR_1 _ _ (by decide) (by decide), bgR_10]
      · rw [fo39 (by decide) (by decide), eo (by decide) (by decide) (by decide) (by decide) (by decide) (by decide)]
      · rw [fo39 (by decide) (by decide), eo (by decide) (by decide) (by decide) (by decide) (by decide) (by decide)]
      · rw [m2_k _ _ _ _ (by decide), m2_k _ _ _ _ (by decide), m1_a _ _ (by decide), txR_1 _ _ (by decide) (by decide), bgR_k _ _ (by decide) (by decide), m2_k _ _ _ _ (by decide), eo (by decide) (by decide) (by decide) (by decide) (by decide) (by decide)]
  · have h10' : m2 (txC (m2 mr 1 1 0) (tmP sg n (n + 1) 0)) 39 13 0 39 10 = nI n := by
      rw [m2_k _ _ _ _ (by decide), mo _ (by decide) (by decide) (by decide)]
      exact h10
    have T' : txU (bgR (m2 (txC (m2 mr 1 1 0) (tmP sg n (n + 1) 0)) 39 13 0) n) n sg := bgR_U hn fun i hi => by
      rw [m2_r _ _ _ (by decide), mo _ (by decide) (by decide) (by decide)]
      exact h47 i hi
    obtain ⟨l2, r1⟩ := d109 (m := bgR (m2 (txC (m2 mr 1 1 0) (tmP sg n (n + 1) 0)) 39 13 0) n) (l := l) M T' (n + 1) 0 none (by omega) (by omega)
    have TF := tFr_G (mk := bgR (m2 (txC (m2 mr 1 1 0) (tmP sg n (n + 1) 0)) 39 13 0) n) (n := n) F (tmP sg n (n + 1) 0) (tmP sg n (n + 1) 0) (fun _ _ _ _ => rfl)
    generalize hse : tmP sg n (n + 1) 0 = se at *
    obtain ⟨a, q⟩ := se
    cases q with
    | none => exact absurd rfl hq
    | some p =>
      have hp : p ≤ 200 := hoks.2 p rfl
      refine ⟨-21 - nI p, W, txC (m2 mr 1 1 0) (a, some p), l, W, _, l, ?_, ?_, rfl, rfl, rfl, rfl, Inv_tf h TF⟩
      · simp only [q_4, xok C, xR0 C, t_ok C, e62, c243 C, c246f C a hp, c58 C, Option.bind_some, kxi_s, kxv_s, if_true]
      · simp only [q_109, rok M, ru13 M, c99 M h10', Option.bind_some, kxv_s, if_true]
        rw [r1, q_109_33]
        simp only [u_3 M, enc_s, eq_false (nI_ne_m1 (show p < 2 ^ 31 by omega)), Option.bind_some, if_false]
end TXH

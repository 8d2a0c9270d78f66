/-! A State is copied; what was is kept -/
theorem wv_cp1 (m : Nat → Nat → Int32) (a : Nat) (f r : Nat → Int32) : m1 (wv m a f) (a + 1) (fun i => if i < 12 then r i else wv m a f (a + 1) i) = wv m a (fun i => if 0 ≤ i ∧ i < 12 then r (i - 0) else f i) := by
  funext x i
  by_cases hx : x = a + 1
  · subst hx
    rw [m1_s]
    by_cases hi : i < 12
    · rw [if_pos hi, wv_r1 m a _ hi, if_pos (by omega)]
      rfl
    · rw [if_neg hi]
      unfold wv
      simp only [show ¬ a + 1 = a by omega, if_false, if_true, if_neg hi]
  · rw [m1_a _ _ hx]
    unfold wv
    simp only [if_neg hx, show ¬ (0 ≤ 1104 ∧ 1104 < 12) by decide, show ¬ (0 ≤ 1105 ∧ 1105 < 12) by decide, show ¬ (0 ≤ 1106 ∧ 1106 < 12) by decide, show ¬ (0 ≤ 1107 ∧ 1107 < 12) by decide, if_false]
    repeat' split
    all_goals first | omega | rfl
theorem wv_cp2 (m : Nat → Nat → Int32) (a : Nat) (f r : Nat → Int32) : m1 (wv m a f) (a + 2) (fun i => if i < 48 then r i else wv m a f (a + 2) i) = wv m a (fun i => if 12 ≤ i ∧ i < 60 then r (i - 12) else f i) := by
  funext x i
  by_cases hx : x = a + 2
  · subst hx
    rw [m1_s]
    by_cases hi : i < 48
    · rw [if_pos hi, wv_r2 m a _ hi, if_pos (by omega)]
      rw [Nat.add_sub_cancel_left]
    · rw [if_neg hi]
      unfold wv
      simp only [show ¬ a + 2 = a + 1 by omega, show ¬ a + 2 = a by omega, if_false, if_true, if_neg hi]
  · rw [m1_a _ _ hx]
    unfold wv
    simp only [if_neg hx, show ¬ (12 ≤ 1104 ∧ 1104 < 60) by decide, show ¬ (12 ≤ 1105 ∧ 1105 < 60) by decide, show ¬ (12 ≤ 1106 ∧ 1106 < 60) by decide, show ¬ (12 ≤ 1107 ∧ 1107 < 60) by decide, if_false]
    repeat' split
    all_goals first | omega | rfl
theorem wv_cp3 (m : Nat → Nat → Int32) (a : Nat) (f r : Nat → Int32) : m1 (wv m a f) (a + 3) (fun i => if i < 16 then r i else wv m a f (a + 3) i) = wv m a (fun i => if 108 ≤ i ∧ i < 124 then r (i - 108) else f i) := by
  funext x i
  by_cases hx : x = a + 3
  · subst hx
    rw [m1_s]
    by_cases hi : i < 16
    · rw [if_pos hi, wv_r3 m a _ hi, if_pos (by omega)]
      rw [Nat.add_sub_cancel_left]
    · rw [if_neg hi]
      unfold wv
      simp only [show ¬ a + 3 = a + 1 by omega, show ¬ a + 3 = a + 2 by omega, show ¬ a + 3 = a by omega, if_false, if_true, if_neg hi]
  · rw [m1_a _ _ hx]
    unfold wv
    simp only [if_neg hx, show ¬ (108 ≤ 1104 ∧ 1104 < 124) by decide, show ¬ (108 ≤ 1105 ∧ 1105 < 124) by decide, show ¬ (108 ≤ 1106 ∧ 1106 < 124) by decide, show ¬ (108 ≤ 1107 ∧ 1107 < 124) by decide, if_false]
    repeat' split
    all_goals first | omega | rfl
theorem wv_cp4 (m : Nat → Nat → Int32) (a : Nat) (f r : Nat → Int32) : m1 (wv m a f) (a + 4) (fun i => if i < 36 then r i else wv m a f (a + 4) i) = wv m a (fun i => if 72 ≤ i ∧ i < 108 then r (i - 72) else f i) := by
  funext x i
  by_cases hx : x = a + 4
  · subst hx
    rw [m1_s]
    by_cases hi : i < 36
    · rw [if_pos hi, wv_r4 m a _ hi, if_pos (by omega)]
      rw [Nat.add_sub_cancel_left]
    · rw [if_neg hi]
      unfold wv
      simp only [show ¬ a + 4 = a + 1 by omega, show ¬ a + 4 = a + 2 by omega, show ¬ a + 4 = a + 3 by omega, show ¬ a + 4 = a by omega, if_false, if_true, if_neg hi]
  · rw [m1_a _ _ hx]
    unfold wv
    simp only [if_neg hx, show ¬ (72 ≤ 1104 ∧ 1104 < 108) by decide, show ¬ (72 ≤ 1105 ∧ 1105 < 108) by decide, show ¬ (72 ≤ 1106 ∧ 1106 < 108) by decide, show ¬ (72 ≤ 1107 ∧ 1107 < 108) by decide, if_false]
    repeat' split
    all_goals first | omega | rfl
theorem wv_cp5 (m : Nat → Nat → Int32) (a : Nat) (f r : Nat → Int32) : m1 (wv m a f) (a + 5) (fun i => if i < 12 then r i else wv m a f (a + 5) i) = wv m a (fun i => if 60 ≤ i ∧ i < 72 then r (i - 60) else f i) := by
  funext x i
  by_cases hx : x = a + 5
  · subst hx
    rw [m1_s]
    by_cases hi : i < 12
    · rw [if_pos hi, wv_r5 m a _ hi, if_pos (by omega)]
      rw [Nat.add_sub_cancel_left]
    · rw [if_neg hi]
      unfold wv
      simp only [show ¬ a + 5 = a + 1 by omega, show ¬ a + 5 = a + 2 by omega, show ¬ a + 5 = a + 3 by omega, show ¬ a + 5 = a + 4 by omega, show ¬ a + 5 = a by omega, if_false, if_true, if_neg hi]
  · rw [m1_a _ _ hx]
    unfold wv
    simp only [if_neg hx, show ¬ (60 ≤ 1104 ∧ 1104 < 72) by decide, show ¬ (60 ≤ 1105 ∧ 1105 < 72) by decide, show ¬ (60 ≤ 1106 ∧ 1106 < 72) by decide, show ¬ (60 ≤ 1107 ∧ 1107 < 72) by decide, if_false]
    repeat' split
    all_goals first | omega | rfl
theorem wv_cp6 (m : Nat → Nat → Int32) (a : Nat) (f r : Nat → Int32) : m1 (wv m a f) (a + 6) (fun i => if i < 800 then r i else wv m a f (a + 6) i) = wv m a (fun i => if 304 ≤ i ∧ i < 1104 then r (i - 304) else f i) := by
  funext x i
  by_cases hx : x = a + 6
  · subst hx
    rw [m1_s]
    by_cases hi : i < 800
    · rw [if_pos hi, wv_r6 m a _ hi, if_pos (by omega)]
      rw [Nat.add_sub_cancel_left]
    · rw [if_neg hi]
      unfold wv
      simp only [show ¬ a + 6 = a + 1 by omega, show ¬ a + 6 = a + 2 by omega, show ¬ a + 6 = a + 3 by omega, show ¬ a + 6 = a + 4 by omega, show ¬ a + 6 = a + 5 by omega, show ¬ a + 6 = a by omega, if_false, if_true, if_neg hi]
  · rw [m1_a _ _ hx]
    unfold wv
    simp only [if_neg hx, show ¬ (304 ≤ 1104 ∧ 1104 < 1104) by decide, show ¬ (304 ≤ 1105 ∧ 1105 < 1104) by decide, show ¬ (304 ≤ 1106 ∧ 1106 < 1104) by decide, show ¬ (304 ≤ 1107 ∧ 1107 < 1104) by decide, if_false]
    repeat' split
    all_goals first | omega | rfl
theorem wv_cp7 (m : Nat → Nat → Int32) (a : Nat) (f r : Nat → Int32) : m1 (wv m a f) (a + 7) (fun i => if i < 180 then r i else wv m a f (a + 7) i) = wv m a (fun i => if 124 ≤ i ∧ i < 304 then r (i - 124) else f i) := by
  funext x i
  by_cases hx : x = a + 7
  · subst hx
    rw [m1_s]
    by_cases hi : i < 180
    · rw [if_pos hi, wv_r7 m a _ hi, if_pos (by omega)]
      rw [Nat.add_sub_cancel_left]
    · rw [if_neg hi]
      unfold wv
      simp only [show ¬ a + 7 = a + 1 by omega, show ¬ a + 7 = a + 2 by omega, show ¬ a + 7 = a + 3 by omega, show ¬ a + 7 = a + 4 by omega, show ¬ a + 7 = a + 5 by omega, show ¬ a + 7 = a + 6 by omega, show ¬ a + 7 = a by omega, if_false, if_true, if_neg hi]
  · rw [m1_a _ _ hx]
    unfold wv
    simp only [if_neg hx, show ¬ (124 ≤ 1104 ∧ 1104 < 304) by decide, show ¬ (124 ≤ 1105 ∧ 1105 < 304) by decide, show ¬ (124 ≤ 1106 ∧ 1106 < 304) by decide, show ¬ (124 ≤ 1107 ∧ 1107 < 304) by decide, if_false]
    repeat' split
    all_goals first | omega | rfl
section KEP
variable {W : tm_W} {m : Nat → Nat → Int32} {l : Nat → Nat → Int64} {f : Nat → Int32}
theorem nat_12 : ia_cp = ia_cp := rfl
theorem scp1 {a b : Nat} (S : isSt W a) (T : isSt W b) (hd : a + 8 ≤ b ∨ b + 8 ≤ a) : ia_cp (tm W (wv m a f) l) (b + 1) (a + 1) 0 0 (nI 12) = some (tm W (wv m a (fun i => if 0 ≤ i ∧ i < 12 then m (b + 1) (i - 0) else f i)) l) := by
  rw [tm_cp T.2.1 S.2.1 (by decide), wv_out m f (a := b + 1) (by omega), wv_cp1]
theorem scp2 {a b : Nat} (S : isSt W a) (T : isSt W b) (hd : a + 8 ≤ b ∨ b + 8 ≤ a) : ia_cp (tm W (wv m a f) l) (b + 2) (a + 2) 0 0 (nI 48) = some (tm W (wv m a (fun i => if 12 ≤ i ∧ i < 60 then m (b + 2) (i - 12) else f i)) l) := by
  rw [tm_cp T.2.2.1 S.2.2.1 (by decide), wv_out m f (a := b + 2) (by omega), wv_cp2]
theorem scp3 {a b : Nat} (S : isSt W a) (T : isSt W b) (hd : a + 8 ≤ b ∨ b + 8 ≤ a) : ia_cp (tm W (wv m a f) l) (b + 3) (a + 3) 0 0 (nI 16) = some (tm W (wv m a (fun i => if 108 ≤ i ∧ i < 124 then m (b + 3) (i - 108) else f i)) l) := by
  rw [tm_cp T.2.2.2.1 S.2.2.2.1 (by decide), wv_out m f (a := b + 3) (by omega), wv_cp3]
theorem scp4 {a b : Nat} (S : isSt W a) (T : isSt W b) (hd : a + 8 ≤ b ∨ b + 8 ≤ a) : ia_cp (tm W (wv m a f) l) (b + 4) (a + 4) 0 0 (nI 36) = some (tm W (wv m a (fun i => if 72 ≤ i ∧ i < 108 then m (b + 4) (i - 72) else f i)) l) := by
  rw [tm_cp T.2.2.2.2.1 S.2.2.2.2.1 (by decide), wv_out m f (a := b + 4) (by omega), wv_cp4]
theorem scp5 {a b : Nat} (S : isSt W a) (T : isSt W b) (hd : a + 8 ≤ b ∨ b + 8 ≤ a) : ia_cp (tm W (wv m a f) l) (b + 5) (a + 5) 0 0 (nI 12) = some (tm W (wv m a (fun i => if 60 ≤ i ∧ i < 72 then m (b + 5) (i - 60) else f i)) l) := by
  rw [tm_cp T.2.2.2.2.2.1 S.2.2.2.2.2.1 (by decide), wv_out m f (a := b + 5) (by omega), wv_cp5]
theorem scp6 {a b : Nat} (S : isSt W a) (T : isSt W b) (hd : a + 8 ≤ b ∨ b + 8 ≤ a) : ia_cp (tm W (wv m a f) l) (b + 6) (a + 6) 0 0 (nI 800) = some (tm W (wv m a (fun i => if 304 ≤ i ∧ i < 1104 then m (b + 6) (i - 304) else f i)) l) := by
  rw [tm_cp T.2.2.2.2.2.2.1 S.2.2.2.2.2.2.1 (by decide), wv_out m f (a := b + 6) (by omega), wv_cp6]
theorem scp7 {a b : Nat} (S : isSt W a) (T : isSt W b) (hd : a + 8 ≤ b ∨ b + 8 ≤ a) : ia_cp (tm W (wv m a f) l) (b + 7) (a + 7) 0 0 (nI 180) = some (tm W (wv m a (fun i => if 124 ≤ i ∧ i < 304 then m (b + 7) (i - 124) else f i)) l) := by
  rw [tm_cp T.2.2.2.2.2.2.2 S.2.2.2.2.2.2.2 (by decide), wv_out m f (a := b + 7) (by omega), wv_cp7]
theorem c205 {a b : Nat} (S : isSt W a) (T : isSt W b) (hd : a + 8 ≤ b ∨ b + 8 ≤ a) : cl 205 [.ref a, .ref b] (tm W (wv m a f) l) = some (none, tm W (wv m a (vw m b)) l) := by
  rw [q_205, tm_gI T.1 rfl, Option.bind_some, wv_out m _ (a := b) (by omega), sp0 S, Option.bind_some, tm_gI T.1 rfl, Option.bind_some, wv_out m _ (a := b) (by omega), sp1 S, Option.bind_some, tm_gI T.1 rfl, Option.bind_some, wv_out m _ (a := b) (by omega), sp2 S, Option.bind_some, tm_gI T.1 rfl, Option.bind_some, wv_out m _ (a := b) (by omega), sp3 S, Option.bind_some, sR4 T, Option.bind_some, sR4 S, Option.bind_some, Option.bind_some, sn1 S, Option.bind_some, scp1 S T hd, Option.bind_some, sR5 T, Option.bind_some, sR5 S, Option.bind_some, Option.bind_some, sn2 S, Option.bind_some, scp2 S T hd, Option.bind_some, sR6 T, Option.bind_some, sR6 S, Option.bind_some, Option.bind_some, sn3 S, Option.bind_some, scp3 S T hd, Option.bind_some, sR7 T, Option.bind_some, sR7 S, Option.bind_some, Option.bind_some, sn4 S, Option.bind_some, scp4 S T hd, Option.bind_some, sR8 T, Option.bind_some, sR8 S, Option.bind_some, Option.bind_some, sn5 S, Option.bind_some, scp5 S T hd, Option.bind_some, sR9 T, Option.bind_some, sR9 S, Option.bind_some, Option.bind_some, sn6 S, Option.bind_some, scp6 S T hd, Option.bind_some, sR10 T, Option.bind_some, sR10 S, Option.bind_some, Option.bind_some, sn7 S, Option.bind_some, scp7 S T hd, Option.bind_some]
  refine congrArg (fun x => some (none, tm W x l)) (wv_cong m a fun i hi => ?_)
  unfold vw
  by_cases h0 : 124 ≤ i ∧ i < 304
  · rw [if_pos h0, if_neg (by omega), if_neg (by omega), if_neg (by omega), if_neg (by omega), if_neg (by omega), if_pos (by omega)]
  rw [if_neg h0]
  by_cases h1 : 304 ≤ i ∧ i < 1104
  · rw [if_pos h1, if_neg (by omega), if_neg (by omega), if_neg (by omega), if_neg (by omega), if_neg (by omega), if_neg (by omega), if_pos (by omega)]
  rw [if_neg h1]
  by_cases h2 : 60 ≤ i ∧ i < 72
  · rw [if_pos h2, if_neg (by omega), if_neg (by omega), if_pos (by omega)]
  rw [if_neg h2]
  by_cases h3 : 72 ≤ i ∧ i < 108
  · rw [if_pos h3, if_neg (by omega), if_neg (by omega), if_neg (by omega), if_pos (by omega)]
  rw [if_neg h3]
  by_cases h4 : 108 ≤ i ∧ i < 124
  · rw [if_pos h4, if_neg (by omega), if_neg (by omega), if_neg (by omega), if_neg (by omega), if_pos (by omega)]
  rw [if_neg h4]
  by_cases h5 : 12 ≤ i ∧ i < 60
  · rw [if_pos h5, if_neg (by omega), if_pos (by omega)]
  rw [if_neg h5]
  by_cases h6 : 0 ≤ i ∧ i < 12
  · rw [if_pos h6, if_pos (by omega), Nat.sub_zero]
  rw [if_neg h6]
  rw [if_neg (by omega), if_neg (by omega), if_neg (by omega), if_neg (by omega), if_neg (by omega), if_neg (by omega), if_neg (by omega)]
  obtain rfl | rfl | rfl | rfl : i = 1104 ∨ i = 1105 ∨ i = 1106 ∨ i = 1107 := by omega
  all_goals simp [upd]
theorem c205' {a b : Nat} (S : isSt W a) (T : isSt W b) (hd : a + 8 ≤ b ∨ b + 8 ≤ a) : cl 205 [.ref a, .ref b] (tm W m l) = some (none, tm W (wv m a (vw m b)) l) := by
  have e := c205 (m := m) (l := l) (f := vw m a) S T hd
  rw [wv_eta] at e
  exact e
theorem tm_ldR {a i n : Nat} (hs : tm_sh W a = .inr (4, n)) (hi : i < n) (hn : n < 2 ^ 31) : ia_ldR (tm W m l) a (nI i) = some (tm_rf W a i) := by
  simp only [ia_ldR, tm_arR hs]
  rw [if_pos ⟨trivial, nI_no hi hn⟩, nI_clamp (by omega)]
def tm_sR (W : tm_W) (b i a : Nat) : tm_W := (W.1, W.2.1, W.2.2.1, W.2.2.2.1, fun x => if x = b then (fun k => if k = i then some a else tm_rf W b k) else tm_rf W x)
theorem tm_stR {a i n v : Nat} {q : Option Nat} {ks : List (Option Nat)} (hs : tm_sh W a = .inr (4, n)) (hv : tm_sh W v = .inl (5, q :: ks)) (hi : i < n) (hn : n < 2 ^ 31) : ia_stR (tm W m l) a (nI i) v = some (tm (tm_sR W a i v) m l) := by
  have e2 : ∃ x xs, ia_c (tm W m l) v = .inr (5, x :: xs) := by
    rw [tm_at, hv]
    cases q <;> exact ⟨_, _, rfl⟩
  obtain ⟨x, xs, e2⟩ := e2
  simp only [ia_stR, tm_arR hs, e2]
  rw [if_pos ⟨trivial, trivial, nI_no hi hn⟩, nI_clamp (by omega)]
  congr 1
  refine tm_ext rfl rfl rfl fun y => ?_
  by_cases hy : y = a
  · subst hy
    show (if y = y then _ else _) = tm_c (tm_sh W y) (m y) (l y) (if y = y then _ else _)
    rw [if_pos rfl, if_pos rfl, hs]
    rfl
  · show (if y = a then _ else _) = tm_c (tm_sh W y) (m y) (l y) (if y = a then _ else _)
    rw [if_neg hy, if_neg hy]
    rfl
theorem isSt_of {W' : tm_W} {a : Nat} (h : ∀ x, a ≤ x → x < a + 8 → tm_sh W' x = tm_sh W x) (S : isSt W a) : isSt W' a := by
  unfold isSt at *
  rw [h a (by omega) (by omega), h (a + 1) (by omega) (by omega), h (a + 2) (by omega) (by omega), h (a + 3) (by omega) (by omega), h (a + 4) (by omega) (by omega), h (a + 5) (by omega) (by omega), h (a + 6) (by omega) (by omega), h (a + 7) (by omega) (by omega)]
  exact S
theorem isC_of {W' : tm_W} (h : ∀ x, x < 62 → tm_sh W' x = tm_sh W x) (C : isC W) : isC W' := by
  have s1 := isSt_of (W' := W') (fun x _ _ => h x (by omega)) C.now
  have s2 := isSt_of (W' := W') (fun x _ _ => h x (by omega)) C.tho
  have s3 := isSt_of (W' := W') (fun x _ _ => h x (by omega)) C.kep
  unfold isC
  rw [h 0 (by decide), h 1 (by decide), h 2 (by decide), h 3 (by decide), h 4 (by decide), h 5 (by decide), h 6 (by decide), h 7 (by decide), h 8 (by decide), h 9 (by decide), h 10 (by decide), h 11 (by decide), h 12 (by decide), h 37 (by decide), h 38 (by decide)]
  exact ⟨C.1, C.t1, C.t2, C.t3, C.t4, C.t5, C.t6, C.t7, C.t8, C.t9, C.t10, C.t11, C.t12, s1, s2, s3, C.t37, C.t38⟩
theorem isM_of {W' : tm_W} (h : ∀ x, x < 62 → tm_sh W' x = tm_sh W x) (M : isM W) : isM W' := by
  unfold isM at *
  rw [h 39 (by decide), h 40 (by decide), h 41 (by decide), h 42 (by decide), h 43 (by decide), h 44 (by decide), h 45 (by decide), h 46 (by decide), h 47 (by decide), h 48 (by decide), h 49 (by decide), h 50 (by decide), h 51 (by decide), h 52 (by decide), h 53 (by decide), h 54 (by decide), h 55 (by decide), h 56 (by decide), h 57 (by decide), h 58 (by decide), h 59 (by decide), h 60 (by decide)]
  exact M
def kpM (m : Nat → Nat → Int32) (a : Nat) (f : Nat → Int32) (nx s : Nat) : Nat → Nat → Int32 := m2 (m2 (wv m a f) 37 1 (nI nx)) 37 2 (nI s)
theorem rem8 {k : Nat} (h : k < 2 ^ 30) : nI k - nI k / 8 * 8 = nI (k % 8) := pk_rem (a := k) (d := 8) (by omega) (by decide) (by decide)
theorem min8 {s : Nat} (hs : s ≤ 8) : (if (8 : Int32) < nI (s + 1) then 8 else nI (s + 1)) = nI (min (s + 1) 8) := by
  by_cases h : s = 8
  · subst h
    rfl
  · rw [if_neg (fun q => by have := (nlt (a := 8) (by decide) (by omega)).mp q; omega), Nat.min_eq_left (by omega)]
theorem d174 {a nx s : Nat} (C : isC W) (S : isSt W a) (ha : 62 ≤ a) (h1 : m 37 1 = nI nx) (hnx : nx < 8) (h2 : m 37 2 = nI s) (hs : s ≤ 8) : dn 174 18 [some (.ref 37), some (.ref 13), some (.ref a)] [] (tm W m l) = some (none, tm W (kpM m a (vw m 13) ((nx + 1) % 8) (min (s + 1) 8)) l) := by
  have e1 : wv m a (vw m 13) 37 = m 37 := wv_out _ _ (by omega)
  rw [q_174_18, if_pos (sok S _), c205' S C.now (by omega), kxv_s, tm_gI C.t37 rfl, Option.bind_some, e1, h1, nI_1, rem8 (by omega), tm_pI C.t37 rfl, Option.bind_some, tm_gI C.t37 rfl, Option.bind_some, m2_k _ _ _ _ (by decide), e1, h2, nI_1, min8 hs, tm_pI C.t37 rfl, Option.bind_some]
  rfl
/-- what History.keep makes -/
def Kept (W : tm_W) (m : Nat → Nat → Int32) (nx : Nat) (W' : tm_W) (m0 : Nat → Nat → Int32) (a : Nat) : Prop :=
  (isC W' ∧ isM W' ∧ tm_sh W' 61 = .inr (1, 1) ∧ W.1 ≤ W'.1 ∧ W'.1 ≤ W.1 + 8 ∧ W'.2.1 ≤ W.2.1 + 1115 ∧ W'.2.2.1 = W.2.2.1 ∧ (∀ x, x < 62 → tm_sh W' x = tm_sh W x)) ∧
  (62 ≤ a ∧ a + 8 ≤ W'.1 ∧ isSt W' a) ∧ (tm_rf W' 38 nx = some a ∧ ∀ i, i ≠ nx → tm_rf W' 38 i = tm_rf W 38 i) ∧
  (∀ b, b + 8 ≤ W.1 → isSt W b → isSt W' b) ∧ (∀ i b, i < 8 → i ≠ nx → tm_rf W 38 i = some b → a + 8 ≤ b ∨ b + 8 ≤ a) ∧ (∀ x, x < W.1 → m0 x = m x)
theorem c174 {nx s : Nat} (C : isC W) (M : isM W) (h61 : tm_sh W 61 = .inr (1, 1)) (h62 : 62 ≤ W.1) (h1 : m 37 1 = nI nx) (hnx : nx < 8) (h2 : m 37 2 = nI s) (hs : s ≤ 8) (t6 : ∀ i a, i < 8 → tm_rf W 38 i = some a → 62 ≤ a ∧ a + 8 ≤ W.1 ∧ isSt W a)
    (t7 : ∀ i k a b, i < 8 → k < 8 → i ≠ k → tm_rf W 38 i = some a → tm_rf W 38 k = some b → a + 8 ≤ b ∨ b + 8 ≤ a) : ∃ W' m0 a, Kept W m nx W' m0 a ∧ cl 174 [.ref 37, .ref 13] (tm W m l) = some (none, tm W' (kpM m0 a (vw m 13) ((nx + 1) % 8) (min (s + 1) 8)) l) := by
  rw [q_174, tm_gR C.t37 rfl, Option.bind_some, tm_gI C.t37 rfl, Option.bind_some, h1, tm_ldR C.t38 hnx (by decide), Option.bind_some]
  cases hr : tm_rf W 38 nx with
  | some a =>
    obtain ⟨a1, a2, a3⟩ := t6 nx a hnx hr
    refine ⟨W, m, a, ⟨⟨C, M, h61, Nat.le_refl _, by omega, by omega, rfl, fun _ _ => rfl⟩, ⟨a1, a2, a3⟩, ⟨hr, fun _ _ => rfl⟩, fun _ _ h => h, fun i b hi hn hb => t7 nx i a b hnx hi (Ne.symm hn) hr hb, fun _ _ => rfl⟩, ?_⟩
    show dn 174 18 _ _ _ = _
    exact d174 C a3 a1 h1 hnx h2 hs
  | none =>
    have sh : ∀ x, x < W.1 → tm_sh (tm_sR (stW W) 38 nx W.1) x = tm_sh W x := fun x hx => stW_sh W (Or.inl hx)
    have C' : isC (stW W) := isC_of (fun x hx => stW_sh W (Or.inl (by omega))) C
    have C2 : isC (tm_sR (stW W) 38 nx W.1) := isC_of (fun x hx => sh x (by omega)) C
    have M2 : isM (tm_sR (stW W) 38 nx W.1) := isM_of (fun x hx => sh x (by omega)) M
    have S2 : isSt (tm_sR (stW W) 38 nx W.1) W.1 := stW_St W
    have em : ∀ x, x < W.1 → stM m W.1 x = m x := fun x hx => funext fun k => if_neg (by omega)
    have rf : ∀ i, tm_rf (tm_sR (stW W) 38 nx W.1) 38 i = if i = nx then some W.1 else tm_rf W 38 i := fun i => by
      show (if (38 : Nat) = 38 then (fun k => if k = nx then some W.1 else tm_rf (stW W) 38 k) else tm_rf (stW W) 38) i = _
      rw [if_pos rfl]
      rfl
    refine ⟨tm_sR (stW W) 38 nx W.1, stM m W.1, W.1, ⟨⟨C2, M2, by rw [sh 61 (by omega)]; exact h61, by show W.1 ≤ W.1 + 8; omega, by show W.1 + 8 ≤ W.1 + 8; omega, by show W.2.1 + 1115 ≤ W.2.1 + 1115; omega, rfl, fun x hx => sh x (by omega)⟩, ⟨h62, by show W.1 + 8 ≤ W.1 + 8; omega, S2⟩, ⟨by rw [rf, if_pos rfl], fun i hi => by rw [rf, if_neg hi]⟩, fun b hb h => isSt_of (fun x _ _ => sh x (by omega)) h, fun i b hi hn hb => Or.inr (t6 i b hi hb).2.1, em⟩, ?_⟩
    simp only [Option.elim]
    rw [show (tm W m l).1 = W.1 from rfl, c204, kxv_s, tm_gR C'.t37 rfl, Option.bind_some, tm_gI C'.t37 rfl, Option.bind_some, em 37 (by omega), h1, tm_stR C'.t38 (stW_St W).1 hnx (by decide), Option.bind_some]
    have e := d174 (m := stM m W.1) (l := l) C2 S2 h62 (by rw [em 37 (by omega)]; exact h1) hnx (by rw [em 37 (by omega)]; exact h2) hs
    rw [show vw (stM m W.1) 13 = vw m 13 from vw_row fun x _ _ => em x (by omega)] at e
    exact e
end KEP

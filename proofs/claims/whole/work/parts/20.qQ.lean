section QRQ
variable {W : tm_W} {m : Nat → Nat → Int32} {l : Nat → Nat → Int64} {f g : Nat → Int32}
/-! THE REFERENCE keeps what was -/
theorem upd_cp {F r p : Nat → Int32} {i : Nat} (h : ∀ k, F k = if k < i then r k else p k) : ∀ k, upd F i (r i) k = if k < i + 1 then r k else p k := by
  intro k
  by_cases hk : k = i
  · subst hk
    rw [pk_us, if_pos (by omega)]
  · rw [pk_un hk, h k]
    by_cases h2 : k < i
    · rw [if_pos h2, if_pos (by omega)]
    · rw [if_neg h2, if_neg (by omega)]
theorem d81 (M : isM W) : ∀ n i, i + n = 1108 → dn 81 2 [some (.ref 39), some (.int (nI i))] [] (tm W (m1 m 41 fun k => if k < i then m 40 k else m 41 k) l) = some (none, tm W (m1 m 41 fun k => if k < 1108 then m 40 k else m 41 k) l)
  | 0, i, h => by
    rw [q_81_2, show i = 1108 by omega, if_pos (show (1108 : Int32) ≤ nI 1108 from Int32.le_refl _)]
  | n + 1, i, h => by
    rw [q_81_2, if_neg (show ¬ (1108 : Int32) ≤ nI i from nI_ge (b := 1108) (by omega) (by decide)), rR1 M, Option.bind_some, rR0 M, Option.bind_some, rl40 M (by omega), Option.bind_some, m1_a _ _ (by decide), rs41 M (by omega), Option.bind_some, m1_w, nI_1, show upd (fun k => if k < i then m 40 k else m 41 k) i (m 40 i) = (fun k => if k < i + 1 then m 40 k else m 41 k) from funext (upd_cp fun _ => rfl)]
    exact d81 M n (i + 1) (by omega)
theorem c81 (M : isM W) : cl 81 [.ref 39] (tm W m l) = some (none, tm W (m1 m 41 fun k => if k < 1108 then m 40 k else m 41 k) l) := by
  rw [q_81]
  have e := d81 (m := m) (l := l) M 1108 0 (by omega)
  rw [show (fun k => if k < 0 then m 40 k else m 41 k) = m 41 from funext fun k => if_neg (by omega), m1_e] at e
  exact e
theorem d82 (M : isM W) : ∀ n i, i + n = 1108 → dn 82 2 [some (.ref 39), some (.int (nI i))] [] (tm W (m1 m 40 fun k => if k < i then m 41 k else m 40 k) l) = some (none, tm W (m1 m 40 fun k => if k < 1108 then m 41 k else m 40 k) l)
  | 0, i, h => by
    rw [q_82_2, show i = 1108 by omega, if_pos (show (1108 : Int32) ≤ nI 1108 from Int32.le_refl _)]
  | n + 1, i, h => by
    rw [q_82_2, if_neg (show ¬ (1108 : Int32) ≤ nI i from nI_ge (b := 1108) (by omega) (by decide)), rR0 M, Option.bind_some, rR1 M, Option.bind_some, rl41 M (by omega), Option.bind_some, m1_a _ _ (by decide), rs40 M (by omega), Option.bind_some, m1_w, nI_1, show upd (fun k => if k < i then m 41 k else m 40 k) i (m 41 i) = (fun k => if k < i + 1 then m 41 k else m 40 k) from funext (upd_cp fun _ => rfl)]
    exact d82 M n (i + 1) (by omega)
theorem c82 (M : isM W) : cl 82 [.ref 39] (tm W m l) = some (none, tm W (m1 m 40 fun k => if k < 1108 then m 41 k else m 40 k) l) := by
  rw [q_82]
  have e := d82 (m := m) (l := l) M 1108 0 (by omega)
  rw [show (fun k => if k < 0 then m 41 k else m 40 k) = m 40 from funext fun k => if_neg (by omega), m1_e] at e
  exact e
/-- past and how many are past -/
def cm (m : Nat → Nat → Int32) (F : Nat → Int32) (v : Int32) : Nat → Nat → Int32 := m2 (m1 m 43 F) 39 5 v
theorem cm_0 (m : Nat → Nat → Int32) : cm m (m 43) (m 39 5) = m := by
  unfold cm
  rw [m1_e]
  funext a k
  unfold m2
  split
  · rename_i h
    rw [h.1, h.2]
  · rfl
theorem cm_5 (m : Nat → Nat → Int32) (F : Nat → Int32) (v : Int32) : cm m F v 39 5 = v := m2_s _ _ _ _
theorem cm_43 (m : Nat → Nat → Int32) (F : Nat → Int32) (v : Int32) : cm m F v 43 = F := by
  unfold cm
  rw [m2_r _ _ _ (by decide), m1_s]
theorem cm_o (m : Nat → Nat → Int32) (F : Nat → Int32) (v : Int32) {a : Nat} (h1 : a ≠ 43) (h2 : a ≠ 39) : cm m F v a = m a := by
  unfold cm
  rw [m2_r _ _ _ h2, m1_a _ _ h1]
theorem cm_39 (m : Nat → Nat → Int32) (F : Nat → Int32) (v : Int32) {k : Nat} (h : k ≠ 5) : cm m F v 39 k = m 39 k := by
  unfold cm
  rw [m2_k _ _ _ _ h, m1_a _ _ (by decide)]
theorem cm_w (m : Nat → Nat → Int32) (F : Nat → Int32) (v : Int32) (k : Nat) (x : Int32) : m2 (cm m F v) 43 k x = cm m (upd F k x) v := by
  unfold cm
  funext a i
  unfold m2 m1 upd
  by_cases ha : a = 43
  · subst ha
    by_cases hi : i = k
    · subst hi
      simp
    · simp [hi]
  · simp [ha]
theorem cm_v (m : Nat → Nat → Int32) (F : Nat → Int32) (v w : Int32) : m2 (cm m F v) 39 5 w = cm m F w := m2_m2 _ _ _ _ _
/-- the row that is past, behind an act: f is what was -/
def pst (p f : Nat → Int32) (s : Nat) : Nat → Int32 := if s = 8 then (fun k => if 7756 ≤ k ∧ k < 8864 then f (k - 7756) else if k < 7756 then p (k + 1108) else p k) else (fun k => if 1108 * s ≤ k ∧ k < 1108 * s + 1108 then f (k - 1108 * s) else p k)
theorem i1108 (s i : Nat) : 1108 * nI s + nI i = nI (1108 * s + i) := by
  rw [show (1108 : Int32) = nI 1108 from rfl, pk_mul, nI_add]
theorem d83b (M : isM W) {c : Nat} (hc : c < 8) (p : Nat → Int32) : ∀ n i, i + n = 1108 → dn 83 29 [some (.ref 39), some (.int (nI i))] [] (tm W (cm m (fun k => if 1108 * c ≤ k ∧ k < 1108 * c + i then m 41 (k - 1108 * c) else p k) (nI c)) l) = some (none, tm W (cm m (fun k => if 1108 * c ≤ k ∧ k < 1108 * c + 1108 then m 41 (k - 1108 * c) else p k) (nI (c + 1))) l)
  | 0, i, h => by
    rw [q_83_29, show i = 1108 by omega, if_pos (show (1108 : Int32) ≤ nI 1108 from Int32.le_refl _), rI5 M, Option.bind_some, cm_5, nI_1, ru5 M, Option.bind_some, cm_v]
  | n + 1, i, h => by
    rw [q_83_29, if_neg (show ¬ (1108 : Int32) ≤ nI i from nI_ge (b := 1108) (by omega) (by decide)), rR4 M, Option.bind_some, rI5 M, Option.bind_some, cm_5, rR1 M, Option.bind_some, rl41 M (by omega), Option.bind_some, cm_o _ _ _ (by decide) (by decide), i1108, rs43 M (by omega), Option.bind_some, cm_w, nI_1]
    have e : upd (fun k => if 1108 * c ≤ k ∧ k < 1108 * c + i then m 41 (k - 1108 * c) else p k) (1108 * c + i) (m 41 i) = (fun k => if 1108 * c ≤ k ∧ k < 1108 * c + (i + 1) then m 41 (k - 1108 * c) else p k) := by
      funext k
      by_cases hk : k = 1108 * c + i
      · subst hk
        rw [pk_us, if_pos (by omega), Nat.add_sub_cancel_left]
      · rw [pk_un hk]
        by_cases h2 : 1108 * c ≤ k ∧ k < 1108 * c + i
        · rw [if_pos h2, if_pos (by omega)]
        · rw [if_neg h2, if_neg (by omega)]
    rw [e]
    exact d83b M hc p n (i + 1) (by omega)
theorem s1108 {i : Nat} (h : 1108 ≤ i) : nI i - 1108 = nI (i - 1108) := by
  have e : nI i = nI (i - 1108) + 1108 := by
    rw [show (1108 : Int32) = nI 1108 from rfl, nI_add, Nat.sub_add_cancel h]
  rw [e, Int32.add_sub_cancel]
set_option maxRecDepth 16384 in
theorem d83a (M : isM W) : ∀ n i, i + n = 8864 → 1108 ≤ i → dn 83 6 [some (.ref 39), some (.int (nI i))] [] (tm W (cm m (fun k => if k + 1108 < i then m 43 (k + 1108) else m 43 k) 8) l) = dn 83 6 [some (.ref 39), some (.int (nI 8864))] [] (tm W (cm m (fun k => if k < 7756 then m 43 (k + 1108) else m 43 k) 8) l)
  | 0, i, h, _ => by
    rw [show i = 8864 by omega, show (fun k => if k + 1108 < 8864 then m 43 (k + 1108) else m 43 k) = (fun k => if k < 7756 then m 43 (k + 1108) else m 43 k) from funext fun k => by
      by_cases hk : k < 7756
      · rw [if_pos (by omega), if_pos hk]
      · rw [if_neg (by omega), if_neg hk]]
  | n + 1, i, h, h2 => by
    rw [q_83_6, if_neg (show ¬ (8864 : Int32) ≤ nI i from nI_ge (b := 8864) (by omega) (by decide)), rR4 M, Option.bind_some, Option.bind_some, rl43 M (by omega), Option.bind_some, cm_43, if_neg (by omega), s1108 h2, rs43 M (by omega), Option.bind_some, cm_w, nI_1]
    have e : upd (fun k => if k + 1108 < i then m 43 (k + 1108) else m 43 k) (i - 1108) (m 43 i) = (fun k => if k + 1108 < i + 1 then m 43 (k + 1108) else m 43 k) := by
      funext k
      by_cases hk : k = i - 1108
      · subst hk
        rw [pk_us, if_pos (by omega), Nat.sub_add_cancel h2]
      · rw [pk_un hk]
        by_cases h3 : k + 1108 < i
        · rw [if_pos h3, if_pos (by omega)]
        · rw [if_neg h3, if_neg (by omega)]
    rw [e]
    exact d83a M n (i + 1) (by omega) (by omega)
theorem c83 (M : isM W) {s : Nat} (hs : s ≤ 8) (h5 : m 39 5 = nI s) : cl 83 [.ref 39] (tm W m l) = some (none, tm W (cm m (pst (m 43) (m 41) s) (nI (min (s + 1) 8))) l) := by
  rw [q_83, rI5 M, Option.bind_some, h5]
  by_cases h8 : s = 8
  · subst h8
    rw [if_pos (show nI 8 = 8 from rfl)]
    have e := d83a (m := m) (l := l) M (8864 - 1108) 1108 (by omega) (by omega)
    rw [show (fun k => if k + 1108 < 1108 then m 43 (k + 1108) else m 43 k) = m 43 from funext fun k => if_neg (by omega), show (8 : Int32) = m 39 5 from h5.symm, cm_0] at e
    rw [show dn 83 6 [some (.ref 39), some (.int 1108)] [] (tm W m l) = _ from e, h5]
    rw [q_83_6, if_pos (show (8864 : Int32) ≤ nI 8864 from Int32.le_refl _), rI5 M, Option.bind_some, cm_5, ru5 M, Option.bind_some, cm_v, show (nI 8 - 1 : Int32) = nI 7 from rfl]
    have e2 := d83b (m := m) (l := l) (c := 7) M (by decide) (fun k => if k < 7756 then m 43 (k + 1108) else m 43 k) 1108 0 (by omega)
    rw [show (fun k => if 1108 * 7 ≤ k ∧ k < 1108 * 7 + 0 then m 41 (k - 1108 * 7) else (fun k => if k < 7756 then m 43 (k + 1108) else m 43 k) k) = (fun k => if k < 7756 then m 43 (k + 1108) else m 43 k) from funext fun k => if_neg (by omega)] at e2
    rw [show dn 83 29 [some (.ref 39), some (.int 0)] [] _ = _ from e2]
    rfl
  · rw [if_neg (show ¬ nI s = 8 from fun q => h8 ((nI_eq (a := s) (b := 8) (by omega) (by decide)).mp q))]
    have e2 := d83b (m := m) (l := l) (c := s) M (by omega) (m 43) 1108 0 (by omega)
    rw [show (fun k => if 1108 * s ≤ k ∧ k < 1108 * s + 0 then m 41 (k - 1108 * s) else m 43 k) = m 43 from funext fun k => if_neg (by omega), ← h5, cm_0] at e2
    rw [show dn 83 29 [some (.ref 39), some (.int 0)] [] (tm W m l) = _ from e2, Nat.min_eq_left (by omega)]
    unfold pst
    rw [if_neg h8]
/-- what the reference's does makes -/
def rkM (m : Nat → Nat → Int32) (s : Nat) : Nat → Nat → Int32 := cm (m1 m 41 fun k => if k < 1108 then m 40 k else m 41 k) (pst (m 43) (fun k => if k < 1108 then m 40 k else m 41 k) s) (nI (min (s + 1) 8))
theorem c84 (M : isM W) {s : Nat} (hs : s ≤ 8) (h5 : m 39 5 = nI s) : cl 84 [.ref 39] (tm W m l) = some (none, tm W (rkM m s) l) := by
  rw [q_84, if_pos (rok M _), c81 M, kxv_s, if_pos (rok M _), c83 M hs (by rw [m1_a _ _ (by decide)]; exact h5), kxv_s, m1_a _ _ (by decide), m1_s]
  rfl
theorem rkM_o (m : Nat → Nat → Int32) (s : Nat) {a : Nat} (h1 : a ≠ 43) (h2 : a ≠ 39) (h3 : a ≠ 41) : rkM m s a = m a := by
  unfold rkM
  rw [cm_o _ _ _ h1 h2, m1_a _ _ h3]
theorem rkM_39 (m : Nat → Nat → Int32) (s : Nat) {k : Nat} (h : k ≠ 5) : rkM m s 39 k = m 39 k := by
  unfold rkM
  rw [cm_39 _ _ _ h, m1_a _ _ (by decide)]
theorem rkM_5 (m : Nat → Nat → Int32) (s : Nat) : rkM m s 39 5 = nI (min (s + 1) 8) := cm_5 _ _ _
theorem rkM_43 (m : Nat → Nat → Int32) (s : Nat) : rkM m s 43 = pst (m 43) (fun k => if k < 1108 then m 40 k else m 41 k) s := cm_43 _ _ _
theorem c84w (M : isM W) {s : Nat} (hs : s ≤ 8) (h5 : m 39 5 = nI s) : cl 84 [.ref 39] (tm W (m1 m 40 g) l) = some (none, tm W (m1 (rkM (m1 m 40 g) s) 40 g) l) := by
  rw [c84 M hs (by rw [m1_a _ _ (by decide)]; exact h5)]
  have e : rkM (m1 m 40 g) s 40 = g := by rw [rkM_o _ _ (by decide) (by decide) (by decide), m1_s]
  have e2 := m1_e (rkM (m1 m 40 g) s) 40
  rw [e] at e2
  rw [e2]
theorem pst_old {p f : Nat → Int32} {s k i : Nat} (hs : s ≤ 8) (hi : i < 1108) (hk : k < min (s + 1) 8) (hl : k ≠ min (s + 1) 8 - 1) : pst p f s (1108 * k + i) = p (1108 * (if s = 8 then k + 1 else k) + i) := by
  unfold pst
  by_cases h8 : s = 8
  · rw [if_pos h8, if_pos h8, if_neg (by omega), if_pos (by omega), show 1108 * k + i + 1108 = 1108 * (k + 1) + i by omega]
  · rw [if_neg h8, if_neg h8, if_neg (by omega)]
set_option maxRecDepth 16384 in
theorem pst_new {p f : Nat → Int32} {s i : Nat} (hs : s ≤ 8) (hi : i < 1108) : pst p f s (1108 * (min (s + 1) 8 - 1) + i) = f i := by
  unfold pst
  by_cases h8 : s = 8
  · subst h8
    rw [if_pos rfl, if_pos (by omega)]
    exact congrArg f (by omega)
  · rw [if_neg h8, Nat.min_eq_left (by omega), if_pos (by omega)]
    exact congrArg f (by omega)
end QRQ

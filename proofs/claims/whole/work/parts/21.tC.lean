section TXC
variable {W : tm_W} {l : Nat → Nat → Int64}
/-! LISTS in a text: item behind item, with , between -/
abbrev IT : Type := Nat × Nat × Nat
def plp (sg : Nat → Nat) (n : Nat) (it : RS → RS × IT) : Nat → RS → List IT → RS × List IT
  | 0, s, xs => (s, xs)
  | k + 1, s, xs => if (go sg n 44 (it s).1).2 = true then plp sg n it k (go sg n 44 (it s).1).1 (xs ++ [(it s).2]) else ((go sg n 44 (it s).1).1, xs ++ [(it s).2])
def itC (sg : Nat → Nat) (n P : Nat) (s : RS) : RS × IT := ((nb sg n 0 P (ei sg n 121 114 s).1).1, (if (ei sg n 121 114 s).2 = some 114 then 1 else 0, (nb sg n 0 P (ei sg n 121 114 s).1).2.getD 0, 0))
def itG1 (sg : Nat → Nat) (n P : Nat) (s : RS) : RS := (ei sg n 99 99 (nb sg n 0 P s).1).1
def itG2 (sg : Nat → Nat) (n P : Nat) (s : RS) : RS := (ei sg n 110 110 (dg sg n 0 3 (itG1 sg n P s)).1).1
def itG (sg : Nat → Nat) (n P : Nat) (s : RS) : RS × IT := ((dg sg n 1 9 (itG2 sg n P s)).1, ((nb sg n 0 P s).2.getD 0, (dg sg n 0 3 (itG1 sg n P s)).2.getD 0, (dg sg n 1 9 (itG2 sg n P s)).2.getD 1))
def itL1 (sg : Nat → Nat) (n : Nat) (s : RS) : RS := (dg sg n 0 3 s).1
def itL2 (sg : Nat → Nat) (n : Nat) (s : RS) : RS := (dg sg n 0 3 (itL1 sg n s)).1
def itL3 (sg : Nat → Nat) (n : Nat) (s : RS) : RS := (dg sg n 0 3 (itL2 sg n s)).1
def itL (sg : Nat → Nat) (n : Nat) (s : RS) : RS × IT := (if (itL3 sg n s).2 = none ∧ (dg sg n 0 3 (itL1 sg n s)).2 = (dg sg n 0 3 (itL2 sg n s)).2 then ((itL3 sg n s).1, some ((itL3 sg n s).1 - 1)) else itL3 sg n s, ((dg sg n 0 3 s).2.getD 0, (dg sg n 0 3 (itL1 sg n s)).2.getD 0, (dg sg n 0 3 (itL2 sg n s)).2.getD 0))
/-! items of the component -/
def itA (m : Nat → Nat → Int32) (k : Nat) (x y z : Int32) : Nat → Nat → Int32 := m2 (m2 (m2 (m2 m 6 (3 * k) x) 6 (3 * k + 1) y) 6 (3 * k + 2) z) 5 1 (nI (k + 1))
theorem itA_o (m : Nat → Nat → Int32) (k : Nat) (x y z : Int32) {a : Nat} (h5 : a ≠ 5) (h6 : a ≠ 6) : itA m k x y z a = m a := by
  unfold itA
  rw [m2_r _ _ _ h5, m2_r _ _ _ h6, m2_r _ _ _ h6, m2_r _ _ _ h6]
theorem itA_6 (m : Nat → Nat → Int32) (k : Nat) (x y z : Int32) (j : Nat) : itA m k x y z 6 j = if j = 3 * k + 2 then z else if j = 3 * k + 1 then y else if j = 3 * k then x else m 6 j := by
  unfold itA
  rw [m2_a _ _ _ _ (by decide)]
  unfold m2
  simp only [true_and]
def hdC (m : Nat → Nat → Int32) (xs : List IT) : Prop := m 5 1 = nI xs.length ∧ ∀ i e, xs[i]? = some e → m 6 (3 * i) = nI e.1 ∧ m 6 (3 * i + 1) = nI e.2.1 ∧ m 6 (3 * i + 2) = nI e.2.2
theorem get_app {α : Type} {xs : List α} {x e : α} {i : Nat} (h : (xs ++ [x])[i]? = some e) : xs[i]? = some e ∧ i < xs.length ∨ i = xs.length ∧ e = x := by
  by_cases hi : i < xs.length
  · rw [List.getElem?_append_left hi] at h
    exact Or.inl ⟨h, hi⟩
  · rw [List.getElem?_append_right (by omega)] at h
    have hl : i - xs.length = 0 := by
      by_cases q : i - xs.length = 0
      · exact q
      · have : ([x] : List α).length ≤ i - xs.length := by simp; omega
        rw [List.getElem?_eq_none this] at h
        cases h
    rw [hl] at h
    exact Or.inr ⟨by omega, by cases h; rfl⟩
theorem get_lt {α : Type} {xs : List α} {e : α} {i : Nat} (h : xs[i]? = some e) : i < xs.length := (List.getElem?_eq_some_iff.mp h).1
theorem hdC_add {m : Nat → Nat → Int32} {xs : List IT} (h : hdC m xs) (e : IT) : hdC (itA m xs.length (nI e.1) (nI e.2.1) (nI e.2.2)) (xs ++ [e]) := by
  refine ⟨?_, fun i e' he => ?_⟩
  · unfold itA
    rw [m2_s, List.length_append]
    rfl
  · rw [itA_6, itA_6, itA_6]
    rcases get_app he with ⟨h1, h2⟩ | ⟨h1, h2⟩
    · rw [if_neg (by omega), if_neg (by omega), if_neg (by omega), if_neg (by omega), if_neg (by omega), if_neg (by omega), if_neg (by omega), if_neg (by omega), if_neg (by omega)]
      exact h.2 i e' h1
    · subst h1
      subst h2
      refine ⟨?_, ?_, ?_⟩
      · rw [if_neg (by omega), if_neg (by omega), if_pos rfl]
      · rw [if_neg (by omega), if_pos rfl]
      · rw [if_pos rfl]
theorem i_ok (C : isC W) {m : Nat → Nat → Int32} (as : List Value) : ia_ok (tm W m l) 2 (.ref 5 :: as) = true := tm_ok C.t5 (by decide)
theorem c178 (C : isC W) {m : Nat → Nat → Int32} {s : RS} {k : Nat} (h5 : m 5 1 = nI k) (hk : k < 67) (x y z : Int32) : cl 178 [.ref 5, .int x, .int y, .int z] (tm W (txC m s) l) = some (none, tm W (txC (itA m k x y z) s) l) := by
  have g1 : ∀ m' : Nat → Nat → Int32, m' 5 1 = nI k → ia_gI (tm W (txC m' s) l) 2 5 1 = some (nI k) := fun m' h => by rw [tm_gI C.t5 rfl, txC_o _ _ (by decide), h]
  have g2 : ∀ (m' : Nat → Nat → Int32), ia_gR (tm W m' l) 2 5 0 = some 6 := fun m' => tm_gR C.t5 rfl
  have g3 : ∀ (m' : Nat → Nat → Int32) (j : Nat) (v : Int32), j < 201 → ia_st (tm W (txC m' s) l) 0 6 (nI j) v = some (tm W (txC (m2 m' 6 j v) s) l) := fun m' j v hj => by rw [tm_st C.t6 (by decide) (by decide) hj (by decide), txC_m2 _ _ _ (by decide)]
  have g4 : ∀ (m' : Nat → Nat → Int32) (v : Int32), ia_pF (tm W (txC m' s) l) 2 5 1 (.int v) = some (tm W (txC (m2 m' 5 1 v) s) l) := fun m' v => by rw [tm_pI C.t5 rfl, txC_m2 _ _ _ (by decide)]
  have e67 : ((67 : Int32) ≤ nI k) = False := eq_false (show ¬ nI 67 ≤ nI k from nI_ge hk (by decide))
  have e1 : nI k * 3 = nI (3 * k) := mul3 k
  have e2 : nI (3 * k) + 1 = nI (3 * k + 1) := nI_1 _
  have e3 : nI (3 * k) + 2 = nI (3 * k + 2) := nI_add _ 2
  simp only [q_178, g1 m h5, Option.bind_some, e67, if_false, g2, e1, e2, e3, g3 _ (3 * k) _ (by omega), g3 _ (3 * k + 1) _ (by omega), g3 _ (3 * k + 2) _ (by omega), g1 (m2 (m2 (m2 m 6 (3 * k) x) 6 (3 * k + 1) y) 6 (3 * k + 2) z) (by rw [m2_a _ _ _ _ (by decide), m2_a _ _ _ _ (by decide), m2_a _ _ _ _ (by decide)]; exact h5), nI_1, g4]
  rfl
theorem txT_of {m m' : Nat → Nat → Int32} {n : Nat} {sg : Nat → Nat} (T : txT m n sg) (h1 : m' 1 1 = m 1 1) (h2 : m' 2 = m 2) : txT m' n sg := by
  obtain ⟨a1, a2, a3⟩ := T
  exact ⟨by rw [h1]; exact a1, a2, fun i hi => by rw [h2]; exact a3 i hi⟩
theorem hiP {P : Nat} (hP : P ≤ 12) : ∀ v, v < 100 → (nI v ≤ nI P - 1 ↔ v < P) := by
  intro v hv
  cases P with
  | zero =>
    refine ⟨fun q => ?_, fun q => by omega⟩
    exact absurd q (m1_lt v (by omega))
  | succ k =>
    rw [nI_pred, nle (by omega) (by omega)]
    omega
def frC (m m' : Nat → Nat → Int32) : Prop := ∀ a, a ≠ 5 → a ≠ 6 → m' a = m a
theorem plp_s {sg : Nat → Nat} {n : Nat} {it : RS → RS × IT} {k : Nat} {s : RS} {xs : List IT} : plp sg n it (k + 1) s xs = if (go sg n 44 (it s).1).2 = true then plp sg n it k (go sg n 44 (it s).1).1 (xs ++ [(it s).2]) else ((go sg n 44 (it s).1).1, xs ++ [(it s).2]) := rfl
theorem nsome {o : Option Nat} {v : Nat} (h : o = some v) (d : Nat) : enc o = nI (o.getD d) := by
  rw [h]
  rfl
theorem go_n {sg : Nat → Nat} {n c : Nat} : ∀ {s : RS}, (go sg n c s).1.2 = none → s.2 = none
  | (a, some p), h => by cases h
  | (a, none), _ => rfl
/-! cards -/
theorem itC_s {sg : Nat → Nat} {n P : Nat} {s : RS} (h : (itC sg n P s).1.2 = none) : s.2 = none ∧ s.1 + 2 ≤ (itC sg n P s).1.1 ∧ enc (nb sg n 0 P (ei sg n 121 114 s).1).2 = nI (itC sg n P s).2.2.1 ∧ (itC sg n P s).2.2.1 < P ∧ (if enc (ei sg n 121 114 s).2 = 114 then (1 : Int32) else 0) = nI (itC sg n P s).2.1 ∧ ((itC sg n P s).2.1 = 0 ∨ (itC sg n P s).2.1 = 1) := by
  obtain ⟨a1, a2, a3, a4, v, a5, a6, a7⟩ := nb_s h
  obtain ⟨b1, b2, b3, b4, b5⟩ := ei_s a1
  refine ⟨b1, by show s.1 + 2 ≤ (nb sg n 0 P (ei sg n 121 114 s).1).1.1; omega, nsome a5 0, by show (nb sg n 0 P (ei sg n 121 114 s).1).2.getD 0 < P; rw [a5]; exact a7, ?_, ?_⟩
  · show _ = nI (if (ei sg n 121 114 s).2 = some 114 then 1 else 0)
    rw [b4]
    rcases b5 with b5 | b5
    · rw [b5]
      decide
    · rw [b5]
      decide
  · show (if (ei sg n 121 114 s).2 = some 114 then 1 else 0) = 0 ∨ (if (ei sg n 121 114 s).2 = some 114 then 1 else 0) = 1
    split
    · exact Or.inr rfl
    · exact Or.inl rfl
theorem itC_ok {sg : Nat → Nat} {n P : Nat} {s : RS} (hn : n ≤ 200) (hs : okS n s) : okS n (itC sg n P s).1 := nb_ok hn (ei_ok hn hs)
theorem c251yr (C : isC W) {m : Nat → Nat → Int32} {n : Nat} {sg : Nat → Nat} (T : txT m n sg) {s : RS} (hs : okS n s) : cl 251 [.ref 1, .int 121, .int 114] (tm W (txC m s) l) = some (some (.int (enc (ei sg n 121 114 s).2)), tm W (txC m (ei sg n 121 114 s).1) l) := c251 C T (c1 := 121) (c2 := 114) (by decide) (by decide) hs
theorem c254P (C : isC W) {m : Nat → Nat → Int32} {n P : Nat} {sg : Nat → Nat} (T : txT m n sg) (hP : P ≤ 12) {s : RS} (hs : okS n s) : cl 254 [.ref 1, .int 0, .int (nI P - 1)] (tm W (txC m s) l) = some (some (.int (enc (nb sg n 0 P s).2)), tm W (txC m (nb sg n 0 P s).1) l) := c254 C T (lo := 0) (by decide) (hiP hP) hs
theorem c255c (C : isC W) {m : Nat → Nat → Int32} {n : Nat} {sg : Nat → Nat} (T : txT m n sg) {s : RS} (hs : okS n s) : cl 255 [.ref 1, .int 44] (tm W (txC m s) l) = some (some (.int (if (go sg n 44 s).2 = true then 1 else 0)), tm W (txC m (go sg n 44 s).1) l) := c255 C T (c := 44) (by decide) hs
theorem s_pl (C : isC W) {m : Nat → Nat → Int32} {s : RS} {P : Nat} (hP : m 13 0 = nI P) : ia_gI (tm W (txC m s) l) 5 13 0 = some (nI P) := by rw [tm_gI C.now.1 rfl, txC_o _ _ (by decide), hP]
theorem ite_63 (c : Prop) [Decidable c] (L : ia_L) (h : ia_H) : (if c then dn 63 24 L [.int 1] h else dn 63 24 L [.int 0] h) = dn 63 24 L [.int (if c then 1 else 0)] h := by split <;> rfl
theorem n200 {i : Nat} (h : i < 200) : ((200 : Int32) ≤ nI i) = False := eq_false (show ¬ nI 200 ≤ nI i from nI_ge h (by decide))
theorem d63 (C : isC W) {n P : Nat} {sg : Nat → Nat} (hP2 : P ≤ 12) : ∀ (k i : Nat) (s : RS) (xs : List IT) (m : Nat → Nat → Int32) (l3 : Option Value), txT m n sg → m 13 0 = nI P → okS n s → s.2 = none → 3 * i ≤ s.1 → xs.length = i → hdC m xs → n < s.1 + k →
    ∃ m', dn 63 9 [some (.ref 0), some (.int 1), some (.int (nI i)), l3] [] (tm W (txC m s) l) = some (none, tm W (txC m' (plp sg n (itC sg n P) k s xs).1) l) ∧ frC m m' ∧ ((plp sg n (itC sg n P) k s xs).1.2 = none → hdC m' (plp sg n (itC sg n P) k s xs).2)
  | 0, i, s, xs, m, l3, T, hP, hs, h0, h3, hx, hd, hk => absurd hs.1 (by omega)
  | k + 1, i, s, xs, m, l3, T, hP, hs, h0, h3, hx, hd, hk => by
    have hn := T.2.1
    have hs1 := hs.1
    have hi : i < 67 := by omega
    have h5 : m 5 1 = nI i := by rw [hd.1, hx]
    have T' : ∀ x y z, txT (itA m i x y z) n sg := fun x y z => txT_of T (by rw [itA_o _ _ _ _ _ (by decide) (by decide)]) (itA_o _ _ _ _ _ (by decide) (by decide))
    have hg := go_ok (sg := sg) (c := 44) hn (itC_ok (sg := sg) (P := P) hn hs)
    have E : dn 63 9 [some (.ref 0), some (.int 1), some (.int (nI i)), l3] [] (tm W (txC m s) l) = dn 63 9 [some (.ref 0), some (.int (if (go sg n 44 (itC sg n P s).1).2 = true then 1 else 0)), some (.int (nI (i + 1))), some (.int (if enc (ei sg n 121 114 s).2 = 114 then 1 else 0))] [] (tm W (txC (itA m i (if enc (ei sg n 121 114 s).2 = 114 then 1 else 0) (enc (nb sg n 0 P (ei sg n 121 114 s).1).2) 0) (go sg n 44 (itC sg n P s).1).1) l) := by
      rw [q_63_9]
      simp only [n200 (show i < 200 by omega), xR0 C, c251yr C T hs, t_ok C, t_R C, t_1 C, t_2 C, t_3 C, Option.bind_some, kxi_s, kxv_s, kxr_s, if_true, if_false, i10]
      rw [ite_63, q_63_24]
      simp only [xR0 C, xR2 C, xR6 C, t_ok C, t_R C, t_1 C, t_2 C, t_3 C, Option.bind_some, kxi_s, kxv_s, kxr_s, if_true, if_false, i10, s_pl C hP, c254P C T hP2 (ei_ok hn hs), i_ok C, c178 C h5 hi, c255c C (T' _ _ _) (nb_ok hn (ei_ok hn hs)), nI_1]
      rfl
    rw [E, plp_s]
    by_cases hgo : (go sg n 44 (itC sg n P s).1).2 = true
    · obtain ⟨g1, g2, g3, g4⟩ := go_t hgo
      obtain ⟨c1, c2, c3, c4, c5, c6⟩ := itC_s g1
      rw [if_pos hgo, if_pos hgo, c3, c5]
      have e0 : (0 : Int32) = nI (itC sg n P s).2.2.2 := rfl
      have hd' := hdC_add hd (itC sg n P s).2
      rw [hx, ← e0] at hd'
      obtain ⟨m', r1, r2, r3⟩ := d63 C hP2 k (i + 1) (go sg n 44 (itC sg n P s).1).1 (xs ++ [(itC sg n P s).2]) _ _ (T' _ _ _) (by rw [itA_o _ _ _ _ _ (by decide) (by decide)]; exact hP) hg (by rw [g2]) (by rw [g2]; show 3 * (i + 1) ≤ (itC sg n P s).1.1 + 1; omega) (by rw [List.length_append, hx]; rfl) hd' (by rw [g2]; show n < (itC sg n P s).1.1 + 1 + k; omega)
      exact ⟨m', r1, fun a h5 h6 => by rw [r2 a h5 h6, itA_o _ _ _ _ _ h5 h6], r3⟩
    · rw [if_neg hgo, if_neg hgo]
      refine ⟨itA m i (if enc (ei sg n 121 114 s).2 = 114 then 1 else 0) (enc (nb sg n 0 P (ei sg n 121 114 s).1).2) 0, ?_, fun a h5 h6 => itA_o _ _ _ _ _ h5 h6, fun hn0 => ?_⟩
      · rw [q_63_9]
        split
        · rfl
        · rw [if_pos rfl]
      · obtain ⟨c1, c2, c3, c4, c5, c6⟩ := itC_s (go_n hn0)
        have e0 : (0 : Int32) = nI (itC sg n P s).2.2.2 := rfl
        have hd' := hdC_add hd (itC sg n P s).2
        rw [hx, ← e0] at hd'
        rw [c3, c5]
        exact hd'
/-! bans that come by hand -/
theorem itG_s {sg : Nat → Nat} {n P : Nat} {s : RS} (h : (itG sg n P s).1.2 = none) : s.2 = none ∧ s.1 + 5 ≤ (itG sg n P s).1.1 ∧ enc (nb sg n 0 P s).2 = nI (itG sg n P s).2.1 ∧ (itG sg n P s).2.1 < P ∧ enc (dg sg n 0 3 (itG1 sg n P s)).2 = nI (itG sg n P s).2.2.1 ∧ (itG sg n P s).2.2.1 < 4 ∧ enc (dg sg n 1 9 (itG2 sg n P s)).2 = nI (itG sg n P s).2.2.2 ∧ 1 ≤ (itG sg n P s).2.2.2 ∧ (itG sg n P s).2.2.2 ≤ 9 := by
  obtain ⟨a1, a2, a3, v, a4, a5, a6⟩ := dg_s h
  obtain ⟨b1, b2, b3, b4, b5⟩ := ei_s a1
  obtain ⟨c1, c2, c3, w, c4, c5, c6⟩ := dg_s b1
  obtain ⟨d1, d2, d3, d4, d5⟩ := ei_s c1
  obtain ⟨e1, e2, e3, e4, u, e5, e6, e7⟩ := nb_s d1
  refine ⟨e1, ?_, nsome e5 0, ?_, nsome c4 0, ?_, nsome a4 1, ?_, ?_⟩
  · have q1 : (itG sg n P s).1.1 = (itG2 sg n P s).1 + 1 := a2
    have q2 : (itG2 sg n P s).1 = (dg sg n 0 3 (itG1 sg n P s)).1.1 + 1 := b2
    have q3 : (itG1 sg n P s).1 = (nb sg n 0 P s).1.1 + 1 := d2
    omega
  · show (nb sg n 0 P s).2.getD 0 < P
    rw [e5]
    exact e7
  · show (dg sg n 0 3 (itG1 sg n P s)).2.getD 0 < 4
    rw [c4]
    show w < 4
    omega
  · show 1 ≤ (dg sg n 1 9 (itG2 sg n P s)).2.getD 1
    rw [a4]
    exact a5
  · show (dg sg n 1 9 (itG2 sg n P s)).2.getD 1 ≤ 9
    rw [a4]
    exact a6
theorem itG_ok {sg : Nat → Nat} {n P : Nat} {s : RS} (hn : n ≤ 200) (hs : okS n s) : okS n (itG1 sg n P s) ∧ okS n (itG2 sg n P s) ∧ okS n (itG sg n P s).1 := by
  have h1 : okS n (itG1 sg n P s) := ei_ok hn (nb_ok hn hs)
  have h2 : okS n (itG2 sg n P s) := ei_ok hn (dg_ok hn h1)
  exact ⟨h1, h2, dg_ok hn h2⟩
theorem c250c (C : isC W) {m : Nat → Nat → Int32} {n : Nat} {sg : Nat → Nat} (T : txT m n sg) {s : RS} (hs : okS n s) : cl 250 [.ref 1, .int 99] (tm W (txC m s) l) = some (none, tm W (txC m (ei sg n 99 99 s).1) l) := c250 C T (c := 99) (by decide) hs
theorem c250n (C : isC W) {m : Nat → Nat → Int32} {n : Nat} {sg : Nat → Nat} (T : txT m n sg) {s : RS} (hs : okS n s) : cl 250 [.ref 1, .int 110] (tm W (txC m s) l) = some (none, tm W (txC m (ei sg n 110 110 s).1) l) := c250 C T (c := 110) (by decide) hs
theorem d64 (C : isC W) {n P : Nat} {sg : Nat → Nat} (hP2 : P ≤ 12) : ∀ (k i : Nat) (s : RS) (xs : List IT) (m : Nat → Nat → Int32) (l3 l4 : Option Value), txT m n sg → m 13 0 = nI P → okS n s → s.2 = none → 3 * i ≤ s.1 → xs.length = i → hdC m xs → n < s.1 + k →
    ∃ m', dn 64 9 [some (.ref 0), some (.int 1), some (.int (nI i)), l3, l4] [] (tm W (txC m s) l) = some (none, tm W (txC m' (plp sg n (itG sg n P) k s xs).1) l) ∧ frC m m' ∧ ((plp sg n (itG sg n P) k s xs).1.2 = none → hdC m' (plp sg n (itG sg n P) k s xs).2)
  | 0, i, s, xs, m, l3, l4, T, hP, hs, h0, h3, hx, hd, hk => absurd hs.1 (by omega)
  | k + 1, i, s, xs, m, l3, l4, T, hP, hs, h0, h3, hx, hd, hk => by
    have hn := T.2.1
    have hs1 := hs.1
    have hi : i < 67 := by omega
    have h5 : m 5 1 = nI i := by rw [hd.1, hx]
    have T' : ∀ x y z, txT (itA m i x y z) n sg := fun x y z => txT_of T (by rw [itA_o _ _ _ _ _ (by decide) (by decide)]) (itA_o _ _ _ _ _ (by decide) (by decide))
    obtain ⟨k1, k2, k3⟩ := itG_ok (sg := sg) (P := P) hn hs
    have hg := go_ok (sg := sg) (c := 44) hn k3
    have E : dn 64 9 [some (.ref 0), some (.int 1), some (.int (nI i)), l3, l4] [] (tm W (txC m s) l) = dn 64 9 [some (.ref 0), some (.int (if (go sg n 44 (itG sg n P s).1).2 = true then 1 else 0)), some (.int (nI (i + 1))), some (.int (enc (nb sg n 0 P s).2)), some (.int (enc (dg sg n 0 3 (itG1 sg n P s)).2))] [] (tm W (txC (itA m i (enc (nb sg n 0 P s).2) (enc (dg sg n 0 3 (itG1 sg n P s)).2) (enc (dg sg n 1 9 (itG2 sg n P s)).2)) (go sg n 44 (itG sg n P s).1).1) l) := by
      rw [q_64_9]
      simp only [n200 (show i < 200 by omega), xR0 C, xR2 C, xR6 C, t_ok C, t_R C, t_1 C, t_2 C, t_3 C, Option.bind_some, kxi_s, kxv_s, kxr_s, if_true, if_false, i10, s_pl C hP, c254P C T hP2 hs, c250c C T (nb_ok hn hs)]
      rw [show (ei sg n 99 99 (nb sg n 0 P s).1).1 = itG1 sg n P s from rfl]
      simp only [xR0 C, xR2 C, t_ok C, t_R C, t_1 C, t_2 C, t_3 C, Option.bind_some, kxi_s, kxv_s, kxr_s, if_true, if_false, i10, c253_03 C T k1, c250n C T (dg_ok hn k1)]
      rw [show (ei sg n 110 110 (dg sg n 0 3 (itG1 sg n P s)).1).1 = itG2 sg n P s from rfl]
      simp only [xR0 C, xR2 C, t_ok C, t_R C, t_1 C, t_2 C, t_3 C, Option.bind_some, kxi_s, kxv_s, kxr_s, if_true, if_false, i10, c253_19 C T k2, i_ok C, c178 C h5 hi, c255c C (T' _ _ _) (dg_ok hn k2), nI_1]
      rfl
    rw [E, plp_s]
    by_cases hgo : (go sg n 44 (itG sg n P s).1).2 = true
    · obtain ⟨g1, g2, g3, g4⟩ := go_t hgo
      obtain ⟨c1, c2, c3, c4, c5, c6, c7, c8, c9⟩ := itG_s g1
      rw [if_pos hgo, if_pos hgo, c3, c5, c7]
      have hd' := hdC_add hd (itG sg n P s).2
      rw [hx] at hd'
      obtain ⟨m', r1, r2, r3⟩ := d64 C hP2 k (i + 1) (go sg n 44 (itG sg n P s).1).1 (xs ++ [(itG sg n P s).2]) _ _ _ (T' _ _ _) (by rw [itA_o _ _ _ _ _ (by decide) (by decide)]; exact hP) hg (by rw [g2]) (by rw [g2]; show 3 * (i + 1) ≤ (itG sg n P s).1.1 + 1; omega) (by rw [List.length_append, hx]; rfl) hd' (by rw [g2]; show n < (itG sg n P s).1.1 + 1 + k; omega)
      exact ⟨m', r1, fun a h5 h6 => by rw [r2 a h5 h6, itA_o _ _ _ _ _ h5 h6], r3⟩
    · rw [if_neg hgo, if_neg hgo]
      refine ⟨itA m i (enc (nb sg n 0 P s).2) (enc (dg sg n 0 3 (itG1 sg n P s)).2) (enc (dg sg n 1 9 (itG2 sg n P s)).2), ?_, fun a h5 h6 => itA_o _ _ _ _ _ h5 h6, fun hn0 => ?_⟩
      · rw [q_64_9]
        split
        · rfl
        · rw [if_pos rfl]
      · obtain ⟨c1, c2, c3, c4, c5, c6, c7, c8, c9⟩ := itG_s (go_n hn0)
        have hd' := hdC_add hd (itG sg n P s).2
        rw [hx] at hd'
        rw [c3, c5, c7]
        exact hd'
/-! matches to come -/
theorem itL_s {sg : Nat → Nat} {n : Nat} {s : RS} (h : (itL sg n s).1.2 = none) : s.2 = none ∧ s.1 + 3 = (itL sg n s).1.1 ∧ (itL sg n s).1 = itL3 sg n s ∧ enc (dg sg n 0 3 s).2 = nI (itL sg n s).2.1 ∧ (itL sg n s).2.1 < 4 ∧ enc (dg sg n 0 3 (itL1 sg n s)).2 = nI (itL sg n s).2.2.1 ∧ (itL sg n s).2.2.1 < 4 ∧ enc (dg sg n 0 3 (itL2 sg n s)).2 = nI (itL sg n s).2.2.2 ∧ (itL sg n s).2.2.2 < 4 ∧ (itL sg n s).2.2.1 ≠ (itL sg n s).2.2.2 := by
  have h3 : (itL3 sg n s).2 = none ∧ (itL sg n s).1 = itL3 sg n s ∧ ¬ (dg sg n 0 3 (itL1 sg n s)).2 = (dg sg n 0 3 (itL2 sg n s)).2 := by
    unfold itL at h ⊢
    dsimp only at h ⊢
    split at h
    · cases h
    · rename_i q
      rw [if_neg q]
      exact ⟨h, rfl, fun e => q ⟨h, e⟩⟩
  obtain ⟨a1, a2, a3, v, a4, a5, a6⟩ := dg_s h3.1
  obtain ⟨b1, b2, b3, w, b4, b5, b6⟩ := dg_s a1
  obtain ⟨c1, c2, c3, u, c4, c5, c6⟩ := dg_s b1
  refine ⟨c1, ?_, h3.2.1, nsome c4 0, ?_, nsome b4 0, ?_, nsome a4 0, ?_, ?_⟩
  · rw [h3.2.1]
    have q1 : (itL3 sg n s).1 = (itL2 sg n s).1 + 1 := a2
    have q2 : (itL2 sg n s).1 = (itL1 sg n s).1 + 1 := b2
    have q3 : (itL1 sg n s).1 = s.1 + 1 := c2
    omega
  · show (dg sg n 0 3 s).2.getD 0 < 4
    rw [c4]
    show u < 4
    omega
  · show (dg sg n 0 3 (itL1 sg n s)).2.getD 0 < 4
    rw [b4]
    show w < 4
    omega
  · show (dg sg n 0 3 (itL2 sg n s)).2.getD 0 < 4
    rw [a4]
    show v < 4
    omega
  · show (dg sg n 0 3 (itL1 sg n s)).2.getD 0 ≠ (dg sg n 0 3 (itL2 sg n s)).2.getD 0
    have := h3.2.2
    rw [b4, a4] at this ⊢
    exact fun e => this (congrArg some e)
theorem itL_ok {sg : Nat → Nat} {n : Nat} {s : RS} (hn : n ≤ 200) (hs : okS n s) : okS n (itL1 sg n s) ∧ okS n (itL2 sg n s) ∧ okS n (itL3 sg n s) ∧ okS n (itL sg n s).1 := by
  have h1 : okS n (itL1 sg n s) := dg_ok hn hs
  have h2 : okS n (itL2 sg n s) := dg_ok hn h1
  have h3 : okS n (itL3 sg n s) := dg_ok hn h2
  refine ⟨h1, h2, h3, ?_⟩
  unfold itL
  dsimp only
  split
  · exact ⟨h3.1, fun p hp => by cases hp; have := h3.1; omega⟩
  · exact h3
theorem d65 (C : isC W) {n : Nat} {sg : Nat → Nat} : ∀ (k i : Nat) (s : RS) (xs : List IT) (m : Nat → Nat → Int32) (l3 l4 l5 : Option Value), txT m n sg → okS n s → s.2 = none → 4 * i ≤ s.1 → xs.length = i → hdC m xs → n < s.1 + k →
    ∃ m', dn 65 9 [some (.ref 0), some (.int 1), some (.int (nI i)), l3, l4, l5] [] (tm W (txC m s) l) = some (none, tm W (txC m' (plp sg n (itL sg n) k s xs).1) l) ∧ frC m m' ∧ ((plp sg n (itL sg n) k s xs).1.2 = none → hdC m' (plp sg n (itL sg n) k s xs).2)
  | 0, i, s, xs, m, l3, l4, l5, T, hs, h0, h3, hx, hd, hk => absurd hs.1 (by omega)
  | k + 1, i, s, xs, m, l3, l4, l5, T, hs, h0, h3, hx, hd, hk => by
    have hn := T.2.1
    have hs1 := hs.1
    have hi : i < 67 := by omega
    have h5 : m 5 1 = nI i := by rw [hd.1, hx]
    have T' : ∀ x y z, txT (itA m i x y z) n sg := fun x y z => txT_of T (by rw [itA_o _ _ _ _ _ (by decide) (by decide)]) (itA_o _ _ _ _ _ (by decide) (by decide))
    obtain ⟨k1, k2, k3, k4⟩ := itL_ok (sg := sg) hn hs
    have hg := go_ok (sg := sg) (c := 44) hn k4
    have E1 : dn 65 9 [some (.ref 0), some (.int 1), some (.int (nI i)), l3, l4, l5] [] (tm W (txC m s) l) = dn 65 46 [some (.ref 0), some (.int 1), some (.int (nI i)), some (.int (enc (dg sg n 0 3 s).2)), some (.int (enc (dg sg n 0 3 (itL1 sg n s)).2)), some (.int (enc (dg sg n 0 3 (itL2 sg n s)).2))] [] (tm W (txC m (itL sg n s).1) l) := by
      rw [q_65_9]
      simp only [n200 (show i < 200 by omega), xR0 C, t_ok C, t_R C, t_1 C, t_2 C, t_3 C, Option.bind_some, kxi_s, kxv_s, kxr_s, if_true, if_false, i10, c253_03 C T hs]
      rw [show (dg sg n 0 3 s).1 = itL1 sg n s from rfl]
      simp only [xR0 C, t_ok C, t_R C, t_1 C, t_2 C, t_3 C, Option.bind_some, kxi_s, kxv_s, kxr_s, if_true, if_false, i10, c253_03 C T k1]
      rw [show (dg sg n 0 3 (itL1 sg n s)).1 = itL2 sg n s from rfl]
      simp only [xR0 C, t_ok C, t_R C, t_1 C, t_2 C, t_3 C, Option.bind_some, kxi_s, kxv_s, kxr_s, if_true, if_false, i10, c253_03 C T k2]
      rw [show (dg sg n 0 3 (itL2 sg n s)).1 = itL3 sg n s from rfl]
      by_cases hq : (itL3 sg n s).2 = none
      · obtain ⟨a1, a2, a3, v, a4, a5, a6⟩ := dg_s (show (dg sg n 0 3 (itL2 sg n s)).1.2 = none from hq)
        obtain ⟨b1, b2, b3, w, b4, b5, b6⟩ := dg_s (show (dg sg n 0 3 (itL1 sg n s)).1.2 = none from a1)
        rw [a4, b4]
        rw [if_neg (show ¬ enc (some v) = -1 from nI_ne_m1 (by omega))]
        by_cases hvw : v = w
        · have e3 : (itL sg n s).1 = ((itL3 sg n s).1, some ((itL3 sg n s).1 - 1)) := by
            unfold itL
            exact if_pos ⟨hq, by rw [b4, a4, hvw]⟩
          have e4 : txC m (itL3 sg n s) = txC m ((itL3 sg n s).1, none) := by rw [← hq]
          have h1 : 1 ≤ (itL3 sg n s).1 := by
            have : (itL3 sg n s).1 = (itL2 sg n s).1 + 1 := a2
            omega
          rw [if_pos (show enc (some v) = enc (some w) by rw [hvw]), e3, e4, show nI (itL3 sg n s).1 - 1 = nI ((itL3 sg n s).1 - 1) from pk_sub (b := 1) h1, c249s C, kxv_s]
        · have e3 : (itL sg n s).1 = itL3 sg n s := by
            unfold itL
            exact if_neg (fun q => hvw (by have := q.2; rw [b4, a4] at this; cases this; rfl))
          rw [if_neg (show ¬ enc (some v) = enc (some w) from fun q => hvw ((nI_eq (by omega) (by omega)).mp q)), e3]
      · have e3 : (itL sg n s).1 = itL3 sg n s := by
          unfold itL
          exact if_neg (fun q => hq q.1)
        have e4 : (dg sg n 0 3 (itL2 sg n s)).2 = none := by
          have hq' : ¬ (dg sg n 0 3 (itL2 sg n s)).1.2 = none := hq
          generalize itL2 sg n s = r at hq' ⊢
          obtain ⟨a, q⟩ := r
          cases q with
          | some p => rfl
          | none =>
            simp only [dg] at hq' ⊢
            split
            · rename_i z
              rw [if_pos z] at hq'
              exact absurd rfl hq'
            · rfl
        rw [e4, e3, if_pos (show enc none = -1 from rfl)]
    have E : dn 65 9 [some (.ref 0), some (.int 1), some (.int (nI i)), l3, l4, l5] [] (tm W (txC m s) l) = dn 65 9 [some (.ref 0), some (.int (if (go sg n 44 (itL sg n s).1).2 = true then 1 else 0)), some (.int (nI (i + 1))), some (.int (enc (dg sg n 0 3 s).2)), some (.int (enc (dg sg n 0 3 (itL1 sg n s)).2)), some (.int (enc (dg sg n 0 3 (itL2 sg n s)).2))] [] (tm W (txC (itA m i (enc (dg sg n 0 3 s).2) (enc (dg sg n 0 3 (itL1 sg n s)).2) (enc (dg sg n 0 3 (itL2 sg n s)).2)) (go sg n 44 (itL sg n s).1).1) l) := by
      rw [E1, q_65_46]
      simp only [xR0 C, xR2 C, t_ok C, t_R C, t_1 C, t_2 C, t_3 C, Option.bind_some, kxi_s, kxv_s, kxr_s, if_true, if_false, i10, i_ok C, c178 C h5 hi, c255c C (T' _ _ _) k4, nI_1]
    rw [E, plp_s]
    by_cases hgo : (go sg n 44 (itL sg n s).1).2 = true
    · obtain ⟨g1, g2, g3, g4⟩ := go_t hgo
      obtain ⟨c1, c2, c2', c3, c4, c5, c6, c7, c8, c9⟩ := itL_s g1
      rw [if_pos hgo, if_pos hgo, c3, c5, c7]
      have hd' := hdC_add hd (itL sg n s).2
      rw [hx] at hd'
      obtain ⟨m', r1, r2, r3⟩ := d65 C k (i + 1) (go sg n 44 (itL sg n s).1).1 (xs ++ [(itL sg n s).2]) _ _ _ _ (T' _ _ _) hg (by rw [g2]) (by rw [g2]; show 4 * (i + 1) ≤ (itL sg n s).1.1 + 1; omega) (by rw [List.length_append, hx]; rfl) hd' (by rw [g2]; show n < (itL sg n s).1.1 + 1 + k; omega)
      exact ⟨m', r1, fun a h5 h6 => by rw [r2 a h5 h6, itA_o _ _ _ _ _ h5 h6], r3⟩
    · rw [if_neg hgo, if_neg hgo]
      refine ⟨itA m i (enc (dg sg n 0 3 s).2) (enc (dg sg n 0 3 (itL1 sg n s)).2) (enc (dg sg n 0 3 (itL2 sg n s)).2), ?_, fun a h5 h6 => itA_o _ _ _ _ _ h5 h6, fun hn0 => ?_⟩
      · rw [q_65_9]
        split
        · rfl
        · rw [if_pos rfl]
      · obtain ⟨c1, c2, c2', c3, c4, c5, c6, c7, c8, c9⟩ := itL_s (go_n hn0)
        have hd' := hdC_add hd (itL sg n s).2
        rw [hx] at hd'
        rw [c3, c5, c7]
        exact hd'
end TXC

/-! TYPED MEMORY: shapes that stay, and the whole numbers in them. A heap of the abstract machine is `tm W m l`: W the shapes, m the ints, l the longs. -/
abbrev tm_S : Type := (Nat × List (Option Nat)) ⊕ (Nat × Nat)
/-- next cell, slots, script, shapes, rows of references -/
abbrev tm_W : Type := Nat × Nat × (Nat × (Nat → Int32)) × (Nat → tm_S) × (Nat → Nat → Option Nat)
def tm_o (m : Nat → Int32) : Nat → List (Option Nat) → List Value
  | _, [] => []
  | i, none :: ks => .int (m i) :: tm_o m (i + 1) ks
  | i, some r :: ks => .ref r :: tm_o m (i + 1) ks
def tm_c (s : tm_S) (m : Nat → Int32) (l : Nat → Int64) (r : Nat → Option Nat) : ia_E := match s with
  | .inl q => .inr (q.1, tm_o m 0 q.2)
  | .inr q => .inl (q.1, q.2, if q.1 = 1 then .inr (.inl l) else if q.1 = 4 then .inr (.inr (.inr (.inr r))) else .inl m)
abbrev tm_sh (W : tm_W) (a : Nat) : tm_S := W.2.2.2.1 a
abbrev tm_rf (W : tm_W) (a : Nat) : Nat → Option Nat := W.2.2.2.2 a
def tm (W : tm_W) (m : Nat → Nat → Int32) (l : Nat → Nat → Int64) : ia_H := (W.1, W.2.1, W.2.2.1, fun a => tm_c (tm_sh W a) (m a) (l a) (tm_rf W a))
/-- a place is written -/
def m2 {α : Type} (m : Nat → Nat → α) (a k : Nat) (v : α) : Nat → Nat → α := fun a' k' => if a' = a ∧ k' = k then v else m a' k'
/-- a row is written -/
def m1 {α : Type} (m : Nat → Nat → α) (a : Nat) (f : Nat → α) : Nat → Nat → α := fun a' => if a' = a then f else m a'
theorem m2_s {α : Type} (m : Nat → Nat → α) (a k : Nat) (v : α) : m2 m a k v a k = v := if_pos ⟨rfl, rfl⟩
theorem m2_a {α : Type} (m : Nat → Nat → α) {a a' : Nat} (k k' : Nat) (v : α) (h : a' ≠ a) : m2 m a k v a' k' = m a' k' := if_neg fun q => h q.1
theorem m2_k {α : Type} (m : Nat → Nat → α) (a a' : Nat) {k k' : Nat} (v : α) (h : k' ≠ k) : m2 m a k v a' k' = m a' k' := if_neg fun q => h q.2
theorem m2_r {α : Type} (m : Nat → Nat → α) {a a' : Nat} (k : Nat) (v : α) (h : a' ≠ a) : m2 m a k v a' = m a' := funext fun k' => m2_a m k k' v h
theorem m1_s {α : Type} (m : Nat → Nat → α) (a : Nat) (f : Nat → α) : m1 m a f a = f := if_pos rfl
theorem m1_a {α : Type} (m : Nat → Nat → α) {a a' : Nat} (f : Nat → α) (h : a' ≠ a) : m1 m a f a' = m a' := if_neg h
theorem tm_o_get (m : Nat → Int32) : ∀ (ks : List (Option Nat)) (i k : Nat), (tm_o m i ks)[k]? = (ks[k]?).map fun q => match q with
    | none => .int (m (i + k))
    | some r => .ref r
  | [], _, _ => by simp [tm_o]
  | none :: ks, i, 0 => by simp [tm_o]
  | some r :: ks, i, 0 => by simp [tm_o]
  | none :: ks, i, k + 1 => by
    simp only [tm_o, List.getElem?_cons_succ]
    rw [tm_o_get m ks (i + 1) k, show i + 1 + k = i + (k + 1) by omega]
  | some r :: ks, i, k + 1 => by
    simp only [tm_o, List.getElem?_cons_succ]
    rw [tm_o_get m ks (i + 1) k, show i + 1 + k = i + (k + 1) by omega]
theorem tm_o_len (m : Nat → Int32) : ∀ (ks : List (Option Nat)) (i : Nat), (tm_o m i ks).length = ks.length
  | [], _ => rfl
  | none :: ks, i => by simp [tm_o, tm_o_len m ks (i + 1)]
  | some r :: ks, i => by simp [tm_o, tm_o_len m ks (i + 1)]
theorem tm_o_cong {m m' : Nat → Int32} : ∀ (ks : List (Option Nat)) (i : Nat), (∀ k, ks[k]? = some none → m (i + k) = m' (i + k)) → tm_o m i ks = tm_o m' i ks
  | [], _, _ => rfl
  | none :: ks, i, h => by
    have e : tm_o m (i + 1) ks = tm_o m' (i + 1) ks := tm_o_cong ks (i + 1) (fun k hk => by
      have h1 := h (k + 1) hk
      rw [show i + (k + 1) = i + 1 + k by omega] at h1
      exact h1)
    simp only [tm_o]
    rw [show m i = m' i from h 0 rfl, e]
  | some r :: ks, i, h => by
    have e : tm_o m (i + 1) ks = tm_o m' (i + 1) ks := tm_o_cong ks (i + 1) (fun k hk => by
      have h1 := h (k + 1) hk
      rw [show i + (k + 1) = i + 1 + k by omega] at h1
      exact h1)
    simp only [tm_o]
    rw [e]
theorem tm_o_set (m : Nat → Int32) (v : Int32) : ∀ (ks : List (Option Nat)) (i k : Nat), ks[k]? = some none → (tm_o m i ks).set k (.int v) = tm_o (upd m (i + k) v) i ks
  | [], _, _, h => by cases h
  | none :: ks, i, 0, _ => by
    have e : tm_o m (i + 1) ks = tm_o (upd m (i + 0) v) (i + 1) ks := tm_o_cong ks (i + 1) (fun k _ => (pk_un (by omega)).symm)
    simp only [tm_o, List.set_cons_zero]
    rw [show upd m (i + 0) v i = v from pk_us, e]
  | some r :: ks, i, 0, h => by cases h
  | none :: ks, i, k + 1, h => by
    simp only [tm_o, List.set_cons_succ]
    rw [tm_o_set m v ks (i + 1) k h, show i + 1 + k = i + (k + 1) by omega, show upd m (i + (k + 1)) v i = m i from pk_un (by omega)]
  | some r :: ks, i, k + 1, h => by
    simp only [tm_o, List.set_cons_succ]
    rw [tm_o_set m v ks (i + 1) k h, show i + 1 + k = i + (k + 1) by omega]
section TMH
variable {W : tm_W} {m : Nat → Nat → Int32} {l : Nat → Nat → Int64} {a k ci n t : Nat} {ks : List (Option Nat)}
theorem tm_at (W : tm_W) (m : Nat → Nat → Int32) (l : Nat → Nat → Int64) (a : Nat) : ia_c (tm W m l) a = tm_c (tm_sh W a) (m a) (l a) (tm_rf W a) := rfl
theorem tm_gI (hs : tm_sh W a = .inl (ci, ks)) (hk : ks[k]? = some none) : ia_gI (tm W m l) ci a k = some (m a k) := by
  simp only [ia_gI, tm_at, hs, tm_c, if_true, tm_o_get, hk, Option.map_some, Nat.zero_add]
theorem tm_gR {r : Nat} (hs : tm_sh W a = .inl (ci, ks)) (hk : ks[k]? = some (some r)) : ia_gR (tm W m l) ci a k = some r := by
  simp only [ia_gR, tm_at, hs, tm_c, if_true, tm_o_get, hk, Option.map_some]
theorem tm_ext {h : ia_H} (h1 : h.1 = W.1) (h2 : h.2.1 = W.2.1) (h3 : h.2.2.1 = W.2.2.1) (h4 : ∀ a, ia_c h a = tm_c (tm_sh W a) (m a) (l a) (tm_rf W a)) : h = tm W m l := by
  obtain ⟨a1, a2, a3, a4⟩ := h
  cases h1
  cases h2
  cases h3
  unfold tm
  rw [show a4 = _ from funext h4]
theorem tm_pI {v : Int32} (hs : tm_sh W a = .inl (ci, ks)) (hk : ks[k]? = some none) : ia_pF (tm W m l) ci a k (.int v) = some (tm W (m2 m a k v) l) := by
  have hlt : k < ks.length := (List.getElem?_eq_some_iff.mp hk).1
  simp only [ia_pF, tm_at, hs, tm_c]
  rw [if_pos ⟨trivial, by rw [tm_o_len]; exact hlt⟩, tm_o_set _ _ _ _ _ hk, Nat.zero_add]
  congr 1
  refine tm_ext rfl rfl rfl fun a' => ?_
  by_cases e : a' = a
  · subst e
    simp only [ia_c, ia_up, if_true]
    rw [hs]
    simp only [tm_c]
    congr 3
    funext k'
    simp [upd, m2]
  · simp only [ia_c, ia_up, if_neg e]
    rw [m2_r m k v e]
    rfl
theorem tm_ok {as : List Value} {q : Option Nat} (hs : tm_sh W a = .inl (ci, q :: ks)) (hc : ci < 100) : ia_ok (tm W m l) ci (.ref a :: as) = true := by
  have h1 : ¬ ci = 100 := by omega
  have h2 : ¬ ci = 101 := by omega
  simp only [ia_ok, if_neg h1, if_neg h2, tm_at, hs, tm_c]
  cases q <;> simp [tm_o]
theorem tm_ar (hs : tm_sh W a = .inr (t, n)) (h1 : ¬ t = 1) (h4 : ¬ t = 4) : ia_c (tm W m l) a = .inl (t, n, .inl (m a)) := by
  simp only [tm_at, hs, tm_c, if_neg h1, if_neg h4]
theorem tm_arL (hs : tm_sh W a = .inr (1, n)) : ia_c (tm W m l) a = .inl (1, n, .inr (.inl (l a))) := by
  simp only [tm_at, hs, tm_c, if_true]
theorem tm_arR (hs : tm_sh W a = .inr (4, n)) : ia_c (tm W m l) a = .inl (4, n, .inr (.inr (.inr (.inr (tm_rf W a))))) := by
  simp only [tm_at, hs, tm_c]
  rfl
theorem nI_no {j n : Nat} (hj : j < n) (hn : n < 2 ^ 31) : ¬ (nI j < 0 ∨ n ≤ (nI j).toNatClampNeg) := vp_in_nI hj hn
theorem tm_ld {j : Nat} (hs : tm_sh W a = .inr (t, n)) (h1 : ¬ t = 1) (h4 : ¬ t = 4) (hj : j < n) (hn : n < 2 ^ 31) : ia_ld (tm W m l) t a (nI j) = some (m a j) := by
  simp only [ia_ld, tm_ar hs h1 h4]
  rw [if_pos ⟨trivial, nI_no hj hn⟩, nI_clamp (by omega)]
theorem tm_st {j : Nat} {v : Int32} (hs : tm_sh W a = .inr (t, n)) (h1 : ¬ t = 1) (h4 : ¬ t = 4) (hj : j < n) (hn : n < 2 ^ 31) : ia_st (tm W m l) t a (nI j) v = some (tm W (m2 m a j v) l) := by
  simp only [ia_st, tm_ar hs h1 h4]
  rw [if_pos ⟨trivial, nI_no hj hn⟩, nI_clamp (by omega)]
  congr 1
  refine tm_ext rfl rfl rfl fun a' => ?_
  by_cases e : a' = a
  · subst e
    simp only [ia_c, ia_up, if_true]
    rw [hs]
    simp only [tm_c, if_neg h1, if_neg h4]
    rw [show upd (m a') j v = m2 m a' j v a' from funext fun k' => by simp [upd, m2]]
  · simp only [ia_c, ia_up, if_neg e]
    rw [m2_r m j v e]
    rfl
theorem tm_ldL {j : Nat} (hs : tm_sh W a = .inr (1, n)) (hj : j < n) (hn : n < 2 ^ 31) : ia_ldL (tm W m l) a (nI j) = some (l a j) := by
  simp only [ia_ldL, tm_arL hs]
  rw [if_pos ⟨trivial, nI_no hj hn⟩, nI_clamp (by omega)]
theorem tm_stL {j : Nat} {v : Int64} (hs : tm_sh W a = .inr (1, n)) (hj : j < n) (hn : n < 2 ^ 31) : ia_stL (tm W m l) a (nI j) v = some (tm W m (m2 l a j v)) := by
  simp only [ia_stL, tm_arL hs]
  rw [if_pos ⟨trivial, nI_no hj hn⟩, nI_clamp (by omega)]
  congr 1
  refine tm_ext rfl rfl rfl fun a' => ?_
  by_cases e : a' = a
  · subst e
    simp only [ia_c, ia_up, if_true]
    rw [hs]
    simp only [tm_c, if_true]
    rw [show vp_updL (l a') j v = m2 l a' j v a' from funext fun k' => by simp [vp_updL, m2]]
  · simp only [ia_c, ia_up, if_neg e]
    rw [m2_r l j v e]
    rfl
theorem tm_len (hs : tm_sh W a = .inr (t, n)) (ht : t < 5) : ia_len (tm W m l) a = some (nI n) := by
  simp only [ia_len, tm_at, hs, tm_c, if_pos ht]
  rfl
/-- a whole row is copied -/
theorem tm_cp {b : Nat} (ha : tm_sh W a = .inr (0, n)) (hb : tm_sh W b = .inr (0, n)) (hn : n < 2 ^ 31) : ia_cp (tm W m l) a b 0 0 (nI n) = some (tm W (m1 m b fun i => if i < n then m a i else m b i) l) := by
  simp only [ia_cp, tm_ar ha (by decide) (by decide), tm_ar hb (by decide) (by decide)]
  have h0 : ((0 : Int32).toNatClampNeg) = 0 := by decide
  rw [h0, nI_clamp hn, if_pos ⟨trivial, trivial, by decide, by decide, nI_pos hn, by omega, by omega⟩]
  congr 1
  refine tm_ext rfl rfl rfl fun a' => ?_
  by_cases e : a' = b
  · subst e
    simp only [ia_c, ia_up, if_true]
    rw [hb, m1_s]
    simp only [tm_c]
    congr 4
    funext k'
    simp [va_cpy]
  · simp only [ia_c, ia_up, if_neg e]
    rw [m1_a m _ e]
    rfl
/-- a new int row -/
def tm_nw (W : tm_W) (n : Nat) (s : tm_S) : tm_W := (W.1 + 1, W.2.1 + n, W.2.2.1, fun a => if a = W.1 then s else tm_sh W a, W.2.2.2.2)
theorem tm_new (n : Nat) (s : tm_S) (e : ia_E) (f : Nat → Int32) (g : Nat → Int64) (he : e = tm_c s f g (tm_rf W W.1)) : ia_new (tm W m l) n e = tm (tm_nw W n s) (m1 m W.1 f) (m1 l W.1 g) := by
  refine tm_ext rfl rfl rfl fun a' => ?_
  by_cases h : a' = W.1
  · subst h
    simp only [ia_c, ia_new, tm_nw, tm_sh, tm_rf, m1_s, if_true]
    exact if_pos rfl |>.trans he
  · have h' : ¬ a' = (tm W m l).1 := h
    simp only [ia_c, ia_new, tm_nw, tm_sh, tm_rf, if_neg h, if_neg h', m1_a m f h, m1_a l g h]
    rfl
end TMH

/-! OBJECTS in the making -/
theorem pF_up {h : ia_H} {a ci k : Nat} {vs : List Value} (v : Value) (hk : k < vs.length) : ia_pF (ia_up h a (.inr (ci, vs))) ci a k v = some (ia_up h a (.inr (ci, vs.set k v))) := by
  simp only [ia_pF, ia_c, ia_up, if_true]
  rw [if_pos ⟨trivial, hk⟩]
  congr 4
  funext x
  by_cases hx : x = a
  · rw [if_pos hx, if_pos hx]
  · rw [if_neg hx, if_neg hx, if_neg hx]
theorem new_up {h : ia_H} {a n : Nat} {e e' : ia_E} (ha : a ≠ h.1) : ia_new (ia_up h a e) n e' = ia_up (ia_new h n e') a e := by
  refine Prod.ext rfl (Prod.ext rfl (Prod.ext rfl (funext fun x => ?_)))
  show (if x = h.1 then e' else if x = a then e else h.2.2.2 x) = (if x = a then e else if x = h.1 then e' else h.2.2.2 x)
  by_cases hx : x = a
  · subst hx
    rw [if_neg ha, if_pos rfl, if_pos rfl]
  · rw [if_neg hx, if_neg hx]
theorem ct_step {h : ia_H} {a ci k n : Nat} {vs : List Value} {e : ia_E} {v : Value} (ha : a ≠ h.1) (hk : k < vs.length) : ia_pF (ia_new (ia_up h a (.inr (ci, vs))) n e) ci a k v = some (ia_up (ia_new h n e) a (.inr (ci, vs.set k v))) := by
  rw [new_up ha, pF_up v hk]
theorem up_1 (h : ia_H) (a : Nat) (e : ia_E) : (ia_up h a e).1 = h.1 := rfl
theorem new_1 (h : ia_H) (n : Nat) (e : ia_E) : (ia_new h n e).1 = h.1 + 1 := rfl
def tm_sS (W : tm_W) (a : Nat) (s : tm_S) : tm_W := (W.1, W.2.1, W.2.2.1, fun x => if x = a then s else tm_sh W x, W.2.2.2.2)
theorem up_tm {W : tm_W} {m : Nat → Nat → Int32} {l : Nat → Nat → Int64} {a ci : Nat} {vs : List Value} {ks : List (Option Nat)} (f : Nat → Int32) (hv : vs = tm_o f 0 ks) : ia_up (tm W m l) a (.inr (ci, vs)) = tm (tm_sS W a (.inl (ci, ks))) (m1 m a f) l := by
  refine tm_ext rfl rfl rfl fun x => ?_
  by_cases hx : x = a
  · subst hx
    simp only [ia_c, ia_up, tm_sS, tm_sh, if_true, m1_s, tm_c]
    rw [hv]
  · simp only [ia_c, ia_up, tm_sS, tm_sh, if_neg hx, m1_a m f hx]
    rfl
theorem new_as_up {W : tm_W} {m : Nat → Nat → Int32} {l : Nat → Nat → Int64} (n : Nat) (e : ia_E) : ia_new (tm W m l) n e = ia_up (tm (tm_nw W n (.inl (0, []))) m l) W.1 e := by
  refine Prod.ext rfl (Prod.ext rfl (Prod.ext rfl (funext fun x => ?_)))
  show (if x = W.1 then e else tm_c (tm_sh W x) (m x) (l x) (tm_rf W x)) = (if x = W.1 then e else tm_c (if x = W.1 then (.inl (0, [])) else tm_sh W x) (m x) (l x) (tm_rf W x))
  by_cases hx : x = W.1
  · rw [if_pos hx, if_pos hx]
  · rw [if_neg hx, if_neg hx, if_neg hx]
theorem m1_eL (l : Nat → Nat → Int64) (a : Nat) : m1 l a (l a) = l := by
  funext a'
  by_cases ha : a' = a
  · subst ha
    rw [m1_s]
  · rw [m1_a _ _ ha]
/-- a new row of ints -/
theorem new_ar {W : tm_W} {m : Nat → Nat → Int32} {l : Nat → Nat → Int64} (n k : Nat) : ia_new (tm W m l) n (.inl (0, k, ia_zero 0)) = tm (tm_nw W n (.inr (0, k))) (m1 m W.1 fun _ => 0) l := by
  have e := tm_new (W := W) (m := m) (l := l) n (.inr (0, k)) (.inl (0, k, ia_zero 0)) (fun _ => 0) (l W.1) rfl
  rw [m1_eL] at e
  exact e
theorem tm_2 {W W' : tm_W} {m m' : Nat → Nat → Int32} (l : Nat → Nat → Int64) (h1 : W = W') (h2 : m = m') : tm W m l = tm W' m' l := by rw [h1, h2]
/-- a new State: shapes and memory -/
abbrev kS (a : Nat) : List (Option Nat) := [none, none, none, none, some (a + 1), some (a + 2), some (a + 3), some (a + 4), some (a + 5), some (a + 6), some (a + 7)]
def stW (W : tm_W) : tm_W := (W.1 + 8, W.2.1 + 1115, W.2.2.1, fun x => if x = W.1 then .inl (5, kS W.1) else if x = W.1 + 1 then .inr (0, 12) else if x = W.1 + 2 then .inr (0, 48) else if x = W.1 + 3 then .inr (0, 16) else if x = W.1 + 4 then .inr (0, 36) else if x = W.1 + 5 then .inr (0, 12) else if x = W.1 + 6 then .inr (0, 800) else if x = W.1 + 7 then .inr (0, 180) else tm_sh W x, W.2.2.2.2)
def stM (m : Nat → Nat → Int32) (a : Nat) : Nat → Nat → Int32 := fun x k => if a ≤ x ∧ x < a + 8 then 0 else m x k
theorem stW_sh (W : tm_W) {x : Nat} (hx : x < W.1 ∨ W.1 + 8 ≤ x) : tm_sh (stW W) x = tm_sh W x := by
  show (if x = W.1 then _ else _) = _
  rw [if_neg (by omega), if_neg (by omega), if_neg (by omega), if_neg (by omega), if_neg (by omega), if_neg (by omega), if_neg (by omega), if_neg (by omega)]
theorem stW_St (W : tm_W) : isSt (stW W) W.1 := by
  refine ⟨if_pos rfl, ?_, ?_, ?_, ?_, ?_, ?_, ?_⟩
  · show (if W.1 + 1 = W.1 then _ else _) = _
    rw [if_neg (by omega), if_pos rfl]
  · show (if W.1 + 2 = W.1 then _ else _) = _
    rw [if_neg (by omega), if_neg (by omega), if_pos rfl]
  · show (if W.1 + 3 = W.1 then _ else _) = _
    rw [if_neg (by omega), if_neg (by omega), if_neg (by omega), if_pos rfl]
  · show (if W.1 + 4 = W.1 then _ else _) = _
    rw [if_neg (by omega), if_neg (by omega), if_neg (by omega), if_neg (by omega), if_pos rfl]
  · show (if W.1 + 5 = W.1 then _ else _) = _
    rw [if_neg (by omega), if_neg (by omega), if_neg (by omega), if_neg (by omega), if_neg (by omega), if_pos rfl]
  · show (if W.1 + 6 = W.1 then _ else _) = _
    rw [if_neg (by omega), if_neg (by omega), if_neg (by omega), if_neg (by omega), if_neg (by omega), if_neg (by omega), if_pos rfl]
  · show (if W.1 + 7 = W.1 then _ else _) = _
    rw [if_neg (by omega), if_neg (by omega), if_neg (by omega), if_neg (by omega), if_neg (by omega), if_neg (by omega), if_neg (by omega), if_pos rfl]
theorem c204 (W : tm_W) (m : Nat → Nat → Int32) (l : Nat → Nat → Int64) : cl 204 [.ref W.1] (ia_new (tm W m l) 11 (.inr (5, [.int 0, .int 0, .int 0, .int 0, .null, .null, .null, .null, .null, .null, .null]))) = some (none, tm (stW W) (stM m W.1) l) := by
  rw [q_204, new_as_up]
  have h1 : ∀ k, W.1 ≠ W.1 + (k + 1) := fun k => by omega
  rw [ct_step (h1 0) (by simp), Option.bind_some, new_ar, ct_step (h1 1) (by simp), Option.bind_some, new_ar, ct_step (h1 2) (by simp), Option.bind_some, new_ar, ct_step (h1 3) (by simp), Option.bind_some, new_ar, ct_step (h1 4) (by simp), Option.bind_some, new_ar, ct_step (h1 5) (by simp), Option.bind_some, new_ar, ct_step (h1 6) (by simp), Option.bind_some, new_ar]
  refine congrArg (fun h => some (none, h)) ((up_tm (fun _ => 0) (ks := kS W.1) rfl).trans ?_)
  have eW : ∀ W', W'.1 = W.1 + 8 → W'.2.1 = W.2.1 + 1115 → W'.2.2.1 = W.2.2.1 → W'.2.2.2.2 = W.2.2.2.2 → (∀ x, tm_sh W' x = tm_sh (stW W) x) → W' = stW W := fun W' a1 a2 a3 a4 a5 => Prod.ext a1 (Prod.ext a2 (Prod.ext a3 (Prod.ext (funext a5) a4)))
  have em : ∀ m' : Nat → Nat → Int32, (∀ x, m' x = stM m W.1 x) → m' = stM m W.1 := fun m' h => funext h
  refine tm_2 l (eW _ rfl (by show W.2.1 + 11 + 12 + 48 + 16 + 36 + 12 + 800 + 180 = W.2.1 + 1115; omega) rfl rfl ?_) (em _ ?_)
  case refine_2 =>
    intro x
    funext k
    unfold stM
    show (if x = W.1 then (fun _ => (0 : Int32)) else if x = W.1 + 7 then (fun _ => 0) else if x = W.1 + 6 then (fun _ => 0) else if x = W.1 + 5 then (fun _ => 0) else if x = W.1 + 4 then (fun _ => 0) else if x = W.1 + 3 then (fun _ => 0) else if x = W.1 + 2 then (fun _ => 0) else if x = W.1 + 1 then (fun _ => 0) else m x) k = _
    repeat' split
    all_goals first | rfl | omega
  case refine_1 =>
    intro x
    show (if x = W.1 then _ else if x = W.1 + 7 then _ else if x = W.1 + 6 then _ else if x = W.1 + 5 then _ else if x = W.1 + 4 then _ else if x = W.1 + 3 then _ else if x = W.1 + 2 then _ else if x = W.1 + 1 then _ else if x = W.1 then _ else tm_sh W x) = (if x = W.1 then _ else if x = W.1 + 1 then _ else if x = W.1 + 2 then _ else if x = W.1 + 3 then _ else if x = W.1 + 4 then _ else if x = W.1 + 5 then _ else if x = W.1 + 6 then _ else if x = W.1 + 7 then _ else tm_sh W x)
    repeat' split
    all_goals first | rfl | omega

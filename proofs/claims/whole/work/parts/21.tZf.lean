section TXZf
variable {W : tm_W} {m : Nat → Nat → Int32} {l : Nat → Nat → Int64} {f g : Nat → Int32}
/-! RULES: drafts -/
abbrev CV : Type := Nat × Nat × Nat × List (Nat × Nat)
def duC (d : Nat → Int32) (c : Nat) (v : CV) : Prop := d (12 * c) = nI v.1 ∧ d (12 * c + 1) = nI v.2.1 ∧ d (12 * c + 2) = nI v.2.2.1 ∧ d (12 * c + 3) = nI v.2.2.2.length ∧ ∀ (k : Nat) (e : Nat × Nat), v.2.2.2[k]? = some e → d (12 * c + (4 + 2 * k)) = nI e.1 ∧ d (12 * c + (4 + 2 * k + 1)) = nI e.2
def duR (q a b : Nat → Int32) (c : Nat) (v : CV) : Prop := q (4 * c) = nI v.1 ∧ q (4 * c + 1) = nI v.2.1 ∧ q (4 * c + 2) = nI v.2.2.1 ∧ q (4 * c + 3) = nI v.2.2.2.length ∧ ∀ (k : Nat) (e : Nat × Nat), v.2.2.2[k]? = some e → a (4 * c + k) = nI e.1 ∧ b (4 * c + k) = nI e.2
def okV (v : CV) : Prop := v.1 ≤ 1 ∧ (1 ≤ v.2.1 ∧ v.2.1 ≤ 9) ∧ v.2.2.1 ≤ 20 ∧ v.2.2.2.length ≤ 4 ∧ (∀ (k : Nat) (e : Nat × Nat), v.2.2.2[k]? = some e → (1 ≤ e.1 ∧ e.1 ≤ 20) ∧ (1 ≤ e.2 ∧ e.2 ≤ 9)) ∧ ∀ (k : Nat) (e e' : Nat × Nat), v.2.2.2[k]? = some e → v.2.2.2[k + 1]? = some e' → e.1 < e'.1
theorem iRul_V {d q a b : Nat → Int32} {c : Nat} {v : CV} (h : okV v) (h1 : duC d c v) (h2 : duR q a b c v) : iRul d q a b c := by
  obtain ⟨o1, o2, o3, o4, o5, o6⟩ := h
  obtain ⟨c1, c2, c3, c4, c5⟩ := h1
  obtain ⟨r1, r2, r3, r4, r5⟩ := h2
  refine ⟨⟨by rw [c1, r1], ?_⟩, ⟨v.2.1, o2.1, o2.2, c2, r2⟩, ⟨v.2.2.1, o3, c3, r3⟩, v.2.2.2.length, o4, c4, r4, fun k hk => ?_, fun k n n' hk e1 e2 n1 n2 => ?_⟩
  · rw [r1]
    have : v.1 = 0 ∨ v.1 = 1 := by omega
    rcases this with z | z
    · rw [z]
      exact Or.inl rfl
    · rw [z]
      exact Or.inr rfl
  · have e := List.getElem?_eq_getElem hk
    have b := o5 k _ e
    exact ⟨(v.2.2.2[k]).1, (v.2.2.2[k]).2, b.1.1, b.1.2, b.2.1, b.2.2, (c5 k _ e).1, (r5 k _ e).1, (c5 k _ e).2, (r5 k _ e).2⟩
  · have hk0 : k < v.2.2.2.length := by omega
    have x := List.getElem?_eq_getElem hk0
    have y := List.getElem?_eq_getElem hk
    have r := o6 k _ _ x y
    have b1 := (o5 k _ x).1
    have b2 := (o5 (k + 1) _ y).1
    have z1 := (nI_eq (by omega) (by omega)).mp (e1.symm.trans (r5 k _ x).1)
    have z2 := (nI_eq (by omega) (by omega)).mp (e2.symm.trans (r5 (k + 1) _ y).1)
    omega
def v0 : CV := (0, 1, 0, [])
theorem okV_0 : okV v0 := ⟨by decide, by decide, by decide, by decide, fun k e h => by simp [v0] at h, fun k e e' h => by simp [v0] at h⟩
theorem dok (C : isC W) (as : List Value) : ia_ok (tm W m l) 4 (.ref 11 :: as) = true := tm_ok C.t11 (by decide)
theorem c196d (C : isC W) {c k : Nat} (hc : c < 4) (hk : k < 12) (v : Int32) : cl 196 [.ref 11, .int (nI c), .int (nI k), .int v] (tm W m l) = some (none, tm W (m2 m 12 (12 * c + k) v) l) := by
  rw [q_196, tm_gR C.t11 rfl, Option.bind_some, ix12, tm_st C.t12 (by decide) (by decide) (by omega) (by decide), Option.bind_some]
theorem c195d (C : isC W) {c k : Nat} (hc : c < 4) (hk : k < 12) : cl 195 [.ref 11, .int (nI c), .int (nI k)] (tm W m l) = some (some (.int (m 12 (12 * c + k))), tm W m l) := by
  rw [q_195, tm_gR C.t11 rfl, Option.bind_some, ix12, tm_ld C.t12 (by decide) (by decide) (by omega) (by decide), Option.bind_some]
theorem d256d (C : isC W) : ∀ n i, i + n = 48 → dn 256 5 [some (.ref 12), some (.int 0), some (.int (nI i)), some (.int (nI 48))] [] (tm W (m1 m 12 fun k => if k < i then 0 else m 12 k) l) = some (none, tm W (m1 m 12 fun k => if k < 48 then 0 else m 12 k) l)
  | 0, i, h => by
    obtain rfl : i = 48 := by omega
    rw [q_256_5, if_pos (by decide)]
  | n + 1, i, h => by
    have ih := d256d C n (i + 1) (by omega)
    rw [q_256_5, if_neg (nI_ge (show i < 48 by omega) (by decide)), tm_st C.t12 (by decide) (by decide) (show i < 48 by omega) (by decide), Option.bind_some, nI_1, m1_w]
    have e : upd (fun k => if k < i then 0 else m 12 k) i 0 = fun k => if k < i + 1 then 0 else m 12 k := by
      funext k
      by_cases z : k = i
      · subst z
        rw [pk_us, if_pos (by omega)]
      · rw [pk_un z]
        by_cases y : k < i
        · rw [if_pos y, if_pos (by omega)]
        · rw [if_neg y, if_neg (by omega)]
    rw [e]
    exact ih
theorem d193 (C : isC W) : ∀ (n c : Nat) (m : Nat → Nat → Int32), c + n = 4 → (∀ c', c' < c → duC (m 12) c' v0) → (∀ k, 12 * c ≤ k → k < 48 → m 12 k = 0) → ∃ m', dn 193 6 [some (.ref 11), some (.int (nI c))] [] (tm W m l) = some (none, tm W m' l) ∧ (∀ x, x ≠ 12 → m' x = m x) ∧ ∀ c', c' < 4 → duC (m' 12) c' v0
  | 0, c, m, h, hd, hz => by
    obtain rfl : c = 4 := by omega
    exact ⟨m, by rw [q_193_6, if_pos (by decide)], fun _ _ => rfl, hd⟩
  | n + 1, c, m, h, hd, hz => by
    have ec : cl 196 [.ref 11, .int (nI c), .int 1, .int 1] (tm W m l) = some (none, tm W (m2 m 12 (12 * c + 1) 1) l) := c196d (k := 1) C (by omega) (by decide) 1
    obtain ⟨m', e1, e2, e3⟩ := d193 C n (c + 1) (m2 m 12 (12 * c + 1) 1) (by omega) (fun c' hc' => by
      by_cases z : c' = c
      · subst z
        exact ⟨by rw [m2_k _ _ _ _ (by omega)]; exact hz _ (by omega) (by omega), by rw [m2_s]; rfl, by rw [m2_k _ _ _ _ (by omega)]; exact hz _ (by omega) (by omega), by rw [m2_k _ _ _ _ (by omega)]; exact hz _ (by omega) (by omega), fun k e he => by simp [v0] at he⟩
      · obtain ⟨a1, a2, a3, a4, -⟩ := hd c' (by omega)
        exact ⟨by rw [m2_k _ _ _ _ (by omega)]; exact a1, by rw [m2_k _ _ _ _ (by omega)]; exact a2, by rw [m2_k _ _ _ _ (by omega)]; exact a3, by rw [m2_k _ _ _ _ (by omega)]; exact a4, fun k e he => by simp [v0] at he⟩) (fun k k1 k2 => by
      rw [m2_k _ _ _ _ (by omega)]
      exact hz k (by omega) k2)
    refine ⟨m', ?_, fun x hx => by rw [e2 x hx, m2_r _ _ _ hx], e3⟩
    rw [q_193_6, if_neg (show ¬ ((4 : Int32) ≤ nI c) from nI_ge (b := 4) (by omega) (by decide)), if_pos (dok C _), ec, kxv_s, nI_1]
    exact e1
theorem c193 (C : isC W) : ∃ m', cl 193 [.ref 11] (tm W m l) = some (none, tm W m' l) ∧ (∀ x, x ≠ 12 → m' x = m x) ∧ ∀ c', c' < 4 → duC (m' 12) c' v0 := by
  obtain ⟨m', e1, e2, e3⟩ := d193 (l := l) C 4 0 (m1 m 12 fun k => if k < 48 then 0 else m 12 k) (by omega) (fun c' h => by omega) (fun k _ hk => by rw [m1_s]; exact if_pos hk)
  have d := d256d (m := m) (l := l) C 48 0 (by omega)
  rw [show (fun k => if k < 0 then 0 else m 12 k) = m 12 from funext fun k => if_neg (by omega), m1_e] at d
  refine ⟨m', ?_, fun x hx => by rw [e2 x hx, m1_a _ _ hx], e3⟩
  rw [q_193, tm_gR C.t11 rfl, Option.bind_some, q_256, tm_len C.t12 (by decide), Option.bind_some]
  rw [show dn 256 5 [some (.ref 12), some (.int 0), some (.int 0), some (.int (nI 48))] [] (tm W m l) = _ from d, kxv_s]
  exact e1
end TXZf

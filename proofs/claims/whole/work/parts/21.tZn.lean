section TXZn
/-! RULES: both readings of the steps -/
theorem stp_SR (sg : Nat → Nat) (n : Nat) : ∀ (k sep last : Nat) (s : RS) (xs : List (Nat × Nat)), stpS sg n (k + 1) sep last s xs = stpR sg n (k + 1) sep last s xs ∨ ((stpS sg n (k + 1) sep last s xs).1.2 = none ∧ (stpS sg n (k + 1) sep last s xs).1.1 < n ∧ sg (stpS sg n (k + 1) sep last s xs).1.1 = 44 ∧ (stpR sg n (k + 1) sep last s xs).1 = ((stpS sg n (k + 1) sep last s xs).1.1, some (stpS sg n (k + 1) sep last s xs).1.1))
  | k, sep, last, s, xs => by
    rw [stpS, stpR]
    by_cases hz : (stp sg n sep last s).1.2 = none
    · rw [if_pos hz, if_pos hz]
      by_cases hg : (stp sg n sep last s).1.1 < n ∧ sg (stp sg n sep last s).1.1 = 44
      · rw [if_pos hg, if_pos hg]
        cases k with
        | zero => exact Or.inr ⟨hz, hg.1, hg.2, rfl⟩
        | succ k => exact stp_SR sg n k 44 _ _ _
      · rw [if_neg hg, if_neg hg]
        exact Or.inl rfl
    · rw [if_neg hz, if_neg hz]
      exact Or.inl rfl
/-- a list of steps that is well formed, its last CAUTIONS -/
def okX (xs : List (Nat × Nat)) (last : Nat) : Prop := (∀ (k : Nat) (e : Nat × Nat), xs[k]? = some e → (1 ≤ e.1 ∧ e.1 ≤ 20) ∧ (1 ≤ e.2 ∧ e.2 ≤ 9)) ∧ (∀ (k : Nat) (e e' : Nat × Nat), xs[k]? = some e → xs[k + 1]? = some e' → e.1 < e'.1) ∧ ∀ (k : Nat) (e : Nat × Nat), xs[k]? = some e → k + 1 = xs.length → e.1 ≤ last
theorem okX_add {xs : List (Nat × Nat)} {last : Nat} {e : Nat × Nat} (h : okX xs last) (h1 : last + 1 ≤ e.1 ∧ e.1 ≤ 20) (h2 : 1 ≤ e.2 ∧ e.2 ≤ 9) : okX (xs ++ [e]) e.1 := by
  obtain ⟨a1, a2, a3⟩ := h
  have at1 : ∀ (k : Nat) (e' : Nat × Nat), (xs ++ [e])[k]? = some e' → (k < xs.length ∧ xs[k]? = some e') ∨ (k = xs.length ∧ e' = e) := fun k e' he => by
    rcases Nat.lt_trichotomy k xs.length with z | z | z
    · rw [List.getElem?_append_left z] at he
      exact Or.inl ⟨z, he⟩
    · subst z
      have : e = e' := by simpa using he
      exact Or.inr ⟨rfl, this.symm⟩
    · rw [List.getElem?_eq_none (by simp; omega)] at he
      cases he
  refine ⟨fun k e' he => ?_, fun k x y hx hy => ?_, fun k e' he hk => ?_⟩
  · rcases at1 k e' he with ⟨_, q⟩ | ⟨_, q⟩
    · exact a1 k e' q
    · subst q
      exact ⟨⟨by omega, h1.2⟩, h2⟩
  · rcases at1 (k + 1) y hy with ⟨q1, q⟩ | ⟨q1, q⟩
    · rcases at1 k x hx with ⟨_, w⟩ | ⟨w1, _⟩
      · exact a2 k x y w q
      · omega
    · subst q
      rcases at1 k x hx with ⟨_, w⟩ | ⟨w1, _⟩
      · have := a3 k x w (by omega)
        omega
      · omega
  · rcases at1 k e' he with ⟨q1, _⟩ | ⟨_, q⟩
    · rw [List.length_append] at hk
      simp at hk
      omega
    · subst q
      exact Nat.le_refl _
theorem stpS_ok {sg : Nat → Nat} {n : Nat} : ∀ (k sep last : Nat) (s : RS) (xs : List (Nat × Nat)), okX xs last → (stpS sg n k sep last s xs).1.2 = none → (∃ last', okX (stpS sg n k sep last s xs).2 last') ∧ (stpS sg n k sep last s xs).2.length ≤ xs.length + k
  | 0, sep, last, s, xs, h, _ => ⟨⟨last, h⟩, Nat.le_refl _⟩
  | k + 1, sep, last, s, xs, h, hq => by
    rw [stpS] at hq ⊢
    by_cases hz : (stp sg n sep last s).1.2 = none
    · obtain ⟨p1, p2, p3, p4, p5, p6⟩ := stp_s hz
      have h' := okX_add (e := (stp sg n sep last s).2) h p5 p6
      rw [if_pos hz] at hq ⊢
      by_cases hg : (stp sg n sep last s).1.1 < n ∧ sg (stp sg n sep last s).1.1 = 44
      · rw [if_pos hg] at hq ⊢
        obtain ⟨r1, r2⟩ := stpS_ok k 44 _ _ _ h' hq
        rw [List.length_append] at r2
        exact ⟨r1, by simp at r2; omega⟩
      · rw [if_neg hg]
        exact ⟨⟨_, h'⟩, by show (xs ++ [(stp sg n sep last s).2]).length ≤ xs.length + (k + 1); rw [List.length_append]; show xs.length + 1 ≤ _; omega⟩
    · rw [if_neg hz] at hq
      exact absurd hq hz
theorem cupP_ok {sg : Nat → Nat} {n : Nat} {s : RS} (h : (cupP sg n s).1.2 = none) : okV (cupP sg n s).2 := by
  unfold cupP at h ⊢
  by_cases hz : (cuZ sg n s).1.2 = none
  · obtain ⟨p1, p2, p3, p4, p5, p6, p7⟩ := cuZ_s hz
    have hl : cuL sg n s ≤ 1 := by
      unfold cuL
      split <;> omega
    rw [if_pos hz] at h ⊢
    by_cases hg : (cuZ sg n s).1.1 < n ∧ sg (cuZ sg n s).1.1 = 58
    · rw [if_pos hg] at h ⊢
      obtain ⟨⟨last', r1, r2, r3⟩, r4⟩ := stpS_ok (sg := sg) (n := n) 4 58 0 (cuZ sg n s).1 [] ⟨fun k e he => by simp at he, fun k e e' he => by simp at he, fun k e he => by simp at he⟩ h
      exact ⟨hl, p6, p7, by simpa using r4, r1, r2⟩
    · rw [if_neg hg]
      exact ⟨hl, p6, p7, by show 0 ≤ 4; omega, fun k e he => by simp at he, fun k e e' he => by simp at he⟩
  · rw [if_neg hz]
    exact okV_0
end TXZn

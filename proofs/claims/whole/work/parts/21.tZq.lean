section TXZq
variable {W : tm_W} {m : Nat → Nat → Int32} {l : Nat → Nat → Int64} {f g : Nat → Int32}
/-! RULES: the text of all cups -/
theorem duC_fr {d d' : Nat → Int32} {c : Nat} {v : CV} (h : duC d c v) (hv : okV v) (e : ∀ i, 12 * c ≤ i → i < 12 * c + 12 → d' i = d i) : duC d' c v := by
  obtain ⟨h1, h2, h3, h4, h5⟩ := h
  have hl := hv.2.2.2.1
  refine ⟨by rw [e _ (by omega) (by omega)]; exact h1, by rw [e _ (by omega) (by omega)]; exact h2, by rw [e _ (by omega) (by omega)]; exact h3, by rw [e _ (by omega) (by omega)]; exact h4, fun k x hx => ?_⟩
  have hk : k < v.2.2.2.length := by
    rcases Nat.lt_or_ge k v.2.2.2.length with z | z
    · exact z
    · rw [List.getElem?_eq_none z] at hx
      cases hx
  obtain ⟨y1, y2⟩ := h5 k x hx
  exact ⟨by rw [e _ (by omega) (by omega)]; exact y1, by rw [e _ (by omega) (by omega)]; exact y2⟩
theorem duR_fr {q a b q' a' b' : Nat → Int32} {c : Nat} {v : CV} (h : duR q a b c v) (hv : okV v) (e : ∀ i, 4 * c ≤ i → i < 4 * c + 4 → q' i = q i ∧ a' i = a i ∧ b' i = b i) : duR q' a' b' c v := by
  obtain ⟨h1, h2, h3, h4, h5⟩ := h
  have hl := hv.2.2.2.1
  refine ⟨by rw [(e _ (by omega) (by omega)).1]; exact h1, by rw [(e _ (by omega) (by omega)).1]; exact h2, by rw [(e _ (by omega) (by omega)).1]; exact h3, by rw [(e _ (by omega) (by omega)).1]; exact h4, fun k x hx => ?_⟩
  have hk : k < v.2.2.2.length := by
    rcases Nat.lt_or_ge k v.2.2.2.length with z | z
    · exact z
    · rw [List.getElem?_eq_none z] at hx
      cases hx
  obtain ⟨y1, y2⟩ := h5 k x hx
  exact ⟨by rw [(e _ (by omega) (by omega)).2.1]; exact y1, by rw [(e _ (by omega) (by omega)).2.2]; exact y2⟩
theorem stpS_okS {sg : Nat → Nat} {n : Nat} (hn : n ≤ 200) : ∀ (k sep last : Nat) (s : RS) (xs : List (Nat × Nat)), okS n s → okS n (stpS sg n k sep last s xs).1
  | 0, sep, last, s, xs, h => h
  | k + 1, sep, last, s, xs, h => by
    rw [stpS]
    split
    · split
      · exact stpS_okS hn k 44 _ _ _ (stp_ok hn h)
      · exact stp_ok hn h
    · exact stp_ok hn h
theorem stpS_pos {sg : Nat → Nat} {n : Nat} : ∀ (k sep last : Nat) (s : RS) (xs : List (Nat × Nat)), (stpS sg n k sep last s xs).1.2 = none → s.1 ≤ (stpS sg n k sep last s xs).1.1
  | 0, sep, last, s, xs, h => Nat.le_refl _
  | k + 1, sep, last, s, xs, h => by
    rw [stpS] at h ⊢
    by_cases hz : (stp sg n sep last s).1.2 = none
    · obtain ⟨p1, p2, -⟩ := stp_s hz
      rw [if_pos hz] at h ⊢
      by_cases hg : (stp sg n sep last s).1.1 < n ∧ sg (stp sg n sep last s).1.1 = 44
      · rw [if_pos hg] at h ⊢
        have := stpS_pos k 44 _ _ _ h
        omega
      · rw [if_neg hg]
        show s.1 ≤ (stp sg n sep last s).1.1
        omega
    · rw [if_neg hz] at h
      exact absurd h hz
theorem cupP_okS {sg : Nat → Nat} {n : Nat} (hn : n ≤ 200) {s : RS} (h : okS n s) : okS n (cupP sg n s).1 := by
  unfold cupP
  split
  · split
    · exact stpS_okS hn _ _ _ _ _ (cuZ_ok hn h)
    · exact cuZ_ok hn h
  · exact cuZ_ok hn h
theorem cupP_pos {sg : Nat → Nat} {n : Nat} {s : RS} (h : (cupP sg n s).1.2 = none) : s.2 = none ∧ s.1 + 4 ≤ (cupP sg n s).1.1 := by
  unfold cupP at h ⊢
  by_cases hz : (cuZ sg n s).1.2 = none
  · obtain ⟨p1, p2, -⟩ := cuZ_s hz
    rw [if_pos hz] at h ⊢
    by_cases hg : (cuZ sg n s).1.1 < n ∧ sg (cuZ sg n s).1.1 = 58
    · rw [if_pos hg] at h ⊢
      have := stpS_pos 4 58 0 (cuZ sg n s).1 [] h
      exact ⟨p1, by show s.1 + 4 ≤ (stpS sg n 4 58 0 (cuZ sg n s).1 []).1.1; omega⟩
    · rw [if_neg hg]
      exact ⟨p1, p2⟩
  · rw [if_neg hz] at h
    exact absurd h hz
theorem cup_PR (sg : Nat → Nat) (n : Nat) (s : RS) : cupP sg n s = cupR sg n s ∨ ((cupP sg n s).1.2 = none ∧ (cupP sg n s).1.1 < n ∧ sg (cupP sg n s).1.1 = 44 ∧ (cupR sg n s).1 = ((cupP sg n s).1.1, some (cupP sg n s).1.1)) := by
  unfold cupP cupR
  by_cases hz : (cuZ sg n s).1.2 = none
  · rw [if_pos hz, if_pos hz]
    by_cases hg : (cuZ sg n s).1.1 < n ∧ sg (cuZ sg n s).1.1 = 58
    · rw [if_pos hg, if_pos hg]
      rcases stp_SR sg n 3 58 0 (cuZ sg n s).1 [] with q | q
      · exact Or.inl (by rw [show stpS sg n 4 58 0 (cuZ sg n s).1 [] = stpR sg n 4 58 0 (cuZ sg n s).1 [] from q])
      · exact Or.inr q
    · rw [if_neg hg, if_neg hg]
      exact Or.inl rfl
  · rw [if_neg hz, if_neg hz]
    exact Or.inl rfl
def vSet (V : Nat → CV) (c : Nat) (v : CV) : Nat → CV := fun d => if d = c then v else V d
/-- cups one behind the other, from a place on -/
def ruP (sg : Nat → Nat) (n : Nat) : Nat → Nat → Nat → (Nat → CV) → RS × Nat × (Nat → CV)
  | 0, a, k, V => ((a, none), k, V)
  | i + 1, a, k, V =>
    if a < n ∧ 48 ≤ sg a ∧ sg a ≤ 51 then
      (if k.testBit (sg a - 48) = true then ((a + 1, some a), k, V)
      else (if (cupP sg n (a + 1, none)).1.2 = none then
        (if (go sg n 59 (cupP sg n (a + 1, none)).1).2 = true then ruP sg n i (go sg n 59 (cupP sg n (a + 1, none)).1).1.1 (k ||| 2 ^ (sg a - 48)) (vSet V (sg a - 48) (cupP sg n (a + 1, none)).2)
        else ((go sg n 59 (cupP sg n (a + 1, none)).1).1, k ||| 2 ^ (sg a - 48), vSet V (sg a - 48) (cupP sg n (a + 1, none)).2))
      else ((cupP sg n (a + 1, none)).1, k, V)))
    else ((a, some a), k, V)
/-- what stands of the cups -/
def okW (k : Nat) (V : Nat → CV) : Prop := ∀ c, c < 4 → okV (V c) ∧ (k.testBit c = false → V c = v0)
theorem okW_set {k c : Nat} {V : Nat → CV} (h : okW k V) (hk : k < 16) (hc : c < 4) {v : CV} (hv : okV v) : okW (k ||| 2 ^ c) (vSet V c v) := fun d hd => by
  unfold vSet
  by_cases z : d = c
  · rw [if_pos z]
    exact ⟨hv, fun q => by rw [mb4 k hk c hc d hd, decide_eq_true z, Bool.or_true] at q; cases q⟩
  · rw [if_neg z]
    obtain ⟨h1, h2⟩ := h d hd
    exact ⟨h1, fun q => h2 (by rw [mb4 k hk c hc d hd, decide_eq_false z, Bool.or_false] at q; exact q)⟩
theorem ruP_ok {sg : Nat → Nat} {n : Nat} (hn : n ≤ 200) : ∀ (i a k : Nat) (V : Nat → CV), a ≤ n → k < 16 → okW k V → okS n (ruP sg n i a k V).1 ∧ (ruP sg n i a k V).2.1 < 16 ∧ okW (ruP sg n i a k V).2.1 (ruP sg n i a k V).2.2
  | 0, a, k, V, ha, hk, h => ⟨⟨ha, fun p hp => by cases hp⟩, hk, h⟩
  | i + 1, a, k, V, ha, hk, h => by
    rw [ruP]
    by_cases hD : a < n ∧ 48 ≤ sg a ∧ sg a ≤ 51
    · rw [if_pos hD]
      by_cases hb : k.testBit (sg a - 48) = true
      · rw [if_pos hb]
        exact ⟨⟨by show a + 1 ≤ n; omega, fun p hp => by cases hp; omega⟩, hk, h⟩
      · rw [if_neg hb]
        have ok1 : okS n (cupP sg n (a + 1, none)).1 := cupP_okS hn ⟨by show a + 1 ≤ n; omega, fun p hp => by cases hp⟩
        by_cases hz : (cupP sg n (a + 1, none)).1.2 = none
        · rw [if_pos hz]
          have h' := okW_set h hk (show sg a - 48 < 4 by omega) (cupP_ok hz)
          have k' := (mb3 k hk (sg a - 48) (by omega)).2
          have ok2 := go_ok (sg := sg) (c := 59) hn ok1
          by_cases hg : (go sg n 59 (cupP sg n (a + 1, none)).1).2 = true
          · rw [if_pos hg]
            exact ruP_ok hn i _ _ _ ok2.1 k' h'
          · rw [if_neg hg]
            exact ⟨ok2, k', h'⟩
        · rw [if_neg hz]
          exact ⟨ok1, hk, h⟩
    · rw [if_neg hD]
      exact ⟨⟨ha, fun p hp => by cases hp; omega⟩, hk, h⟩
end TXZq

section TXZr
variable {W : tm_W} {m : Nat → Nat → Int32} {l : Nat → Nat → Int64} {f g : Nat → Int32}
/-! RULES: the component's loop -/
theorem c255_59 (C : isC W) {n : Nat} {sg : Nat → Nat} (T : txT m n sg) {s : RS} (hs : okS n s) : cl 255 [.ref 1, .int 59] (tm W (txC m s) l) = some (some (.int (if (go sg n 59 s).2 = true then 1 else 0)), tm W (txC m (go sg n 59 s).1) l) := c255 C T (c := 59) (by decide) hs
theorem e59 (C : isC W) {k : Nat} {x3 : Int32} {l4 : Option Value} {h : ia_H} : dn 59 11 [some (.ref 0), some (.int 0), some (.int (nI k)), some (.int x3), l4] [] h = some (some (.int (swr (nI k))), h) := by
  rw [q_59_11, c257, kxi_s, if_pos rfl, ite_self]
/-- a text that is not sound ends the loop -/
theorem f59 (C : isC W) {n a p k : Nat} {sg : Nat → Nat} (T : txT m n sg) (ha : a ≤ n) (hp : p ≤ 200) (x3 x4 : Int32) : dn 59 37 [some (.ref 0), some (.int 1), some (.int (nI k)), some (.int x3), some (.int x4)] [] (tm W (txC m (a, some p)) l) = some (some (.int (swr (nI k))), tm W (txC m (a, some p)) l) := by
  have e := c255_59 (l := l) C T (s := (a, some p)) ⟨ha, fun q h => by cases h; exact hp⟩
  rw [q_59_37, if_pos (xok C _), c60f C T ha hp, kxv_s, xR0 C, Option.bind_some, if_pos (t_ok C _), c246f C a hp, kxi_s, if_pos rfl, xR0 C, Option.bind_some, if_pos (t_ok C _), e, kxi_s]
  exact e59 C
theorem d59 (C : isC W) {n : Nat} {sg : Nat → Nat} : ∀ (i a k j : Nat) (V : Nat → CV) (m : Nat → Nat → Int32) (l4 : Option Value), txT m n sg → a ≤ n → k < 16 → okW k V → (∀ c, c < 4 → duC (m 12) c (V c)) → n < a + i → 2 * j ≤ a → ∃ m', dn 59 11 [some (.ref 0), some (.int 1), some (.int (nI k)), some (.int (nI j)), l4] [] (tm W (txC m (a, none)) l) = some (some (.int (swr (nI (ruP sg n i a k V).2.1))), tm W (txC m' (ruP sg n i a k V).1) l) ∧ (∀ x, x ≠ 12 → m' x = m x) ∧ ((ruP sg n i a k V).1.2 = none → ∀ c, c < 4 → duC (m' 12) c ((ruP sg n i a k V).2.2 c))
  | 0, a, k, j, V, m, l4, T, ha, hk, hV, hd, hi, hj => by omega
  | i + 1, a, k, j, V, m, l4, T, ha, hk, hV, hd, hi, hj => by
    have hn := T.2.1
    have hs : okS n (a, none) := ⟨ha, fun p hp => by cases hp⟩
    have e1 := c253_03 (l := l) C T hs
    rw [q_59_11, if_neg (show ¬ ((200 : Int32) ≤ nI j) from nI_ge (b := 200) (by omega) (by decide)), if_neg (by decide), xR0 C, Option.bind_some, if_pos (t_ok C _), ruP]
    by_cases hD : a < n ∧ 48 ≤ sg a ∧ sg a ≤ 51
    · have hg : dg sg n 0 3 (a, none) = ((a + 1, none), some (sg a - 48)) := if_pos (show a < n ∧ 48 + 0 ≤ sg a ∧ sg a ≤ 48 + 3 by omega)
      have hc : sg a - 48 < 4 := by omega
      have e1' : cl 253 [.ref 1, .int 0, .int 3] (tm W (txC m (a, none)) l) = some (some (.int (nI (sg a - 48))), tm W (txC m (a + 1, none)) l) := by
        rw [hg] at e1
        exact e1
      rw [e1', kxi_s, if_pos hD, if_neg (nI_ne_m1 (show sg a - 48 < 2 ^ 31 by omega)), q_55, q_54, kxi_s]
      by_cases hb : k.testBit (sg a - 48) = true
      · have b1 : ¬ (nI k &&& (1 <<< (nI (sg a - 48) &&& 31))) = 0 := fun q => by
          have := (mb2 k hk _ hc).mp q
          rw [hb] at this
          cases this
        rw [if_neg b1, if_pos hb, kxi_s, if_neg (by decide), xR0 C, Option.bind_some, Option.bind_some, show ia_gI (tm W (txC m (a + 1, none)) l) 1 1 2 = some (nI (a + 1)) from t_2 C, Option.bind_some]
        have e2 : nI (a + 1) - 1 = nI a := pk_sub (b := 1) (a := a + 1) (by omega)
        rw [if_pos (t_ok C _), e2, c249s C, kxv_s, f59 C T (by omega) (by omega)]
        exact ⟨m, rfl, fun _ _ => rfl, fun q => by cases q⟩
      · have b0 : k.testBit (sg a - 48) = false := by simpa using hb
        rw [if_pos ((mb2 k hk _ hc).mpr b0), if_neg hb, kxi_s, if_pos rfl, q_59_37, if_pos (xok C _)]
        have hs1 : okS n (a + 1, none) := ⟨by show a + 1 ≤ n; omega, fun p hp => by cases hp⟩
        obtain ⟨m1', r1, r2, r3, r4⟩ := c60 (l := l) C hc T hs1 (by rw [← (hV _ hc).2 b0]; exact hd _ hc)
        have ok1 : okS n (cupP sg n (a + 1, none)).1 := cupP_okS hn hs1
        have T1 : txT m1' n sg := txT_of T (by rw [r2 1 (by decide)]) (r2 2 (by decide))
        have eg := c255_59 (l := l) C T1 ok1
        rw [r1, kxv_s, xR0 C, Option.bind_some, if_pos (t_ok C _)]
        by_cases hz : (cupP sg n (a + 1, none)).1.2 = none
        · have hd1 : ∀ c, c < 4 → duC (m1' 12) c (vSet V (sg a - 48) (cupP sg n (a + 1, none)).2 c) := fun c h4 => by
            unfold vSet
            by_cases z : c = sg a - 48
            · rw [if_pos z, z]
              exact r4 hz
            · rw [if_neg z]
              exact duC_fr (hd c h4) (hV c h4).1 fun x x1 x2 => r3 x (by omega)
          have hp := cupP_pos hz
          have hp2 : a + 1 + 4 ≤ (cupP sg n (a + 1, none)).1.1 := hp.2
          have hV1 := okW_set hV hk hc (cupP_ok hz)
          have k3 := mb3 k hk _ hc
          rw [c246e C hz, kxi_s, if_neg (by decide), q_54, kxi_s, xR0 C, Option.bind_some, if_pos (t_ok C _), eg, kxi_s, k3.1, if_pos hz, nI_1]
          by_cases hgo : (go sg n 59 (cupP sg n (a + 1, none)).1).2 = true
          · obtain ⟨g1, g2, g3, g4⟩ := go_t hgo
            rw [if_pos hgo, if_pos hgo, g2]
            obtain ⟨m', q1, q2, q3⟩ := d59 C i ((cupP sg n (a + 1, none)).1.1 + 1) (k ||| 2 ^ (sg a - 48)) (j + 1) (vSet V (sg a - 48) (cupP sg n (a + 1, none)).2) m1' (some (.int (nI (sg a - 48)))) T1 (by omega) k3.2 hV1 hd1 (by omega) (by omega)
            exact ⟨m', q1, fun x hx => by rw [q2 x hx, r2 x hx], q3⟩
          · rw [if_neg hgo, if_neg hgo, e59 C]
            exact ⟨m1', rfl, r2, fun _ => hd1⟩
        · rw [if_neg hz]
          generalize hse : (cupP sg n (a + 1, none)).1 = se at *
          obtain ⟨b, q⟩ := se
          cases q with
          | none => exact absurd rfl hz
          | some q =>
            have hq : q ≤ 200 := ok1.2 q rfl
            rw [c246f C b hq, kxi_s, if_pos rfl, xR0 C, Option.bind_some, if_pos (t_ok C _), eg, kxi_s]
            refine ⟨m1', ?_, r2, fun z => by cases z⟩
            exact e59 C
    · have hg : dg sg n 0 3 (a, none) = ((a, some a), none) := if_neg (show ¬ (a < n ∧ 48 + 0 ≤ sg a ∧ sg a ≤ 48 + 3) by omega)
      have e1' : cl 253 [.ref 1, .int 0, .int 3] (tm W (txC m (a, none)) l) = some (some (.int (-1)), tm W (txC m (a, some a)) l) := by
        rw [hg] at e1
        exact e1
      rw [e1', kxi_s, if_neg hD, if_pos rfl]
      refine ⟨m, ?_, fun _ _ => rfl, fun q => by cases q⟩
      exact f59 C T ha (by omega) _ _
end TXZr

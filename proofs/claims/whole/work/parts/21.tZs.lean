section TXZs
variable {W : tm_W} {m : Nat → Nat → Int32} {l : Nat → Nat → Int64} {f g : Nat → Int32}
/-! RULES: the reference's loop -/
theorem pk59 {sg : Nat → Nat} {n a : Nat} (h3 : ∀ i, i < n → sg i < 256) : (enc (pke sg n a) = (59 : Int32)) = (a < n ∧ sg a = 59) := pke_c (c := 59) h3 (by decide)
/-- one cup, by the reference -/
theorem c107s (M : isM W) {n a k : Nat} {sg : Nat → Nat} (T : txU m n sg) (ha : a ≤ n) (hk : k < 16) :
    (¬ (a < n ∧ 48 ≤ sg a ∧ sg a ≤ 51) → cl 107 [.ref 39, .int (nI k)] (tm W (txR m (a, none)) l) = some (some (.int (nI k)), tm W (txR m (a, some a)) l)) ∧
    ((a < n ∧ 48 ≤ sg a ∧ sg a ≤ 51) → k.testBit (sg a - 48) = true → cl 107 [.ref 39, .int (nI k)] (tm W (txR m (a, none)) l) = some (some (.int (nI k)), tm W (txR m (a + 1, some a)) l)) ∧
    ((a < n ∧ 48 ≤ sg a ∧ sg a ≤ 51) → k.testBit (sg a - 48) = false → cl 107 [.ref 39, .int (nI k)] (tm W (txR m (a, none)) l) = dn 107 22 [some (.ref 39), some (.int (nI k)), some (.int (nI (sg a - 48)))] [] (tm W (txR m (a + 1, none)) l)) := by
  have hn := T.2.1
  have hs : okS n (a, none) := ⟨ha, fun p hp => by cases hp⟩
  have e1 := c103_03 (l := l) M T hs
  refine ⟨fun hD => ?_, fun hD hb => ?_, fun hD hb => ?_⟩
  · have hg : dg sg n 0 3 (a, none) = ((a, some a), none) := if_neg (show ¬ (a < n ∧ 48 + 0 ≤ sg a ∧ sg a ≤ 48 + 3) by omega)
    rw [hg] at e1
    rw [q_107, if_pos (rok M _), e1, kxi_s, u_3 M, Option.bind_some, if_neg (show ¬ enc (some a) = -1 from nI_ne_m1 (by omega)), j107f M (by omega)]
  · have hg : dg sg n 0 3 (a, none) = ((a + 1, none), some (sg a - 48)) := if_pos (show a < n ∧ 48 + 0 ≤ sg a ∧ sg a ≤ 48 + 3 by omega)
    rw [hg] at e1
    have e1' : cl 103 [.ref 39, .int 0, .int 3] (tm W (txR m (a, none)) l) = some (some (.int (nI (sg a - 48))), tm W (txR m (a + 1, none)) l) := e1
    have e2 : nI (a + 1) - 1 = nI a := pk_sub (b := 1) (a := a + 1) (by omega)
    have u2 : ia_gI (tm W (txR m (a + 1, none)) l) 8 39 22 = some (nI (a + 1)) := u_2 M
    rw [q_107, if_pos (rok M _), e1', kxi_s, u_3 M, Option.bind_some, if_pos (show enc none = -1 from rfl), if_pos ((mb1 k hk _ (by omega)).mpr hb), u2, Option.bind_some, if_pos (rok M _), e2, c101s M, kxv_s, j107f M (by omega)]
  · have hg : dg sg n 0 3 (a, none) = ((a + 1, none), some (sg a - 48)) := if_pos (show a < n ∧ 48 + 0 ≤ sg a ∧ sg a ≤ 48 + 3 by omega)
    rw [hg] at e1
    have e1' : cl 103 [.ref 39, .int 0, .int 3] (tm W (txR m (a, none)) l) = some (some (.int (nI (sg a - 48))), tm W (txR m (a + 1, none)) l) := e1
    have b1 : ¬ ((nI k >>> (nI (sg a - 48) &&& 31)) &&& 1) = 1 := fun q => by
      have := (mb1 k hk _ (by omega)).mp q
      rw [hb] at this
      cases this
    rw [q_107, if_pos (rok M _), e1', kxi_s, u_3 M, Option.bind_some, if_pos (show enc none = -1 from rfl), if_neg b1]
/-- the loop from a place where a cup must begin -/
theorem f108 (M : isM W) {a p : Nat} (hp : p ≤ 200) (x : Int32) (l2 : Option Value) : dn 108 55 [some (.ref 39), some (.int x), l2] [] (tm W (txR m (a, some p)) l) = dn 108 74 [some (.ref 39), some (.int x), l2] [] (tm W (txR m (a, some p)) l) := by
  rw [q_108_55, u_3 M, Option.bind_some, if_neg (show ¬ enc (some p) = -1 from nI_ne_m1 (by omega))]
theorem d108 (M : isM W) {n : Nat} {sg : Nat → Nat} (l2 : Option Value) : ∀ (i a k : Nat) (V : Nat → CV) (m : Nat → Nat → Int32), txU m n sg → a ≤ n → k < 16 → okW k V → (∀ c, c < 4 → duR (m 51) (m 52) (m 53) c (V c)) → n < a + i → ∃ m' s' x', kxi (cl 107 [.ref 39, .int (nI k)] (tm W (txR m (a, none)) l)) (fun r h => dn 108 55 [some (.ref 39), some (.int r), l2] [] h) = dn 108 74 [some (.ref 39), some (.int x'), l2] [] (tm W (txR m' s') l) ∧ okS n s' ∧ en n s' = (ruP sg n i a k V).1 ∧ (∀ x, x ≠ 51 → x ≠ 52 → x ≠ 53 → m' x = m x) ∧ ((ruP sg n i a k V).1.2 = none → x' = nI (ruP sg n i a k V).2.1 ∧ ∀ c, c < 4 → duR (m' 51) (m' 52) (m' 53) c ((ruP sg n i a k V).2.2 c))
  | 0, a, k, V, m, T, ha, hk, hV, hd, hi => by omega
  | i + 1, a, k, V, m, T, ha, hk, hV, hd, hi => by
    have hn := T.2.1
    have h3 : ∀ i, i < n → sg i < 256 := fun i hi => (T.2.2 i hi).1
    obtain ⟨s1, s2, s3⟩ := c107s (l := l) M T ha hk
    rw [ruP]
    by_cases hD : a < n ∧ 48 ≤ sg a ∧ sg a ≤ 51
    · have hc : sg a - 48 < 4 := by omega
      rw [if_pos hD]
      by_cases hb : k.testBit (sg a - 48) = true
      · rw [if_pos hb, s2 hD hb, kxi_s, f108 M (by omega)]
        exact ⟨m, (a + 1, some a), _, rfl, ⟨by show a + 1 ≤ n; omega, fun p hp => by cases hp; omega⟩, rfl, fun _ _ _ _ => rfl, fun q => by cases q⟩
      · have b0 : k.testBit (sg a - 48) = false := by simpa using hb
        rw [if_neg hb, s3 hD b0]
        obtain ⟨m1', x1, r1, r2, r3, r4⟩ := k22 (l := l) M hc T (show a + 1 ≤ n by omega) (nI k)
        rw [r1, kxi_s]
        have hs1 : okS n (a + 1, none) := ⟨by show a + 1 ≤ n; omega, fun p hp => by cases hp⟩
        have ok1 : okS n (cupP sg n (a + 1, none)).1 := cupP_okS hn hs1
        rcases cup_PR sg n (a + 1, none) with eq | ⟨w1, w2, w3, w4⟩
        · rw [← eq] at r4 ⊢
          have T1 : txU m1' n sg := txU_of T (by rw [r2 39 (by decide) (by decide) (by decide)]) (r2 47 (by decide) (by decide) (by decide))
          by_cases hz : (cupP sg n (a + 1, none)).1.2 = none
          · obtain ⟨rx, rd⟩ := r4 hz
            have k3 := mb3 k hk _ hc
            rw [k3.1] at rx
            subst rx
            have hd1 : ∀ c, c < 4 → duR (m1' 51) (m1' 52) (m1' 53) c (vSet V (sg a - 48) (cupP sg n (a + 1, none)).2 c) := fun c h4 => by
              unfold vSet
              by_cases z : c = sg a - 48
              · rw [if_pos z, z]
                exact rd
              · rw [if_neg z]
                exact duR_fr (hd c h4) (hV c h4).1 fun x x1 x2 => r3 x (by omega)
            have hp2 : a + 1 + 4 ≤ (cupP sg n (a + 1, none)).1.1 := (cupP_pos hz).2
            have hV1 := okW_set hV hk hc (cupP_ok hz)
            have e6 := c100 (l := l) M T1 ok1.1
            have ez : enc (cupP sg n (a + 1, none)).1.2 = -1 := by rw [hz]; rfl
            rw [if_pos hz, q_108_55, u_3 M, Option.bind_some, ez, if_pos rfl, if_pos (rok M _), e6, kxi_s]
            by_cases hgo : (go sg n 59 (cupP sg n (a + 1, none)).1).2 = true
            · obtain ⟨g1, g2, g3, g4⟩ := go_t hgo
              obtain ⟨m', s', x', q1, q2, q3, q4, q5⟩ := d108 M l2 i ((cupP sg n (a + 1, none)).1.1 + 1) (k ||| 2 ^ (sg a - 48)) (vSet V (sg a - 48) (cupP sg n (a + 1, none)).2) m1' T1 (by omega) k3.2 hV1 hd1 (by omega)
              rw [if_pos ((pk59 h3).mpr ⟨g3, g4⟩), if_pos hgo, g2, u_2 M, Option.bind_some, nI_1, u_p2 M, Option.bind_some, if_pos (rok M _), hz]
              exact ⟨m', s', x', q1, q2, q3, fun x a b c => by rw [q4 x a b c, r2 x a b c], q5⟩
            · have hgo' : (go sg n 59 (cupP sg n (a + 1, none)).1).2 = false := by simpa using hgo
              have nq : ¬ ((cupP sg n (a + 1, none)).1.1 < n ∧ sg (cupP sg n (a + 1, none)).1.1 = 59) := by
                have e : (cupP sg n (a + 1, none)).1 = ((cupP sg n (a + 1, none)).1.1, none) := Prod.ext rfl hz
                rw [e] at hgo'
                exact go_fc hgo'
              rw [if_neg (fun z => nq ((pk59 h3).mp z)), if_neg hgo]
              exact ⟨m1', _, _, rfl, ok1, (go_f hgo').symm, r2, fun _ => ⟨rfl, hd1⟩⟩
          · rw [if_neg hz]
            generalize hse : (cupP sg n (a + 1, none)).1 = se at *
            obtain ⟨b, q⟩ := se
            cases q with
            | none => exact absurd rfl hz
            | some q =>
              rw [f108 M (ok1.2 q rfl)]
              exact ⟨m1', (b, some q), x1, rfl, ok1, rfl, r2, fun z => by cases z⟩
        · have e : (cupP sg n (a + 1, none)).1 = ((cupP sg n (a + 1, none)).1.1, none) := Prod.ext rfl w1
          have hgo : go sg n 59 (cupP sg n (a + 1, none)).1 = (((cupP sg n (a + 1, none)).1.1, some (cupP sg n (a + 1, none)).1.1), false) := by
            rw [e]
            show (if _ < n then (if sg _ = 59 then _ else _) else _) = _
            rw [if_pos w2, if_neg (by rw [w3]; decide)]
          rw [if_pos w1, hgo, if_neg (show ¬ (false = true) from fun q => by cases q), w4, f108 M (by omega)]
          exact ⟨m1', _, x1, rfl, ⟨ok1.1, fun p hp => by cases hp; omega⟩, rfl, r2, fun z => by cases z⟩
    · rw [if_neg hD, s1 hD, kxi_s, f108 M (by omega)]
      exact ⟨m, (a, some a), _, rfl, ⟨ha, fun p hp => by cases hp; omega⟩, rfl, fun _ _ _ _ => rfl, fun q => by cases q⟩
end TXZs

section TXZk
variable {W : tm_W} {m : Nat → Nat → Int32} {l : Nat → Nat → Int64} {f g : Nat → Int32}
/-- what the loop over steps does, k more than one to go -/
def P106 (W : tm_W) (l : Nat → Nat → Int64) (sg : Nat → Nat) (n c a b r k : Nat) : Prop := ∀ (x4 sep last : Nat) (s : RS) (xs : List (Nat × Nat)) (m : Nat → Nat → Int32) (l3 l4 l5 : Option Value), x4 + (k + 1) = 4 → xs.length = x4 → s.2 = none → s.1 < n → sg s.1 = sep → last ≤ 20 → txU m n sg → okS n s → duR (m 51) (m 52) (m 53) c (a, b, r, xs) →
    ∃ m', dn 106 2 [some (.ref 39), some (.int (nI c)), some (.int (nI last)), l3, l4, l5] [] (tm W (txR m s) l) = some (none, tm W (txR m' (stpR sg n (k + 1) sep last s xs).1) l) ∧ (∀ x, x ≠ 51 → x ≠ 52 → x ≠ 53 → m' x = m x) ∧ (∀ i, (i < 4 * c ∨ 4 * c + 4 ≤ i) → m' 51 i = m 51 i ∧ m' 52 i = m 52 i ∧ m' 53 i = m 53 i) ∧ ((stpR sg n (k + 1) sep last s xs).1.2 = none → duR (m' 51) (m' 52) (m' 53) c (a, b, r, (stpR sg n (k + 1) sep last s xs).2))
theorem s106 (M : isM W) {n c a b r k : Nat} {sg : Nat → Nat} (hc : c < 4) (ih : ∀ j, k = j + 1 → P106 W l sg n c a b r j) : P106 W l sg n c a b r k := by
  intro x4 sep last s xs m l3 l4 l5 h hx h0 h1 h2 hlast T hs hd
  have hn := T.2.1
  have h3 : ∀ i, i < n → sg i < 256 := fun i hi => (T.2.2 i hi).1
  have ok1 := ei_ok (sg := sg) (c1 := sep) (c2 := sep) hn hs
  have ok2 := nb_ok (sg := sg) (lo := last + 1) (hi1 := 21) hn ok1
  have ok3 := ei_ok (sg := sg) (c1 := 47) (c2 := 47) hn ok2
  have ok4 : okS n (stp sg n sep last s).1 := stp_ok hn hs
  have e0 : (ei sg n sep sep s).1 = (s.1 + 1, s.2) := by
    obtain ⟨p, q⟩ := s
    have hq : q = none := h0
    subst hq
    show (if p < n ∧ (sg p = sep ∨ sg p = sep) then (((p + 1, none), some (sg p)) : RS × Option Nat) else ((p, some p), none)).1 = (p + 1, none)
    rw [if_pos ⟨h1, Or.inl h2⟩]
  have e2 := c104_20 (l := l) M T (lo := last + 1) (by omega) ok1
  have e3 : cl 102 [.ref 39, .int 47] (tm W (txR m (nb sg n (last + 1) 21 (ei sg n sep sep s).1).1) l) = _ := c102 (l := l) M T (c := 47) (by decide) ok2
  have e4 := c103_19 (l := l) M T ok3
  rw [q_106_2]
  simp only [u_2 M, nI_1, u_p2 M, rok M, Option.bind_some, if_true]
  rw [← e0]
  simp only [rok M, e2, e3, e4, kxi_s, kxv_s, if_true]
  rw [stpR]
  rw [show (dg sg n 1 9 (ei sg n 47 47 (nb sg n (last + 1) 21 (ei sg n sep sep s).1).1).1).1 = (stp sg n sep last s).1 from rfl, u_3 M, Option.bind_some]
  by_cases hz : (stp sg n sep last s).1.2 = none
  · obtain ⟨p1, p2, p3, p4, p5, p6⟩ := stp_s hz
    obtain ⟨v1, v2⟩ := stp_v hz
    have hd' := stRr_d (stp sg n sep last s).2 hd
    rw [hx] at hd'
    have i3 : 4 * nI c + 3 = nI (4 * c + 3) := by rw [mul4, show (3 : Int32) = nI 3 from rfl, nI_add]
    have ik : 4 * nI c + nI x4 = nI (4 * c + x4) := by rw [mul4, nI_add]
    have l0 : ia_ld (tm W (txR m (stp sg n sep last s).1) l) 0 51 (nI (4 * c + 3)) = some (nI x4) := by
      rw [rl51 M (by omega), txR_o _ _ (by decide), ← hx]
      exact congrArg some hd.2.2.2.1
    have l1 : ∀ v w, ia_ld (tm W (m2 (m2 (txR m (stp sg n sep last s).1) 52 (4 * c + x4) v) 53 (4 * c + x4) w) l) 0 51 (nI (4 * c + 3)) = some (nI x4) := fun v w => by
      rw [rl51 M (by omega), m2_r _ _ _ (by decide), m2_r _ _ _ (by decide), txR_o _ _ (by decide), ← hx]
      exact congrArg some hd.2.2.2.1
    have st : ∀ v w, m2 (m2 (m2 (txR m (stp sg n sep last s).1) 52 (4 * c + x4) v) 53 (4 * c + x4) w) 51 (4 * c + 3) (nI (x4 + 1)) = txR (stRr m c x4 v w) (stp sg n sep last s).1 := fun v w => by
      unfold stRr
      rw [txR_m2 _ _ _ (by omega), txR_m2 _ _ _ (by omega), txR_m2 _ _ _ (by omega)]
    rw [v1, v2, Option.getD_some, Option.getD_some, hz, if_pos enc_n, if_pos rfl]
    simp only [rR24 M, rR25 M, rR26 M, i3, ik, l0, rs52 M (show 4 * c + x4 < 16 by omega), rs53 M (show 4 * c + x4 < 16 by omega), l1, rs51 M (show 4 * c + 3 < 16 by omega), nI_1, st, rok M, Option.bind_some, if_true]
    generalize hv : nI (stp sg n sep last s).2.1 = v at *
    generalize hw : nI (stp sg n sep last s).2.2 = w at *
    have T' : txU (stRr m c x4 v w) n sg := txU_of T (by rw [stRr_o _ _ _ _ _ (by decide) (by decide) (by decide)]) (stRr_o _ _ _ _ _ (by decide) (by decide) (by decide))
    have e6 := c100 (l := l) M T' ok4.1
    have u3 : ia_gI (tm W (txR (stRr m c x4 v w) (stp sg n sep last s).1) l) 8 39 23 = some (-1) := by rw [u_3 M, hz]; rfl
    have l2 : ia_ld (tm W (txR (stRr m c x4 v w) (stp sg n sep last s).1) l) 0 51 (nI (4 * c + 3)) = some (nI (x4 + 1)) := by rw [rl51 M (by omega), txR_o _ _ (by decide), stRr_n]
    have fr1 : ∀ x, x ≠ 51 → x ≠ 52 → x ≠ 53 → stRr m c x4 v w x = m x := fun x a b c => stRr_o _ _ _ _ _ a b c
    have fr2 : ∀ i, (i < 4 * c ∨ 4 * c + 4 ≤ i) → stRr m c x4 v w 51 i = m 51 i ∧ stRr m c x4 v w 52 i = m 52 i ∧ stRr m c x4 v w 53 i = m 53 i := fun i hi => ⟨stRr_51 _ _ _ _ _ (by omega), stRr_52 _ _ _ _ _ (by omega), stRr_53 _ _ _ _ _ (by omega)⟩
    rw [e6, kxi_s]
    by_cases hg : (stp sg n sep last s).1.1 < n ∧ sg (stp sg n sep last s).1.1 = 44
    · rw [if_pos ((pk44 h3).mpr hg), if_pos hg, rR24 M, Option.bind_some, l2, Option.bind_some]
      by_cases h4 : x4 + 1 = 4
      · obtain rfl : k = 0 := by omega
        rw [h4, if_pos (by decide), u_2 M, Option.bind_some, if_pos (rok M _)]
        have e7 : cl 101 [.ref 39, .int (nI (stp sg n sep last s).1.1)] (tm W (txR (stRr m c x4 v w) (stp sg n sep last s).1) l) = some (none, tm W (txR (stRr m c x4 v w) ((stp sg n sep last s).1.1, some (stp sg n sep last s).1.1)) l) := by
          have e := c101s (m := stRr m c x4 v w) (l := l) M (stp sg n sep last s).1.1 (stp sg n sep last s).1.1
          rw [show (stp sg n sep last s).1 = ((stp sg n sep last s).1.1, none) from Prod.ext rfl hz]
          exact e
        rw [e7, kxv_s, u_3 M, Option.bind_some, if_neg (show ¬ enc (some (stp sg n sep last s).1.1) = -1 from nI_ne_m1 (by have := ok4.1; omega))]
        exact ⟨_, rfl, fr1, fr2, fun z => by cases z⟩
      · rw [if_neg (show ¬ nI (x4 + 1) = 4 from fun z => h4 ((nI_eq (b := 4) (by omega) (by decide)).mp z)), u3, Option.bind_some, if_pos rfl, if_pos (rok M _), e6, kxi_s, if_pos ((pk44 h3).mpr hg)]
        obtain ⟨j, rfl⟩ : ∃ j, k = j + 1 := ⟨k - 1, by omega⟩
        obtain ⟨m', r1, r2, r3, r4⟩ := ih j rfl (x4 + 1) 44 (stp sg n sep last s).2.1 (stp sg n sep last s).1 (xs ++ [(stp sg n sep last s).2]) (stRr m c x4 v w) (some (.int v)) (some (.int w)) (some (.int (nI (4 * c + x4)))) (by omega) (by rw [List.length_append, hx]; rfl) hz hg.1 hg.2 p5.2 T' ok4 hd'
        rw [hv] at r1
        exact ⟨m', r1, fun x a b c => by rw [r2 x a b c, fr1 x a b c], fun i hi => by rw [(r3 i hi).1, (r3 i hi).2.1, (r3 i hi).2.2]; exact fr2 i hi, r4⟩
    · rw [if_neg (fun z => hg ((pk44 h3).mp z)), if_neg hg, u3, Option.bind_some, if_pos rfl, if_pos (rok M _), e6, kxi_s, if_neg (fun z => hg ((pk44 h3).mp z))]
      exact ⟨_, rfl, fr1, fr2, fun _ => hd'⟩
  · rw [if_neg hz]
    generalize hse : (stp sg n sep last s).1 = se at *
    obtain ⟨p, q⟩ := se
    cases q with
    | none => exact absurd rfl hz
    | some q =>
      have hq : q ≤ 200 := ok4.2 q rfl
      rw [if_neg (show ¬ enc (some q) = -1 from nI_ne_m1 (by omega))]
      exact ⟨m, rfl, fun _ _ _ _ => rfl, fun _ _ => ⟨rfl, rfl, rfl⟩, fun z => absurd z hz⟩
theorem d106 (M : isM W) {n c a b r : Nat} {sg : Nat → Nat} (hc : c < 4) : ∀ k, P106 W l sg n c a b r k
  | 0 => s106 M hc fun j h => absurd h (by omega)
  | k + 1 => s106 M hc fun j h => by
    obtain rfl : k = j := by omega
    exact d106 M hc k
end TXZk

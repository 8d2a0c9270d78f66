section TXZh
variable {W : tm_W} {m : Nat → Nat → Int32} {l : Nat → Nat → Int64} {f g : Nat → Int32}
theorem pk44 {sg : Nat → Nat} {n a : Nat} (h3 : ∀ i, i < n → sg i < 256) : (enc (pke sg n a) = (44 : Int32)) = (a < n ∧ sg a = 44) := pke_c (c := 44) h3 (by decide)
theorem d61 (C : isC W) {n c a b r : Nat} {sg : Nat → Nat} (hc : c < 4) : ∀ (k x4 sep last : Nat) (s : RS) (xs : List (Nat × Nat)) (m : Nat → Nat → Int32) (l5 l6 : Option Value), x4 + k = 4 → xs.length = x4 → sep < 256 → last ≤ 20 → txT m n sg → okS n s → duC (m 12) c (a, b, r, xs) →
    ∃ m', dn 61 6 [some (.ref 0), some (.int (nI c)), some (.int (nI sep)), some (.int (nI last)), some (.int (nI x4)), l5, l6] [] (tm W (txC m s) l) = some (none, tm W (txC m' (stpS sg n k sep last s xs).1) l) ∧ (∀ x, x ≠ 12 → m' x = m x) ∧ (∀ i, (i < 12 * c ∨ 12 * c + 12 ≤ i) → m' 12 i = m 12 i) ∧ ((stpS sg n k sep last s xs).1.2 = none → duC (m' 12) c (a, b, r, (stpS sg n k sep last s xs).2))
  | 0, x4, sep, last, s, xs, m, l5, l6, h, hx, h1, h2, T, hs, hd => by
    obtain rfl : x4 = 4 := by omega
    exact ⟨m, by rw [q_61_6, if_pos (by decide)]; rfl, fun _ _ => rfl, fun _ _ => rfl, fun _ => hd⟩
  | k + 1, x4, sep, last, s, xs, m, l5, l6, h, hx, h1, h2, T, hs, hd => by
    have hn := T.2.1
    have h3 : ∀ i, i < n → sg i < 256 := fun i hi => (T.2.2 i hi).1
    have ok1 := ei_ok (sg := sg) (c1 := sep) (c2 := sep) hn hs
    have ok2 := nb_ok (sg := sg) (lo := last + 1) (hi1 := 21) hn ok1
    have ok3 := ei_ok (sg := sg) (c1 := 47) (c2 := 47) hn ok2
    have ok4 : okS n (stp sg n sep last s).1 := stp_ok hn hs
    have e1 := c250 (l := l) C T h1 hs
    have e2 := c254_20 (l := l) C T (lo := last + 1) (by omega) ok1
    have e3 : cl 250 [.ref 1, .int 47] (tm W (txC m (nb sg n (last + 1) 21 (ei sg n sep sep s).1).1) l) = _ := c250 (l := l) C T (c := 47) (by decide) ok2
    have e4 := c253_19 (l := l) C T ok3
    rw [q_61_6, if_neg (show ¬ ((4 : Int32) ≤ nI x4) from nI_ge (b := 4) (by omega) (by decide))]
    simp only [xR0 C, t_ok C, e1, e2, nI_1, e3, e4, Option.bind_some, kxi_s, kxv_s, if_true]
    rw [stpS]
    by_cases hz : (stp sg n sep last s).1.2 = none
    · obtain ⟨p1, p2, p3, p4, p5, p6⟩ := stp_s hz
      have hz' : (dg sg n 1 9 (ei sg n 47 47 (nb sg n (last + 1) 21 (ei sg n sep sep s).1).1).1).1.2 = none := hz
      have hd' := stDr_d (stp sg n sep last s).2 hd
      rw [hx] at hd'
      have e5 : cl 200 [.ref 11, .int (nI c), .int (nI (stp sg n sep last s).2.1), .int (nI (stp sg n sep last s).2.2)] (tm W (txC m (stp sg n sep last s).1) l) = some (none, tm W (txC (stDr m c x4 (nI (stp sg n sep last s).2.1) (nI (stp sg n sep last s).2.2)) (stp sg n sep last s).1) l) := c200t C hc (by omega) (by have := hd.2.2.2.1; rw [← hx]; exact this) _ _
      have T' : txT (stDr m c x4 (nI (stp sg n sep last s).2.1) (nI (stp sg n sep last s).2.2)) n sg := txT_of T (by rw [stDr_o _ _ _ _ _ (by decide)]) (stDr_o _ _ _ _ _ (by decide))
      have e6 := c248 (l := l) C T' ok4.1
      have e7 : cl 246 [.ref 1] (tm W (txC m (stp sg n sep last s).1) l) = some (some (.int 1), tm W (txC m (stp sg n sep last s).1) l) := c246e C hz
      rw [p3, p4, if_pos hz]
      change ∃ m', kxi (cl 246 [.ref 1] (tm W (txC m (stp sg n sep last s).1) l)) _ = _ ∧ _
      rw [e7, kxi_s, if_neg (by decide), xR5 C, Option.bind_some, if_pos (dok C _), e5, kxv_s, xR0 C, Option.bind_some, if_pos (t_ok C _), e6, kxi_s]
      by_cases hg : (stp sg n sep last s).1.1 < n ∧ sg (stp sg n sep last s).1.1 = 44
      · rw [if_pos ((pk44 h3).mpr hg), if_pos hg]
        obtain ⟨m', r1, r2, r3, r4⟩ := d61 C hc k (x4 + 1) 44 (stp sg n sep last s).2.1 (stp sg n sep last s).1 (xs ++ [(stp sg n sep last s).2]) _ (some (.int (nI (stp sg n sep last s).2.1))) (some (.int (nI (stp sg n sep last s).2.2))) (by omega) (by rw [List.length_append, hx]; rfl) (by decide) p5.2 T' ok4 hd'
        exact ⟨m', r1, fun x hx => by rw [r2 x hx, stDr_o _ _ _ _ _ hx], fun i hi => by rw [r3 i hi, stDr_k _ _ _ (by omega) (by omega) (by omega)], r4⟩
      · rw [if_neg (fun z => hg ((pk44 h3).mp z)), if_neg hg]
        exact ⟨_, rfl, fun x hx => stDr_o _ _ _ _ _ hx, fun i hi => stDr_k _ _ _ (by omega) (by omega) (by omega), fun _ => hd'⟩
    · rw [if_neg hz]
      change ∃ m', kxi (cl 246 [.ref 1] (tm W (txC m (stp sg n sep last s).1) l)) _ = _ ∧ _
      generalize hse : (stp sg n sep last s).1 = se at *
      obtain ⟨p, q⟩ := se
      cases q with
      | none => exact absurd rfl hz
      | some q =>
        rw [c246f C p (ok4.2 q rfl), kxi_s, if_pos rfl]
        exact ⟨m, rfl, fun _ _ => rfl, fun _ _ => rfl, fun z => absurd z hz⟩
end TXZh

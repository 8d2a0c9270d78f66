section TXZl
variable {W : tm_W} {m : Nat → Nat → Int32} {l : Nat → Nat → Int64} {f g : Nat → Int32}
/-! RULES: the rules of one cup, the reference -/
def cupR (sg : Nat → Nat) (n : Nat) (s : RS) : RS × CV := if (cuZ sg n s).1.2 = none then (if (cuZ sg n s).1.1 < n ∧ sg (cuZ sg n s).1.1 = 58 then ((stpR sg n 4 58 0 (cuZ sg n s).1 []).1, (cuL sg n s, (cuB sg n s).2.getD 0, (cuZ sg n s).2.getD 0, (stpR sg n 4 58 0 (cuZ sg n s).1 []).2)) else ((cuZ sg n s).1, (cuL sg n s, (cuB sg n s).2.getD 0, (cuZ sg n s).2.getD 0, []))) else ((cuZ sg n s).1, v0)
def hdR (m : Nat → Nat → Int32) (c : Nat) (u v w : Int32) : Nat → Nat → Int32 := m2 (m2 (m2 (m2 m 51 (4 * c) u) 51 (4 * c + 1) v) 51 (4 * c + 2) w) 51 (4 * c + 3) 0
theorem hdR_o (m : Nat → Nat → Int32) (c : Nat) (u v w : Int32) {x : Nat} (h : x ≠ 51) : hdR m c u v w x = m x := by
  unfold hdR
  rw [m2_r _ _ _ h, m2_r _ _ _ h, m2_r _ _ _ h, m2_r _ _ _ h]
theorem hdR_k (m : Nat → Nat → Int32) {c : Nat} (u v w : Int32) {i : Nat} (h : i < 4 * c ∨ 4 * c + 4 ≤ i) : hdR m c u v w 51 i = m 51 i := by
  unfold hdR
  rw [m2_k _ _ _ _ (by omega), m2_k _ _ _ _ (by omega), m2_k _ _ _ _ (by omega), m2_k _ _ _ _ (by omega)]
theorem hdR_d {c a b r : Nat} : duR (hdR m c (nI a) (nI b) (nI r) 51) (m 52) (m 53) c (a, b, r, []) := by
  refine ⟨?_, ?_, ?_, ?_, fun k e he => by simp at he⟩
  · unfold hdR
    rw [m2_k _ _ _ _ (by omega), m2_k _ _ _ _ (by omega), m2_k _ _ _ _ (by omega), m2_s]
  · unfold hdR
    rw [m2_k _ _ _ _ (by omega), m2_k _ _ _ _ (by omega), m2_s]
  · unfold hdR
    rw [m2_k _ _ _ _ (by omega), m2_s]
  · unfold hdR
    rw [m2_s]
    rfl
theorem cuB_v {sg : Nat → Nat} {n : Nat} {s : RS} (h : (cuZ sg n s).1.2 = none) : (cuB sg n s).2.getD 1 = (cuB sg n s).2.getD 0 := by
  obtain ⟨n1, -⟩ := nb_s (show (nb sg n 0 21 (ei sg n 120 120 (cuB sg n s).1).1).1.2 = none from h)
  obtain ⟨e1, -⟩ := ei_s n1
  obtain ⟨d1, d2, d3, v, d4, d5, d6⟩ := dg_s (show (dg sg n 1 9 (cuA sg n s).1).1.2 = none from e1)
  have b4 : (cuB sg n s).2 = some v := d4
  rw [b4]
  rfl
/-- from the sign of the side on -/
theorem k56 (M : isM W) {n c : Nat} {sg : Nat → Nat} (hc : c < 4) (T : txU m n sg) {s : RS} (hs : okS n s) (h0 : s.2 = none) (hA : (cuA sg n s).1 = (s.1 + 1, none)) (x1 : Int32) : ∃ m', dn 107 56 [some (.ref 39), some (.int x1), some (.int (nI c))] [.int (nI (cuL sg n s)), .int (4 * nI c), .ref 51] (tm W (txR m s) l) = some (some (.int (x1 ||| (1 <<< (nI c &&& 31)))), tm W (txR m' (cupR sg n s).1) l) ∧ (∀ x, x ≠ 51 → x ≠ 52 → x ≠ 53 → m' x = m x) ∧ (∀ i, (i < 4 * c ∨ 4 * c + 4 ≤ i) → m' 51 i = m 51 i ∧ m' 52 i = m 52 i ∧ m' 53 i = m 53 i) ∧ ((cupR sg n s).1.2 = none → duR (m' 51) (m' 52) (m' 53) c (cupR sg n s).2) := by
  have hn := T.2.1
  have h3 : ∀ i, i < n → sg i < 256 := fun i hi => (T.2.2 i hi).1
  have okA : okS n (cuA sg n s).1 := ei_ok hn hs
  have okB : okS n (cuB sg n s).1 := dg_ok hn okA
  have okX : okS n (ei sg n 120 120 (cuB sg n s).1).1 := ei_ok hn okB
  have okZ : okS n (cuZ sg n s).1 := cuZ_ok hn hs
  have t51 : ∀ {m' : Nat → Nat → Int32} (k : Nat) (v : Int32), txU m' n sg → txU (m2 m' 51 k v) n sg := fun k v T => txU_of T (by rw [m2_r _ _ _ (by decide)]) (m2_r _ _ _ (by decide))
  have i0 : 4 * nI c = nI (4 * c) := mul4 c
  have i1 : nI (4 * c) + 1 = nI (4 * c + 1) := nI_1 _
  have i2 : nI (4 * c) + 2 = nI (4 * c + 2) := nI_add _ 2
  have i3 : nI (4 * c) + 3 = nI (4 * c + 3) := nI_add _ 3
  have st : ∀ (m' : Nat → Nat → Int32) (s' : RS) (k : Nat) (v : Int32), k < 16 → ia_st (tm W (txR m' s') l) 0 51 (nI k) v = some (tm W (txR (m2 m' 51 k v) s') l) := fun m' s' k v hk => by rw [rs51 M hk, txR_m2 _ _ _ (by omega)]
  have T1 := t51 (4 * c) (nI (cuL sg n s)) T
  have e2 : cl 103 [.ref 39, .int 1, .int 9] (tm W (txR (m2 m 51 (4 * c) (nI (cuL sg n s))) (s.1 + 1, s.2)) l) = some (some (.int (nI ((cuB sg n s).2.getD 1))), tm W (txR (m2 m 51 (4 * c) (nI (cuL sg n s))) (cuB sg n s).1) l) := by
    have e := c103_19 (l := l) M T1 okA
    rw [h0]
    rw [hA] at e
    unfold cuB
    rw [hA]
    exact e
  have T2 := t51 (4 * c + 1) (nI ((cuB sg n s).2.getD 1)) T1
  have e3 : cl 102 [.ref 39, .int 120] (tm W (txR (m2 (m2 m 51 (4 * c) (nI (cuL sg n s))) 51 (4 * c + 1) (nI ((cuB sg n s).2.getD 1))) (cuB sg n s).1) l) = _ := c102 (l := l) M T2 (c := 120) (by decide) okB
  have e4 : cl 104 [.ref 39, .int 0, .int 20] (tm W (txR (m2 (m2 m 51 (4 * c) (nI (cuL sg n s))) 51 (4 * c + 1) (nI ((cuB sg n s).2.getD 1))) (ei sg n 120 120 (cuB sg n s).1).1) l) = some (some (.int (nI ((cuZ sg n s).2.getD 0))), tm W (txR (m2 (m2 m 51 (4 * c) (nI (cuL sg n s))) 51 (4 * c + 1) (nI ((cuB sg n s).2.getD 1))) (cuZ sg n s).1) l) := c104_20 (l := l) M T2 (lo := 0) (by decide) okX
  have T3 : txU (hdR m c (nI (cuL sg n s)) (nI ((cuB sg n s).2.getD 1)) (nI ((cuZ sg n s).2.getD 0))) n sg := t51 _ _ (t51 _ _ T2)
  rw [q_107_56, i0]
  simp only [st _ _ _ _ (show 4 * c < 16 by omega), u_2 M, nI_1, u_p2 M, rR24 M, rok M, e2, i1, i2, i3, st _ _ _ _ (show 4 * c + 1 < 16 by omega), e3, e4, st _ _ _ _ (show 4 * c + 2 < 16 by omega), st _ _ _ _ (show 4 * c + 3 < 16 by omega), u_3 M, Option.bind_some, kxi_s, kxv_s, if_true]
  rw [show m2 (m2 (m2 (m2 m 51 (4 * c) (nI (cuL sg n s))) 51 (4 * c + 1) (nI ((cuB sg n s).2.getD 1))) 51 (4 * c + 2) (nI ((cuZ sg n s).2.getD 0))) 51 (4 * c + 3) 0 = hdR m c (nI (cuL sg n s)) (nI ((cuB sg n s).2.getD 1)) (nI ((cuZ sg n s).2.getD 0)) from rfl]
  have fr2 : ∀ u v w i, (i < 4 * c ∨ 4 * c + 4 ≤ i) → hdR m c u v w 51 i = m 51 i ∧ hdR m c u v w 52 i = m 52 i ∧ hdR m c u v w 53 i = m 53 i := fun u v w i hi => ⟨hdR_k _ _ _ _ hi, by rw [hdR_o _ _ _ _ _ (by decide)], by rw [hdR_o _ _ _ _ _ (by decide)]⟩
  unfold cupR
  by_cases hz : (cuZ sg n s).1.2 = none
  · have hd' : duR (hdR m c (nI (cuL sg n s)) (nI ((cuB sg n s).2.getD 1)) (nI ((cuZ sg n s).2.getD 0)) 51) (hdR m c (nI (cuL sg n s)) (nI ((cuB sg n s).2.getD 1)) (nI ((cuZ sg n s).2.getD 0)) 52) (hdR m c (nI (cuL sg n s)) (nI ((cuB sg n s).2.getD 1)) (nI ((cuZ sg n s).2.getD 0)) 53) c (cuL sg n s, (cuB sg n s).2.getD 0, (cuZ sg n s).2.getD 0, []) := by
      rw [hdR_o _ _ _ _ _ (show (52 : Nat) ≠ 51 by decide), hdR_o _ _ _ _ _ (show (53 : Nat) ≠ 51 by decide), cuB_v hz]
      exact hdR_d
    have e6 := c100 (l := l) M T3 okZ.1
    have ez : enc (cuZ sg n s).1.2 = -1 := by rw [hz]; rfl
    rw [ez, if_pos rfl, e6, kxi_s, if_pos hz]
    by_cases hg : (cuZ sg n s).1.1 < n ∧ sg (cuZ sg n s).1.1 = 58
    · rw [if_pos ((pk58 h3).mpr hg), if_pos hg]
      obtain ⟨m', r1, r2, r3, r4⟩ := d106 (l := l) (sg := sg) (n := n) M hc 3 0 58 0 (cuZ sg n s).1 [] _ none none none (by omega) rfl hz hg.1 hg.2 (by decide) T3 okZ hd'
      have e106 : cl 106 [.ref 39, .int (nI c)] (tm W (txR (hdR m c (nI (cuL sg n s)) (nI ((cuB sg n s).2.getD 1)) (nI ((cuZ sg n s).2.getD 0))) (cuZ sg n s).1) l) = _ := (q_106 _ _ _).trans r1
      rw [if_pos (rok M _), e106, kxv_s]
      exact ⟨m', rfl, fun x a b c => by rw [r2 x a b c, hdR_o _ _ _ _ _ a], fun i hi => by rw [(r3 i hi).1, (r3 i hi).2.1, (r3 i hi).2.2]; exact fr2 _ _ _ i hi, r4⟩
    · rw [if_neg (fun z => hg ((pk58 h3).mp z)), if_neg hg]
      exact ⟨_, rfl, fun x a b c => hdR_o _ _ _ _ _ a, fun i hi => fr2 _ _ _ i hi, fun _ => hd'⟩
  · rw [if_neg hz]
    generalize hse : (cuZ sg n s).1 = se at *
    obtain ⟨p, q⟩ := se
    cases q with
    | none => exact absurd rfl hz
    | some q =>
      rw [if_neg (show ¬ enc (some q) = -1 from nI_ne_m1 (by have := okZ.2 q rfl; omega))]
      exact ⟨_, rfl, fun x a b c => hdR_o _ _ _ _ _ a, fun i hi => fr2 _ _ _ i hi, fun z => absurd z hz⟩
end TXZl

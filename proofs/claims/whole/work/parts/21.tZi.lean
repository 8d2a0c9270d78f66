section TXZi
variable {W : tm_W} {m : Nat → Nat → Int32} {l : Nat → Nat → Int64} {f g : Nat → Int32}
/-! RULES: the rules of one cup -/
def cuA (sg : Nat → Nat) (n : Nat) (s : RS) : RS × Option Nat := ei sg n 111 97 s
def cuB (sg : Nat → Nat) (n : Nat) (s : RS) : RS × Option Nat := dg sg n 1 9 (cuA sg n s).1
def cuZ (sg : Nat → Nat) (n : Nat) (s : RS) : RS × Option Nat := nb sg n 0 21 (ei sg n 120 120 (cuB sg n s).1).1
def cuL (sg : Nat → Nat) (n : Nat) (s : RS) : Nat := if enc (cuA sg n s).2 = 97 then 1 else 0
def cupP (sg : Nat → Nat) (n : Nat) (s : RS) : RS × CV := if (cuZ sg n s).1.2 = none then (if (cuZ sg n s).1.1 < n ∧ sg (cuZ sg n s).1.1 = 58 then ((stpS sg n 4 58 0 (cuZ sg n s).1 []).1, (cuL sg n s, (cuB sg n s).2.getD 0, (cuZ sg n s).2.getD 0, (stpS sg n 4 58 0 (cuZ sg n s).1 []).2)) else ((cuZ sg n s).1, (cuL sg n s, (cuB sg n s).2.getD 0, (cuZ sg n s).2.getD 0, []))) else ((cuZ sg n s).1, v0)
theorem cuZ_ok {sg : Nat → Nat} {n : Nat} (hn : n ≤ 200) {s : RS} (hs : okS n s) : okS n (cuZ sg n s).1 := nb_ok hn (ei_ok hn (dg_ok hn (ei_ok hn hs)))
theorem cuZ_s {sg : Nat → Nat} {n : Nat} {s : RS} (h : (cuZ sg n s).1.2 = none) : s.2 = none ∧ s.1 + 4 ≤ (cuZ sg n s).1.1 ∧ (s.1 < n ∧ (cuA sg n s).2 = some (sg s.1) ∧ (sg s.1 = 111 ∨ sg s.1 = 97)) ∧ enc (cuB sg n s).2 = nI ((cuB sg n s).2.getD 0) ∧ enc (cuZ sg n s).2 = nI ((cuZ sg n s).2.getD 0) ∧ (1 ≤ (cuB sg n s).2.getD 0 ∧ (cuB sg n s).2.getD 0 ≤ 9) ∧ (cuZ sg n s).2.getD 0 ≤ 20 := by
  obtain ⟨n1, n2, n3, n4, w, n5, n6, n7⟩ := nb_s (show (nb sg n 0 21 (ei sg n 120 120 (cuB sg n s).1).1).1.2 = none from h)
  obtain ⟨e1, e2, e3, e4, e5⟩ := ei_s n1
  obtain ⟨d1, d2, d3, v, d4, d5, d6⟩ := dg_s (show (dg sg n 1 9 (cuA sg n s).1).1.2 = none from e1)
  obtain ⟨f1, f2, f3, f4, f5⟩ := ei_s (show (ei sg n 111 97 s).1.2 = none from d1)
  have d2' : (cuB sg n s).1.1 = (ei sg n 111 97 s).1.1 + 1 := d2
  have n2' : (ei sg n 120 120 (cuB sg n s).1).1.1 + 1 ≤ (cuZ sg n s).1.1 := n2
  have z5 : (cuZ sg n s).2 = some w := n5
  have b4 : (cuB sg n s).2 = some v := d4
  rw [z5, b4]
  exact ⟨f1, by omega, ⟨f3, f4, f5⟩, rfl, rfl, ⟨d5, d6⟩, by show w ≤ 20; omega⟩
theorem pk58 {sg : Nat → Nat} {n a : Nat} (h3 : ∀ i, i < n → sg i < 256) : (enc (pke sg n a) = (58 : Int32)) = (a < n ∧ sg a = 58) := pke_c (c := 58) h3 (by decide)
def hdD (m : Nat → Nat → Int32) (c : Nat) (u v w : Int32) : Nat → Nat → Int32 := m2 (m2 (m2 m 12 (12 * c) u) 12 (12 * c + 1) v) 12 (12 * c + 2) w
theorem hdD_o (m : Nat → Nat → Int32) (c : Nat) (u v w : Int32) {x : Nat} (h : x ≠ 12) : hdD m c u v w x = m x := by
  unfold hdD
  rw [m2_r _ _ _ h, m2_r _ _ _ h, m2_r _ _ _ h]
theorem hdD_k (m : Nat → Nat → Int32) {c : Nat} (u v w : Int32) {i : Nat} (h0 : i ≠ 12 * c) (h1 : i ≠ 12 * c + 1) (h2 : i ≠ 12 * c + 2) : hdD m c u v w 12 i = m 12 i := by
  unfold hdD
  rw [m2_k _ _ _ _ h2, m2_k _ _ _ _ h1, m2_k _ _ _ _ h0]
theorem hdD_d {c a b r : Nat} (h : duC (m 12) c v0) : duC (hdD m c (nI a) (nI b) (nI r) 12) c (a, b, r, []) := by
  refine ⟨?_, ?_, ?_, ?_, fun k e he => by simp at he⟩
  · unfold hdD
    rw [m2_k _ _ _ _ (by omega), m2_k _ _ _ _ (by omega), m2_s]
  · unfold hdD
    rw [m2_k _ _ _ _ (by omega), m2_s]
  · unfold hdD
    rw [m2_s]
  · rw [hdD_k _ _ _ _ (by omega) (by omega) (by omega)]
    exact h.2.2.2.1
theorem j40 (C : isC W) {c : Nat} (hc : c < 4) {s : RS} (u v w x2 : Int32) : dn 60 40 [some (.ref 0), some (.int (nI c)), some (.int x2), some (.int v), some (.int w)] [.int u, .int 0, .int (nI c), .ref 11] (tm W (txC m s) l) = dn 60 53 [some (.ref 0), some (.int (nI c)), some (.int x2), some (.int v), some (.int w)] [] (tm W (txC (hdD m c u v w) s) l) := by
  have e0 : ∀ (m' : Nat → Nat → Int32) (u : Int32), cl 196 [.ref 11, .int (nI c), .int 0, .int u] (tm W m' l) = some (none, tm W (m2 m' 12 (12 * c) u) l) := fun m' u => c196d (k := 0) C hc (by decide) u
  have e1 : ∀ (m' : Nat → Nat → Int32) (u : Int32), cl 196 [.ref 11, .int (nI c), .int 1, .int u] (tm W m' l) = some (none, tm W (m2 m' 12 (12 * c + 1) u) l) := fun m' u => c196d (k := 1) C hc (by decide) u
  have e2 : ∀ (m' : Nat → Nat → Int32) (u : Int32), cl 196 [.ref 11, .int (nI c), .int 2, .int u] (tm W m' l) = some (none, tm W (m2 m' 12 (12 * c + 2) u) l) := fun m' u => c196d (k := 2) C hc (by decide) u
  rw [q_60_40]
  simp only [dok C, e0, e1, e2, xR5 C, Option.bind_some, kxv_s, if_true]
  rw [txC_m2 _ _ _ (by decide), txC_m2 _ _ _ (by decide), txC_m2 _ _ _ (by decide)]
  rfl
theorem c60 (C : isC W) {n c : Nat} {sg : Nat → Nat} (hc : c < 4) (T : txT m n sg) {s : RS} (hs : okS n s) (hd : duC (m 12) c v0) : ∃ m', cl 60 [.ref 0, .int (nI c)] (tm W (txC m s) l) = some (none, tm W (txC m' (cupP sg n s).1) l) ∧ (∀ x, x ≠ 12 → m' x = m x) ∧ (∀ i, (i < 12 * c ∨ 12 * c + 12 ≤ i) → m' 12 i = m 12 i) ∧ ((cupP sg n s).1.2 = none → duC (m' 12) c (cupP sg n s).2) := by
  have hn := T.2.1
  have h3 : ∀ i, i < n → sg i < 256 := fun i hi => (T.2.2 i hi).1
  have okA : okS n (cuA sg n s).1 := ei_ok hn hs
  have okB : okS n (cuB sg n s).1 := dg_ok hn okA
  have okX : okS n (ei sg n 120 120 (cuB sg n s).1).1 := ei_ok hn okB
  have okZ : okS n (cuZ sg n s).1 := cuZ_ok hn hs
  have e1 : cl 251 [.ref 1, .int 111, .int 97] (tm W (txC m s) l) = some (some (.int (enc (cuA sg n s).2)), tm W (txC m (cuA sg n s).1) l) := c251 (l := l) C T (c1 := 111) (c2 := 97) (by decide) (by decide) hs
  have e2 : cl 253 [.ref 1, .int 1, .int 9] (tm W (txC m (cuA sg n s).1) l) = some (some (.int (enc (cuB sg n s).2)), tm W (txC m (cuB sg n s).1) l) := c253_19 (l := l) C T okA
  have e3 : cl 250 [.ref 1, .int 120] (tm W (txC m (cuB sg n s).1) l) = some (none, tm W (txC m (ei sg n 120 120 (cuB sg n s).1).1) l) := c250 (l := l) C T (c := 120) (by decide) okB
  have e4 : cl 254 [.ref 1, .int 0, .int 20] (tm W (txC m (ei sg n 120 120 (cuB sg n s).1).1) l) = some (some (.int (enc (cuZ sg n s).2)), tm W (txC m (cuZ sg n s).1) l) := c254_20 (l := l) C T (lo := 0) (by decide) okX
  have head : cl 60 [.ref 0, .int (nI c)] (tm W (txC m s) l) = dn 60 10 [some (.ref 0), some (.int (nI c)), none, none, none] [.int (nI (cuL sg n s))] (tm W (txC m (cuA sg n s).1) l) := by
    rw [q_60]
    simp only [xR0 C, t_ok C, e1, Option.bind_some, kxi_s, if_true]
    unfold cuL
    by_cases z : enc (cuA sg n s).2 = 97
    · rw [if_pos z, if_pos z]
      rfl
    · rw [if_neg z, if_neg z]
      rfl
  rw [head, q_60_10]
  simp only [xR0 C, t_ok C, e2, e3, e4, Option.bind_some, kxi_s, kxv_s, if_true]
  unfold cupP
  by_cases hz : (cuZ sg n s).1.2 = none
  · obtain ⟨p1, p2, p3, p4, p5, p6, p7⟩ := cuZ_s hz
    have hd' := hdD_d (a := cuL sg n s) (b := (cuB sg n s).2.getD 0) (r := (cuZ sg n s).2.getD 0) hd
    have T' : txT (hdD m c (nI (cuL sg n s)) (nI ((cuB sg n s).2.getD 0)) (nI ((cuZ sg n s).2.getD 0))) n sg := txT_of T (by rw [hdD_o _ _ _ _ _ (by decide)]) (hdD_o _ _ _ _ _ (by decide))
    have e6 := c248 (l := l) C T' okZ.1
    rw [c246e C hz, kxi_s, if_neg (by decide), xR5 C, Option.bind_some, p4, p5, if_pos hz]
    have ej : ∀ (x : Option (Option Value × ia_H)), (if nI (cuL sg n s) = 0 then dn 60 40 [some (.ref 0), some (.int (nI c)), some (.int (nI (cuL sg n s))), some (.int (nI ((cuB sg n s).2.getD 0))), some (.int (nI ((cuZ sg n s).2.getD 0)))] [.int 0, .int 0, .int (nI c), .ref 11] (tm W (txC m (cuZ sg n s).1) l) else dn 60 40 [some (.ref 0), some (.int (nI c)), some (.int (nI (cuL sg n s))), some (.int (nI ((cuB sg n s).2.getD 0))), some (.int (nI ((cuZ sg n s).2.getD 0)))] [.int 1, .int 0, .int (nI c), .ref 11] (tm W (txC m (cuZ sg n s).1) l)) = dn 60 53 [some (.ref 0), some (.int (nI c)), some (.int (nI (cuL sg n s))), some (.int (nI ((cuB sg n s).2.getD 0))), some (.int (nI ((cuZ sg n s).2.getD 0)))] [] (tm W (txC (hdD m c (nI (cuL sg n s)) (nI ((cuB sg n s).2.getD 0)) (nI ((cuZ sg n s).2.getD 0))) (cuZ sg n s).1) l) := fun _ => by
      have hl : cuL sg n s = 0 ∨ cuL sg n s = 1 := by
        unfold cuL
        split
        · exact Or.inr rfl
        · exact Or.inl rfl
      rcases hl with z | z
      · rw [z, if_pos (by decide)]
        exact j40 C hc _ _ _ _
      · rw [z, if_neg (by decide)]
        exact j40 C hc _ _ _ _
    rw [ej none, q_60_53, xR0 C, Option.bind_some, if_pos (t_ok C _), c246e C hz, kxi_s, if_neg (by decide), xR0 C, Option.bind_some, if_pos (t_ok C _), e6, kxi_s]
    by_cases hg : (cuZ sg n s).1.1 < n ∧ sg (cuZ sg n s).1.1 = 58
    · rw [if_pos ((pk58 h3).mpr hg), if_pos hg, if_pos (xok C _)]
      obtain ⟨m', r1, r2, r3, r4⟩ := d61 (l := l) C hc 4 0 58 0 (cuZ sg n s).1 [] _ none none (by omega) rfl (by decide) (by decide) T' okZ hd'
      have e61 : cl 61 [.ref 0, .int (nI c)] (tm W (txC (hdD m c (nI (cuL sg n s)) (nI ((cuB sg n s).2.getD 0)) (nI ((cuZ sg n s).2.getD 0))) (cuZ sg n s).1) l) = _ := (q_61 _ _ _).trans r1
      rw [e61, kxv_s]
      exact ⟨m', rfl, fun x hx => by rw [r2 x hx, hdD_o _ _ _ _ _ hx], fun i hi => by rw [r3 i hi, hdD_k _ _ _ _ (by omega) (by omega) (by omega)], r4⟩
    · rw [if_neg (fun z => hg ((pk58 h3).mp z)), if_neg hg]
      exact ⟨_, rfl, fun x hx => hdD_o _ _ _ _ _ hx, fun i hi => hdD_k _ _ _ _ (by omega) (by omega) (by omega), fun _ => hd'⟩
  · rw [if_neg hz]
    generalize hse : (cuZ sg n s).1 = se at *
    obtain ⟨p, q⟩ := se
    cases q with
    | none => exact absurd rfl hz
    | some q =>
      rw [c246f C p (okZ.2 q rfl), kxi_s, if_pos rfl, q_60_53, xR0 C, Option.bind_some, if_pos (t_ok C _), c246f C p (okZ.2 q rfl), kxi_s, if_pos rfl]
      exact ⟨m, rfl, fun _ _ => rfl, fun _ _ => rfl, fun z => absurd z hz⟩
end TXZi

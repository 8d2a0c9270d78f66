section TXZj
variable {W : tm_W} {m : Nat → Nat → Int32} {l : Nat → Nat → Int64} {f g : Nat → Int32}
/-! RULES: steps of the reference -/
theorem stp_v {sg : Nat → Nat} {n sep last : Nat} {s : RS} (h : (stp sg n sep last s).1.2 = none) : (nb sg n (last + 1) 21 (ei sg n sep sep s).1).2 = some (stp sg n sep last s).2.1 ∧ (dg sg n 1 9 (ei sg n 47 47 (nb sg n (last + 1) 21 (ei sg n sep sep s).1).1).1).2 = some (stp sg n sep last s).2.2 := by
  obtain ⟨d1, d2, d3, v, d4, d5, d6⟩ := dg_s (show (dg sg n 1 9 (ei sg n 47 47 (nb sg n (last + 1) 21 (ei sg n sep sep s).1).1).1).1.2 = none from h)
  obtain ⟨e1, e2, e3, e4, e5⟩ := ei_s d1
  obtain ⟨n1, n2, n3, n4, w, n5, n6, n7⟩ := nb_s e1
  unfold stp
  dsimp only
  rw [d4, n5]
  exact ⟨rfl, rfl⟩
def stpR (sg : Nat → Nat) (n : Nat) : Nat → Nat → Nat → RS → List (Nat × Nat) → RS × List (Nat × Nat)
  | 0, _, _, s, xs => ((s.1, some s.1), xs)
  | k + 1, sep, last, s, xs => if (stp sg n sep last s).1.2 = none then (if (stp sg n sep last s).1.1 < n ∧ sg (stp sg n sep last s).1.1 = 44 then stpR sg n k 44 (stp sg n sep last s).2.1 (stp sg n sep last s).1 (xs ++ [(stp sg n sep last s).2]) else ((stp sg n sep last s).1, xs ++ [(stp sg n sep last s).2])) else ((stp sg n sep last s).1, xs)
def stRr (m : Nat → Nat → Int32) (c k : Nat) (v w : Int32) : Nat → Nat → Int32 := m2 (m2 (m2 m 52 (4 * c + k) v) 53 (4 * c + k) w) 51 (4 * c + 3) (nI (k + 1))
theorem stRr_o (m : Nat → Nat → Int32) (c k : Nat) (v w : Int32) {x : Nat} (h1 : x ≠ 51) (h2 : x ≠ 52) (h3 : x ≠ 53) : stRr m c k v w x = m x := by
  unfold stRr
  rw [m2_r _ _ _ h1, m2_r _ _ _ h3, m2_r _ _ _ h2]
theorem stRr_51 (m : Nat → Nat → Int32) (c k : Nat) (v w : Int32) {i : Nat} (h : i ≠ 4 * c + 3) : stRr m c k v w 51 i = m 51 i := by
  unfold stRr
  rw [m2_k _ _ _ _ h, m2_r _ _ _ (by decide), m2_r _ _ _ (by decide)]
theorem stRr_n (m : Nat → Nat → Int32) (c k : Nat) (v w : Int32) : stRr m c k v w 51 (4 * c + 3) = nI (k + 1) := m2_s _ _ _ _
theorem stRr_52 (m : Nat → Nat → Int32) (c k : Nat) (v w : Int32) {i : Nat} (h : i ≠ 4 * c + k) : stRr m c k v w 52 i = m 52 i := by
  unfold stRr
  rw [m2_r _ _ _ (by decide), m2_r _ _ _ (by decide), m2_k _ _ _ _ h]
theorem stRr_53 (m : Nat → Nat → Int32) (c k : Nat) (v w : Int32) {i : Nat} (h : i ≠ 4 * c + k) : stRr m c k v w 53 i = m 53 i := by
  unfold stRr
  rw [m2_r _ _ _ (by decide), m2_k _ _ _ _ h, m2_r _ _ _ (by decide)]
theorem stRr_d {c : Nat} {a b r : Nat} {xs : List (Nat × Nat)} (e : Nat × Nat) (h : duR (m 51) (m 52) (m 53) c (a, b, r, xs)) : duR (stRr m c xs.length (nI e.1) (nI e.2) 51) (stRr m c xs.length (nI e.1) (nI e.2) 52) (stRr m c xs.length (nI e.1) (nI e.2) 53) c (a, b, r, xs ++ [e]) := by
  obtain ⟨h1, h2, h3, h4, h5⟩ := h
  refine ⟨by rw [stRr_51 _ _ _ _ _ (by omega)]; exact h1, by rw [stRr_51 _ _ _ _ _ (by omega)]; exact h2, by rw [stRr_51 _ _ _ _ _ (by omega)]; exact h3, ?_, fun k e' he => ?_⟩
  · rw [stRr_n]
    show _ = nI (xs ++ [e]).length
    rw [List.length_append]
    rfl
  · have he' : (xs ++ [e])[k]? = some e' := he
    rcases Nat.lt_trichotomy k xs.length with z | z | z
    · rw [List.getElem?_append_left z] at he'
      obtain ⟨x1, x2⟩ := h5 k e' he'
      exact ⟨by rw [stRr_52 _ _ _ _ _ (by omega)]; exact x1, by rw [stRr_53 _ _ _ _ _ (by omega)]; exact x2⟩
    · subst z
      have : e = e' := by simpa using he'
      subst this
      unfold stRr
      exact ⟨by rw [m2_r _ _ _ (by decide), m2_r _ _ _ (by decide), m2_s], by rw [m2_r _ _ _ (by decide), m2_s]⟩
    · rw [List.getElem?_eq_none (by simp; omega)] at he'
      cases he'
theorem c104_20 (M : isM W) {n : Nat} {sg : Nat → Nat} (T : txU m n sg) {lo : Nat} (hlo : lo ≤ 100) {s : RS} (hs : okS n s) : cl 104 [.ref 39, .int (nI lo), .int 20] (tm W (txR m s) l) = some (some (.int (nI ((nb sg n lo 21 s).2.getD lo))), tm W (txR m (nb sg n lo 21 s).1) l) := c104 M T (hi := 20) (hi1 := 21) hlo (fun v hv => ⟨fun z => Nat.lt_succ_of_le ((nle (a := v) (b := 20) (by omega) (by decide)).mp z), fun z => (nle (a := v) (b := 20) (by omega) (by decide)).mpr (by omega)⟩) hs
end TXZj

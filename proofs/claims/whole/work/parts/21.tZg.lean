section TXZg
variable {W : tm_W} {m : Nat → Nat → Int32} {l : Nat → Nat → Int64} {f g : Nat → Int32}
/-! RULES: steps -/
def stp (sg : Nat → Nat) (n sep last : Nat) (s : RS) : RS × (Nat × Nat) :=
  ((dg sg n 1 9 (ei sg n 47 47 (nb sg n (last + 1) 21 (ei sg n sep sep s).1).1).1).1, ((nb sg n (last + 1) 21 (ei sg n sep sep s).1).2.getD 0, (dg sg n 1 9 (ei sg n 47 47 (nb sg n (last + 1) 21 (ei sg n sep sep s).1).1).1).2.getD 0))
theorem stp_ok {sg : Nat → Nat} {n sep last : Nat} (hn : n ≤ 200) {s : RS} (hs : okS n s) : okS n (stp sg n sep last s).1 := dg_ok hn (ei_ok hn (nb_ok hn (ei_ok hn hs)))
theorem stp_s {sg : Nat → Nat} {n sep last : Nat} {s : RS} (h : (stp sg n sep last s).1.2 = none) : s.2 = none ∧ s.1 + 4 ≤ (stp sg n sep last s).1.1 ∧ enc (nb sg n (last + 1) 21 (ei sg n sep sep s).1).2 = nI (stp sg n sep last s).2.1 ∧ enc (dg sg n 1 9 (ei sg n 47 47 (nb sg n (last + 1) 21 (ei sg n sep sep s).1).1).1).2 = nI (stp sg n sep last s).2.2 ∧ (last + 1 ≤ (stp sg n sep last s).2.1 ∧ (stp sg n sep last s).2.1 ≤ 20) ∧ (1 ≤ (stp sg n sep last s).2.2 ∧ (stp sg n sep last s).2.2 ≤ 9) := by
  obtain ⟨d1, d2, d3, v, d4, d5, d6⟩ := dg_s (show (dg sg n 1 9 (ei sg n 47 47 (nb sg n (last + 1) 21 (ei sg n sep sep s).1).1).1).1.2 = none from h)
  obtain ⟨e1, e2, e3, e4, e5⟩ := ei_s d1
  obtain ⟨n1, n2, n3, n4, w, n5, n6, n7⟩ := nb_s e1
  obtain ⟨f1, f2, f3, f4, f5⟩ := ei_s n1
  unfold stp
  dsimp only
  rw [d4, n5]
  exact ⟨f1, by omega, rfl, rfl, ⟨n6, by show w ≤ 20; omega⟩, d5, d6⟩
def stpS (sg : Nat → Nat) (n : Nat) : Nat → Nat → Nat → RS → List (Nat × Nat) → RS × List (Nat × Nat)
  | 0, _, _, s, xs => (s, xs)
  | k + 1, sep, last, s, xs => if (stp sg n sep last s).1.2 = none then (if (stp sg n sep last s).1.1 < n ∧ sg (stp sg n sep last s).1.1 = 44 then stpS sg n k 44 (stp sg n sep last s).2.1 (stp sg n sep last s).1 (xs ++ [(stp sg n sep last s).2]) else ((stp sg n sep last s).1, xs ++ [(stp sg n sep last s).2])) else ((stp sg n sep last s).1, xs)
theorem c254_20 (C : isC W) {n : Nat} {sg : Nat → Nat} (T : txT m n sg) {lo : Nat} (hlo : lo ≤ 100) {s : RS} (hs : okS n s) : cl 254 [.ref 1, .int (nI lo), .int 20] (tm W (txC m s) l) = some (some (.int (enc (nb sg n lo 21 s).2)), tm W (txC m (nb sg n lo 21 s).1) l) := c254 C T (hi := 20) (hi1 := 21) hlo (fun v hv => ⟨fun z => Nat.lt_succ_of_le ((nle (a := v) (b := 20) (by omega) (by decide)).mp z), fun z => (nle (a := v) (b := 20) (by omega) (by decide)).mpr (by omega)⟩) hs
theorem c197d (C : isC W) {c : Nat} (hc : c < 4) : cl 197 [.ref 11, .int (nI c)] (tm W m l) = some (some (.int (m 12 (12 * c + 3))), tm W m l) := by
  have e : cl 195 [.ref 11, .int (nI c), .int 3] (tm W m l) = _ := c195d (k := 3) C hc (by decide)
  rw [q_197, if_pos (dok C _), e, kxi_s]
def stDr (m : Nat → Nat → Int32) (c k : Nat) (v w : Int32) : Nat → Nat → Int32 := m2 (m2 (m2 m 12 (12 * c + (4 + 2 * k)) v) 12 (12 * c + (4 + 2 * k + 1)) w) 12 (12 * c + 3) (nI (k + 1))
theorem c200d (C : isC W) {c k : Nat} (hc : c < 4) (hk : k < 4) (h : m 12 (12 * c + 3) = nI k) (v w : Int32) : cl 200 [.ref 11, .int (nI c), .int v, .int w] (tm W m l) = some (none, tm W (stDr m c k v w) l) := by
  have e3 : ∀ (m' : Nat → Nat → Int32), cl 196 [.ref 11, .int (nI c), .int 3, .int (nI (k + 1))] (tm W m' l) = some (none, tm W (m2 m' 12 (12 * c + 3) (nI (k + 1))) l) := fun m' => c196d (k := 3) C hc (by decide) _
  rw [q_200, if_pos (dok C _), c197d C hc, kxi_s, h, if_neg (show ¬ ((4 : Int32) ≤ nI k) from nI_ge (b := 4) hk (by decide)), if_pos (dok C _), ixs, c196d C hc (by omega), kxv_s, if_pos (dok C _), nI_1, c196d C hc (by omega), kxv_s, if_pos (dok C _), nI_1, e3, kxv_s]
  rfl
theorem c200t (C : isC W) {c k : Nat} {s : RS} (hc : c < 4) (hk : k < 4) (h : m 12 (12 * c + 3) = nI k) (v w : Int32) : cl 200 [.ref 11, .int (nI c), .int v, .int w] (tm W (txC m s) l) = some (none, tm W (txC (stDr m c k v w) s) l) := by
  rw [c200d C hc hk (by rw [txC_o _ _ (by decide)]; exact h)]
  unfold stDr
  rw [txC_m2 _ _ _ (by decide), txC_m2 _ _ _ (by decide), txC_m2 _ _ _ (by decide)]
theorem stDr_o (m : Nat → Nat → Int32) (c k : Nat) (v w : Int32) {x : Nat} (h : x ≠ 12) : stDr m c k v w x = m x := by
  unfold stDr
  rw [m2_r _ _ _ h, m2_r _ _ _ h, m2_r _ _ _ h]
theorem stDr_k (m : Nat → Nat → Int32) {c k : Nat} (v w : Int32) {i : Nat} (h1 : i ≠ 12 * c + (4 + 2 * k)) (h2 : i ≠ 12 * c + (4 + 2 * k + 1)) (h3 : i ≠ 12 * c + 3) : stDr m c k v w 12 i = m 12 i := by
  unfold stDr
  rw [m2_k _ _ _ _ h3, m2_k _ _ _ _ h2, m2_k _ _ _ _ h1]
theorem stDr_d {c : Nat} {a b r : Nat} {xs : List (Nat × Nat)} (e : Nat × Nat) (h : duC (m 12) c (a, b, r, xs)) : duC (stDr m c xs.length (nI e.1) (nI e.2) 12) c (a, b, r, xs ++ [e]) := by
  obtain ⟨h1, h2, h3, h4, h5⟩ := h
  refine ⟨by rw [stDr_k _ _ _ (by omega) (by omega) (by omega)]; exact h1, by rw [stDr_k _ _ _ (by omega) (by omega) (by omega)]; exact h2, by rw [stDr_k _ _ _ (by omega) (by omega) (by omega)]; exact h3, ?_, fun k e' he => ?_⟩
  · unfold stDr
    rw [m2_s]
    show _ = nI (xs ++ [e]).length
    rw [List.length_append]
    rfl
  · have he' : (xs ++ [e])[k]? = some e' := he
    rcases Nat.lt_trichotomy k xs.length with z | z | z
    · rw [List.getElem?_append_left z] at he'
      obtain ⟨x1, x2⟩ := h5 k e' he'
      exact ⟨by rw [stDr_k _ _ _ (by omega) (by omega) (by omega)]; exact x1, by rw [stDr_k _ _ _ (by omega) (by omega) (by omega)]; exact x2⟩
    · subst z
      have : e = e' := by simpa using he'
      subst this
      unfold stDr
      exact ⟨by rw [m2_k _ _ _ _ (by omega), m2_k _ _ _ _ (by omega), m2_s], by rw [m2_k _ _ _ _ (by omega), m2_s]⟩
    · rw [List.getElem?_eq_none (by simp; omega)] at he'
      cases he'
end TXZg

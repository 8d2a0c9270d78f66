section TXZm
variable {W : tm_W} {m : Nat → Nat → Int32} {l : Nat → Nat → Int64} {f g : Nat → Int32}
theorem pk111 {sg : Nat → Nat} {n a : Nat} (h3 : ∀ i, i < n → sg i < 256) : (enc (pke sg n a) = (111 : Int32)) = (a < n ∧ sg a = 111) := pke_c (c := 111) h3 (by decide)
theorem pk97 {sg : Nat → Nat} {n a : Nat} (h3 : ∀ i, i < n → sg i < 256) : (enc (pke sg n a) = (97 : Int32)) = (a < n ∧ sg a = 97) := pke_c (c := 97) h3 (by decide)
theorem k22 (M : isM W) {n c p : Nat} {sg : Nat → Nat} (hc : c < 4) (T : txU m n sg) (hp : p ≤ n) (x1 : Int32) : ∃ m' x', dn 107 22 [some (.ref 39), some (.int x1), some (.int (nI c))] [] (tm W (txR m (p, none)) l) = some (some (.int x'), tm W (txR m' (cupR sg n (p, none)).1) l) ∧ (∀ x, x ≠ 51 → x ≠ 52 → x ≠ 53 → m' x = m x) ∧ (∀ i, (i < 4 * c ∨ 4 * c + 4 ≤ i) → m' 51 i = m 51 i ∧ m' 52 i = m 52 i ∧ m' 53 i = m 53 i) ∧ ((cupR sg n (p, none)).1.2 = none → x' = (x1 ||| (1 <<< (nI c &&& 31))) ∧ duR (m' 51) (m' 52) (m' 53) c (cupR sg n (p, none)).2) := by
  have hn := T.2.1
  have h3 : ∀ i, i < n → sg i < 256 := fun i hi => (T.2.2 i hi).1
  have hs : okS n (p, none) := ⟨hp, fun q h => by cases h⟩
  have e6 := c100 (l := l) M T (s := (p, none)) hp
  have u3 : ia_gI (tm W (txR m (p, none)) l) 8 39 23 = some (-1) := u_3 M
  by_cases hA : p < n ∧ (sg p = 111 ∨ sg p = 97)
  · have eA : cuA sg n (p, none) = ((p + 1, none), some (sg p)) := if_pos hA
    have j38 : dn 107 22 [some (.ref 39), some (.int x1), some (.int (nI c))] [] (tm W (txR m (p, none)) l) = dn 107 38 [some (.ref 39), some (.int x1), some (.int (nI c))] [] (tm W (txR m (p, none)) l) := by
      rw [q_107_22, u3, Option.bind_some, if_pos rfl, if_pos (rok M _), e6, kxi_s]
      by_cases z : enc (pke sg n p) = 111
      · rw [if_pos z]
      · rw [if_neg z, if_pos (rok M _), e6, kxi_s, if_pos ((pk97 h3).mpr ⟨hA.1, hA.2.resolve_left fun y => z ((pk111 h3).mpr ⟨hA.1, y⟩)⟩)]
    have j56 : dn 107 38 [some (.ref 39), some (.int x1), some (.int (nI c))] [] (tm W (txR m (p, none)) l) = dn 107 56 [some (.ref 39), some (.int x1), some (.int (nI c))] [.int (nI (cuL sg n (p, none))), .int (4 * nI c), .ref 51] (tm W (txR m (p, none)) l) := by
      rw [q_107_38, u3, Option.bind_some, if_pos rfl, rR24 M, Option.bind_some, if_pos (rok M _), e6, kxi_s]
      unfold cuL
      rw [eA]
      by_cases z : sg p = 97
      · rw [if_pos ((pk97 h3).mpr ⟨hA.1, z⟩), if_pos (show enc (some (sg p)) = 97 by rw [z]; rfl)]
        rfl
      · have y : ¬ enc (some (sg p)) = 97 := fun q => z ((nI_eq (b := 97) (by have := h3 p hA.1; omega) (by decide)).mp q)
        rw [if_neg (fun q => z ((pk97 h3).mp q).2), if_neg y]
        rfl
    obtain ⟨m', r1, r2, r3, r4⟩ := k56 (l := l) M hc T hs rfl (by rw [eA]) x1
    exact ⟨m', _, (j38.trans j56).trans r1, r2, r3, fun z => ⟨rfl, r4 z⟩⟩
  · have eA : cuA sg n (p, none) = ((p, some p), none) := if_neg hA
    have eZ : cuZ sg n (p, none) = ((p, some p), none) := by
      unfold cuZ cuB
      rw [eA]
      rfl
    have eR : cupR sg n (p, none) = ((p, some p), v0) := by
      unfold cupR
      rw [eZ]
      rfl
    have n1 : ¬ enc (pke sg n p) = 111 := fun z => hA ⟨((pk111 h3).mp z).1, Or.inl ((pk111 h3).mp z).2⟩
    have n2 : ¬ enc (pke sg n p) = 97 := fun z => hA ⟨((pk97 h3).mp z).1, Or.inr ((pk97 h3).mp z).2⟩
    refine ⟨m, x1, ?_, fun _ _ _ _ => rfl, fun _ _ => ⟨rfl, rfl, rfl⟩, fun z => by rw [eR] at z; cases z⟩
    rw [eR, q_107_22, u3, Option.bind_some, if_pos rfl, if_pos (rok M _), e6, kxi_s, if_neg n1, if_pos (rok M _), e6, kxi_s, if_neg n2, u_2 M, Option.bind_some, if_pos (rok M _), c101s M, kxv_s, q_107_38, u_3 M, Option.bind_some, if_neg (show ¬ enc (some p) = -1 from nI_ne_m1 (by omega))]
end TXZm

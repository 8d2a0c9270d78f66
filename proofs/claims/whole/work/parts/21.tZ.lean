section TXZ
variable {W : tm_W} {m : Nat → Nat → Int32} {l : Nat → Nat → Int64} {f g : Nat → Int32}
theorem pgC_o (L : List Nat) {x : Nat} (h1 : x ≠ 3) (h2 : x ≠ 4) : pgC m L x = m x := apM_o h1 h2 _ _ _
theorem pgR_o (L : List Nat) {x : Nat} (h1 : x ≠ 39) (h2 : x ≠ 57) : pgR m L x = m x := apM_o h1 h2 _ _ _
theorem la1 (L : List Nat) (v : Nat) : (L ++ [v]).length = L.length + 1 := by rw [List.length_append]; rfl
theorem la2 (L : List Nat) (x : Nat) : (L ++ dgs x).length ≤ L.length + 2 := by
  have := dgs_len x
  rw [List.length_append]
  omega
section PG
variable {c : Nat}
theorem d66m (C : isC W) (hc : c < 4) {k x y v : Nat} (hk : k < 4) (h0 : m 3 1 = 0) {L : List Nat} (hL : L.length < 180) (hv : v < 128) (hx : m 10 (12 * c + (4 + 2 * k)) = nI x) (hx2 : x < 64) (hy : m 10 (12 * c + (4 + 2 * k + 1)) = nI y) (hy2 : y < 64) : dn 66 66 [some (.ref 0), some (.int (nI c)), some (.int (nI k))] [.int (nI v), .ref 3] (tm W (pgC m L) l) = dn 66 53 [some (.ref 0), some (.int (nI c)), some (.int (nI (k + 1)))] [] (tm W (pgC m ((((L ++ [v]) ++ dgs x) ++ [47]) ++ dgs y)) l) := by
  have l1 := la1 L v
  have l2 := la2 (L ++ [v]) x
  have l3 := la1 ((L ++ [v]) ++ dgs x) 47
  have e1 := pgC_add (l := l) C h0 (L := L) (v := v) (by omega) hv
  have e2 := pgC_dg (l := l) C h0 (L := L ++ [v]) (x := x) (by omega) hx2
  have e3 : cl 240 [.ref 3, .int 47] (tm W (pgC m ((L ++ [v]) ++ dgs x)) l) = _ := pgC_add (l := l) C h0 (L := (L ++ [v]) ++ dgs x) (v := 47) (by omega) (by decide)
  have e4 := pgC_dg (l := l) C h0 (L := ((L ++ [v]) ++ dgs x) ++ [47]) (x := y) (by omega) hy2
  have f1 := c198 (m := pgC m (L ++ [v])) (l := l) C hc hk
  rw [pgC_o _ (by decide) (by decide), hx] at f1
  have f2 := c199 (m := pgC m (((L ++ [v]) ++ dgs x) ++ [47])) (l := l) C hc hk
  rw [pgC_o _ (by decide) (by decide), hy] at f2
  rw [q_66_66]
  simp only [p_ok C, uok C, xR1 C, xR4 C, e1, e2, e3, e4, f1, f2, Option.bind_some, kxi_s, kxv_s, if_true, nI_1]
theorem d66s (C : isC W) (hc : c < 4) {s : Nat} (hs : s ≤ 4) (h0 : m 3 1 = 0) (R : iRul (m 10) (m 44) (m 45) (m 46) c) (hS : m 10 (12 * c + 3) = nI s) : ∀ (n k : Nat) (L : List Nat), k + n = s → L.length + 6 * n < 180 → dn 66 53 [some (.ref 0), some (.int (nI c)), some (.int (nI k))] [] (tm W (pgC m L) l) = dn 66 5 [some (.ref 0), some (.int (nI (c + 1))), some (.int (nI s))] [] (tm W (pgC m (L ++ stpL (m 45) (m 46) c n k)) l)
  | 0, k, L, h, hL => by
    obtain rfl : k = s := by omega
    have f := c197 (m := pgC m L) (l := l) C hc
    rw [pgC_o _ (by decide) (by decide), hS] at f
    rw [q_66_53]
    simp only [xR4 C, uok C, f, eq_true (nI_le (Nat.le_refl k) (by omega)), Option.bind_some, kxi_s, if_true, nI_1, stpL, List.append_nil]
  | n + 1, k, L, h, hL => by
    have f := c197 (m := pgC m L) (l := l) C hc
    rw [pgC_o _ (by decide) (by decide), hS] at f
    obtain ⟨-, -, -, s', s1, s2, s3, s4, -⟩ := id R
    have hss : s' = s := (nI_eq (by omega) (by omega)).mp (s2.symm.trans hS)
    obtain ⟨x, y, x1, x2, y1, y2, z1, z2, z3, z4⟩ := s4 k (by omega)
    rw [q_66_53]
    simp only [xR4 C, xR1 C, uok C, f, eq_false (nI_ge (show k < s by omega) (by omega)), Option.bind_some, kxi_s, if_true, if_false]
    have l1 := fun v => la1 L v
    have l2 := fun v => la2 (L ++ [v]) x
    have l3 := fun v => la1 ((L ++ [v]) ++ dgs x) 47
    have l4 := fun v => la2 (((L ++ [v]) ++ dgs x) ++ [47]) y
    have fin : ∀ v, ((((L ++ [v]) ++ dgs x) ++ [47]) ++ dgs y) ++ stpL (m 45) (m 46) c n (k + 1) = L ++ ([v] ++ (dgs x ++ ([47] ++ (dgs y ++ stpL (m 45) (m 46) c n (k + 1))))) := fun v => by simp only [List.append_assoc]
    rw [stpL, vN_e z2 (by omega), vN_e z4 (by omega)]
    by_cases hk : k = 0
    · subst hk
      have e := d66m (l := l) C hc (k := 0) (v := 58) (by decide) h0 (L := L) (by omega) (by decide) z1 (by omega) z3 (by omega)
      have ih := d66s C hc hs h0 R hS n 1 ((((L ++ [58]) ++ dgs x) ++ [47]) ++ dgs y) (by omega) (by have := l1 58; have := l2 58; have := l3 58; have := l4 58; omega)
      rw [if_pos rfl, ← fin 58]
      simp only [eq_true (show nI 0 = 0 from rfl), if_true]
      exact e.trans ih
    · have e := d66m (l := l) C hc (k := k) (v := 44) (by omega) h0 (L := L) (by omega) (by decide) z1 (by omega) z3 (by omega)
      have ih := d66s C hc hs h0 R hS n (k + 1) ((((L ++ [44]) ++ dgs x) ++ [47]) ++ dgs y) (by omega) (by have := l1 44; have := l2 44; have := l3 44; have := l4 44; omega)
      rw [if_neg hk, ← fin 44]
      simp only [eq_false (show ¬ nI k = 0 from fun z => hk ((nI_eq (b := 0) (by omega) (by decide)).mp z)), if_false]
      exact e.trans ih
theorem d66c (C : isC W) (hc : c < 4) (h0 : m 3 1 = 0) (R : iRul (m 10) (m 44) (m 45) (m 46) c) (L : List Nat) (hL : L.length < 140) (l2 : Option Value) : ∃ s, dn 66 14 [some (.ref 0), some (.int (nI c)), l2] [] (tm W (pgC m L) l) = dn 66 5 [some (.ref 0), some (.int (nI (c + 1))), some (.int (nI s))] [] (tm W (pgC m (L ++ cupL (m 44) (m 45) (m 46) c)) l) := by
  obtain ⟨⟨a0, a1⟩, ⟨r, r1, r2, r3, r4⟩, ⟨z, z1, z2, z3⟩, s, s1, s2, s3, -, -⟩ := id R
  obtain ⟨v, hv, hvv⟩ : ∃ v, v < 128 ∧ v = (if m 44 (4 * c) = 1 then 97 else 111) := ⟨_, by split <;> decide, rfl⟩
  have l0 := la2 L c
  have l1 := la1 (L ++ dgs c) v
  have l3 := la2 ((L ++ dgs c) ++ [v]) r
  have l4 := la1 (((L ++ dgs c) ++ [v]) ++ dgs r) 120
  have l5 := la2 ((((L ++ dgs c) ++ [v]) ++ dgs r) ++ [120]) z
  have e0 := pgC_dg (l := l) C h0 (L := L) (x := c) (by omega) (by omega)
  have e1 := pgC_add (l := l) C h0 (L := L ++ dgs c) (v := v) (by omega) hv
  have e2 := pgC_dg (l := l) C h0 (L := (L ++ dgs c) ++ [v]) (x := r) (by omega) (by omega)
  have e3 : cl 240 [.ref 3, .int 120] (tm W (pgC m (((L ++ dgs c) ++ [v]) ++ dgs r)) l) = _ := pgC_add (l := l) C h0 (L := ((L ++ dgs c) ++ [v]) ++ dgs r) (v := 120) (by omega) (by decide)
  have e4 := pgC_dg (l := l) C h0 (L := (((L ++ dgs c) ++ [v]) ++ dgs r) ++ [120]) (x := z) (by omega) (by omega)
  have f0 := c195_0 (m := pgC m (L ++ dgs c)) (l := l) C hc
  rw [pgC_o _ (by decide) (by decide), a0] at f0
  have f1 := c195_1 (m := pgC m ((L ++ dgs c) ++ [v])) (l := l) C hc
  rw [pgC_o _ (by decide) (by decide), r3] at f1
  have f2 := c195_2 (m := pgC m ((((L ++ dgs c) ++ [v]) ++ dgs r) ++ [120])) (l := l) C hc
  rw [pgC_o _ (by decide) (by decide), z2] at f2
  have st := d66s (l := l) C hc s1 h0 R s2 s 0 (((((L ++ dgs c) ++ [v]) ++ dgs r) ++ [120]) ++ dgs z) (by omega) (by omega)
  have fin : (((((L ++ dgs c) ++ [v]) ++ dgs r) ++ [120]) ++ dgs z) ++ stpL (m 45) (m 46) c s 0 = L ++ cupL (m 44) (m 45) (m 46) c := by
    unfold cupL
    rw [← hvv, vN_e r4 (by omega), vN_e z3 (by omega), vN_e s3 (by omega)]
    simp only [List.append_assoc]
  rw [fin] at st
  have j30 : dn 66 30 [some (.ref 0), some (.int (nI c)), l2] [.int (nI v), .ref 3] (tm W (pgC m (L ++ dgs c)) l) = dn 66 5 [some (.ref 0), some (.int (nI (c + 1))), some (.int (nI s))] [] (tm W (pgC m (L ++ cupL (m 44) (m 45) (m 46) c)) l) := by
    rw [q_66_30]
    simp only [p_ok C, uok C, xR1 C, xR4 C, e1, e2, e3, e4, f1, f2, Option.bind_some, kxi_s, kxv_s, if_true]
    exact st
  refine ⟨s, ?_⟩
  rw [q_66_14]
  simp only [p_ok C, uok C, xR1 C, xR4 C, e0, f0, Option.bind_some, kxi_s, kxv_s, if_true]
  by_cases h : m 44 (4 * c) = 1
  · rw [if_pos h]
    rw [if_pos h] at hvv
    subst hvv
    exact j30
  · rw [if_neg h]
    rw [if_neg h] at hvv
    subst hvv
    exact j30
theorem d66 (C : isC W) (h0 : m 3 1 = 0) (R : ∀ c, c < 4 → iRul (m 10) (m 44) (m 45) (m 46) c) : ∀ (n c : Nat) (L : List Nat) (l2 : Option Value), c + n = 4 → L.length ≤ 33 * c → dn 66 5 [some (.ref 0), some (.int (nI c)), l2] [] (tm W (pgC m L) l) = some (none, tm W (pgC m (L ++ pagL (m 44) (m 45) (m 46) n c)) l)
  | 0, c, L, l2, h, hL => by
    obtain rfl : c = 4 := by omega
    rw [q_66_5, if_pos (by decide), pagL, List.append_nil]
  | n + 1, c, L, l2, h, hL => by
    have hc : c < 4 := by omega
    have hcl : (cupL (m 44) (m 45) (m 46) c).length ≤ 32 := cupL_len _ _ _ _ (by
      obtain ⟨-, -, -, s, s1, s2, s3, -, -⟩ := R c hc
      rw [vN_e s3 (by omega)]
      exact s1)
    rw [q_66_5, if_neg (show ¬ ((4 : Int32) ≤ nI c) from nI_ge (b := 4) hc (by decide)), pagL]
    by_cases hz : c = 0
    · subst hz
      obtain ⟨s, e⟩ := d66c (l := l) C hc h0 (R 0 hc) L (by omega) l2
      have ih := d66 C h0 R n 1 (L ++ cupL (m 44) (m 45) (m 46) 0) (some (.int (nI s))) (by omega) (by rw [List.length_append]; omega)
      rw [if_pos (by decide), if_pos rfl, e, ih, List.nil_append, List.append_assoc]
    · have l1 := la1 L 59
      have e0 : cl 240 [.ref 3, .int 59] (tm W (pgC m L) l) = _ := pgC_add (l := l) C h0 (L := L) (v := 59) (by omega) (by decide)
      obtain ⟨s, e⟩ := d66c (l := l) C hc h0 (R c hc) (L ++ [59]) (by omega) l2
      have ih := d66 C h0 R n (c + 1) ((L ++ [59]) ++ cupL (m 44) (m 45) (m 46) c) (some (.int (nI s))) (by omega) (by rw [List.length_append]; omega)
      rw [if_neg (show ¬ (nI c ≤ 0) from nI_ge (a := 0) (b := c) (by omega) (by omega)), if_neg hz, xR1 C, Option.bind_some, if_pos (p_ok C _), e0, kxv_s, e, ih, List.append_assoc, List.append_assoc]
theorem d137m (M : isM W) (hc : c < 4) {k x y v : Nat} (hk : k < 4) (h0 : m 39 31 = 0) {L : List Nat} (hL : L.length < 150) (hx : m 45 (4 * c + k) = nI x) (hx2 : x < 64) (hy : m 46 (4 * c + k) = nI y) (hy2 : y < 64) : dn 137 57 [some (.ref 39), some (.int (nI c)), some (.int (nI k))] [.int (nI v), .ref 39] (tm W (pgR m L) l) = dn 137 41 [some (.ref 39), some (.int (nI c)), some (.int (nI (k + 1)))] [] (tm W (pgR m ((((L ++ [v]) ++ dgs x) ++ [47]) ++ dgs y)) l) := by
  have l1 := la1 L v
  have l2 := la2 (L ++ [v]) x
  have l3 := la1 ((L ++ [v]) ++ dgs x) 47
  have e1 := pgR_add (l := l) M h0 (L := L) v (by omega)
  have e2 := pgR_dg (l := l) M h0 (L := L ++ [v]) (x := x) (by omega) hx2
  have e3 : cl 135 [.ref 39, .int 47] (tm W (pgR m ((L ++ [v]) ++ dgs x)) l) = _ := pgR_add (l := l) M h0 (L := (L ++ [v]) ++ dgs x) 47 (by omega)
  have e4 := pgR_dg (l := l) M h0 (L := ((L ++ [v]) ++ dgs x) ++ [47]) (x := y) (by omega) hy2
  have i4 : 4 * nI c + nI k = nI (4 * c + k) := by rw [mul4, nI_add]
  have f1 := rl45 (m := pgR m (L ++ [v])) (l := l) M (i := 4 * c + k) (by omega)
  rw [pgR_o _ (by decide) (by decide), hx] at f1
  have f2 := rl46 (m := pgR m (((L ++ [v]) ++ dgs x) ++ [47])) (l := l) M (i := 4 * c + k) (by omega)
  rw [pgR_o _ (by decide) (by decide), hy] at f2
  rw [q_137_57]
  simp only [rok M, rR7 M, rR8 M, i4, e1, e2, e3, e4, f1, f2, Option.bind_some, kxi_s, kxv_s, if_true, nI_1]
theorem d137s (M : isM W) (hc : c < 4) {r : Nat → Int32} {s : Nat} (hs : s ≤ 4) (h0 : m 39 31 = 0) (R : iRul r (m 44) (m 45) (m 46) c) (hS : m 44 (4 * c + 3) = nI s) : ∀ (n k : Nat) (L : List Nat), k + n = s → L.length + 6 * n < 150 → dn 137 41 [some (.ref 39), some (.int (nI c)), some (.int (nI k))] [] (tm W (pgR m L) l) = some (none, tm W (pgR m (L ++ stpL (m 45) (m 46) c n k)) l)
  | 0, k, L, h, hL => by
    obtain rfl : k = s := by omega
    have i4 : 4 * nI c + 3 = nI (4 * c + 3) := by rw [mul4, show (3 : Int32) = nI 3 from rfl, nI_add]
    have f := rl44 (m := pgR m L) (l := l) M (i := 4 * c + 3) (by omega)
    rw [pgR_o _ (by decide) (by decide), hS] at f
    rw [q_137_41]
    simp only [rR6 M, i4, f, eq_true (nI_le (Nat.le_refl k) (by omega)), Option.bind_some, if_true, stpL, List.append_nil]
  | n + 1, k, L, h, hL => by
    have i4 : 4 * nI c + 3 = nI (4 * c + 3) := by rw [mul4, show (3 : Int32) = nI 3 from rfl, nI_add]
    have f := rl44 (m := pgR m L) (l := l) M (i := 4 * c + 3) (by omega)
    rw [pgR_o _ (by decide) (by decide), hS] at f
    obtain ⟨-, -, -, s', s1, s2, s3, s4, -⟩ := id R
    have hss : s' = s := (nI_eq (by omega) (by omega)).mp (s3.symm.trans hS)
    obtain ⟨x, y, x1, x2, y1, y2, z1, z2, z3, z4⟩ := s4 k (by omega)
    rw [q_137_41]
    simp only [rR6 M, i4, f, eq_false (nI_ge (show k < s by omega) (by omega)), Option.bind_some, if_false]
    have l1 := fun v => la1 L v
    have l2 := fun v => la2 (L ++ [v]) x
    have l3 := fun v => la1 ((L ++ [v]) ++ dgs x) 47
    have l4 := fun v => la2 (((L ++ [v]) ++ dgs x) ++ [47]) y
    have fin : ∀ v, ((((L ++ [v]) ++ dgs x) ++ [47]) ++ dgs y) ++ stpL (m 45) (m 46) c n (k + 1) = L ++ ([v] ++ (dgs x ++ ([47] ++ (dgs y ++ stpL (m 45) (m 46) c n (k + 1))))) := fun v => by simp only [List.append_assoc]
    rw [stpL, vN_e z2 (by omega), vN_e z4 (by omega)]
    by_cases hk : k = 0
    · subst hk
      have e := d137m (l := l) M hc (k := 0) (v := 58) (by decide) h0 (L := L) (by omega) z2 (by omega) z4 (by omega)
      have ih := d137s M hc hs h0 R hS n 1 ((((L ++ [58]) ++ dgs x) ++ [47]) ++ dgs y) (by omega) (by have := l1 58; have := l2 58; have := l3 58; have := l4 58; omega)
      rw [if_pos rfl, ← fin 58]
      simp only [eq_true (show nI 0 = 0 from rfl), if_true]
      exact e.trans ih
    · have e := d137m (l := l) M hc (k := k) (v := 44) (by omega) h0 (L := L) (by omega) z2 (by omega) z4 (by omega)
      have ih := d137s M hc hs h0 R hS n (k + 1) ((((L ++ [44]) ++ dgs x) ++ [47]) ++ dgs y) (by omega) (by have := l1 44; have := l2 44; have := l3 44; have := l4 44; omega)
      rw [if_neg hk, ← fin 44]
      simp only [eq_false (show ¬ nI k = 0 from fun z => hk ((nI_eq (b := 0) (by omega) (by decide)).mp z)), if_false]
      exact e.trans ih
theorem d137 (M : isM W) (hc : c < 4) {r : Nat → Int32} (h0 : m 39 31 = 0) (R : iRul r (m 44) (m 45) (m 46) c) (L : List Nat) (hL : L.length < 115) : cl 137 [.ref 39, .int (nI c)] (tm W (pgR m L) l) = some (none, tm W (pgR m (L ++ cupL (m 44) (m 45) (m 46) c)) l) := by
  obtain ⟨⟨a0, a1⟩, ⟨r, r1, r2, r3, r4⟩, ⟨z, z1, z2, z3⟩, s, s1, s2, s3, -, -⟩ := id R
  obtain ⟨v, hv, hvv⟩ : ∃ v, v < 128 ∧ v = (if m 44 (4 * c) = 1 then 97 else 111) := ⟨_, by split <;> decide, rfl⟩
  have l0 := la2 L c
  have l1 := la1 (L ++ dgs c) v
  have l3 := la2 ((L ++ dgs c) ++ [v]) r
  have l4 := la1 (((L ++ dgs c) ++ [v]) ++ dgs r) 120
  have l5 := la2 ((((L ++ dgs c) ++ [v]) ++ dgs r) ++ [120]) z
  have e0 := pgR_dg (l := l) M h0 (L := L) (x := c) (by omega) (by omega)
  have e1 := pgR_add (l := l) M h0 (L := L ++ dgs c) v (by omega)
  have e2 := pgR_dg (l := l) M h0 (L := (L ++ dgs c) ++ [v]) (x := r) (by omega) (by omega)
  have e3 : cl 135 [.ref 39, .int 120] (tm W (pgR m (((L ++ dgs c) ++ [v]) ++ dgs r)) l) = _ := pgR_add (l := l) M h0 (L := ((L ++ dgs c) ++ [v]) ++ dgs r) 120 (by omega)
  have e4 := pgR_dg (l := l) M h0 (L := (((L ++ dgs c) ++ [v]) ++ dgs r) ++ [120]) (x := z) (by omega) (by omega)
  have i0 : 4 * nI c = nI (4 * c) := mul4 c
  have i1 : nI (4 * c) + 1 = nI (4 * c + 1) := nI_1 _
  have i2 : nI (4 * c) + 2 = nI (4 * c + 2) := nI_add _ 2
  have f0 := rl44 (m := pgR m (L ++ dgs c)) (l := l) M (i := 4 * c) (by omega)
  rw [pgR_o _ (by decide) (by decide)] at f0
  have f1 := rl44 (m := pgR m ((L ++ dgs c) ++ [v])) (l := l) M (i := 4 * c + 1) (by omega)
  rw [pgR_o _ (by decide) (by decide), r4] at f1
  have f2 := rl44 (m := pgR m ((((L ++ dgs c) ++ [v]) ++ dgs r) ++ [120])) (l := l) M (i := 4 * c + 2) (by omega)
  rw [pgR_o _ (by decide) (by decide), z3] at f2
  have st := d137s (l := l) M hc s1 h0 R s3 s 0 (((((L ++ dgs c) ++ [v]) ++ dgs r) ++ [120]) ++ dgs z) (by omega) (by omega)
  have fin : (((((L ++ dgs c) ++ [v]) ++ dgs r) ++ [120]) ++ dgs z) ++ stpL (m 45) (m 46) c s 0 = L ++ cupL (m 44) (m 45) (m 46) c := by
    unfold cupL
    rw [← hvv, vN_e r4 (by omega), vN_e z3 (by omega), vN_e s3 (by omega)]
    simp only [List.append_assoc]
  rw [fin] at st
  have j15 : dn 137 15 [some (.ref 39), some (.int (nI c)), none] [.int (nI v), .ref 39] (tm W (pgR m (L ++ dgs c)) l) = some (none, tm W (pgR m (L ++ cupL (m 44) (m 45) (m 46) c)) l) := by
    rw [q_137_15]
    simp only [rok M, rR6 M, i0, i1, i2, e1, e2, e3, e4, f1, f2, Option.bind_some, kxi_s, kxv_s, if_true]
    exact st
  rw [q_137]
  simp only [rok M, rR6 M, i0, e0, f0, Option.bind_some, kxi_s, kxv_s, if_true]
  by_cases h : m 44 (4 * c) = 1
  · rw [if_pos h]
    rw [if_pos h] at hvv
    subst hvv
    exact j15
  · rw [if_neg h]
    rw [if_neg h] at hvv
    subst hvv
    exact j15
theorem d138 (M : isM W) {r : Nat → Int32} (x : Int32) (h0 : m 39 31 = 0) (R : ∀ c, c < 4 → iRul r (m 44) (m 45) (m 46) c) : ∀ (n c : Nat) (L : List Nat), c + n = 4 → L.length ≤ 33 * c → dn 138 8 [some (.ref 39), some (.int x), some (.int (nI c))] [] (tm W (pgR m L) l) = dn 138 8 [some (.ref 39), some (.int x), some (.int (nI 4))] [] (tm W (pgR m (L ++ pagL (m 44) (m 45) (m 46) n c)) l)
  | 0, c, L, h, hL => by
    obtain rfl : c = 4 := by omega
    rw [pagL, List.append_nil]
  | n + 1, c, L, h, hL => by
    have hc : c < 4 := by omega
    have hcl : (cupL (m 44) (m 45) (m 46) c).length ≤ 32 := cupL_len _ _ _ _ (by
      obtain ⟨-, -, -, s, s1, s2, s3, -, -⟩ := R c hc
      rw [vN_e s3 (by omega)]
      exact s1)
    rw [q_138_8, if_neg (show ¬ ((4 : Int32) ≤ nI c) from nI_ge (b := 4) hc (by decide)), pagL]
    by_cases hz : c = 0
    · subst hz
      have e := d137 (l := l) M hc h0 (R 0 hc) L (by omega)
      have ih := d138 M x h0 R n 1 (L ++ cupL (m 44) (m 45) (m 46) 0) (by omega) (by rw [List.length_append]; omega)
      rw [if_pos (by decide), if_pos rfl, if_pos (rok M _), e, kxv_s, List.nil_append, ← List.append_assoc]
      exact ih
    · have l1 := la1 L 59
      have e0 : cl 135 [.ref 39, .int 59] (tm W (pgR m L) l) = _ := pgR_add (l := l) M h0 (L := L) 59 (by omega)
      have e := d137 (l := l) M hc h0 (R c hc) (L ++ [59]) (by omega)
      have ih := d138 M x h0 R n (c + 1) ((L ++ [59]) ++ cupL (m 44) (m 45) (m 46) c) (by omega) (by rw [List.length_append]; omega)
      rw [if_neg (show ¬ (nI c ≤ 0) from nI_ge (a := 0) (b := c) (by omega) (by omega)), if_neg hz, if_pos (rok M _), e0, kxv_s, if_pos (rok M _), e, kxv_s, nI_1, ih, List.append_assoc, List.append_assoc]
end PG
end TXZ

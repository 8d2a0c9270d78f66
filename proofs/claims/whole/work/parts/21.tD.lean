section TXD
variable {W : tm_W} {l : Nat → Nat → Int64}
/-! LISTS in a text: the reference -/
theorem txU_of {m m' : Nat → Nat → Int32} {n : Nat} {sg : Nat → Nat} (T : txU m n sg) (h1 : m' 39 21 = m 39 21) (h2 : m' 47 = m 47) : txU m' n sg := by
  obtain ⟨a1, a2, a3⟩ := T
  exact ⟨by rw [h1]; exact a1, a2, fun i hi => by rw [h2]; exact a3 i hi⟩
theorem pke_44 {sg : Nat → Nat} {n a : Nat} (h3 : ∀ i, i < n → sg i < 256) : (enc (pke sg n a) = 44) = (a < n ∧ sg a = 44) := pke_c (c := 44) h3 (by decide)
theorem pke_121 {sg : Nat → Nat} {n a : Nat} (h3 : ∀ i, i < n → sg i < 256) : (enc (pke sg n a) = 121) = (a < n ∧ sg a = 121) := pke_c (c := 121) h3 (by decide)
theorem pke_114 {sg : Nat → Nat} {n a : Nat} (h3 : ∀ i, i < n → sg i < 256) : (enc (pke sg n a) = 114) = (a < n ∧ sg a = 114) := pke_c (c := 114) h3 (by decide)
theorem u_m2 (M : isM W) {m : Nat → Nat → Int32} {s : RS} {k : Nat} (h1 : k ≠ 22) (h2 : k ≠ 23) (hk : ([some 40, some 41, some 42, none, some 43, none, some 44, some 45, some 46, some 47, none, some 48, none, none, none, none, some 49, some 50, none, none, none, none, none, none, some 51, some 52, some 53, some 54, some 55, some 56, some 57, none, some 58, some 59, some 60, none] : List (Option Nat))[k]? = some none) (v : Int32) : ia_pF (tm W (txR m s) l) 8 39 k (.int v) = some (tm W (txR (m2 m 39 k v) s) l) := by
  rw [tm_pI M.1 hk, txR_m2 _ _ _ (by omega)]
theorem u_g (M : isM W) {m : Nat → Nat → Int32} {s : RS} {k : Nat} (h1 : k ≠ 22) (h2 : k ≠ 23) (hk : ([some 40, some 41, some 42, none, some 43, none, some 44, some 45, some 46, some 47, none, some 48, none, none, none, none, some 49, some 50, none, none, none, none, none, none, some 51, some 52, some 53, some 54, some 55, some 56, some 57, none, some 58, some 59, some 60, none] : List (Option Nat))[k]? = some none) : ia_gI (tm W (txR m s) l) 8 39 k = some (m 39 k) := by
  rw [tm_gI M.1 hk, txR_1 _ _ h1 h2]
theorem u_18 (M : isM W) {m : Nat → Nat → Int32} {s : RS} : ia_gI (tm W (txR m s) l) 8 39 18 = some (m 39 18) := u_g M (by decide) (by decide) rfl
theorem u_p18 (M : isM W) {m : Nat → Nat → Int32} {s : RS} (v : Int32) : ia_pF (tm W (txR m s) l) 8 39 18 (.int v) = some (tm W (txR (m2 m 39 18 v) s) l) := u_m2 M (by decide) (by decide) rfl v
theorem u_35 (M : isM W) {m : Nat → Nat → Int32} {s : RS} : ia_gI (tm W (txR m s) l) 8 39 35 = some (m 39 35) := u_g M (by decide) (by decide) rfl
theorem u_p35 (M : isM W) {m : Nat → Nat → Int32} {s : RS} (v : Int32) : ia_pF (tm W (txR m s) l) 8 39 35 (.int v) = some (tm W (txR (m2 m 39 35 v) s) l) := u_m2 M (by decide) (by decide) rfl v
theorem u_ld40 (M : isM W) {m : Nat → Nat → Int32} {s : RS} {i : Nat} (hi : i < 1108) : ia_ld (tm W (txR m s) l) 0 40 (nI i) = some (m 40 i) := by rw [rl40 M hi, txR_o _ _ (by decide)]
theorem u_1104 (M : isM W) {m : Nat → Nat → Int32} {s : RS} : ia_ld (tm W (txR m s) l) 0 40 1104 = some (m 40 1104) := u_ld40 M (i := 1104) (by decide)
theorem u_s49 (M : isM W) {m : Nat → Nat → Int32} {s : RS} {i : Nat} (hi : i < 200) (v : Int32) : ia_st (tm W (txR m s) l) 0 49 (nI i) v = some (tm W (txR (m2 m 49 i v) s) l) := by rw [rs49 M hi, txR_m2 _ _ _ (by omega)]
theorem u_s50 (M : isM W) {m : Nat → Nat → Int32} {s : RS} {i : Nat} (hi : i < 200) (v : Int32) : ia_st (tm W (txR m s) l) 0 50 (nI i) v = some (tm W (txR (m2 m 50 i v) s) l) := by rw [rs50 M hi, txR_m2 _ _ _ (by omega)]
theorem u_s54 (M : isM W) {m : Nat → Nat → Int32} {s : RS} {i : Nat} (hi : i < 200) (v : Int32) : ia_st (tm W (txR m s) l) 0 54 (nI i) v = some (tm W (txR (m2 m 54 i v) s) l) := by rw [rs54 M hi, txR_m2 _ _ _ (by omega)]
theorem u_s55 (M : isM W) {m : Nat → Nat → Int32} {s : RS} {i : Nat} (hi : i < 200) (v : Int32) : ia_st (tm W (txR m s) l) 0 55 (nI i) v = some (tm W (txR (m2 m 55 i v) s) l) := by rw [rs55 M hi, txR_m2 _ _ _ (by omega)]
theorem u_s56 (M : isM W) {m : Nat → Nat → Int32} {s : RS} {i : Nat} (hi : i < 200) (v : Int32) : ia_st (tm W (txR m s) l) 0 56 (nI i) v = some (tm W (txR (m2 m 56 i v) s) l) := by rw [rs56 M hi, txR_m2 _ _ _ (by omega)]
theorem u_s58 (M : isM W) {m : Nat → Nat → Int32} {s : RS} {i : Nat} (hi : i < 64) (v : Int32) : ia_st (tm W (txR m s) l) 0 58 (nI i) v = some (tm W (txR (m2 m 58 i v) s) l) := by rw [rs58 M hi, txR_m2 _ _ _ (by omega)]
theorem u_s59 (M : isM W) {m : Nat → Nat → Int32} {s : RS} {i : Nat} (hi : i < 64) (v : Int32) : ia_st (tm W (txR m s) l) 0 59 (nI i) v = some (tm W (txR (m2 m 59 i v) s) l) := by rw [rs59 M hi, txR_m2 _ _ _ (by omega)]
theorem u_s60 (M : isM W) {m : Nat → Nat → Int32} {s : RS} {i : Nat} (hi : i < 64) (v : Int32) : ia_st (tm W (txR m s) l) 0 60 (nI i) v = some (tm W (txR (m2 m 60 i v) s) l) := by rw [rs60 M hi, txR_m2 _ _ _ (by omega)]
theorem u_l59 (M : isM W) {m : Nat → Nat → Int32} {s : RS} {i : Nat} (hi : i < 64) : ia_ld (tm W (txR m s) l) 0 59 (nI i) = some (m 59 i) := by rw [rl59 M hi, txR_o _ _ (by decide)]
theorem u_l60 (M : isM W) {m : Nat → Nat → Int32} {s : RS} {i : Nat} (hi : i < 64) : ia_ld (tm W (txR m s) l) 0 60 (nI i) = some (m 60 i) := by rw [rl60 M hi, txR_o _ _ (by decide)]
theorem c104P (M : isM W) {m : Nat → Nat → Int32} {n P : Nat} {sg : Nat → Nat} (T : txU m n sg) (hP : P ≤ 12) {s : RS} (hs : okS n s) : cl 104 [.ref 39, .int 0, .int (nI P - 1)] (tm W (txR m s) l) = some (some (.int (nI ((nb sg n 0 P s).2.getD 0))), tm W (txR m (nb sg n 0 P s).1) l) := c104 M T (lo := 0) (by decide) (hiP hP) hs
theorem c102c (M : isM W) {m : Nat → Nat → Int32} {n : Nat} {sg : Nat → Nat} (T : txU m n sg) {s : RS} (hs : okS n s) : cl 102 [.ref 39, .int 99] (tm W (txR m s) l) = some (none, tm W (txR m (ei sg n 99 99 s).1) l) := c102 M T (c := 99) (by decide) hs
theorem c102n (M : isM W) {m : Nat → Nat → Int32} {n : Nat} {sg : Nat → Nat} (T : txU m n sg) {s : RS} (hs : okS n s) : cl 102 [.ref 39, .int 110] (tm W (txR m s) l) = some (none, tm W (txR m (ei sg n 110 110 s).1) l) := c102 M T (c := 110) (by decide) hs
/-! cards -/
def hdK (m : Nat → Nat → Int32) (xs : List IT) : Prop := m 39 18 = nI xs.length ∧ ∀ i e, xs[i]? = some e → m 49 i = nI e.1 ∧ m 50 i = nI e.2.1
def caA (m : Nat → Nat → Int32) (k : Nat) (x y : Int32) : Nat → Nat → Int32 := m2 (m2 (m2 m 49 k x) 50 k y) 39 18 (nI (k + 1))
def frK (m m' : Nat → Nat → Int32) : Prop := (∀ a, a ≠ 39 → a ≠ 49 → a ≠ 50 → m' a = m a) ∧ ∀ k, k ≠ 18 → m' 39 k = m 39 k
theorem caA_o (m : Nat → Nat → Int32) (k : Nat) (x y : Int32) : frK m (caA m k x y) := by
  unfold caA
  refine ⟨fun a h1 h2 h3 => ?_, fun j hj => ?_⟩
  · rw [m2_r _ _ _ h1, m2_r _ _ _ h3, m2_r _ _ _ h2]
  · rw [m2_k _ _ _ _ hj, m2_a _ _ _ _ (by decide), m2_a _ _ _ _ (by decide)]
theorem hdK_add {m : Nat → Nat → Int32} {xs : List IT} (h : hdK m xs) (e : IT) : hdK (caA m xs.length (nI e.1) (nI e.2.1)) (xs ++ [e]) := by
  unfold caA
  refine ⟨?_, fun i e' he => ?_⟩
  · rw [m2_s, List.length_append]
    rfl
  · rw [m2_a _ _ _ _ (show (49 : Nat) ≠ 39 by decide), m2_a _ _ _ _ (show (50 : Nat) ≠ 39 by decide), m2_a _ _ _ _ (show (49 : Nat) ≠ 50 by decide)]
    rcases get_app he with ⟨h1, h2⟩ | ⟨h1, h2⟩
    · rw [m2_k _ _ _ _ (by omega), m2_k _ _ _ _ (by omega), m2_k _ _ _ _ (by omega)]
      exact h.2 i e' h1
    · subst h1
      subst h2
      rw [m2_s, m2_s]
      exact ⟨rfl, rfl⟩
theorem t113 (M : isM W) {m : Nat → Nat → Int32} {n : Nat} {sg : Nat → Nat} (T : txU m n sg) : ∀ {s : RS}, okS n s → ((ia_gI (tm W (txR m s) l) 8 39 23).bind fun v13 => (if v13 = (-1) then (if ia_ok (tm W (txR m s) l) 8 [.ref 39] = true then kxi (cl 100 [.ref 39] (tm W (txR m s) l)) (fun r15 h14 => (if r15 = 44 then ((ia_gI h14 8 39 22).bind fun v16 => ((ia_pF h14 8 39 22 (.int (v16 + 1))).bind fun h17 => dn 113 9 [some (.ref 39), some (.int 1)] [] h17)) else dn 113 76 [some (.ref 39), some (.int 1)] [] h14)) else none) else dn 113 76 [some (.ref 39), some (.int 1)] [] (tm W (txR m s) l))) = (if (go sg n 44 s).2 = true then dn 113 9 [some (.ref 39), some (.int 1)] [] (tm W (txR m (go sg n 44 s).1) l) else some (none, tm W (txR m (go sg n 44 s).1) l))
  | (a, some p), hs => by
    have hp : p ≤ 200 := hs.2 p rfl
    simp only [rok M, rR9 M, u_1 M, u_2 M, u_3 M, Option.bind_some, kxi_s, kxv_s, kxr_s, if_true, if_false, i10, enc_s, eq_false (nI_ne_m1 (show p < 2 ^ 31 by omega)), q_113_76, q_113_9 39 0, c105 M T hs, en, go, Bool.false_eq_true]
  | (a, none), hs => by
    have h3 : ∀ i, i < n → sg i < 256 := fun i hi => (T.2.2 i hi).1
    by_cases h : a < n ∧ sg a = 44
    · simp only [rok M, rR9 M, u_1 M, u_2 M, u_3 M, Option.bind_some, kxi_s, kxv_s, kxr_s, if_true, if_false, i10, enc_n, c100 M T (s := (a, none)) hs.1, pke_44 h3, eq_true h, u_p2 M, nI_1, go, eq_true h.1, eq_true h.2, and_self]
    · have hg : (go sg n 44 (a, none)).2 = false := by
        cases hq : (go sg n 44 (a, none)).2 with
        | false => rfl
        | true => exact absurd (go_tc hq) h
      rw [go_f hg, hg]
      simp only [rok M, rR9 M, u_1 M, u_2 M, u_3 M, Option.bind_some, kxi_s, kxv_s, kxr_s, if_true, if_false, i10, enc_n, c100 M T (s := (a, none)) hs.1, pke_44 h3, eq_false h, q_113_76, q_113_9 39 0, c105 M T hs, Bool.false_eq_true]
theorem ite_113 (c : Prop) [Decidable c] (L : ia_L) (st : List Value) (h : ia_H) : (if c then dn 113 39 L (.int 1 :: st) h else dn 113 39 L (.int 0 :: st) h) = dn 113 39 L (.int (if c then 1 else 0) :: st) h := by split <;> rfl
theorem d113 (M : isM W) {n P : Nat} {sg : Nat → Nat} (hP2 : P ≤ 12) : ∀ (k i : Nat) (s : RS) (xs : List IT) (m : Nat → Nat → Int32), txU m n sg → m 40 1104 = nI P → okS n s → s.2 = none → 3 * i ≤ s.1 → xs.length = i → hdK m xs → n < s.1 + k →
    ∃ m', dn 113 9 [some (.ref 39), some (.int 1)] [] (tm W (txR m s) l) = some (none, tm W (txR m' (plp sg n (itC sg n P) k s xs).1) l) ∧ frK m m' ∧ ((plp sg n (itC sg n P) k s xs).1.2 = none → hdK m' (plp sg n (itC sg n P) k s xs).2)
  | 0, i, s, xs, m, T, hP, hs, h0, h3, hx, hd, hk => absurd hs.1 (by omega)
  | k + 1, i, (a, some p), xs, m, T, hP, hs, h0, h3, hx, hd, hk => by cases h0
  | k + 1, i, (a, none), xs, m, T, hP, hs, h0, h3, hx, hd, hk => by
    have hn := T.2.1
    have hs1 : a ≤ n := hs.1
    have h3' : 3 * i ≤ a := h3
    have hi : i < 200 := by omega
    have hb : ∀ i, i < n → sg i < 256 := fun i hi => (T.2.2 i hi).1
    have h18 : m 39 18 = nI i := by rw [hd.1, hx]
    by_cases hc : a < n ∧ (sg a = 121 ∨ sg a = 114)
    · have he : ei sg n 121 114 (a, none) = ((a + 1, none), some (sg a)) := if_pos hc
      have hs2 : okS n (a + 1, none) := ⟨by show a + 1 ≤ n; omega, fun p hp => by cases hp⟩
      have T2 : ∀ x, txU (m2 m 49 i x) n sg := fun x => txU_of T (m2_a _ _ _ _ (by decide)) (m2_r _ _ _ (by decide))
      have T' : ∀ x y, txU (caA m i x y) n sg := fun x y => txU_of T ((caA_o m i x y).2 21 (by decide)) ((caA_o m i x y).1 47 (by decide) (by decide) (by decide))
      have E1 : dn 113 9 [some (.ref 39), some (.int 1)] [] (tm W (txR m (a, none)) l) = dn 113 28 [some (.ref 39), some (.int 1)] [] (tm W (txR m (a, none)) l) := by
        rw [q_113_9]
        by_cases h121 : sg a = 121
        · simp only [rok M, rR9 M, u_1 M, u_2 M, u_3 M, Option.bind_some, kxi_s, kxv_s, kxr_s, if_true, if_false, i10, enc_n, c100 M T (s := (a, none)) hs.1, pke_121 hb, eq_true (show a < n ∧ sg a = 121 from ⟨hc.1, h121⟩)]
        · have h114 : sg a = 114 := hc.2.resolve_left h121
          simp only [rok M, rR9 M, u_1 M, u_2 M, u_3 M, Option.bind_some, kxi_s, kxv_s, kxr_s, if_true, if_false, i10, enc_n, c100 M T (s := (a, none)) hs.1, pke_121 hb, pke_114 hb, eq_false (show ¬ (a < n ∧ sg a = 121) from fun q => h121 q.2), eq_true (show a < n ∧ sg a = 114 from ⟨hc.1, h114⟩)]
      have ek : (if enc (pke sg n a) = 114 then (1 : Int32) else 0) = nI (itC sg n P (a, none)).2.1 := by
        show _ = nI (if (ei sg n 121 114 (a, none)).2 = some 114 then 1 else 0)
        rw [he, pke_y hc.1]
        rcases hc.2 with q | q
        · rw [q]
          rw [if_neg (show ¬ nI 121 = 114 by decide), if_neg (show ¬ ((a + 1, (none : Option Nat)), (some 121 : Option Nat)).2 = some 114 from fun h => by cases h)]
          rfl
        · rw [q]
          rw [if_pos (show nI 114 = 114 by decide), if_pos rfl]
          rfl
      have ei1 : (itC sg n P (a, none)).1 = (nb sg n 0 P (a + 1, none)).1 := by
        show (nb sg n 0 P (ei sg n 121 114 (a, none)).1).1 = _
        rw [he]
      have ei2 : (itC sg n P (a, none)).2.2.1 = (nb sg n 0 P (a + 1, none)).2.getD 0 := by
        show (nb sg n 0 P (ei sg n 121 114 (a, none)).1).2.getD 0 = _
        rw [he]
      have E : dn 113 9 [some (.ref 39), some (.int 1)] [] (tm W (txR m (a, none)) l) = (if (go sg n 44 (itC sg n P (a, none)).1).2 = true then dn 113 9 [some (.ref 39), some (.int 1)] [] (tm W (txR (caA m i (nI (itC sg n P (a, none)).2.1) (nI (itC sg n P (a, none)).2.2.1)) (go sg n 44 (itC sg n P (a, none)).1).1) l) else some (none, tm W (txR (caA m i (nI (itC sg n P (a, none)).2.1) (nI (itC sg n P (a, none)).2.2.1)) (go sg n 44 (itC sg n P (a, none)).1).1) l)) := by
        rw [E1, q_113_28]
        simp only [rR16 M, rok M, rR9 M, u_1 M, u_2 M, u_3 M, Option.bind_some, kxi_s, kxv_s, kxr_s, if_true, if_false, i10, u_18 M, c100 M T (s := (a, none)) hs.1]
        rw [ite_113, ek, q_113_39, h18]
        simp only [rR0 M, rR17 M, rok M, rR9 M, u_1 M, u_2 M, u_3 M, Option.bind_some, kxi_s, kxv_s, kxr_s, if_true, if_false, i10, u_18 M, u_s49 M hi, u_p2 M, nI_1, u_1104 M, m2_a _ _ _ _ (show (40 : Nat) ≠ 49 by decide), hP, c104P M (T2 _) hP2 hs2, m2_a _ _ _ _ (show (39 : Nat) ≠ 49 by decide), h18, u_s50 M hi, m2_a _ _ _ _ (show (39 : Nat) ≠ 50 by decide), u_p18 M]
        have e := t113 (l := l) M (T' (nI (itC sg n P (a, none)).2.1) (nI (itC sg n P (a, none)).2.2.1)) (nb_ok (sg := sg) (lo := 0) (hi1 := P) hn hs2)
        rw [← ei1] at e
        rw [← e, ei1, ei2]
        simp only [rok M, rR9 M, u_1 M, u_2 M, u_3 M, Option.bind_some, kxi_s, kxv_s, kxr_s, if_true, if_false, i10]
        rfl
      rw [E, plp_s]
      have hok := itC_ok (sg := sg) (P := P) hn hs
      have hd' := hdK_add hd (itC sg n P (a, none)).2
      rw [hx] at hd'
      by_cases hgo : (go sg n 44 (itC sg n P (a, none)).1).2 = true
      · obtain ⟨g1, g2, g3, g4⟩ := go_t hgo
        obtain ⟨c1, c2, c3, c4, c5, c6⟩ := itC_s g1
        have c2' : a + 2 ≤ (itC sg n P (a, none)).1.1 := c2
        rw [if_pos hgo, if_pos hgo]
        obtain ⟨m', r1, r2, r3⟩ := d113 M hP2 k (i + 1) (go sg n 44 (itC sg n P (a, none)).1).1 (xs ++ [(itC sg n P (a, none)).2]) _ (T' _ _) (by rw [(caA_o _ _ _ _).1 40 (by decide) (by decide) (by decide)]; exact hP) (go_ok hn hok) (by rw [g2]) (by rw [g2]; show 3 * (i + 1) ≤ (itC sg n P (a, none)).1.1 + 1; omega) (by rw [List.length_append, hx]; rfl) hd' (by rw [g2]; show n < (itC sg n P (a, none)).1.1 + 1 + k; have : n < a + (k + 1) := hk; omega)
        exact ⟨m', r1, ⟨fun x h1 h2 h3 => by rw [r2.1 x h1 h2 h3, (caA_o _ _ _ _).1 x h1 h2 h3], fun j hj => by rw [r2.2 j hj, (caA_o _ _ _ _).2 j hj]⟩, r3⟩
      · rw [if_neg hgo, if_neg hgo]
        exact ⟨_, rfl, caA_o _ _ _ _, fun _ => hd'⟩
    · have he : ei sg n 121 114 (a, none) = ((a, some a), none) := if_neg hc
      have e1 : (itC sg n P (a, none)).1 = (a, some a) := by
        show (nb sg n 0 P (ei sg n 121 114 (a, none)).1).1 = _
        rw [he]
        rfl
      have E : dn 113 9 [some (.ref 39), some (.int 1)] [] (tm W (txR m (a, none)) l) = some (none, tm W (txR m (a, some a)) l) := by
        rw [q_113_9]
        simp only [rok M, rR9 M, u_1 M, u_2 M, u_3 M, Option.bind_some, kxi_s, kxv_s, kxr_s, if_true, if_false, i10, enc_n, c100 M T (s := (a, none)) hs.1, pke_121 hb, pke_114 hb, eq_false (show ¬ (a < n ∧ sg a = 121) from fun q => hc ⟨q.1, Or.inl q.2⟩), eq_false (show ¬ (a < n ∧ sg a = 114) from fun q => hc ⟨q.1, Or.inr q.2⟩), c101s M]
      rw [E, plp_s, e1]
      exact ⟨m, rfl, ⟨fun _ _ _ _ => rfl, fun _ _ => rfl⟩, fun q => by cases q⟩
/-! bans that come by hand -/
def hdG (a b c : Nat) (m : Nat → Nat → Int32) (xs : List IT) : Prop := ∀ i e, xs[i]? = some e → m a i = nI e.1 ∧ m b i = nI e.2.1 ∧ m c i = nI e.2.2
def giA (a b c : Nat) (m : Nat → Nat → Int32) (k : Nat) (x y z : Int32) : Nat → Nat → Int32 := m2 (m2 (m2 m a k x) b k y) c k z
theorem giA_o {a b c : Nat} (m : Nat → Nat → Int32) (k : Nat) (x y z : Int32) {w : Nat} (h1 : w ≠ a) (h2 : w ≠ b) (h3 : w ≠ c) : giA a b c m k x y z w = m w := by
  unfold giA
  rw [m2_r _ _ _ h3, m2_r _ _ _ h2, m2_r _ _ _ h1]
theorem hdG_add {a b c : Nat} (hab : a ≠ b) (hac : a ≠ c) (hbc : b ≠ c) {m : Nat → Nat → Int32} {xs : List IT} (h : hdG a b c m xs) (e : IT) : hdG a b c (giA a b c m xs.length (nI e.1) (nI e.2.1) (nI e.2.2)) (xs ++ [e]) := by
  intro i e' he
  unfold giA
  have e1 : m2 (m2 (m2 m a xs.length (nI e.1)) b xs.length (nI e.2.1)) c xs.length (nI e.2.2) a i = m2 m a xs.length (nI e.1) a i := by rw [m2_a _ _ _ _ hac, m2_a _ _ _ _ hab]
  have e2 : m2 (m2 (m2 m a xs.length (nI e.1)) b xs.length (nI e.2.1)) c xs.length (nI e.2.2) b i = m2 (m2 m a xs.length (nI e.1)) b xs.length (nI e.2.1) b i := by rw [m2_a _ _ _ _ hbc]
  rw [e1, e2]
  rcases get_app he with ⟨h1, h2⟩ | ⟨h1, h2⟩
  · have hi : i ≠ xs.length := by omega
    rw [m2_k _ _ _ _ hi, m2_k _ _ _ _ hi, m2_k _ _ _ _ hi, m2_k _ _ _ _ hi, m2_k _ _ _ _ hi, m2_k _ _ _ _ hi]
    exact h i e' h1
  · subst h1
    subst h2
    rw [m2_s, m2_s, m2_s]
    exact ⟨rfl, rfl, rfl⟩
theorem t118 (M : isM W) {m : Nat → Nat → Int32} {n : Nat} {sg : Nat → Nat} (T : txU m n sg) (x : Int32) (l3 l4 : Option Value) : ∀ {s : RS}, okS n s → ((ia_gI (tm W (txR m s) l) 8 39 23).bind fun v18 => (if v18 = (-1) then (if ia_ok (tm W (txR m s) l) 8 [.ref 39] = true then kxi (cl 100 [.ref 39] (tm W (txR m s) l)) (fun r20 h19 => (if r20 = 44 then ((ia_gI h19 8 39 22).bind fun v21 => ((ia_pF h19 8 39 22 (.int (v21 + 1))).bind fun h22 => dn 118 14 [some (.ref 39), some (.int x), some (.int 1), l3, l4] [] h22)) else dn 118 66 [some (.ref 39), some (.int x), some (.int 1), l3, l4] [] h19)) else none) else dn 118 66 [some (.ref 39), some (.int x), some (.int 1), l3, l4] [] (tm W (txR m s) l))) = (if (go sg n 44 s).2 = true then dn 118 14 [some (.ref 39), some (.int x), some (.int 1), l3, l4] [] (tm W (txR m (go sg n 44 s).1) l) else dn 118 77 [some (.ref 39), some (.int x), some (.int 0), l3, l4] [] (tm W (txR m s) l))
  | (a, some p), hs => by
    have hp : p ≤ 200 := hs.2 p rfl
    simp only [rok M, rR9 M, u_1 M, u_2 M, u_3 M, Option.bind_some, kxi_s, kxv_s, kxr_s, if_true, if_false, i10, enc_s, eq_false (nI_ne_m1 (show p < 2 ^ 31 by omega)), q_118_66, q_118_14 39 x 0, go, Bool.false_eq_true]
  | (a, none), hs => by
    have h3 : ∀ i, i < n → sg i < 256 := fun i hi => (T.2.2 i hi).1
    by_cases h : a < n ∧ sg a = 44
    · simp only [rok M, rR9 M, u_1 M, u_2 M, u_3 M, Option.bind_some, kxi_s, kxv_s, kxr_s, if_true, if_false, i10, enc_n, c100 M T (s := (a, none)) hs.1, pke_44 h3, eq_true h, u_p2 M, nI_1, go, eq_true h.1, eq_true h.2, and_self]
    · have hg : (go sg n 44 (a, none)).2 = false := by
        cases hq : (go sg n 44 (a, none)).2 with
        | false => rfl
        | true => exact absurd (go_tc hq) h
      rw [hg]
      simp only [rok M, rR9 M, u_1 M, u_2 M, u_3 M, Option.bind_some, kxi_s, kxv_s, kxr_s, if_true, if_false, i10, enc_n, c100 M T (s := (a, none)) hs.1, pke_44 h3, eq_false h, q_118_66, q_118_14 39 x 0, Bool.false_eq_true]
theorem itG_d {sg : Nat → Nat} {n P : Nat} (s : RS) : (itG sg n P s).2 = ((nb sg n 0 P s).2.getD 0, (dg sg n 0 3 (itG1 sg n P s)).2.getD 0, (dg sg n 1 9 (itG2 sg n P s)).2.getD 1) := rfl
theorem d118 (M : isM W) {n P : Nat} {sg : Nat → Nat} (hP2 : P ≤ 12) (l3 l4 : Option Value) : ∀ (k i : Nat) (s : RS) (xs : List IT) (m : Nat → Nat → Int32), txU m n sg → m 40 1104 = nI P → okS n s → s.2 = none → 3 * i ≤ s.1 → xs.length = i → hdG 54 55 56 m xs → n < s.1 + k →
    ∃ m' s', okS n s' ∧ en n s' = (plp sg n (itG sg n P) k s xs).1 ∧ dn 118 14 [some (.ref 39), some (.int (nI i)), some (.int 1), l3, l4] [] (tm W (txR m s) l) = dn 118 77 [some (.ref 39), some (.int (nI (plp sg n (itG sg n P) k s xs).2.length)), some (.int 0), l3, l4] [] (tm W (txR m' s') l) ∧ (∀ a, a ≠ 54 → a ≠ 55 → a ≠ 56 → m' a = m a) ∧ hdG 54 55 56 m' (plp sg n (itG sg n P) k s xs).2
  | 0, i, s, xs, m, T, hP, hs, h0, h3, hx, hd, hk => absurd hs.1 (by omega)
  | k + 1, i, s, xs, m, T, hP, hs, h0, h3, hx, hd, hk => by
    have hn := T.2.1
    have hs1 := hs.1
    have hi : i < 200 := by omega
    have To : ∀ (m' : Nat → Nat → Int32), m' 39 = m 39 → m' 47 = m 47 → txU m' n sg := fun m' a b => txU_of T (by rw [a]) b
    have T1 : ∀ x, txU (m2 m 54 i x) n sg := fun x => To _ (m2_r _ _ _ (by decide)) (m2_r _ _ _ (by decide))
    have T2 : ∀ x y, txU (m2 (m2 m 54 i x) 55 i y) n sg := fun x y => To _ (by rw [m2_r _ _ _ (by decide), m2_r _ _ _ (by decide)]) (by rw [m2_r _ _ _ (by decide), m2_r _ _ _ (by decide)])
    have T3 : ∀ x y z, txU (giA 54 55 56 m i x y z) n sg := fun x y z => To _ (giA_o _ _ _ _ _ (by decide) (by decide) (by decide)) (giA_o _ _ _ _ _ (by decide) (by decide) (by decide))
    obtain ⟨k1, k2, k3⟩ := itG_ok (sg := sg) (P := P) hn hs
    have es : enc s.2 = -1 := by rw [h0]; rfl
    have E : dn 118 14 [some (.ref 39), some (.int (nI i)), some (.int 1), l3, l4] [] (tm W (txR m s) l) = (if (go sg n 44 (itG sg n P s).1).2 = true then dn 118 14 [some (.ref 39), some (.int (nI (i + 1))), some (.int 1), l3, l4] [] (tm W (txR (giA 54 55 56 m i (nI (itG sg n P s).2.1) (nI (itG sg n P s).2.2.1) (nI (itG sg n P s).2.2.2)) (go sg n 44 (itG sg n P s).1).1) l) else dn 118 77 [some (.ref 39), some (.int (nI (i + 1))), some (.int 0), l3, l4] [] (tm W (txR (giA 54 55 56 m i (nI (itG sg n P s).2.1) (nI (itG sg n P s).2.2.1) (nI (itG sg n P s).2.2.2)) (itG sg n P s).1) l)) := by
      rw [← t118 (l := l) M (T3 (nI (itG sg n P s).2.1) (nI (itG sg n P s).2.2.1) (nI (itG sg n P s).2.2.2)) (nI (i + 1)) l3 l4 k3, q_118_14]
      simp only [rR0 M, rR27 M, rok M, rR9 M, u_1 M, u_2 M, u_3 M, Option.bind_some, kxi_s, kxv_s, kxr_s, if_true, if_false, i10, es, u_1104 M, hP, c104P M T hP2 hs, u_s54 M hi, c102c M (T1 _) (nb_ok hn hs)]
      rw [show (ei sg n 99 99 (nb sg n 0 P s).1).1 = itG1 sg n P s from rfl]
      simp only [rR28 M, rok M, rR9 M, u_1 M, u_2 M, u_3 M, Option.bind_some, kxi_s, kxv_s, kxr_s, if_true, if_false, i10, c103_03 M (T1 _) k1, u_s55 M hi, c102n M (T2 _ _) (dg_ok hn k1)]
      rw [show (ei sg n 110 110 (dg sg n 0 3 (itG1 sg n P s)).1).1 = itG2 sg n P s from rfl]
      simp only [rR29 M, rok M, rR9 M, u_1 M, u_2 M, u_3 M, Option.bind_some, kxi_s, kxv_s, kxr_s, if_true, if_false, i10, c103_19 M (T2 _ _) k2, u_s56 M hi, nI_1]
      rfl
    rw [E, plp_s]
    have hd' := hdG_add (by decide) (by decide) (by decide) hd (itG sg n P s).2
    rw [hx] at hd'
    by_cases hgo : (go sg n 44 (itG sg n P s).1).2 = true
    · obtain ⟨g1, g2, g3, g4⟩ := go_t hgo
      obtain ⟨c1, c2, -⟩ := itG_s g1
      rw [if_pos hgo, if_pos hgo]
      obtain ⟨m', s', r0, r1, r2, r3, r4⟩ := d118 M hP2 l3 l4 k (i + 1) (go sg n 44 (itG sg n P s).1).1 (xs ++ [(itG sg n P s).2]) _ (T3 _ _ _) (by rw [giA_o _ _ _ _ _ (by decide) (by decide) (by decide)]; exact hP) (go_ok hn k3) (by rw [g2]) (by rw [g2]; show 3 * (i + 1) ≤ (itG sg n P s).1.1 + 1; omega) (by rw [List.length_append, hx]; rfl) hd' (by rw [g2]; show n < (itG sg n P s).1.1 + 1 + k; omega)
      exact ⟨m', s', r0, r1, r2, fun a h1 h2 h3 => by rw [r3 a h1 h2 h3, giA_o _ _ _ _ _ h1 h2 h3], r4⟩
    · rw [if_neg hgo, if_neg hgo]
      refine ⟨_, (itG sg n P s).1, k3, (go_f (by simpa using hgo)).symm, ?_, fun a h1 h2 h3 => giA_o _ _ _ _ _ h1 h2 h3, hd'⟩
      rw [List.length_append, hx]
      rfl
/-! matches to come -/
theorem t142 (M : isM W) {m : Nat → Nat → Int32} {n : Nat} {sg : Nat → Nat} (T : txU m n sg) : ∀ {s : RS}, okS n s → ((ia_gI (tm W (txR m s) l) 8 39 23).bind fun v3 => (if v3 = (-1) then (if ia_ok (tm W (txR m s) l) 8 [.ref 39] = true then kxi (cl 100 [.ref 39] (tm W (txR m s) l)) (fun r5 h4 => (if r5 = 44 then ((ia_gI h4 8 39 22).bind fun v6 => ((ia_pF h4 8 39 22 (.int (v6 + 1))).bind fun h7 => dn 142 12 [some (.ref 39), some (.int 1)] [] h7)) else dn 142 82 [some (.ref 39), some (.int 1)] [] h4)) else none) else dn 142 82 [some (.ref 39), some (.int 1)] [] (tm W (txR m s) l))) = (if (go sg n 44 s).2 = true then dn 142 12 [some (.ref 39), some (.int 1)] [] (tm W (txR m (go sg n 44 s).1) l) else some (none, tm W (txR m (go sg n 44 s).1) l))
  | (a, some p), hs => by
    have hp : p ≤ 200 := hs.2 p rfl
    simp only [rok M, rR9 M, u_1 M, u_2 M, u_3 M, Option.bind_some, kxi_s, kxv_s, kxr_s, if_true, if_false, i10, enc_s, eq_false (nI_ne_m1 (show p < 2 ^ 31 by omega)), q_142_82, q_142_12 39 0, c105 M T hs, en, go, Bool.false_eq_true]
  | (a, none), hs => by
    have h3 : ∀ i, i < n → sg i < 256 := fun i hi => (T.2.2 i hi).1
    by_cases h : a < n ∧ sg a = 44
    · simp only [rok M, rR9 M, u_1 M, u_2 M, u_3 M, Option.bind_some, kxi_s, kxv_s, kxr_s, if_true, if_false, i10, enc_n, c100 M T (s := (a, none)) hs.1, pke_44 h3, eq_true h, u_p2 M, nI_1, go, eq_true h.1, eq_true h.2, and_self]
    · have hg : (go sg n 44 (a, none)).2 = false := by
        cases hq : (go sg n 44 (a, none)).2 with
        | false => rfl
        | true => exact absurd (go_tc hq) h
      rw [go_f hg, hg]
      simp only [rok M, rR9 M, u_1 M, u_2 M, u_3 M, Option.bind_some, kxi_s, kxv_s, kxr_s, if_true, if_false, i10, enc_n, c100 M T (s := (a, none)) hs.1, pke_44 h3, eq_false h, q_142_82, q_142_12 39 0, c105 M T hs, Bool.false_eq_true]
def hdL (m : Nat → Nat → Int32) (xs : List IT) : Prop := m 39 35 = nI xs.length ∧ hdG 58 59 60 m xs
def liA (m : Nat → Nat → Int32) (k : Nat) (x y z : Int32) : Nat → Nat → Int32 := m2 (giA 58 59 60 m k x y z) 39 35 (nI (k + 1))
def frL (m m' : Nat → Nat → Int32) : Prop := (∀ a, a ≠ 39 → a ≠ 58 → a ≠ 59 → a ≠ 60 → m' a = m a) ∧ ∀ k, k ≠ 35 → m' 39 k = m 39 k
theorem liA_o (m : Nat → Nat → Int32) (k : Nat) (x y z : Int32) : frL m (liA m k x y z) := by
  unfold liA
  refine ⟨fun a h1 h2 h3 h4 => ?_, fun j hj => ?_⟩
  · rw [m2_r _ _ _ h1, giA_o _ _ _ _ _ h2 h3 h4]
  · rw [m2_k _ _ _ _ hj, giA_o _ _ _ _ _ (by decide) (by decide) (by decide)]
theorem hdL_add {m : Nat → Nat → Int32} {xs : List IT} (h : hdL m xs) (e : IT) : hdL (liA m xs.length (nI e.1) (nI e.2.1) (nI e.2.2)) (xs ++ [e]) := by
  refine ⟨?_, fun i e' he => ?_⟩
  · unfold liA
    rw [m2_s, List.length_append]
    rfl
  · unfold liA
    rw [m2_a _ _ _ _ (by decide), m2_a _ _ _ _ (by decide), m2_a _ _ _ _ (by decide)]
    exact hdG_add (by decide) (by decide) (by decide) h.2 e i e' he
theorem dg_n {sg : Nat → Nat} {n lo hi : Nat} : ∀ {s : RS}, ¬ (dg sg n lo hi s).1.2 = none → (dg sg n lo hi s).2 = none
  | (a, some p), _ => rfl
  | (a, none), h => by
    simp only [dg] at h ⊢
    split
    · rename_i z
      rw [if_pos z] at h
      exact absurd rfl h
    · rfl
theorem d142 (M : isM W) {n : Nat} {sg : Nat → Nat} : ∀ (k i : Nat) (s : RS) (xs : List IT) (m : Nat → Nat → Int32), txU m n sg → okS n s → s.2 = none → 4 * i ≤ s.1 → xs.length = i → hdL m xs → n < s.1 + k →
    ∃ m', dn 142 12 [some (.ref 39), some (.int 1)] [] (tm W (txR m s) l) = some (none, tm W (txR m' (plp sg n (itL sg n) k s xs).1) l) ∧ frL m m' ∧ hdL m' (plp sg n (itL sg n) k s xs).2
  | 0, i, s, xs, m, T, hs, h0, h3, hx, hd, hk => absurd hs.1 (by omega)
  | k + 1, i, s, xs, m, T, hs, h0, h3, hx, hd, hk => by
    have hn := T.2.1
    have hs1 := hs.1
    have hi : i < 64 := by omega
    have h35 : m 39 35 = nI i := by rw [hd.1, hx]
    have To : ∀ (m' : Nat → Nat → Int32), m' 39 21 = m 39 21 → m' 47 = m 47 → txU m' n sg := fun m' a b => txU_of T a b
    have T1 : ∀ x, txU (m2 m 58 i x) n sg := fun x => To _ (m2_a _ _ _ _ (by decide)) (m2_r _ _ _ (by decide))
    have T2 : ∀ x y, txU (m2 (m2 m 58 i x) 59 i y) n sg := fun x y => To _ (by rw [m2_a _ _ _ _ (by decide), m2_a _ _ _ _ (by decide)]) (by rw [m2_r _ _ _ (by decide), m2_r _ _ _ (by decide)])
    have T4 : ∀ x y z, txU (liA m i x y z) n sg := fun x y z => To _ ((liA_o m i x y z).2 21 (by decide)) ((liA_o m i x y z).1 47 (by decide) (by decide) (by decide) (by decide))
    obtain ⟨k1, k2, k3, k4⟩ := itL_ok (sg := sg) hn hs
    have es : enc s.2 = -1 := by rw [h0]; rfl
    have g59 : ∀ x y z, giA 58 59 60 m i x y z 59 i = y := fun x y z => by
      unfold giA
      rw [m2_a _ _ _ _ (by decide), m2_s]
    have g60 : ∀ x y z, giA 58 59 60 m i x y z 60 i = z := fun x y z => by
      unfold giA
      rw [m2_s]
    have g35 : ∀ x y z, giA 58 59 60 m i x y z 39 = m 39 := fun x y z => giA_o _ _ _ _ _ (by decide) (by decide) (by decide)
    have E1 : dn 142 12 [some (.ref 39), some (.int 1)] [] (tm W (txR m s) l) = dn 142 66 [some (.ref 39), some (.int 1)] [] (tm W (txR (giA 58 59 60 m i (nI (itL sg n s).2.1) (nI (itL sg n s).2.2.1) (nI (itL sg n s).2.2.2)) (itL sg n s).1) l) := by
      rw [q_142_12]
      simp only [rR32 M, rok M, rR9 M, u_1 M, u_2 M, u_3 M, Option.bind_some, kxi_s, kxv_s, kxr_s, if_true, if_false, i10, es, u_35 M, h35, c103_03 M T hs, u_s58 M hi]
      rw [show (dg sg n 0 3 s).1 = itL1 sg n s from rfl]
      simp only [rR33 M, rok M, rR9 M, u_1 M, u_2 M, u_3 M, Option.bind_some, kxi_s, kxv_s, kxr_s, if_true, if_false, i10, u_35 M, m2_a _ _ _ _ (show (39 : Nat) ≠ 58 by decide), h35, c103_03 M (T1 _) k1, u_s59 M hi]
      rw [show (dg sg n 0 3 (itL1 sg n s)).1 = itL2 sg n s from rfl]
      simp only [rR34 M, rok M, rR9 M, u_1 M, u_2 M, u_3 M, Option.bind_some, kxi_s, kxv_s, kxr_s, if_true, if_false, i10, u_35 M, m2_a _ _ _ _ (show (39 : Nat) ≠ 58 by decide), m2_a _ _ _ _ (show (39 : Nat) ≠ 59 by decide), h35, c103_03 M (T2 _ _) k2, u_s60 M hi]
      rw [show (dg sg n 0 3 (itL2 sg n s)).1 = itL3 sg n s from rfl]
      rw [show m2 (m2 (m2 m 58 i (nI ((dg sg n 0 3 s).2.getD 0))) 59 i (nI ((dg sg n 0 3 (itL1 sg n s)).2.getD 0))) 60 i (nI ((dg sg n 0 3 (itL2 sg n s)).2.getD 0)) = giA 58 59 60 m i (nI (itL sg n s).2.1) (nI (itL sg n s).2.2.1) (nI (itL sg n s).2.2.2) from rfl]
      by_cases hq : (itL3 sg n s).2 = none
      · obtain ⟨a1, a2, a3, v, a4, a5, a6⟩ := dg_s (show (dg sg n 0 3 (itL2 sg n s)).1.2 = none from hq)
        obtain ⟨b1, b2, b3, w, b4, b5, b6⟩ := dg_s (show (dg sg n 0 3 (itL1 sg n s)).1.2 = none from a1)
        have v1 : (itL sg n s).2.2.1 = w := by
          show (dg sg n 0 3 (itL1 sg n s)).2.getD 0 = w
          rw [b4]
          rfl
        have v2 : (itL sg n s).2.2.2 = v := by
          show (dg sg n 0 3 (itL2 sg n s)).2.getD 0 = v
          rw [a4]
          rfl
        have e4 : ∀ m', txR m' (itL3 sg n s) = txR m' ((itL3 sg n s).1, none) := fun m' => by rw [← hq]
        have h1 : 1 ≤ (itL3 sg n s).1 := by
          have : (itL3 sg n s).1 = (itL2 sg n s).1 + 1 := a2
          omega
        by_cases hvw : w = v
        · have e3 : (itL sg n s).1 = ((itL3 sg n s).1, some ((itL3 sg n s).1 - 1)) := by
            unfold itL
            exact if_pos ⟨hq, by rw [b4, a4, hvw]⟩
          rw [e3, e4]
          simp only [rR33 M, rR34 M, rok M, rR9 M, u_1 M, u_2 M, u_3 M, Option.bind_some, kxi_s, kxv_s, kxr_s, if_true, if_false, i10, hq, enc_n, u_35 M, g35, h35, u_l59 M hi, u_l60 M hi, g59, g60, v1, v2, hvw, show nI (itL3 sg n s).1 - 1 = nI ((itL3 sg n s).1 - 1) from pk_sub (b := 1) h1, c101s M]
        · have e3 : (itL sg n s).1 = itL3 sg n s := by
            unfold itL
            exact if_neg (fun q => hvw (by have := q.2; rw [b4, a4] at this; cases this; rfl))
          rw [e3, e4]
          simp only [rR33 M, rR34 M, rok M, rR9 M, u_1 M, u_2 M, u_3 M, Option.bind_some, kxi_s, kxv_s, kxr_s, if_true, if_false, i10, hq, enc_n, u_35 M, g35, h35, u_l59 M hi, u_l60 M hi, g59, g60, v1, v2, eq_false (show ¬ nI w = nI v from fun q => hvw ((nI_eq (by omega) (by omega)).mp q))]
      · have e3 : (itL sg n s).1 = itL3 sg n s := by
          unfold itL
          exact if_neg (fun q => hq q.1)
        obtain ⟨p, hp⟩ : ∃ p, (itL3 sg n s).2 = some p := by
          cases hz : (itL3 sg n s).2 with
          | none => exact absurd hz hq
          | some p => exact ⟨p, rfl⟩
        have hp2 := k3.2 p hp
        rw [e3]
        simp only [rok M, rR9 M, u_1 M, u_2 M, u_3 M, Option.bind_some, kxi_s, kxv_s, kxr_s, if_true, if_false, i10, hp, enc_s, eq_false (nI_ne_m1 (show p < 2 ^ 31 by omega))]
    have E : dn 142 12 [some (.ref 39), some (.int 1)] [] (tm W (txR m s) l) = (if (go sg n 44 (itL sg n s).1).2 = true then dn 142 12 [some (.ref 39), some (.int 1)] [] (tm W (txR (liA m i (nI (itL sg n s).2.1) (nI (itL sg n s).2.2.1) (nI (itL sg n s).2.2.2)) (go sg n 44 (itL sg n s).1).1) l) else some (none, tm W (txR (liA m i (nI (itL sg n s).2.1) (nI (itL sg n s).2.2.1) (nI (itL sg n s).2.2.2)) (go sg n 44 (itL sg n s).1).1) l)) := by
      rw [← t142 (l := l) M (T4 (nI (itL sg n s).2.1) (nI (itL sg n s).2.2.1) (nI (itL sg n s).2.2.2)) k4, E1, q_142_66]
      simp only [u_35 M, g35, h35, u_p35 M, nI_1, Option.bind_some]
      rfl
    rw [E, plp_s]
    have hd' := hdL_add hd (itL sg n s).2
    rw [hx] at hd'
    by_cases hgo : (go sg n 44 (itL sg n s).1).2 = true
    · obtain ⟨g1, g2, g3, g4⟩ := go_t hgo
      obtain ⟨c1, c2, -⟩ := itL_s g1
      rw [if_pos hgo, if_pos hgo]
      obtain ⟨m', r1, r2, r3⟩ := d142 M k (i + 1) (go sg n 44 (itL sg n s).1).1 (xs ++ [(itL sg n s).2]) _ (T4 _ _ _) (go_ok hn k4) (by rw [g2]) (by rw [g2]; show 4 * (i + 1) ≤ (itL sg n s).1.1 + 1; omega) (by rw [List.length_append, hx]; rfl) hd' (by rw [g2]; show n < (itL sg n s).1.1 + 1 + k; omega)
      exact ⟨m', r1, ⟨fun x h1 h2 h3 h4 => by rw [r2.1 x h1 h2 h3 h4, (liA_o _ _ _ _ _).1 x h1 h2 h3 h4], fun j hj => by rw [r2.2 j hj, (liA_o _ _ _ _ _).2 j hj]⟩, r3⟩
    · rw [if_neg hgo, if_neg hgo]
      exact ⟨_, rfl, liA_o _ _ _ _ _, hd'⟩
end TXD

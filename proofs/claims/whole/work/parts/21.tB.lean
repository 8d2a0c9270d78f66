section TXB
variable {W : tm_W} {m : Nat → Nat → Int32} {l : Nat → Nat → Int64}
/-! the reference reads -/
theorem by256 : ∀ v, v < 256 → (nI v).toInt8.toInt32 &&& 255 = nI v := by decide +kernel
theorem by128 : ∀ v, v < 128 → (nI v).toInt8.toInt32 = nI v := by decide +kernel
theorem c100 (M : isM W) {n : Nat} {sg : Nat → Nat} (T : txU m n sg) {s : RS} (hs : s.1 ≤ n) : cl 100 [.ref 39] (tm W (txR m s) l) = some (some (.int (enc (pke sg n s.1))), tm W (txR m s) l) := by
  obtain ⟨h1, h2, h3⟩ := T
  by_cases h : s.1 < n
  · simp only [q_100, rok M, rR9 M, u_1 M, u_2 M, u_3 M, Option.bind_some, kxi_s, kxv_s, kxr_s, if_true, if_false, i10, h1, eq_false (nI_ge h (by omega)), u_ld M (show s.1 < 200 by omega), pke_y h, (h3 _ h).2, by256 _ (h3 _ h).1]
  · simp only [q_100, rok M, rR9 M, u_1 M, u_2 M, u_3 M, Option.bind_some, kxi_s, kxv_s, kxr_s, if_true, if_false, i10, h1, eq_true (nI_le (show n ≤ s.1 by omega) (by omega)), pke_n h]
theorem c101s (M : isM W) (a p : Nat) : cl 101 [.ref 39, .int (nI p)] (tm W (txR m (a, none)) l) = some (none, tm W (txR m (a, some p)) l) := by
  simp only [q_101, rok M, rR9 M, u_1 M, u_2 M, u_3 M, Option.bind_some, kxi_s, kxv_s, kxr_s, if_true, if_false, i10, enc_n, enc_s, u_p3 M]
theorem c101f (M : isM W) (a : Nat) {p : Nat} (hp : p ≤ 200) (x : Int32) : cl 101 [.ref 39, .int x] (tm W (txR m (a, some p)) l) = some (none, tm W (txR m (a, some p)) l) := by
  simp only [q_101, rok M, rR9 M, u_1 M, u_2 M, u_3 M, Option.bind_some, kxi_s, kxv_s, kxr_s, if_true, if_false, i10, enc_n, enc_s, eq_false (nI_ne_m1 (show p < 2 ^ 31 by omega))]
theorem c102 (M : isM W) {n : Nat} {sg : Nat → Nat} (T : txU m n sg) {c : Nat} (hc : c < 256) : ∀ {s : RS}, okS n s → cl 102 [.ref 39, .int (nI c)] (tm W (txR m s) l) = some (none, tm W (txR m (ei sg n c c s).1) l)
  | (a, some p), hs => by
    have hp : p ≤ 200 := hs.2 p rfl
    simp only [q_102, rok M, rR9 M, u_1 M, u_2 M, u_3 M, Option.bind_some, kxi_s, kxv_s, kxr_s, if_true, if_false, i10, enc_n, enc_s, eq_false (nI_ne_m1 (show p < 2 ^ 31 by omega)), ei]
  | (a, none), hs => by
    have h3 : ∀ i, i < n → sg i < 256 := fun i hi => (T.2.2 i hi).1
    by_cases h : a < n ∧ sg a = c
    · simp only [q_102, rok M, rR9 M, u_1 M, u_2 M, u_3 M, Option.bind_some, kxi_s, kxv_s, kxr_s, if_true, if_false, i10, enc_n, enc_s, c100 M T (s := (a, none)) hs.1, pke_c h3 hc, eq_true h, u_p2 M, nI_1, ei, eq_true (show a < n ∧ (sg a = c ∨ sg a = c) from ⟨h.1, Or.inl h.2⟩)]
    · simp only [q_102, rok M, rR9 M, u_1 M, u_2 M, u_3 M, Option.bind_some, kxi_s, kxv_s, kxr_s, if_true, if_false, i10, enc_n, enc_s, c100 M T (s := (a, none)) hs.1, pke_c h3 hc, eq_false h, c101s M, ei, eq_false (show ¬ (a < n ∧ (sg a = c ∨ sg a = c)) from fun q => q.2.elim (fun e => h ⟨q.1, e⟩) (fun e => h ⟨q.1, e⟩))]
theorem in48 (sg : Nat → Nat) {n a lo hi : Nat} (hlo : lo ≤ 9) (hhi : hi ≤ 9) (h3 : ∀ i, i < n → sg i < 256) : (48 + nI lo ≤ enc (pke sg n a) ∧ enc (pke sg n a) ≤ 48 + nI hi) = (a < n ∧ 48 + lo ≤ sg a ∧ sg a ≤ 48 + hi) := by
  rw [show (48 : Int32) = nI 48 from rfl, nI_add, nI_add]
  by_cases h : a < n
  · have hv := h3 a h
    rw [pke_y h, propext (nle (a := 48 + lo) (b := sg a) (by omega) (by omega)), propext (nle (a := sg a) (b := 48 + hi) (by omega) (by omega))]
    exact propext ⟨fun q => ⟨h, q⟩, fun q => q.2⟩
  · rw [pke_n h]
    refine propext ⟨fun q => absurd q.1 (fun e => ?_), fun q => absurd q.1 h⟩
    exact m1_lt (48 + lo) (by omega) e
theorem c103 (M : isM W) {n : Nat} {sg : Nat → Nat} (T : txU m n sg) {lo hi : Nat} (hlo : lo ≤ 9) (hhi : hi ≤ 9) : ∀ {s : RS}, okS n s → cl 103 [.ref 39, .int (nI lo), .int (nI hi)] (tm W (txR m s) l) = some (some (.int (nI ((dg sg n lo hi s).2.getD lo))), tm W (txR m (dg sg n lo hi s).1) l)
  | (a, some p), hs => by
    have hp : p ≤ 200 := hs.2 p rfl
    simp only [q_103, rok M, rR9 M, u_1 M, u_2 M, u_3 M, Option.bind_some, kxi_s, kxv_s, kxr_s, if_true, if_false, i10, enc_n, enc_s, eq_false (nI_ne_m1 (show p < 2 ^ 31 by omega)), dg, Option.getD_none]
  | (a, none), hs => by
    have h3 : ∀ i, i < n → sg i < 256 := fun i hi => (T.2.2 i hi).1
    have hn := T.2.1
    by_cases h : a < n ∧ 48 + lo ≤ sg a ∧ sg a ≤ 48 + hi
    · have e1 : nI (a + 1) - 1 = nI a := nI_pred a
      have e2 : m 47 a = nI (sg a) := by rw [(T.2.2 a h.1).2, by128 _ (by omega)]
      have e3 : nI (sg a) - 48 = nI (sg a - 48) := pk_sub (b := 48) (by omega)
      simp only [q_103, rok M, rR9 M, u_1 M, u_2 M, u_3 M, Option.bind_some, kxi_s, kxv_s, kxr_s, if_true, if_false, i10, enc_n, enc_s, c100 M T (s := (a, none)) hs.1, c69i, in48 sg hlo hhi h3, eq_true h, u_p2 M, nI_1, e1, u_ld M (show a < 200 by omega), e2, e3, dg, Option.getD_some]
    · simp only [q_103, rok M, rR9 M, u_1 M, u_2 M, u_3 M, Option.bind_some, kxi_s, kxv_s, kxr_s, if_true, if_false, i10, enc_n, enc_s, c100 M T (s := (a, none)) hs.1, c69i, in48 sg hlo hhi h3, eq_false h, c101s M, dg, Option.getD_none]
theorem c103_09 (M : isM W) {n : Nat} {sg : Nat → Nat} (T : txU m n sg) {s : RS} (hs : okS n s) : cl 103 [.ref 39, .int 0, .int 9] (tm W (txR m s) l) = some (some (.int (nI ((dg sg n 0 9 s).2.getD 0))), tm W (txR m (dg sg n 0 9 s).1) l) := c103 M T (lo := 0) (hi := 9) (by decide) (by decide) hs
theorem c103_03 (M : isM W) {n : Nat} {sg : Nat → Nat} (T : txU m n sg) {s : RS} (hs : okS n s) : cl 103 [.ref 39, .int 0, .int 3] (tm W (txR m s) l) = some (some (.int (nI ((dg sg n 0 3 s).2.getD 0))), tm W (txR m (dg sg n 0 3 s).1) l) := c103 M T (lo := 0) (hi := 3) (by decide) (by decide) hs
theorem c103_19 (M : isM W) {n : Nat} {sg : Nat → Nat} (T : txU m n sg) {s : RS} (hs : okS n s) : cl 103 [.ref 39, .int 1, .int 9] (tm W (txR m s) l) = some (some (.int (nI ((dg sg n 1 9 s).2.getD 1))), tm W (txR m (dg sg n 1 9 s).1) l) := c103 M T (lo := 1) (hi := 9) (by decide) (by decide) hs
theorem in0 (x : Int32) (h : ia_H) : cl 69 [.long x.toInt64, .long 48, .long 57] h = some (some (.int (if 48 ≤ x ∧ x ≤ 57 then 1 else 0)), h) := by
  have e := c69i x 48 57 h
  rw [show (48 : Int32).toInt64 = 48 by decide, show (57 : Int32).toInt64 = 57 by decide] at e
  exact e
theorem e104 (M : isM W) {lo hi1 b v : Nat} {hi : Int32} (hlo : lo ≤ 100) (hh : ∀ v, v < 100 → (nI v ≤ hi ↔ v < hi1)) (hv : v < 100) (hb1 : 1 ≤ b) (hb : b ≤ 200) : dn 104 35 [some (.ref 39), some (.int (nI lo)), some (.int hi), some (.int (nI v))] [] (tm W (txR m (b, none)) l) = some (some (.int (nI ((nbE lo hi1 b v).2.getD lo))), tm W (txR m (nbE lo hi1 b v).1) l) := by
  have e1 : nI b - 1 = nI (b - 1) := pk_sub (b := 1) hb1
  have e2 : (nI lo ≤ nI v ∧ nI v ≤ hi) = (lo ≤ v ∧ v < hi1) := by
    rw [propext (hh v hv), propext (nle (a := lo) (b := v) (by omega) (by omega))]
  by_cases h : lo ≤ v ∧ v < hi1
  · simp only [q_104_35, rok M, rR9 M, u_1 M, u_2 M, u_3 M, Option.bind_some, kxi_s, kxv_s, kxr_s, if_true, if_false, i10, c69i, e2, eq_true h, nbE, Option.getD_some]
  · simp only [q_104_35, rok M, rR9 M, u_1 M, u_2 M, u_3 M, Option.bind_some, kxi_s, kxv_s, kxr_s, if_true, if_false, i10, c69i, e2, eq_false h, e1, c101s M, nbE, Option.getD_none]
theorem c104 (M : isM W) {n : Nat} {sg : Nat → Nat} (T : txU m n sg) {lo hi1 : Nat} {hi : Int32} (hlo : lo ≤ 100) (hh : ∀ v, v < 100 → (nI v ≤ hi ↔ v < hi1)) : ∀ {s : RS}, okS n s → cl 104 [.ref 39, .int (nI lo), .int hi] (tm W (txR m s) l) = some (some (.int (nI ((nb sg n lo hi1 s).2.getD lo))), tm W (txR m (nb sg n lo hi1 s).1) l)
  | (a, some p), hs => by
    have hp : p ≤ 200 := hs.2 p rfl
    simp only [q_104, rok M, rR9 M, u_1 M, u_2 M, u_3 M, Option.bind_some, kxi_s, kxv_s, kxr_s, if_true, if_false, i10, c103_09 M T hs, dg, enc_n, enc_s, eq_false (nI_ne_m1 (show p < 2 ^ 31 by omega)), nb, Option.getD_none]
  | (a, none), hs => by
    have hn := T.2.1
    have ha : a ≤ n := hs.1
    have h3 : ∀ i, i < n → sg i < 256 := fun i hi => (T.2.2 i hi).1
    by_cases h : a < n ∧ 48 ≤ sg a ∧ sg a ≤ 57
    · have hd : dg sg n 0 9 (a, none) = ((a + 1, none), some (sg a - 48)) := if_pos (show a < n ∧ 48 + 0 ≤ sg a ∧ sg a ≤ 48 + 9 by omega)
      by_cases h0 : 48 < sg a
      · have e48 : (48 ≤ enc (pke sg n (a + 1)) ∧ enc (pke sg n (a + 1)) ≤ 57) = (a + 1 < n ∧ 48 ≤ sg (a + 1) ∧ sg (a + 1) ≤ 57) := in48 sg (lo := 0) (hi := 9) (by decide) (by decide) h3
        by_cases h2 : a + 1 < n ∧ 48 ≤ sg (a + 1) ∧ sg (a + 1) ≤ 57
        · have e10 : ((10 : Int32) * nI (sg a - 48) + nI (sg (a + 1))) - 48 = nI (10 * (sg a - 48) + (sg (a + 1) - 48)) := by
            rw [show (10 : Int32) = nI 10 from rfl, pk_mul, nI_add, show (48 : Int32) = nI 48 from rfl, pk_sub (by omega), show 10 * (sg a - 48) + sg (a + 1) - 48 = 10 * (sg a - 48) + (sg (a + 1) - 48) by omega]
          simp only [q_104, rok M, rR9 M, u_1 M, u_2 M, u_3 M, Option.bind_some, kxi_s, kxv_s, kxr_s, if_true, if_false, i10, c103_09 M T hs, hd, enc_n, enc_s, Option.getD_some, eq_false (nI_nle (n := sg a - 48) (by omega) (by omega)), c100 M T (s := (a + 1, none)) (by show a + 1 ≤ n; omega), in0, pke_y h2.1, eq_true (show (48 : Int32) ≤ nI (sg (a + 1)) ∧ nI (sg (a + 1)) ≤ 57 from ⟨nI_le (a := 48) h2.2.1 (by omega), nI_le (b := 57) h2.2.2 (by decide)⟩), e10, u_p2 M, nI_1]
          rw [e104 M hlo hh (by omega) (by omega) (by omega)]
          simp only [nb, eq_true h, eq_true (show 48 < sg a ∧ a + 1 < n ∧ 48 ≤ sg (a + 1) ∧ sg (a + 1) ≤ 57 from ⟨h0, h2⟩), if_true]
        · simp only [q_104, rok M, rR9 M, u_1 M, u_2 M, u_3 M, Option.bind_some, kxi_s, kxv_s, kxr_s, if_true, if_false, i10, c103_09 M T hs, hd, enc_n, enc_s, Option.getD_some, eq_false (nI_nle (n := sg a - 48) (by omega) (by omega)), c100 M T (s := (a + 1, none)) (by show a + 1 ≤ n; omega), in0, e48, eq_false h2]
          rw [e104 M hlo hh (by omega) (by omega) (by omega)]
          simp only [nb, eq_true h, eq_false (show ¬ (48 < sg a ∧ a + 1 < n ∧ 48 ≤ sg (a + 1) ∧ sg (a + 1) ≤ 57) from fun q => h2 q.2), if_true, if_false]
      · have ez : nI (sg a - 48) ≤ 0 := by
          rw [show sg a - 48 = 0 by omega]
          decide
        simp only [q_104, rok M, rR9 M, u_1 M, u_2 M, u_3 M, Option.bind_some, kxi_s, kxv_s, kxr_s, if_true, if_false, i10, c103_09 M T hs, hd, enc_n, enc_s, Option.getD_some, eq_true ez]
        rw [e104 M hlo hh (by omega) (by omega) (by omega)]
        simp only [nb, eq_true h, eq_false (show ¬ (48 < sg a ∧ a + 1 < n ∧ 48 ≤ sg (a + 1) ∧ sg (a + 1) ≤ 57) from fun q => h0 q.1), if_true, if_false]
    · have hd : dg sg n 0 9 (a, none) = ((a, some a), none) := if_neg (show ¬ (a < n ∧ 48 + 0 ≤ sg a ∧ sg a ≤ 48 + 9) by omega)
      simp only [q_104, rok M, rR9 M, u_1 M, u_2 M, u_3 M, Option.bind_some, kxi_s, kxv_s, kxr_s, if_true, if_false, i10, c103_09 M T hs, hd, enc_n, enc_s, eq_false (nI_ne_m1 (show a < 2 ^ 31 by omega)), nb, eq_false h, Option.getD_none]
/-- the end of a text -/
def en (n : Nat) : RS → RS
  | (a, none) => if a < n then (a, some a) else (a, none)
  | (a, some p) => (a, some p)
theorem c105 (M : isM W) {n : Nat} {sg : Nat → Nat} (T : txU m n sg) : ∀ {s : RS}, okS n s → cl 105 [.ref 39] (tm W (txR m s) l) = some (none, tm W (txR m (en n s)) l)
  | (a, some p), hs => by
    have hp : p ≤ 200 := hs.2 p rfl
    simp only [q_105, rok M, rR9 M, u_1 M, u_2 M, u_3 M, Option.bind_some, kxi_s, kxv_s, kxr_s, if_true, if_false, i10, enc_n, enc_s, eq_false (nI_ne_m1 (show p < 2 ^ 31 by omega)), en]
  | (a, none), hs => by
    have hn := T.2.1
    have ha : a ≤ n := hs.1
    by_cases h : a < n
    · simp only [q_105, rok M, rR9 M, u_1 M, u_2 M, u_3 M, Option.bind_some, kxi_s, kxv_s, kxr_s, if_true, if_false, i10, enc_n, enc_s, T.1, eq_false (nI_ge h (by omega)), c101s M, en, eq_true h]
    · simp only [q_105, rok M, rR9 M, u_1 M, u_2 M, u_3 M, Option.bind_some, kxi_s, kxv_s, kxr_s, if_true, if_false, i10, enc_n, enc_s, T.1, eq_true (nI_le (show n ≤ a by omega) (by omega)), en, eq_false h]
/-! what the readers keep -/
theorem ei_ok {sg : Nat → Nat} {n c1 c2 : Nat} (hn : n ≤ 200) : ∀ {s : RS}, okS n s → okS n (ei sg n c1 c2 s).1
  | (a, some p), hs => hs
  | (a, none), hs => by
    have ha : a ≤ n := hs.1
    simp only [ei]
    split
    · exact ⟨by show a + 1 ≤ n; omega, fun p hp => by cases hp⟩
    · exact ⟨ha, fun p hp => by cases hp; omega⟩
theorem dg_ok {sg : Nat → Nat} {n lo hi : Nat} (hn : n ≤ 200) : ∀ {s : RS}, okS n s → okS n (dg sg n lo hi s).1
  | (a, some p), hs => hs
  | (a, none), hs => by
    have ha : a ≤ n := hs.1
    simp only [dg]
    split
    · exact ⟨by show a + 1 ≤ n; omega, fun p hp => by cases hp⟩
    · exact ⟨ha, fun p hp => by cases hp; omega⟩
theorem nbE_ok {n lo hi1 b v : Nat} (hn : n ≤ 200) (hb : b ≤ n) : okS n (nbE lo hi1 b v).1 := by
  unfold nbE
  split
  · exact ⟨hb, fun p hp => by cases hp⟩
  · exact ⟨hb, fun p hp => by cases hp; omega⟩
theorem nb_ok {sg : Nat → Nat} {n lo hi1 : Nat} (hn : n ≤ 200) : ∀ {s : RS}, okS n s → okS n (nb sg n lo hi1 s).1
  | (a, some p), hs => hs
  | (a, none), hs => by
    have ha : a ≤ n := hs.1
    simp only [nb]
    split
    · split
      · exact nbE_ok hn (by omega)
      · exact nbE_ok hn (by omega)
    · exact ⟨ha, fun p hp => by cases hp; omega⟩
theorem go_ok {sg : Nat → Nat} {n c : Nat} (hn : n ≤ 200) : ∀ {s : RS}, okS n s → okS n (go sg n c s).1
  | (a, some p), hs => hs
  | (a, none), hs => by
    have ha : a ≤ n := hs.1
    simp only [go]
    split
    · split
      · exact ⟨by show a + 1 ≤ n; omega, fun p hp => by cases hp⟩
      · exact ⟨ha, fun p hp => by cases hp; omega⟩
    · exact ⟨ha, fun p hp => by cases hp⟩
theorem ei_s {sg : Nat → Nat} {n c1 c2 : Nat} : ∀ {s : RS}, (ei sg n c1 c2 s).1.2 = none → s.2 = none ∧ (ei sg n c1 c2 s).1.1 = s.1 + 1 ∧ s.1 < n ∧ (ei sg n c1 c2 s).2 = some (sg s.1) ∧ (sg s.1 = c1 ∨ sg s.1 = c2)
  | (a, some p), h => by cases h
  | (a, none), h => by
    simp only [ei] at h ⊢
    split at h
    · rename_i q
      rw [if_pos q]
      exact ⟨trivial, rfl, q.1, rfl, q.2⟩
    · cases h
theorem dg_s {sg : Nat → Nat} {n lo hi : Nat} : ∀ {s : RS}, (dg sg n lo hi s).1.2 = none → s.2 = none ∧ (dg sg n lo hi s).1.1 = s.1 + 1 ∧ s.1 < n ∧ ∃ v, (dg sg n lo hi s).2 = some v ∧ lo ≤ v ∧ v ≤ hi
  | (a, some p), h => by cases h
  | (a, none), h => by
    simp only [dg] at h ⊢
    split at h
    · rename_i q
      rw [if_pos q]
      exact ⟨trivial, rfl, q.1, _, rfl, by omega, by omega⟩
    · cases h
theorem nbE_s {lo hi1 b v : Nat} (h : (nbE lo hi1 b v).1.2 = none) : (nbE lo hi1 b v) = ((b, none), some v) ∧ lo ≤ v ∧ v < hi1 := by
  unfold nbE at h ⊢
  split at h
  · rename_i q
    rw [if_pos q]
    exact ⟨rfl, q⟩
  · cases h
theorem nb_s {sg : Nat → Nat} {n lo hi1 : Nat} : ∀ {s : RS}, (nb sg n lo hi1 s).1.2 = none → s.2 = none ∧ s.1 + 1 ≤ (nb sg n lo hi1 s).1.1 ∧ (nb sg n lo hi1 s).1.1 ≤ s.1 + 2 ∧ s.1 < n ∧ ∃ v, (nb sg n lo hi1 s).2 = some v ∧ lo ≤ v ∧ v < hi1
  | (a, some p), h => by cases h
  | (a, none), h => by
    simp only [nb] at h ⊢
    split at h
    · rename_i q
      rw [if_pos q]
      split at h
      · rename_i q2
        rw [if_pos q2]
        obtain ⟨e, h1, h2⟩ := nbE_s h
        rw [e]
        exact ⟨trivial, by show a + 1 ≤ a + 2; omega, by show a + 2 ≤ a + 2; omega, q.1, _, rfl, h1, h2⟩
      · rename_i q2
        rw [if_neg q2]
        obtain ⟨e, h1, h2⟩ := nbE_s h
        rw [e]
        exact ⟨trivial, by show a + 1 ≤ a + 1; omega, by show a + 1 ≤ a + 2; omega, q.1, _, rfl, h1, h2⟩
    · cases h
theorem go_t {sg : Nat → Nat} {n c : Nat} : ∀ {s : RS}, (go sg n c s).2 = true → s.2 = none ∧ (go sg n c s).1 = (s.1 + 1, none) ∧ s.1 < n ∧ sg s.1 = c
  | (a, some p), h => by cases h
  | (a, none), h => by
    simp only [go] at h ⊢
    split at h
    · rename_i q
      rw [if_pos q]
      split at h
      · rename_i q2
        rw [if_pos q2]
        exact ⟨trivial, rfl, q, q2⟩
      · cases h
    · cases h
/-- the reference's look for another one: more, or the end of the text -/
theorem go_f {sg : Nat → Nat} {n c : Nat} : ∀ {s : RS}, (go sg n c s).2 = false → (go sg n c s).1 = en n s
  | (a, some p), _ => rfl
  | (a, none), h => by
    simp only [go] at h ⊢
    simp only [en]
    split at h
    · rename_i q
      rw [if_pos q]
      split at h
      · cases h
      · rename_i q2
        rw [if_neg q2, if_pos q]
    · rename_i q
      rw [if_neg q, if_neg q]
theorem go_fc {sg : Nat → Nat} {n c : Nat} {a : Nat} (h : (go sg n c (a, none)).2 = false) : ¬ (a < n ∧ sg a = c) := fun q => by
  simp only [go] at h
  rw [if_pos q.1, if_pos q.2] at h
  cases h
theorem go_tc {sg : Nat → Nat} {n c : Nat} {a : Nat} (h : (go sg n c (a, none)).2 = true) : a < n ∧ sg a = c := (go_t h).2.2
/-! the invariant behind a text -/
theorem Inv_t {j : Nat} {m' : Nat → Nat → Int32} {l' : Nat → Nat → Int64} (h : Inv j W m l) (hr : ∀ a, (a = 10 ∨ (13 ≤ a ∧ a < 21) ∨ (29 ≤ a ∧ a < 37) ∨ a = 40 ∨ (42 ≤ a ∧ a < 47) ∨ 62 ≤ a) → m' a = m a)
    (h0 : m' 0 10 = m 0 10) (h371 : m' 37 1 = m 37 1) (h372 : m' 37 2 = m 37 2) (h393 : m' 39 3 = m 39 3) (h395 : m' 39 5 = m 39 5) (ht : iTxt m') (hrow : iRow m' l') : Inv (j + 1) W m' l' := by
  obtain ⟨⟨hC, hM, h61, g1, g2, g3⟩, ⟨P, N, E, s1, s2, s3, s4⟩, ⟨k1, k2⟩, hH, hR, -, -⟩ := h
  have e13 : vw m' 13 = vw m 13 := vw_row fun a a1 a2 => hr a (by omega)
  have e29 : vw m' 29 = vw m 29 := vw_row fun a a1 a2 => hr a (by omega)
  have e40 : m' 40 = m 40 := hr 40 (by omega)
  have e42 : m' 42 = m 42 := hr 42 (by omega)
  refine ⟨⟨hC, hM, h61, g1, by omega, by omega⟩, ⟨P, N, E, by rw [e13, e40]; exact s1, by rw [e40]; exact s2, by omega, by rw [e40]; exact CB_le s4 (by omega)⟩, ⟨by rw [h0, h393]; exact k1, ?_⟩, iHis_same (by omega) hH (hr 43 (by omega)) (fun x hx => hr x (by omega)) h371 h372 h395, fun c hc => ?_, ht, hrow⟩
  · rw [h393, e29, e42]
    rcases k2 with k2 | ⟨k2, P', N', E', q1, q2, q3, q4⟩
    · exact Or.inl k2
    · exact Or.inr ⟨k2, P', N', E', q1, q2, by omega, CB_le q4 (by omega)⟩
  · rw [hr 10 (by omega), hr 44 (by omega), hr 45 (by omega), hr 46 (by omega)]
    exact hR c hc
theorem iTxt_0 {m' : Nat → Nat → Int32} (h1 : m' 1 1 = 0) (h2 : m' 39 10 = 0) : iTxt m' := ⟨0, by decide, h1, h2, fun i hi => absurd hi (by omega)⟩
theorem tx1g (C : isC W) : ia_gI (tm W m l) 1 1 1 = some (m 1 1) := tm_gI C.t1 rfl
theorem tx1p (C : isC W) (v : Int32) : ia_pF (tm W m l) 1 1 1 (.int v) = some (tm W (m2 m 1 1 v) l) := tm_pI C.t1 rfl
/-! end -/
theorem b_end {j : Nat} (hj : j < 600) (h : Inv j W m l) (x0 : Int32) : Both j W m l 2 74 [.int x0] [.int x0] := by
  obtain ⟨⟨C, M, -⟩, -, -, -, -, ⟨n, n200, x1, x2, x3⟩, ⟨rn, r1, r2, r3, r4⟩⟩ := id h
  rcases arg3 x0 (n := n) (by omega) with ⟨k, hk, rfl⟩ | hx
  · refine ⟨1, W, m2 m 1 1 (nI k), l, W, m2 (m2 (m2 m 1 1 (nI k)) 39 13 0) 39 10 (nI k), l, ?_, ?_, rfl, rfl, rfl, rfl, ?_⟩
    · simp only [q_2, q_242, xR0 C, t_ok C, tx1g C, tx1p C, Option.bind_some, kxi_s, if_true, if_false, x1, eq_false (nI_pos (n := k) (by omega)), eq_true (nI_le hk (by omega)), or_true]
    · simp only [q_74, ru13 M, rI10 M, ru10 M, Option.bind_some, kxi_s, if_true, if_false, ← z64, m2_k _ _ _ _ (show (10 : Nat) ≠ 13 by decide), m2_a _ _ _ _ (show (39 : Nat) ≠ 1 by decide), x2, c69l hk (show n < 2 ^ 20 by omega), i10]
    · refine Inv_t h (fun a ha => ?_) ?_ ?_ ?_ ?_ ?_ ⟨k, by omega, ?_, m2_s _ _ _ _, fun i hi => ?_⟩ ⟨rn, r1, ?_, ?_, fun i hi => ?_⟩
      · rw [m2_r _ _ _ (by omega), m2_r _ _ _ (by omega), m2_r _ _ _ (by omega)]
      · rw [m2_a _ _ _ _ (by decide), m2_a _ _ _ _ (by decide), m2_a _ _ _ _ (by decide)]
      · rw [m2_a _ _ _ _ (by decide), m2_a _ _ _ _ (by decide), m2_a _ _ _ _ (by decide)]
      · rw [m2_a _ _ _ _ (by decide), m2_a _ _ _ _ (by decide), m2_a _ _ _ _ (by decide)]
      · rw [m2_k _ _ _ _ (by decide), m2_k _ _ _ _ (by decide), m2_a _ _ _ _ (by decide)]
      · rw [m2_k _ _ _ _ (by decide), m2_k _ _ _ _ (by decide), m2_a _ _ _ _ (by decide)]
      · rw [m2_a _ _ _ _ (by decide), m2_a _ _ _ _ (by decide), m2_s]
      · rw [m2_a _ _ _ _ (by decide), m2_a _ _ _ _ (by decide), m2_a _ _ _ _ (by decide), m2_a _ _ _ _ (by decide), m2_a _ _ _ _ (by decide), m2_a _ _ _ _ (by decide)]
        exact x3 i (by omega)
      · rw [m2_a _ _ _ _ (by decide), m2_a _ _ _ _ (by decide), m2_a _ _ _ _ (by decide)]
        exact r2
      · rw [m2_k _ _ _ _ (by decide), m2_k _ _ _ _ (by decide), m2_a _ _ _ _ (by decide)]
        exact r3
      · rw [m2_a _ _ _ _ (by decide), m2_a _ _ _ _ (by decide), m2_a _ _ _ _ (by decide)]
        exact r4 i hi
  · refine Both_no h 0 ?_ ?_
    · rcases hx with hx | hx
      · simp only [q_2, q_242, xR0 C, t_ok C, Option.bind_some, kxi_s, if_true, eq_true hx, true_or]
      · simp only [q_2, q_242, xR0 C, t_ok C, tx1g C, Option.bind_some, kxi_s, if_true, x1, eq_false hx, if_false, ite_self, true_or]
    · simp only [q_74, ru13 M, rI10 M, Option.bind_some, kxi_s, if_true, ← z64, m2_k _ _ _ _ (show (10 : Nat) ≠ 13 by decide), x2, c69m hx]
end TXB

section TXA
variable {W : tm_W} {m : Nat → Nat → Int32} {l : Nat → Nat → Int64}
/-! TEXTS: both readers. A reader is at a place, and may have found a sign that can't stand -/
abbrev RS : Type := Nat × Option Nat
theorem enc_n : enc none = -1 := rfl
theorem enc_s (p : Nat) : enc (some p) = nI p := rfl
def txC (m : Nat → Nat → Int32) (s : RS) : Nat → Nat → Int32 := m2 (m2 m 1 2 (nI s.1)) 1 3 (enc s.2)
def txR (m : Nat → Nat → Int32) (s : RS) : Nat → Nat → Int32 := m2 (m2 m 39 22 (nI s.1)) 39 23 (enc s.2)
/-- the text of the component: n signs -/
def txT (m : Nat → Nat → Int32) (n : Nat) (sg : Nat → Nat) : Prop := m 1 1 = nI n ∧ n ≤ 200 ∧ ∀ i, i < n → sg i < 256 ∧ m 2 i = nI (sg i)
/-- the text of the reference -/
def txU (m : Nat → Nat → Int32) (n : Nat) (sg : Nat → Nat) : Prop := m 39 21 = nI n ∧ n ≤ 200 ∧ ∀ i, i < n → sg i < 256 ∧ m 47 i = (nI (sg i)).toInt8.toInt32
def okS (n : Nat) (s : RS) : Prop := s.1 ≤ n ∧ ∀ p, s.2 = some p → p ≤ 200
theorem m2_c {α : Type} (m : Nat → Nat → α) {a k a' k' : Nat} (v v' : α) (h : ¬ (a = a' ∧ k = k')) : m2 (m2 m a k v) a' k' v' = m2 (m2 m a' k' v') a k v := by
  funext x y
  unfold m2
  by_cases h1 : x = a' ∧ y = k'
  · rw [if_pos h1]
    by_cases h2 : x = a ∧ y = k
    · exact absurd ⟨h2.1.symm.trans h1.1, h2.2.symm.trans h1.2⟩ h
    · rw [if_neg h2, if_pos h1]
  · rw [if_neg h1]
    by_cases h2 : x = a ∧ y = k
    · rw [if_pos h2, if_pos h2]
    · rw [if_neg h2, if_neg h2, if_neg h1]
theorem txC_2 (m : Nat → Nat → Int32) (s : RS) : txC m s 1 2 = nI s.1 := by
  unfold txC
  rw [m2_k _ _ _ _ (by decide), m2_s]
theorem txC_3 (m : Nat → Nat → Int32) (s : RS) : txC m s 1 3 = enc s.2 := m2_s _ _ _ _
theorem txC_1 (m : Nat → Nat → Int32) (s : RS) {k : Nat} (h2 : k ≠ 2) (h3 : k ≠ 3) : txC m s 1 k = m 1 k := by
  unfold txC
  rw [m2_k _ _ _ _ h3, m2_k _ _ _ _ h2]
theorem txC_o (m : Nat → Nat → Int32) (s : RS) {a : Nat} (h : a ≠ 1) : txC m s a = m a := by
  unfold txC
  rw [m2_r _ _ _ h, m2_r _ _ _ h]
theorem txC_m2 (m : Nat → Nat → Int32) (s : RS) {a k : Nat} (v : Int32) (h : a ≠ 1) : m2 (txC m s) a k v = txC (m2 m a k v) s := by
  unfold txC
  rw [m2_c _ _ _ (fun q => h q.1.symm), m2_c _ _ _ (fun q => h q.1.symm)]
theorem txC_p2 (m : Nat → Nat → Int32) (s : RS) (a : Nat) : m2 (txC m s) 1 2 (nI a) = txC m (a, s.2) := by
  unfold txC
  rw [m2_c _ _ _ (by decide), m2_m2]
theorem txC_p3 (m : Nat → Nat → Int32) (s : RS) (p : Nat) : m2 (txC m s) 1 3 (nI p) = txC m (s.1, some p) := by
  unfold txC
  rw [m2_m2]
  rfl
theorem txC_p1 (m : Nat → Nat → Int32) (s : RS) (v : Int32) : m2 (txC m s) 1 1 v = txC (m2 m 1 1 v) s := by
  unfold txC
  rw [m2_c (m2 m 1 2 (nI s.1)) _ _ (by decide), m2_c m _ _ (by decide)]
theorem txR_2 (m : Nat → Nat → Int32) (s : RS) : txR m s 39 22 = nI s.1 := by
  unfold txR
  rw [m2_k _ _ _ _ (by decide), m2_s]
theorem txR_3 (m : Nat → Nat → Int32) (s : RS) : txR m s 39 23 = enc s.2 := m2_s _ _ _ _
theorem txR_1 (m : Nat → Nat → Int32) (s : RS) {k : Nat} (h2 : k ≠ 22) (h3 : k ≠ 23) : txR m s 39 k = m 39 k := by
  unfold txR
  rw [m2_k _ _ _ _ h3, m2_k _ _ _ _ h2]
theorem txR_o (m : Nat → Nat → Int32) (s : RS) {a : Nat} (h : a ≠ 39) : txR m s a = m a := by
  unfold txR
  rw [m2_r _ _ _ h, m2_r _ _ _ h]
theorem txR_m2 (m : Nat → Nat → Int32) (s : RS) {a k : Nat} (v : Int32) (h : ¬ (a = 39 ∧ (k = 22 ∨ k = 23))) : m2 (txR m s) a k v = txR (m2 m a k v) s := by
  unfold txR
  rw [m2_c _ _ _ (fun q => h ⟨q.1.symm, Or.inr q.2.symm⟩), m2_c _ _ _ (fun q => h ⟨q.1.symm, Or.inl q.2.symm⟩)]
theorem txR_p2 (m : Nat → Nat → Int32) (s : RS) (a : Nat) : m2 (txR m s) 39 22 (nI a) = txR m (a, s.2) := by
  unfold txR
  rw [m2_c _ _ _ (by decide), m2_m2]
theorem txR_p3 (m : Nat → Nat → Int32) (s : RS) (p : Nat) : m2 (txR m s) 39 23 (nI p) = txR m (s.1, some p) := by
  unfold txR
  rw [m2_m2]
  rfl
theorem t_R (C : isC W) : ia_gR (tm W m l) 1 1 0 = some 2 := tm_gR C.t1 rfl
theorem t_1 (C : isC W) {s : RS} : ia_gI (tm W (txC m s) l) 1 1 1 = some (m 1 1) := by rw [tm_gI C.t1 rfl, txC_1 _ _ (by decide) (by decide)]
theorem t_2 (C : isC W) {s : RS} : ia_gI (tm W (txC m s) l) 1 1 2 = some (nI s.1) := by rw [tm_gI C.t1 rfl, txC_2]
theorem t_3 (C : isC W) {s : RS} : ia_gI (tm W (txC m s) l) 1 1 3 = some (enc s.2) := by rw [tm_gI C.t1 rfl, txC_3]
theorem t_p1 (C : isC W) {s : RS} (v : Int32) : ia_pF (tm W (txC m s) l) 1 1 1 (.int v) = some (tm W (txC (m2 m 1 1 v) s) l) := by rw [tm_pI C.t1 rfl, txC_p1]
theorem t_p2 (C : isC W) {s : RS} (a : Nat) : ia_pF (tm W (txC m s) l) 1 1 2 (.int (nI a)) = some (tm W (txC m (a, s.2)) l) := by rw [tm_pI C.t1 rfl, txC_p2]
theorem t_p3 (C : isC W) {s : RS} (p : Nat) : ia_pF (tm W (txC m s) l) 1 1 3 (.int (nI p)) = some (tm W (txC m (s.1, some p)) l) := by rw [tm_pI C.t1 rfl, txC_p3]
theorem t_ok (C : isC W) (as : List Value) : ia_ok (tm W m l) 1 (.ref 1 :: as) = true := tm_ok C.t1 (by decide)
theorem t_ld (C : isC W) {s : RS} {i : Nat} (hi : i < 200) : ia_ld (tm W (txC m s) l) 2 2 (nI i) = some (m 2 i) := by rw [tm_ld C.t2 (by decide) (by decide) hi (by decide), txC_o _ _ (by decide)]
theorem u_1 (M : isM W) {s : RS} : ia_gI (tm W (txR m s) l) 8 39 21 = some (m 39 21) := by rw [rI21 M, txR_1 _ _ (by decide) (by decide)]
theorem u_2 (M : isM W) {s : RS} : ia_gI (tm W (txR m s) l) 8 39 22 = some (nI s.1) := by rw [rI22 M, txR_2]
theorem u_3 (M : isM W) {s : RS} : ia_gI (tm W (txR m s) l) 8 39 23 = some (enc s.2) := by rw [rI23 M, txR_3]
theorem u_p2 (M : isM W) {s : RS} (a : Nat) : ia_pF (tm W (txR m s) l) 8 39 22 (.int (nI a)) = some (tm W (txR m (a, s.2)) l) := by rw [ru22 M, txR_p2]
theorem u_p3 (M : isM W) {s : RS} (p : Nat) : ia_pF (tm W (txR m s) l) 8 39 23 (.int (nI p)) = some (tm W (txR m (s.1, some p)) l) := by rw [ru23 M, txR_p3]
theorem u_ld (M : isM W) {s : RS} {i : Nat} (hi : i < 200) : ia_ld (tm W (txR m s) l) 3 47 (nI i) = some (m 47 i) := by rw [rl47 M hi, txR_o _ _ (by decide)]
/-- the sign that stands at a -/
def pke (sg : Nat → Nat) (n a : Nat) : Option Nat := if a < n then some (sg a) else none
theorem pke_y {sg : Nat → Nat} {n a : Nat} (h : a < n) : enc (pke sg n a) = nI (sg a) := by
  unfold pke
  rw [if_pos h]
  rfl
theorem pke_n {sg : Nat → Nat} {n a : Nat} (h : ¬ a < n) : enc (pke sg n a) = -1 := by
  unfold pke
  rw [if_neg h]
  rfl
theorem pke_c {sg : Nat → Nat} {n a c : Nat} (h3 : ∀ i, i < n → sg i < 256) (hc : c < 256) : (enc (pke sg n a) = nI c) = (a < n ∧ sg a = c) := by
  by_cases h : a < n
  · rw [pke_y h]
    have := h3 a h
    exact propext ⟨fun q => ⟨h, (nI_eq (by omega) (by omega)).mp q⟩, fun q => by rw [q.2]⟩
  · rw [pke_n h]
    exact propext ⟨fun q => absurd q.symm (nI_ne_m1 (by omega)), fun q => absurd q.1 h⟩
def ei (sg : Nat → Nat) (n c1 c2 : Nat) : RS → RS × Option Nat
  | (a, none) => if a < n ∧ (sg a = c1 ∨ sg a = c2) then ((a + 1, none), some (sg a)) else ((a, some a), none)
  | (a, some p) => ((a, some p), none)
def dg (sg : Nat → Nat) (n lo hi : Nat) : RS → RS × Option Nat
  | (a, none) => if a < n ∧ 48 + lo ≤ sg a ∧ sg a ≤ 48 + hi then ((a + 1, none), some (sg a - 48)) else ((a, some a), none)
  | (a, some p) => ((a, some p), none)
def nbE (lo hi1 a v : Nat) : RS × Option Nat := if lo ≤ v ∧ v < hi1 then ((a, none), some v) else ((a, some (a - 1)), none)
def nb (sg : Nat → Nat) (n lo hi1 : Nat) : RS → RS × Option Nat
  | (a, none) => if a < n ∧ 48 ≤ sg a ∧ sg a ≤ 57 then (if 48 < sg a ∧ a + 1 < n ∧ 48 ≤ sg (a + 1) ∧ sg (a + 1) ≤ 57 then nbE lo hi1 (a + 2) (10 * (sg a - 48) + (sg (a + 1) - 48)) else nbE lo hi1 (a + 1) (sg a - 48)) else ((a, some a), none)
  | (a, some p) => ((a, some p), none)
def go (sg : Nat → Nat) (n c : Nat) : RS → RS × Bool
  | (a, none) => if a < n then (if sg a = c then ((a + 1, none), true) else ((a, some a), false)) else ((a, none), false)
  | (a, some p) => ((a, some p), false)
/-! the component reads -/
theorem c248 (C : isC W) {n : Nat} {sg : Nat → Nat} (T : txT m n sg) {s : RS} (hs : s.1 ≤ n) : cl 248 [.ref 1] (tm W (txC m s) l) = some (some (.int (enc (pke sg n s.1))), tm W (txC m s) l) := by
  obtain ⟨h1, h2, h3⟩ := T
  by_cases h : s.1 < n
  · simp only [q_248, t_ok C, t_R C, t_1 C, t_2 C, t_3 C, Option.bind_some, kxi_s, kxv_s, kxr_s, if_true, if_false, i10, h1, eq_false (nI_pos (n := s.1) (by omega)), eq_false (nI_ge h (by omega)), t_ld C (show s.1 < 200 by omega), pke_y h, (h3 _ h).2]
  · simp only [q_248, t_ok C, t_R C, t_1 C, t_2 C, t_3 C, Option.bind_some, kxi_s, kxv_s, kxr_s, if_true, if_false, i10, h1, eq_false (nI_pos (n := s.1) (by omega)), eq_true (nI_le (show n ≤ s.1 by omega) (by omega)), pke_n h]
theorem c246s (C : isC W) (a : Nat) : cl 246 [.ref 1] (tm W (txC m (a, none)) l) = some (some (.int 1), tm W (txC m (a, none)) l) := by
  simp only [q_246, t_ok C, t_R C, t_1 C, t_2 C, t_3 C, Option.bind_some, kxi_s, kxv_s, kxr_s, if_true, if_false, i10, enc_n, enc_s]
theorem c246f (C : isC W) (a : Nat) {p : Nat} (hp : p ≤ 200) : cl 246 [.ref 1] (tm W (txC m (a, some p)) l) = some (some (.int 0), tm W (txC m (a, some p)) l) := by
  simp only [q_246, t_ok C, t_R C, t_1 C, t_2 C, t_3 C, Option.bind_some, kxi_s, kxv_s, kxr_s, if_true, if_false, i10, enc_n, enc_s, eq_false (nI_ne_m1 (show p < 2 ^ 31 by omega))]
theorem c249s (C : isC W) (a p : Nat) : cl 249 [.ref 1, .int (nI p)] (tm W (txC m (a, none)) l) = some (none, tm W (txC m (a, some p)) l) := by
  simp only [q_249, t_ok C, t_R C, t_1 C, t_2 C, t_3 C, Option.bind_some, kxi_s, kxv_s, kxr_s, if_true, if_false, i10, enc_n, enc_s, t_p3 C]
theorem c249f (C : isC W) (a : Nat) {p : Nat} (hp : p ≤ 200) (x : Int32) : cl 249 [.ref 1, .int x] (tm W (txC m (a, some p)) l) = some (none, tm W (txC m (a, some p)) l) := by
  simp only [q_249, t_ok C, t_R C, t_1 C, t_2 C, t_3 C, Option.bind_some, kxi_s, kxv_s, kxr_s, if_true, if_false, i10, enc_n, enc_s, eq_false (nI_ne_m1 (show p < 2 ^ 31 by omega))]
theorem c247 (C : isC W) {n : Nat} {sg : Nat → Nat} (T : txT m n sg) {s : RS} (hs : s.1 ≤ n) : cl 247 [.ref 1] (tm W (txC m s) l) = some (some (.int (if s.1 < n then 0 else 1)), tm W (txC m s) l) := by
  obtain ⟨h1, h2, h3⟩ := T
  by_cases h : s.1 < n
  · simp only [q_247, t_ok C, t_R C, t_1 C, t_2 C, t_3 C, Option.bind_some, kxi_s, kxv_s, kxr_s, if_true, if_false, i10, h1, eq_true (nI_lt h (by omega)), eq_true h]
  · simp only [q_247, t_ok C, t_R C, t_1 C, t_2 C, t_3 C, Option.bind_some, kxi_s, kxv_s, kxr_s, if_true, if_false, i10, h1, eq_false (nI_nlt (show n ≤ s.1 by omega) (by omega)), eq_false h]
theorem c251 (C : isC W) {n : Nat} {sg : Nat → Nat} (T : txT m n sg) {c1 c2 : Nat} (hc1 : c1 < 256) (hc2 : c2 < 256) : ∀ {s : RS}, okS n s → cl 251 [.ref 1, .int (nI c1), .int (nI c2)] (tm W (txC m s) l) = some (some (.int (enc (ei sg n c1 c2 s).2)), tm W (txC m (ei sg n c1 c2 s).1) l)
  | (a, some p), hs => by
    have hp : p ≤ 200 := hs.2 p rfl
    simp only [q_251, t_ok C, t_R C, t_1 C, t_2 C, t_3 C, Option.bind_some, kxi_s, kxv_s, kxr_s, if_true, if_false, i10, c248 C T (s := (a, some p)) hs.1, c246f C a hp, c249f C a hp, ei, enc_n, enc_s]
  | (a, none), hs => by
    have h3 : ∀ i, i < n → sg i < 256 := fun i hi => (T.2.2 i hi).1
    have ha : a ≤ n := hs.1
    by_cases h1 : a < n ∧ sg a = c1
    · simp only [q_251, t_ok C, t_R C, t_1 C, t_2 C, t_3 C, Option.bind_some, kxi_s, kxv_s, kxr_s, if_true, if_false, i10, c248 C T (s := (a, none)) hs.1, c246s C a, eq_true (show nI (sg a) = nI c1 by rw [h1.2]), t_p2 C, nI_1, ei, eq_true (show a < n ∧ (sg a = c1 ∨ sg a = c2) from ⟨h1.1, Or.inl h1.2⟩), enc_n, enc_s, pke_y h1.1]
    · by_cases h2 : a < n ∧ sg a = c2
      · simp only [q_251, t_ok C, t_R C, t_1 C, t_2 C, t_3 C, Option.bind_some, kxi_s, kxv_s, kxr_s, if_true, if_false, i10, c248 C T (s := (a, none)) hs.1, c246s C a, eq_false (show ¬ nI (sg a) = nI c1 from fun q => h1 ⟨h2.1, (nI_eq (by have := h3 a h2.1; omega) (by omega)).mp q⟩), eq_true (show nI (sg a) = nI c2 by rw [h2.2]), t_p2 C, nI_1, ei, eq_true (show a < n ∧ (sg a = c1 ∨ sg a = c2) from ⟨h2.1, Or.inr h2.2⟩), enc_n, enc_s, pke_y h2.1]
      · simp only [q_251, t_ok C, t_R C, t_1 C, t_2 C, t_3 C, Option.bind_some, kxi_s, kxv_s, kxr_s, if_true, if_false, i10, c248 C T (s := (a, none)) hs.1, c246s C a, pke_c h3 hc1, pke_c h3 hc2, eq_false h1, eq_false h2, c249s C, ei, eq_false (show ¬ (a < n ∧ (sg a = c1 ∨ sg a = c2)) from fun q => q.2.elim (fun e => h1 ⟨q.1, e⟩) (fun e => h2 ⟨q.1, e⟩)), enc_n, enc_s]
theorem c250 (C : isC W) {n : Nat} {sg : Nat → Nat} (T : txT m n sg) {c : Nat} (hc : c < 256) {s : RS} (hs : okS n s) : cl 250 [.ref 1, .int (nI c)] (tm W (txC m s) l) = some (none, tm W (txC m (ei sg n c c s).1) l) := by
  simp only [q_250, t_ok C, t_R C, t_1 C, t_2 C, t_3 C, Option.bind_some, kxi_s, kxv_s, kxr_s, if_true, if_false, i10, c251 C T hc hc hs]
theorem c252 (C : isC W) {n : Nat} {sg : Nat → Nat} (T : txT m n sg) {s : RS} (hs : s.1 ≤ n) : cl 252 [.ref 1] (tm W (txC m s) l) = some (some (.int (if s.1 < n ∧ 48 ≤ sg s.1 ∧ sg s.1 ≤ 57 then 1 else 0)), tm W (txC m s) l) := by
  by_cases h : s.1 < n
  · have hv := (T.2.2 _ h).1
    by_cases h1 : sg s.1 < 48
    · simp only [q_252, t_ok C, t_R C, t_1 C, t_2 C, t_3 C, Option.bind_some, kxi_s, kxv_s, kxr_s, if_true, if_false, i10, c248 C T hs, pke_y h, eq_true (show nI (sg s.1) < 48 from nI_lt (b := 48) h1 (by decide)), eq_false (show ¬ (s.1 < n ∧ 48 ≤ sg s.1 ∧ sg s.1 ≤ 57) by omega)]
    · by_cases h2 : 57 < sg s.1
      · simp only [q_252, t_ok C, t_R C, t_1 C, t_2 C, t_3 C, Option.bind_some, kxi_s, kxv_s, kxr_s, if_true, if_false, i10, c248 C T hs, pke_y h, eq_false (show ¬ nI (sg s.1) < 48 from nI_nlt (b := 48) (by omega) (by omega)), eq_true (show 57 < nI (sg s.1) from nI_lt (a := 57) h2 (by omega)), eq_false (show ¬ (s.1 < n ∧ 48 ≤ sg s.1 ∧ sg s.1 ≤ 57) by omega)]
      · simp only [q_252, t_ok C, t_R C, t_1 C, t_2 C, t_3 C, Option.bind_some, kxi_s, kxv_s, kxr_s, if_true, if_false, i10, c248 C T hs, pke_y h, eq_false (show ¬ nI (sg s.1) < 48 from nI_nlt (b := 48) (by omega) (by omega)), eq_false (show ¬ 57 < nI (sg s.1) from nI_nlt (a := 57) (by omega) (by decide)), eq_true (show s.1 < n ∧ 48 ≤ sg s.1 ∧ sg s.1 ≤ 57 by omega)]
  · simp only [q_252, t_ok C, t_R C, t_1 C, t_2 C, t_3 C, Option.bind_some, kxi_s, kxv_s, kxr_s, if_true, if_false, i10, c248 C T hs, pke_n h, eq_true (show (-1 : Int32) < 48 by decide), eq_false (show ¬ (s.1 < n ∧ 48 ≤ sg s.1 ∧ sg s.1 ≤ 57) by omega)]
theorem c253 (C : isC W) {n : Nat} {sg : Nat → Nat} (T : txT m n sg) {lo hi : Nat} (hlo : lo ≤ 9) (hhi : hi ≤ 9) : ∀ {s : RS}, okS n s → cl 253 [.ref 1, .int (nI lo), .int (nI hi)] (tm W (txC m s) l) = some (some (.int (enc (dg sg n lo hi s).2)), tm W (txC m (dg sg n lo hi s).1) l)
  | (a, some p), hs => by
    have hp : p ≤ 200 := hs.2 p rfl
    simp only [q_253, t_ok C, t_R C, t_1 C, t_2 C, t_3 C, Option.bind_some, kxi_s, kxv_s, kxr_s, if_true, if_false, i10, c248 C T (s := (a, some p)) hs.1, c246f C a hp, c249f C a hp, dg, enc_n, enc_s]
  | (a, none), hs => by
    by_cases h : a < n
    · have hv := (T.2.2 _ h).1
      by_cases h48 : sg a < 48 + lo
      · have e : (nI (sg a) - 48 < nI lo) = True := by
          apply eq_true
          by_cases h0 : sg a < 48
          · exact Int32.lt_of_lt_of_le (pk_sneg (a := sg a) (b := 48) (by decide) h0) (nI_pos' (by omega))
          · rw [show (48 : Int32) = nI 48 from rfl, pk_sub (by omega)]
            exact nI_lt (by omega) (by omega)
        simp only [q_253, t_ok C, t_R C, t_1 C, t_2 C, t_3 C, Option.bind_some, kxi_s, kxv_s, kxr_s, if_true, if_false, i10, c248 C T (s := (a, none)) hs.1, c246s C a, c249s C, pke_y h, e, dg, eq_false (show ¬ (a < n ∧ 48 + lo ≤ sg a ∧ sg a ≤ 48 + hi) by omega), enc_n, enc_s]
      · have e0 : nI (sg a) - 48 = nI (sg a - 48) := pk_sub (b := 48) (by omega)
        have e : (nI (sg a - 48) < nI lo) = False := eq_false (nI_nlt (by omega) (by omega))
        by_cases h9 : sg a ≤ 48 + hi
        · have e2 : (nI (sg a - 48) ≤ nI hi) = True := eq_true (nI_le (by omega) (by omega))
          simp only [q_253, t_ok C, t_R C, t_1 C, t_2 C, t_3 C, Option.bind_some, kxi_s, kxv_s, kxr_s, if_true, if_false, i10, c248 C T (s := (a, none)) hs.1, c246s C a, pke_y h, e0, e, e2, t_p2 C, nI_1, dg, eq_true (show a < n ∧ 48 + lo ≤ sg a ∧ sg a ≤ 48 + hi by omega), enc_n, enc_s]
        · have e2 : (nI (sg a - 48) ≤ nI hi) = False := eq_false (nI_ge (by omega) (by omega))
          simp only [q_253, t_ok C, t_R C, t_1 C, t_2 C, t_3 C, Option.bind_some, kxi_s, kxv_s, kxr_s, if_true, if_false, i10, c248 C T (s := (a, none)) hs.1, c246s C a, c249s C, pke_y h, e0, e, e2, dg, eq_false (show ¬ (a < n ∧ 48 + lo ≤ sg a ∧ sg a ≤ 48 + hi) by omega), enc_n, enc_s]
    · have e : ((-1 : Int32) - 48 < nI lo) = True := eq_true (Int32.lt_of_lt_of_le (show (-1 : Int32) - 48 < 0 by decide) (nI_pos' (by omega)))
      simp only [q_253, t_ok C, t_R C, t_1 C, t_2 C, t_3 C, Option.bind_some, kxi_s, kxv_s, kxr_s, if_true, if_false, i10, c248 C T (s := (a, none)) hs.1, c246s C a, c249s C, pke_n h, e, dg, eq_false (show ¬ (a < n ∧ 48 + lo ≤ sg a ∧ sg a ≤ 48 + hi) by omega), enc_n, enc_s]
theorem c253_09 (C : isC W) {n : Nat} {sg : Nat → Nat} (T : txT m n sg) {s : RS} (hs : okS n s) : cl 253 [.ref 1, .int 0, .int 9] (tm W (txC m s) l) = some (some (.int (enc (dg sg n 0 9 s).2)), tm W (txC m (dg sg n 0 9 s).1) l) := c253 C T (lo := 0) (hi := 9) (by decide) (by decide) hs
theorem c253_03 (C : isC W) {n : Nat} {sg : Nat → Nat} (T : txT m n sg) {s : RS} (hs : okS n s) : cl 253 [.ref 1, .int 0, .int 3] (tm W (txC m s) l) = some (some (.int (enc (dg sg n 0 3 s).2)), tm W (txC m (dg sg n 0 3 s).1) l) := c253 C T (lo := 0) (hi := 3) (by decide) (by decide) hs
theorem c253_19 (C : isC W) {n : Nat} {sg : Nat → Nat} (T : txT m n sg) {s : RS} (hs : okS n s) : cl 253 [.ref 1, .int 1, .int 9] (tm W (txC m s) l) = some (some (.int (enc (dg sg n 1 9 s).2)), tm W (txC m (dg sg n 1 9 s).1) l) := c253 C T (lo := 1) (hi := 9) (by decide) (by decide) hs
theorem e254 (C : isC W) {lo hi1 b v : Nat} {hi : Int32} (hlo : lo ≤ 100) (hh : ∀ v, v < 100 → (nI v ≤ hi ↔ v < hi1)) (hv : v < 100) (hb1 : 1 ≤ b) (hb : b ≤ 200) : dn 254 19 [some (.ref 1), some (.int (nI lo)), some (.int hi), some (.int (nI v))] [] (tm W (txC m (b, none)) l) = some (some (.int (enc (nbE lo hi1 b v).2)), tm W (txC m (nbE lo hi1 b v).1) l) := by
  have e1 : nI b - 1 = nI (b - 1) := pk_sub (b := 1) hb1
  by_cases h1 : v < lo
  · simp only [q_254_19, q_254_28, t_ok C, t_R C, t_1 C, t_2 C, t_3 C, Option.bind_some, kxi_s, kxv_s, kxr_s, if_true, if_false, i10, c246s C b, eq_true (nI_lt h1 (by omega)), e1, c249s C, c246f C b (show b - 1 ≤ 200 by omega), nbE, eq_false (show ¬ (lo ≤ v ∧ v < hi1) by omega), enc_n, enc_s]
  · by_cases h2 : v < hi1
    · simp only [q_254_19, q_254_28, t_ok C, t_R C, t_1 C, t_2 C, t_3 C, Option.bind_some, kxi_s, kxv_s, kxr_s, if_true, if_false, i10, c246s C b, eq_false (nI_nlt (show lo ≤ v by omega) (by omega)), eq_true ((hh v hv).mpr h2), nbE, eq_true (show lo ≤ v ∧ v < hi1 by omega), enc_n, enc_s]
    · simp only [q_254_19, q_254_28, t_ok C, t_R C, t_1 C, t_2 C, t_3 C, Option.bind_some, kxi_s, kxv_s, kxr_s, if_true, if_false, i10, c246s C b, eq_false (nI_nlt (show lo ≤ v by omega) (by omega)), eq_false (fun q => h2 ((hh v hv).mp q)), e1, c249s C, c246f C b (show b - 1 ≤ 200 by omega), nbE, eq_false (show ¬ (lo ≤ v ∧ v < hi1) by omega), enc_n, enc_s]
theorem c254 (C : isC W) {n : Nat} {sg : Nat → Nat} (T : txT m n sg) {lo hi1 : Nat} {hi : Int32} (hlo : lo ≤ 100) (hh : ∀ v, v < 100 → (nI v ≤ hi ↔ v < hi1)) : ∀ {s : RS}, okS n s → cl 254 [.ref 1, .int (nI lo), .int hi] (tm W (txC m s) l) = some (some (.int (enc (nb sg n lo hi1 s).2)), tm W (txC m (nb sg n lo hi1 s).1) l)
  | (a, some p), hs => by
    have hp : p ≤ 200 := hs.2 p rfl
    simp only [q_254, t_ok C, t_R C, t_1 C, t_2 C, t_3 C, Option.bind_some, kxi_s, kxv_s, kxr_s, if_true, if_false, i10, c253_09 C T hs, dg, enc_n, enc_s, eq_true (show (-1 : Int32) ≤ 0 by decide), q_254_19, c246f C a hp, nb]
  | (a, none), hs => by
    have hn := T.2.1
    have ha : a ≤ n := hs.1
    by_cases h : a < n ∧ 48 ≤ sg a ∧ sg a ≤ 57
    · have hd : dg sg n 0 9 (a, none) = ((a + 1, none), some (sg a - 48)) := if_pos (show a < n ∧ 48 + 0 ≤ sg a ∧ sg a ≤ 48 + 9 by omega)
      by_cases h0 : 48 < sg a
      · by_cases h2 : a + 1 < n ∧ 48 ≤ sg (a + 1) ∧ sg (a + 1) ≤ 57
        · have hd2 : dg sg n 0 9 (a + 1, none) = ((a + 2, none), some (sg (a + 1) - 48)) := if_pos (show a + 1 < n ∧ 48 + 0 ≤ sg (a + 1) ∧ sg (a + 1) ≤ 48 + 9 by omega)
          have e10 : (10 : Int32) * nI (sg a - 48) + nI (sg (a + 1) - 48) = nI (10 * (sg a - 48) + (sg (a + 1) - 48)) := by
            rw [show (10 : Int32) = nI 10 from rfl, pk_mul, nI_add]
          have hok : okS n (a + 1, none) := ⟨by show a + 1 ≤ n; omega, fun p hp => by cases hp⟩
          simp only [q_254, t_ok C, t_R C, t_1 C, t_2 C, t_3 C, Option.bind_some, kxi_s, kxv_s, kxr_s, if_true, if_false, i10, c253_09 C T hs, hd, enc_n, enc_s, eq_false (nI_nle (n := sg a - 48) (by omega) (by omega)), c252 C T (s := (a + 1, none)) (by show a + 1 ≤ n; omega), eq_true h2, c253_09 C T hok, hd2, e10]
          rw [e254 C hlo hh (by omega) (by omega) (by omega)]
          simp only [nb, eq_true h, eq_true (show 48 < sg a ∧ a + 1 < n ∧ 48 ≤ sg (a + 1) ∧ sg (a + 1) ≤ 57 from ⟨h0, h2⟩), if_true]
        · simp only [q_254, t_ok C, t_R C, t_1 C, t_2 C, t_3 C, Option.bind_some, kxi_s, kxv_s, kxr_s, if_true, if_false, i10, c253_09 C T hs, hd, enc_n, enc_s, eq_false (nI_nle (n := sg a - 48) (by omega) (by omega)), c252 C T (s := (a + 1, none)) (by show a + 1 ≤ n; omega), eq_false h2]
          rw [e254 C hlo hh (by omega) (by omega) (by omega)]
          simp only [nb, eq_true h, eq_false (show ¬ (48 < sg a ∧ a + 1 < n ∧ 48 ≤ sg (a + 1) ∧ sg (a + 1) ≤ 57) from fun q => h2 q.2), if_true, if_false]
      · have ez : nI (sg a - 48) ≤ 0 := by
          rw [show sg a - 48 = 0 by omega]
          decide
        simp only [q_254, t_ok C, t_R C, t_1 C, t_2 C, t_3 C, Option.bind_some, kxi_s, kxv_s, kxr_s, if_true, if_false, i10, c253_09 C T hs, hd, enc_n, enc_s, eq_true ez]
        rw [e254 C hlo hh (by omega) (by omega) (by omega)]
        simp only [nb, eq_true h, eq_false (show ¬ (48 < sg a ∧ a + 1 < n ∧ 48 ≤ sg (a + 1) ∧ sg (a + 1) ≤ 57) from fun q => h0 q.1), if_true, if_false]
    · have hd : dg sg n 0 9 (a, none) = ((a, some a), none) := if_neg (show ¬ (a < n ∧ 48 + 0 ≤ sg a ∧ sg a ≤ 48 + 9) by omega)
      simp only [q_254, t_ok C, t_R C, t_1 C, t_2 C, t_3 C, Option.bind_some, kxi_s, kxv_s, kxr_s, if_true, if_false, i10, c253_09 C T hs, hd, enc_n, enc_s, eq_true (show (-1 : Int32) ≤ 0 by decide), q_254_19, c246f C a (show a ≤ 200 by omega), nb, eq_false h]
theorem c255 (C : isC W) {n : Nat} {sg : Nat → Nat} (T : txT m n sg) {c : Nat} (hc : c < 256) : ∀ {s : RS}, okS n s → cl 255 [.ref 1, .int (nI c)] (tm W (txC m s) l) = some (some (.int (if (go sg n c s).2 = true then 1 else 0)), tm W (txC m (go sg n c s).1) l)
  | (a, some p), hs => by
    have hp : p ≤ 200 := hs.2 p rfl
    simp only [q_255, t_ok C, t_R C, t_1 C, t_2 C, t_3 C, Option.bind_some, kxi_s, kxv_s, kxr_s, if_true, if_false, i10, c246f C a hp, go, Bool.false_eq_true]
  | (a, none), hs => by
    have hn := T.2.1
    have ha : a ≤ n := hs.1
    by_cases h : a < n
    · by_cases h2 : sg a = c
      · simp only [q_255, t_ok C, t_R C, t_1 C, t_2 C, t_3 C, Option.bind_some, kxi_s, kxv_s, kxr_s, if_true, if_false, i10, c246s C, c247 C T (s := (a, none)) hs.1, eq_true h, c250 C T hc hs, ei, eq_true (show a < n ∧ (sg a = c ∨ sg a = c) from ⟨h, Or.inl h2⟩), go, eq_true h2, or_true, and_self, or_self]
      · simp only [q_255, t_ok C, t_R C, t_1 C, t_2 C, t_3 C, Option.bind_some, kxi_s, kxv_s, kxr_s, if_true, if_false, i10, c246s C, c247 C T (s := (a, none)) hs.1, eq_true h, c250 C T hc hs, ei, eq_false (show ¬ (a < n ∧ (sg a = c ∨ sg a = c)) from fun q => q.2.elim h2 h2), go, eq_false h2, c246f C a (show a ≤ 200 by omega), Bool.false_eq_true, true_or, and_false, or_self]
    · simp only [q_255, t_ok C, t_R C, t_1 C, t_2 C, t_3 C, Option.bind_some, kxi_s, kxv_s, kxr_s, if_true, if_false, i10, c246s C, c247 C T (s := (a, none)) hs.1, eq_false h, go, Bool.false_eq_true]
end TXA

section TXE
variable {W : tm_W} {m : Nat → Nat → Int32} {l : Nat → Nat → Int64}
/-! a text is begun, read to its end, and emptied -/
theorem c245 (C : isC W) {n : Nat} {sg : Nat → Nat} (T : txT m n sg) : cl 245 [.ref 1] (tm W m l) = some (some (.int (if n = 0 then 0 else 1)), tm W (txC m (0, none)) l) := by
  have e0 : ia_pF (tm W m l) 1 1 2 (.int 0) = some (tm W (m2 m 1 2 0) l) := tm_pI C.t1 rfl
  have e1 : ia_pF (tm W (m2 m 1 2 0) l) 1 1 3 (.int (-1)) = some (tm W (txC m (0, none)) l) := tm_pI C.t1 rfl
  have hn := T.2.1
  by_cases h : n = 0
  · subst h
    simp only [q_245, e0, e1, Option.bind_some, t_1 C, T.1, eq_true (show nI 0 ≤ 0 by decide), if_true]
  · simp only [q_245, e0, e1, Option.bind_some, t_1 C, T.1, eq_false (nI_nle (show 0 < n by omega) (by omega)), if_false, eq_false h]
theorem c177 (C : isC W) {s : RS} : cl 177 [.ref 5] (tm W (txC m s) l) = some (none, tm W (txC (m2 m 5 1 0) s) l) := by
  have e0 : ia_pF (tm W (txC m s) l) 2 5 1 (.int 0) = some (tm W (txC (m2 m 5 1 0) s) l) := by rw [tm_pI C.t5 rfl, txC_m2 _ _ _ (by decide)]
  simp only [q_177, e0, Option.bind_some]
def bgR (m : Nat → Nat → Int32) (n : Nat) : Nat → Nat → Int32 := m2 (m2 m 39 21 (nI n)) 39 10 0
theorem c99 (M : isM W) {n : Nat} (h : m 39 10 = nI n) : cl 99 [.ref 39] (tm W m l) = some (none, tm W (txR (bgR m n) (0, none)) l) := by
  simp only [q_99, rI10 M, ru21 M, ru10 M, ru22 M, ru23 M, Option.bind_some, h]
  rfl
theorem bgR_o (m : Nat → Nat → Int32) (n : Nat) {a : Nat} (h : a ≠ 39) : bgR m n a = m a := by
  unfold bgR
  rw [m2_r _ _ _ h, m2_r _ _ _ h]
theorem bgR_k (m : Nat → Nat → Int32) (n : Nat) {k : Nat} (h1 : k ≠ 21) (h2 : k ≠ 10) : bgR m n 39 k = m 39 k := by
  unfold bgR
  rw [m2_k _ _ _ _ h2, m2_k _ _ _ _ h1]
theorem bgR_10 (m : Nat → Nat → Int32) (n : Nat) : bgR m n 39 10 = 0 := m2_s _ _ _ _
theorem bgR_U {n : Nat} {sg : Nat → Nat} (hn : n ≤ 200) (h : ∀ i, i < n → sg i < 256 ∧ m 47 i = (nI (sg i)).toInt8.toInt32) : txU (bgR m n) n sg := by
  refine ⟨?_, hn, fun i hi => ?_⟩
  · unfold bgR
    rw [m2_k _ _ _ _ (by decide), m2_s]
  · rw [bgR_o _ _ (by decide)]
    exact h i hi
/-- the text that both sides have -/
theorem iTxt_sg (h : iTxt m) : ∃ n sg, txT m n sg ∧ m 39 10 = nI n ∧ ∀ i, i < n → sg i < 256 ∧ m 47 i = (nI (sg i)).toInt8.toInt32 := by
  obtain ⟨n, h1, h2, h3, h4⟩ := h
  have h5 : ∀ i, ∃ v, i < n → v < 256 ∧ m 2 i = nI v ∧ m 47 i = (nI v).toInt8.toInt32 := fun i => by
    by_cases hi : i < n
    · obtain ⟨v, hv⟩ := h4 i hi
      exact ⟨v, fun _ => hv⟩
    · exact ⟨0, fun q => absurd q hi⟩
  refine ⟨n, fun i => Classical.choose (h5 i), ⟨h2, h1, fun i hi => ?_⟩, h3, fun i hi => ?_⟩
  · have := Classical.choose_spec (h5 i) hi
    exact ⟨this.1, this.2.1⟩
  · have := Classical.choose_spec (h5 i) hi
    exact ⟨this.1, this.2.2⟩
def plE (sg : Nat → Nat) (n : Nat) (it : RS → RS × IT) : RS × List IT := if n = 0 then ((0, none), []) else plp sg n it (n + 1) (0, none) []
theorem okS0 (n : Nat) : okS n (0, none) := ⟨Nat.zero_le _, fun p hp => by cases hp⟩
theorem hdC_0 : hdC (m2 m 5 1 0) [] := ⟨m2_s _ _ _ _, fun i e he => by cases he⟩
theorem rd63 (C : isC W) {n P : Nat} {sg : Nat → Nat} (T : txT m n sg) (hP : m 13 0 = nI P) (hP2 : P ≤ 12) : ∃ m', cl 63 [.ref 0] (tm W m l) = some (none, tm W (txC m' (plE sg n (itC sg n P)).1) l) ∧ frC m m' ∧ ((plE sg n (itC sg n P)).1.2 = none → hdC m' (plE sg n (itC sg n P)).2) := by
  have E : cl 63 [.ref 0] (tm W m l) = dn 63 9 [some (.ref 0), some (.int (if n = 0 then 0 else 1)), some (.int 0), none] [] (tm W (txC (m2 m 5 1 0) (0, none)) l) := by
    simp only [q_63, xR0 C, xR2 C, t_ok C, i_ok C, c245 C T, c177 C, Option.bind_some, kxi_s, kxv_s, if_true]
  have T' : txT (m2 m 5 1 0) n sg := txT_of T (m2_a _ _ _ _ (by decide)) (m2_r _ _ _ (by decide))
  rw [E]
  unfold plE
  by_cases h : n = 0
  · rw [if_pos h, if_pos h]
    refine ⟨m2 m 5 1 0, ?_, fun a h5 h6 => m2_r _ _ _ h5, fun _ => hdC_0⟩
    rw [q_63_9, if_neg (show ¬ (200 : Int32) ≤ 0 by decide), if_pos rfl]
  · rw [if_neg h, if_neg h]
    obtain ⟨m', r1, r2, r3⟩ := d63 (l := l) C (P := P) hP2 (n + 1) 0 (0, none) [] (m2 m 5 1 0) none T' (by rw [m2_a _ _ _ _ (by decide)]; exact hP) (okS0 n) rfl (by decide) rfl hdC_0 (by show n < 0 + (n + 1); omega)
    exact ⟨m', r1, fun a h5 h6 => by rw [r2 a h5 h6, m2_r _ _ _ h5], r3⟩
theorem rd64 (C : isC W) {n P : Nat} {sg : Nat → Nat} (T : txT m n sg) (hP : m 13 0 = nI P) (hP2 : P ≤ 12) : ∃ m', cl 64 [.ref 0] (tm W m l) = some (none, tm W (txC m' (plE sg n (itG sg n P)).1) l) ∧ frC m m' ∧ ((plE sg n (itG sg n P)).1.2 = none → hdC m' (plE sg n (itG sg n P)).2) := by
  have E : cl 64 [.ref 0] (tm W m l) = dn 64 9 [some (.ref 0), some (.int (if n = 0 then 0 else 1)), some (.int 0), none, none] [] (tm W (txC (m2 m 5 1 0) (0, none)) l) := by
    simp only [q_64, xR0 C, xR2 C, t_ok C, i_ok C, c245 C T, c177 C, Option.bind_some, kxi_s, kxv_s, if_true]
  have T' : txT (m2 m 5 1 0) n sg := txT_of T (m2_a _ _ _ _ (by decide)) (m2_r _ _ _ (by decide))
  rw [E]
  unfold plE
  by_cases h : n = 0
  · rw [if_pos h, if_pos h]
    refine ⟨m2 m 5 1 0, ?_, fun a h5 h6 => m2_r _ _ _ h5, fun _ => hdC_0⟩
    rw [q_64_9, if_neg (show ¬ (200 : Int32) ≤ 0 by decide), if_pos rfl]
  · rw [if_neg h, if_neg h]
    obtain ⟨m', r1, r2, r3⟩ := d64 (l := l) C (P := P) hP2 (n + 1) 0 (0, none) [] (m2 m 5 1 0) none none T' (by rw [m2_a _ _ _ _ (by decide)]; exact hP) (okS0 n) rfl (by decide) rfl hdC_0 (by show n < 0 + (n + 1); omega)
    exact ⟨m', r1, fun a h5 h6 => by rw [r2 a h5 h6, m2_r _ _ _ h5], r3⟩
theorem rd65 (C : isC W) {n : Nat} {sg : Nat → Nat} (T : txT m n sg) : ∃ m', cl 65 [.ref 0] (tm W m l) = some (none, tm W (txC m' (plE sg n (itL sg n)).1) l) ∧ frC m m' ∧ ((plE sg n (itL sg n)).1.2 = none → hdC m' (plE sg n (itL sg n)).2) := by
  have E : cl 65 [.ref 0] (tm W m l) = dn 65 9 [some (.ref 0), some (.int (if n = 0 then 0 else 1)), some (.int 0), none, none, none] [] (tm W (txC (m2 m 5 1 0) (0, none)) l) := by
    simp only [q_65, xR0 C, xR2 C, t_ok C, i_ok C, c245 C T, c177 C, Option.bind_some, kxi_s, kxv_s, if_true]
  have T' : txT (m2 m 5 1 0) n sg := txT_of T (m2_a _ _ _ _ (by decide)) (m2_r _ _ _ (by decide))
  rw [E]
  unfold plE
  by_cases h : n = 0
  · rw [if_pos h, if_pos h]
    refine ⟨m2 m 5 1 0, ?_, fun a h5 h6 => m2_r _ _ _ h5, fun _ => hdC_0⟩
    rw [q_65_9, if_neg (show ¬ (200 : Int32) ≤ 0 by decide), if_pos rfl]
  · rw [if_neg h, if_neg h]
    obtain ⟨m', r1, r2, r3⟩ := d65 (l := l) C (n + 1) 0 (0, none) [] (m2 m 5 1 0) none none none T' (okS0 n) rfl (by decide) rfl hdC_0 (by show n < 0 + (n + 1); omega)
    exact ⟨m', r1, fun a h5 h6 => by rw [r2 a h5 h6, m2_r _ _ _ h5], r3⟩
theorem hdK_0 : hdK (m2 m 39 18 0) [] := ⟨m2_s _ _ _ _, fun i e he => by cases he⟩
theorem rd113 (M : isM W) {n P : Nat} {sg : Nat → Nat} (T : txU m n sg) (hP : m 40 1104 = nI P) (hP2 : P ≤ 12) : ∃ m', cl 113 [.ref 39] (tm W (txR m (0, none)) l) = some (none, tm W (txR m' (plE sg n (itC sg n P)).1) l) ∧ frK m m' ∧ ((plE sg n (itC sg n P)).1.2 = none → hdK m' (plE sg n (itC sg n P)).2) := by
  have T' : txU (m2 m 39 18 0) n sg := txU_of T (m2_k _ _ _ _ (by decide)) (m2_r _ _ _ (by decide))
  have fr : frK m (m2 m 39 18 0) := ⟨fun a h1 _ _ => m2_r _ _ _ h1, fun k hk => m2_k _ _ _ _ hk⟩
  have hn := T.2.1
  unfold plE
  by_cases h : n = 0
  · rw [if_pos h]
    refine ⟨m2 m 39 18 0, ?_, fr, fun _ => hdK_0⟩
    simp only [q_113, u_p18 M, u_1 M, T'.1, h, Option.bind_some, eq_true (show nI 0 = 0 from rfl), if_true]
  · rw [if_neg h]
    obtain ⟨m', r1, r2, r3⟩ := d113 (l := l) M (P := P) hP2 (n + 1) 0 (0, none) [] (m2 m 39 18 0) T' (by rw [m2_a _ _ _ _ (by decide)]; exact hP) (okS0 n) rfl (by decide) rfl hdK_0 (by show n < 0 + (n + 1); omega)
    refine ⟨m', ?_, ⟨fun a h1 h2 h3 => by rw [r2.1 a h1 h2 h3, m2_r _ _ _ h1], fun k hk => by rw [r2.2 k hk, m2_k _ _ _ _ hk]⟩, r3⟩
    simp only [q_113, u_p18 M, u_1 M, T'.1, Option.bind_some, eq_false (nI_ne0 (show 0 < n by omega) (by omega)), if_false]
    exact r1
theorem rd142 (M : isM W) {n : Nat} {sg : Nat → Nat} (h10 : m 39 10 = nI n) (hn : n ≤ 200) (h47 : ∀ i, i < n → sg i < 256 ∧ m 47 i = (nI (sg i)).toInt8.toInt32) : ∃ m', cl 142 [.ref 39] (tm W m l) = some (none, tm W (txR m' (plE sg n (itL sg n)).1) l) ∧ frL (bgR m n) m' ∧ ((plE sg n (itL sg n)).1.2 = none → hdL m' (plE sg n (itL sg n)).2) := by
  have T := bgR_U (m := m) hn h47
  have T' : txU (m2 (bgR m n) 39 35 0) n sg := txU_of T (m2_k _ _ _ _ (by decide)) (m2_r _ _ _ (by decide))
  have hd : hdL (m2 (bgR m n) 39 35 0) [] := ⟨m2_s _ _ _ _, fun i e he => by cases he⟩
  unfold plE
  by_cases h : n = 0
  · rw [if_pos h]
    refine ⟨m2 (bgR m n) 39 35 0, ?_, ⟨fun a h1 _ _ _ => m2_r _ _ _ h1, fun k hk => m2_k _ _ _ _ hk⟩, fun _ => hd⟩
    have h21 : m2 (bgR m n) 39 35 0 39 21 = 0 := by rw [T'.1, h]; rfl
    simp only [q_142, rok M, c99 M h10, kxv_s, u_p35 M, u_1 M, h21, Option.bind_some, eq_true (show (0 : Int32) ≤ 0 by decide), if_true, q_142_12 39 0, c105 M T' (okS0 n), en, eq_false (show ¬ 0 < n by omega), if_false]
  · rw [if_neg h]
    obtain ⟨m', r1, r2, r3⟩ := d142 (l := l) M (n + 1) 0 (0, none) [] (m2 (bgR m n) 39 35 0) T' (okS0 n) rfl (by decide) rfl hd (by show n < 0 + (n + 1); omega)
    refine ⟨m', ?_, ⟨fun a h1 h2 h3 h4 => by rw [r2.1 a h1 h2 h3 h4, m2_r _ _ _ h1], fun k hk => by rw [r2.2 k hk, m2_k _ _ _ _ hk]⟩, fun _ => r3⟩
    simp only [q_142, rok M, c99 M h10, kxv_s, u_p35 M, u_1 M, T'.1, Option.bind_some, eq_false (nI_nle (show 0 < n by omega) (by omega)), if_false, if_true]
    exact r1
/-! what is read -/
theorem plp_ok {sg : Nat → Nat} {n : Nat} {it : RS → RS × IT} (hn : n ≤ 200) (hit : ∀ s, okS n s → okS n (it s).1) : ∀ k s xs, okS n s → okS n (plp sg n it k s xs).1
  | 0, s, xs, hs => hs
  | k + 1, s, xs, hs => by
    rw [plp_s]
    split
    · exact plp_ok hn hit k _ _ (go_ok hn (hit s hs))
    · exact go_ok hn (hit s hs)
theorem plp_all {sg : Nat → Nat} {n : Nat} {it : RS → RS × IT} {Q : IT → Prop} (hn : n ≤ 200) (hok : ∀ s, okS n s → okS n (it s).1) (h2 : ∀ s, (it s).1.2 = none → s.1 + 2 ≤ (it s).1.1) (hit : ∀ s, (it s).1.2 = none → Q (it s).2) : ∀ (k : Nat) (s : RS) (xs : List IT), n < s.1 + k → okS n s → (∀ (i : Nat) (e : IT), xs[i]? = some e → Q e) → (plp sg n it k s xs).1.2 = none → 3 * xs.length ≤ s.1 → (∀ (i : Nat) (e : IT), (plp sg n it k s xs).2[i]? = some e → Q e) ∧ 3 * (plp sg n it k s xs).2.length ≤ (plp sg n it k s xs).1.1 + 1
  | 0, s, xs, hk, hs, hx, hq, h3 => absurd hs.1 (by omega)
  | k + 1, s, xs, hk, hs, hx, hq, h3 => by
    have hs1 := hs.1
    rw [plp_s] at hq ⊢
    have hx' : (it s).1.2 = none → ∀ (i : Nat) (e : IT), (xs ++ [(it s).2])[i]? = some e → Q e := fun h0 i e he => by
      rcases get_app he with ⟨a1, a2⟩ | ⟨a1, a2⟩
      · exact hx i e a1
      · rw [a2]
        exact hit s h0
    by_cases hgo : (go sg n 44 (it s).1).2 = true
    · obtain ⟨g1, g2, g3, g4⟩ := go_t hgo
      rw [if_pos hgo] at hq ⊢
      have := h2 s g1
      refine plp_all hn hok h2 hit k _ _ ?_ (go_ok hn (hok s hs)) (hx' g1) hq ?_
      · rw [g2]
        show n < (it s).1.1 + 1 + k
        omega
      · rw [g2, List.length_append]
        show 3 * (xs.length + 1) ≤ (it s).1.1 + 1
        omega
    · rw [if_neg hgo] at hq ⊢
      have h0 := go_n hq
      have := h2 s h0
      have hgo' : (go sg n 44 (it s).1).2 = false := by simpa using hgo
      have e1 : (it s).1 = ((it s).1.1, none) := by rw [← h0]
      have e2 : (go sg n 44 (it s).1).1.1 = (it s).1.1 := by
        rw [go_f hgo', e1]
        simp only [en]
        split <;> rfl
      refine ⟨hx' h0, ?_⟩
      show 3 * (xs ++ [(it s).2]).length ≤ (go sg n 44 (it s).1).1.1 + 1
      rw [List.length_append]
      show 3 * (xs.length + 1) ≤ _
      omega
theorem plE_ok {sg : Nat → Nat} {n : Nat} {it : RS → RS × IT} (hn : n ≤ 200) (hit : ∀ s, okS n s → okS n (it s).1) : okS n (plE sg n it).1 := by
  unfold plE
  split
  · exact okS0 n
  · exact plp_ok hn hit _ _ _ (okS0 n)
theorem plE_all {sg : Nat → Nat} {n : Nat} {it : RS → RS × IT} {Q : IT → Prop} (hn : n ≤ 200) (hok : ∀ s, okS n s → okS n (it s).1) (h2 : ∀ s, (it s).1.2 = none → s.1 + 2 ≤ (it s).1.1) (hit : ∀ s, (it s).1.2 = none → Q (it s).2) (hq : (plE sg n it).1.2 = none) : (∀ (i : Nat) (e : IT), (plE sg n it).2[i]? = some e → Q e) ∧ (plE sg n it).2.length ≤ 67 := by
  have hk := plE_ok (sg := sg) hn hok
  unfold plE at hq hk ⊢
  split
  · exact ⟨fun i e he => (by cases he), by decide⟩
  · rename_i h
    rw [if_neg h] at hq hk
    obtain ⟨a1, a2⟩ := plp_all (Q := Q) hn hok h2 hit (n + 1) (0, none) [] (by show n < 0 + (n + 1); omega) (okS0 n) (fun i e he => by cases he) hq (by decide)
    have := hk.1
    exact ⟨a1, by omega⟩
/-! the frame of a text that is read -/
def tFr (m mf : Nat → Nat → Int32) : Prop := (∀ a, (a = 10 ∨ (13 ≤ a ∧ a < 21) ∨ (29 ≤ a ∧ a < 37) ∨ a = 40 ∨ (42 ≤ a ∧ a < 47) ∨ 62 ≤ a) → mf a = m a) ∧ mf 0 = m 0 ∧ mf 37 = m 37 ∧ mf 7 = m 7 ∧ mf 8 = m 8 ∧ mf 39 3 = m 39 3 ∧ mf 39 5 = m 39 5 ∧ mf 39 12 = m 39 12 ∧ mf 1 1 = 0 ∧ mf 39 10 = 0
theorem iRow_fr {mf : Nat → Nat → Int32} (h : iRow m l) (h7 : mf 7 1 = m 7 1) (h8 : mf 8 = m 8) (h12 : mf 39 12 = m 39 12) : iRow mf l := by
  obtain ⟨rn, r1, r2, r3, r4⟩ := h
  exact ⟨rn, r1, by rw [h7]; exact r2, by rw [h12]; exact r3, fun i hi => by rw [h8]; exact r4 i hi⟩
theorem Inv_tf {j : Nat} {mf : Nat → Nat → Int32} (h : Inv j W m l) (F : tFr m mf) : Inv (j + 1) W mf l := by
  obtain ⟨f1, f2, f3, f4, f5, f6, f7, f8, f9, f10⟩ := F
  exact Inv_t h f1 (by rw [f2]) (by rw [f3]) (by rw [f3]) f6 f7 (iTxt_0 f9 f10) (iRow_fr h.2.2.2.2.2.2 (by rw [f4]) f5 f8)
/-- the component's memory behind a text -/
theorem frC_o {mr : Nat → Nat → Int32} (F : frC m mr) (s : RS) {a : Nat} (h1 : a ≠ 1) (h5 : a ≠ 5) (h6 : a ≠ 6) : txC (m2 mr 1 1 0) s a = m a := by
  rw [txC_o _ _ h1, m2_r _ _ _ h1, F a h5 h6]
theorem tFr_K {mr mk : Nat → Nat → Int32} {n : Nat} (F : frC m mr) (s s' : RS) (K : frK (bgR (m2 (txC (m2 mr 1 1 0) s) 39 13 0) n) mk) : tFr m (txR mk s') := by
  have e : ∀ a, a ≠ 39 → a ≠ 49 → a ≠ 50 → txR mk s' a = txC (m2 mr 1 1 0) s a := fun a h1 h2 h3 => by
    rw [txR_o _ _ h1, K.1 a h1 h2 h3, bgR_o _ _ h1, m2_r _ _ _ h1]
  have e39 : ∀ k, k ≠ 18 → k ≠ 22 → k ≠ 23 → k ≠ 21 → k ≠ 10 → k ≠ 13 → txR mk s' 39 k = m 39 k := fun k h1 h2 h3 h4 h5 h6 => by
    rw [txR_1 _ _ h2 h3, K.2 k h1, bgR_k _ _ h4 h5, m2_k _ _ _ _ h6, frC_o F s (by decide) (by decide) (by decide)]
  refine ⟨fun a ha => ?_, ?_, ?_, ?_, ?_, e39 3 (by decide) (by decide) (by decide) (by decide) (by decide) (by decide), e39 5 (by decide) (by decide) (by decide) (by decide) (by decide) (by decide), e39 12 (by decide) (by decide) (by decide) (by decide) (by decide) (by decide), ?_, ?_⟩
  · rw [e a (by omega) (by omega) (by omega), frC_o F s (by omega) (by omega) (by omega)]
  · rw [e 0 (by decide) (by decide) (by decide), frC_o F s (by decide) (by decide) (by decide)]
  · rw [e 37 (by decide) (by decide) (by decide), frC_o F s (by decide) (by decide) (by decide)]
  · rw [e 7 (by decide) (by decide) (by decide), frC_o F s (by decide) (by decide) (by decide)]
  · rw [e 8 (by decide) (by decide) (by decide), frC_o F s (by decide) (by decide) (by decide)]
  · rw [e 1 (by decide) (by decide) (by decide), txC_1 _ _ (by decide) (by decide), m2_s]
  · rw [txR_1 _ _ (by decide) (by decide), K.2 10 (by decide), bgR_10]
theorem tFr_L {mr mk : Nat → Nat → Int32} {n : Nat} (F : frC m mr) (s s' : RS) (K : frL (bgR (m2 (txC (m2 mr 1 1 0) s) 39 13 0) n) mk) : tFr m (txR mk s') := by
  have e : ∀ a, a ≠ 39 → a ≠ 58 → a ≠ 59 → a ≠ 60 → txR mk s' a = txC (m2 mr 1 1 0) s a := fun a h1 h2 h3 h4 => by
    rw [txR_o _ _ h1, K.1 a h1 h2 h3 h4, bgR_o _ _ h1, m2_r _ _ _ h1]
  have e39 : ∀ k, k ≠ 35 → k ≠ 22 → k ≠ 23 → k ≠ 21 → k ≠ 10 → k ≠ 13 → txR mk s' 39 k = m 39 k := fun k h1 h2 h3 h4 h5 h6 => by
    rw [txR_1 _ _ h2 h3, K.2 k h1, bgR_k _ _ h4 h5, m2_k _ _ _ _ h6, frC_o F s (by decide) (by decide) (by decide)]
  refine ⟨fun a ha => ?_, ?_, ?_, ?_, ?_, e39 3 (by decide) (by decide) (by decide) (by decide) (by decide) (by decide), e39 5 (by decide) (by decide) (by decide) (by decide) (by decide) (by decide), e39 12 (by decide) (by decide) (by decide) (by decide) (by decide) (by decide), ?_, ?_⟩
  · rw [e a (by omega) (by omega) (by omega) (by omega), frC_o F s (by omega) (by omega) (by omega)]
  · rw [e 0 (by decide) (by decide) (by decide) (by decide), frC_o F s (by decide) (by decide) (by decide)]
  · rw [e 37 (by decide) (by decide) (by decide) (by decide), frC_o F s (by decide) (by decide) (by decide)]
  · rw [e 7 (by decide) (by decide) (by decide) (by decide), frC_o F s (by decide) (by decide) (by decide)]
  · rw [e 8 (by decide) (by decide) (by decide) (by decide), frC_o F s (by decide) (by decide) (by decide)]
  · rw [e 1 (by decide) (by decide) (by decide) (by decide), txC_1 _ _ (by decide) (by decide), m2_s]
  · rw [txR_1 _ _ (by decide) (by decide), K.2 10 (by decide), bgR_10]
theorem c243 (C : isC W) {s : RS} : cl 243 [.ref 1] (tm W (txC m s) l) = some (none, tm W (txC (m2 m 1 1 0) s) l) := by
  simp only [q_243, t_p1 C, Option.bind_some]
theorem c58 (C : isC W) (a p : Nat) : cl 58 [.ref 0] (tm W (txC m (a, some p)) l) = some (some (.int (-21 - nI p)), tm W (txC m (a, some p)) l) := by
  simp only [q_58, xR0 C, t_3 C, enc_s, Option.bind_some]
end TXE

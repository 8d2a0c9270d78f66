section TXG
variable {W : tm_W} {m : Nat → Nat → Int32} {l : Nat → Nat → Int64}
/-! given -/
theorem rd118 (M : isM W) {n P : Nat} {sg : Nat → Nat} (h10 : m 39 10 = nI n) (hn : n ≤ 200) (h47 : ∀ i, i < n → sg i < 256 ∧ m 47 i = (nI (sg i)).toInt8.toInt32) (hP : m 40 1104 = nI P) (hP2 : P ≤ 12) : ∃ m' s', okS n s' ∧ en n s' = (plE sg n (itG sg n P)).1 ∧ cl 118 [.ref 39] (tm W m l) = dn 118 77 [some (.ref 39), some (.int (nI (plE sg n (itG sg n P)).2.length)), some (.int 0), none, none] [] (tm W (txR m' s') l) ∧ (∀ a, a ≠ 54 → a ≠ 55 → a ≠ 56 → m' a = bgR (m2 m 39 13 0) n a) ∧ hdG 54 55 56 m' (plE sg n (itG sg n P)).2 := by
  have h10' : m2 m 39 13 0 39 10 = nI n := by rw [m2_k _ _ _ _ (by decide)]; exact h10
  have T := bgR_U (m := m2 m 39 13 0) (n := n) (sg := sg) hn (fun i hi => by rw [m2_r _ _ _ (by decide)]; exact h47 i hi)
  have hP' : bgR (m2 m 39 13 0) n 40 1104 = nI P := by rw [bgR_o _ _ (by decide), m2_r _ _ _ (by decide)]; exact hP
  unfold plE
  by_cases h : n = 0
  · rw [if_pos h]
    refine ⟨bgR (m2 m 39 13 0) n, (0, none), okS0 n, ?_, ?_, fun _ _ _ _ => rfl, fun i e he => by cases he⟩
    · simp only [en, eq_false (show ¬ 0 < n by omega), if_false]
    · have h21 : bgR (m2 m 39 13 0) n 39 21 = 0 := by rw [T.1, h]; rfl
      simp only [q_118, rok M, ru13 M, c99 M h10', kxv_s, u_1 M, h21, Option.bind_some, eq_true (show (0 : Int32) ≤ 0 by decide), if_true, q_118_14 39 0 0]
      rfl
  · rw [if_neg h]
    obtain ⟨m', s', r0, r1, r2, r3, r4⟩ := d118 (l := l) M (P := P) hP2 none none (n + 1) 0 (0, none) [] (bgR (m2 m 39 13 0) n) T hP' (okS0 n) rfl (by decide) rfl (fun i e he => by cases he) (by show n < 0 + (n + 1); omega)
    refine ⟨m', s', r0, r1, ?_, r3, r4⟩
    simp only [q_118, rok M, ru13 M, c99 M h10', kxv_s, u_1 M, T.1, Option.bind_some, eq_false (nI_nle (show 0 < n by omega) (by omega)), if_false, if_true]
    exact r2
theorem tFr_G {mr mk : Nat → Nat → Int32} {n : Nat} (F : frC m mr) (s s' : RS) (K : ∀ a, a ≠ 54 → a ≠ 55 → a ≠ 56 → mk a = bgR (m2 (txC (m2 mr 1 1 0) s) 39 13 0) n a) : tFr m (txR mk s') := by
  have e : ∀ a, a ≠ 39 → a ≠ 54 → a ≠ 55 → a ≠ 56 → txR mk s' a = txC (m2 mr 1 1 0) s a := fun a h1 h2 h3 h4 => by
    rw [txR_o _ _ h1, K a h2 h3 h4, bgR_o _ _ h1, m2_r _ _ _ h1]
  have e39 : ∀ k, k ≠ 22 → k ≠ 23 → k ≠ 21 → k ≠ 10 → k ≠ 13 → txR mk s' 39 k = m 39 k := fun k h2 h3 h4 h5 h6 => by
    rw [txR_1 _ _ h2 h3, K 39 (by decide) (by decide) (by decide), bgR_k _ _ h4 h5, m2_k _ _ _ _ h6, frC_o F s (by decide) (by decide) (by decide)]
  refine ⟨fun a ha => ?_, ?_, ?_, ?_, ?_, e39 3 (by decide) (by decide) (by decide) (by decide) (by decide), e39 5 (by decide) (by decide) (by decide) (by decide) (by decide), e39 12 (by decide) (by decide) (by decide) (by decide) (by decide), ?_, ?_⟩
  · rw [e a (by omega) (by omega) (by omega) (by omega), frC_o F s (by omega) (by omega) (by omega)]
  · rw [e 0 (by decide) (by decide) (by decide) (by decide), frC_o F s (by decide) (by decide) (by decide)]
  · rw [e 37 (by decide) (by decide) (by decide) (by decide), frC_o F s (by decide) (by decide) (by decide)]
  · rw [e 7 (by decide) (by decide) (by decide) (by decide), frC_o F s (by decide) (by decide) (by decide)]
  · rw [e 8 (by decide) (by decide) (by decide) (by decide), frC_o F s (by decide) (by decide) (by decide)]
  · rw [e 1 (by decide) (by decide) (by decide) (by decide), txC_1 _ _ (by decide) (by decide), m2_s]
  · rw [txR_1 _ _ (by decide) (by decide), K 39 (by decide) (by decide) (by decide), bgR_10]
/-- bans that come one behind another -/
def gvF (al : Nat → Int32) : List IT → (Nat → Int32) → Nat → Nat → (Nat → Int32)
  | [], f, _, _ => f
  | e :: es, f, E, N => gvF al es (tBn f E N (nI e.1) (nI e.2.1) (nI e.2.2) (al e.2.1)) (E + 1) (N + 1)
def okG (P : Nat) (e : IT) : Prop := e.1 < P ∧ e.2.1 < 4 ∧ 1 ≤ e.2.2 ∧ e.2.2 ≤ 9
theorem tBn_7 (g : Nat → Int32) (E N : Nat) (p c n a : Int32) : tBn g E N p c n a 1107 = nI (E + 1) := tEn_e _ _ _ _
theorem gv_SR {al : Nat → Int32} {P B : Nat} : ∀ (es : List IT) (f g : Nat → Int32) (E N : Nat), (∀ (q : Nat) (e : IT), es[q]? = some e → okG P e) → N + es.length ≤ 100 → SR f g P N E → VR g P N E → CB g B → SR (gvF al es f E N) (gvF al es g E N) P (N + es.length) (E + es.length) ∧ VR (gvF al es g E N) P (N + es.length) (E + es.length) ∧ CB (gvF al es g E N) B
  | [], f, g, E, N, _, _, S, V, c => ⟨S, V, c⟩
  | e :: es, f, g, E, N, h, hN, S, V, c => by
    have hN' : N + (es.length + 1) ≤ 100 := hN
    obtain ⟨h1, h2, h3, h4⟩ := h 0 e rfl
    have ih := gv_SR (al := al) (P := P) (B := B) es _ _ (E + 1) (N + 1) (fun q e' he => h (q + 1) e' he) (by omega) (SR_bn S (by omega) (nI e.1) (nI e.2.1) (nI e.2.2) (al e.2.1)) (VR_bn V (by omega) S.P12 h1 h2 h3 h4 (al e.2.1)) (CB_bn c _ _ _ _)
    rw [show N + 1 + es.length = N + (e :: es).length by simp; omega, show E + 1 + es.length = E + (e :: es).length by simp; omega] at ih
    exact ih
theorem i1g (C : isC W) : ia_gI (tm W m l) 2 5 1 = some (m 5 1) := tm_gI C.t5 rfl
theorem i0g (C : isC W) : ia_gR (tm W m l) 2 5 0 = some 6 := tm_gR C.t5 rfl
theorem c179 (C : isC W) {i : Nat} (hi : i < 67) : cl 179 [.ref 5, .int (nI i)] (tm W m l) = some (some (.int (m 6 (3 * i))), tm W m l) := by
  simp only [q_179, i0g C, Option.bind_some, mul3, tm_ld C.t6 (by decide) (by decide) (show 3 * i < 201 by omega) (by decide)]
theorem c180 (C : isC W) {i : Nat} (hi : i < 67) : cl 180 [.ref 5, .int (nI i)] (tm W m l) = some (some (.int (m 6 (3 * i + 1))), tm W m l) := by
  simp only [q_180, i0g C, Option.bind_some, mul3, nI_1, tm_ld C.t6 (by decide) (by decide) (show 3 * i + 1 < 201 by omega) (by decide)]
theorem c181 (C : isC W) {i : Nat} (hi : i < 67) : cl 181 [.ref 5, .int (nI i)] (tm W m l) = some (some (.int (m 6 (3 * i + 2))), tm W m l) := by
  simp only [q_181, i0g C, Option.bind_some, mul3, show nI (3 * i) + 2 = nI (3 * i + 2) from nI_add _ 2, tm_ld C.t6 (by decide) (by decide) (show 3 * i + 2 < 201 by omega) (by decide)]
theorem wv5 (m : Nat → Nat → Int32) (f : Nat → Int32) {a : Nat} (h : a < 13) : wv m 13 f a = m a := wv_out _ _ (by omega)
theorem d13 (C : isC W) {L P : Nat} {al : Nat → Int32} (hL : L ≤ 67) (h5 : m 5 1 = nI L) (hal : ∀ c, c < 4 → m 10 (12 * c) = al c) : ∀ (es : List IT) (i : Nat) (f : Nat → Int32) (E N : Nat) (l2 : Option Value), i + es.length = L → (∀ (q : Nat) (e : IT), es[q]? = some e → m 6 (3 * (i + q)) = nI e.1 ∧ m 6 (3 * (i + q) + 1) = nI e.2.1 ∧ m 6 (3 * (i + q) + 2) = nI e.2.2) → (∀ (q : Nat) (e : IT), es[q]? = some e → okG P e) → f 1105 = nI N → N + es.length ≤ 100 → f 1107 = nI E → E + es.length < 2 ^ 30 →
    dn 13 30 [some (.ref 0), some (.int (nI i)), l2] [] (tm W (wv m 13 f) l) = some (some (.int (nI L)), tm W (wv m 13 (gvF al es f E N)) l)
  | [], i, f, E, N, l2, hi, hx, hq, hN, hN2, hE, hE2 => by
    have : i = L := by simpa using hi
    rw [q_13_30]
    simp only [xR2 C, Option.bind_some, i1g C, wv5 m _ (show 5 < 13 by decide), h5, this, eq_true (Int32.le_refl (nI L)), if_true]
    rfl
  | e :: es, i, f, E, N, l2, hi, hx, hq, hN, hN2, hE, hE2 => by
    have hi' : i + (es.length + 1) = L := hi
    have hN' : N + (es.length + 1) ≤ 100 := hN2
    have hE' : E + (es.length + 1) < 2 ^ 30 := hE2
    obtain ⟨a1, a2, a3⟩ := hx 0 e rfl
    obtain ⟨b1, b2, b3, b4⟩ := hq 0 e rfl
    have ih := d13 C hL h5 hal es (i + 1) (tBn f E N (nI e.1) (nI e.2.1) (nI e.2.2) (al e.2.1)) (E + 1) (N + 1) (some (.int (nI e.2.1))) (by omega) (fun q e' he => by rw [show i + 1 + q = i + (q + 1) by omega]; exact hx (q + 1) e' he) (fun q e' he => hq (q + 1) e' he) (tBn_5 _ _ _ (by omega) _ _ _ _) (by omega) (tBn_7 _ _ _ _ _ _ _) (by omega)
    replace a1 : m 6 (3 * i) = nI e.1 := a1
    replace a2 : m 6 (3 * i + 1) = nI e.2.1 := a2
    replace a3 : m 6 (3 * i + 2) = nI e.2.2 := a3
    rw [q_13_30]
    simp only [xR2 C, xR4 C, xR6 C, Option.bind_some, i1g C, wv5 m _ (show 5 < 13 by decide), h5, eq_false (nI_ge (show i < L by omega) (by omega)), if_false, if_true, i_ok C, c179 C (show i < 67 by omega), c180 C (show i < 67 by omega), c181 C (show i < 67 by omega), wv5 m _ (show 6 < 13 by decide), a1, a2, a3, kxi_s, uok C, c195_0 C b2, wv10, hal _ b2, sok C.now, c230 C.now hN (show N < 100 by omega) hE (show E < 2 ^ 30 by omega), nI_1]
    exact ih
theorem d118b (M : isM W) {L P : Nat} {al : Nat → Int32} (hL : L ≤ 67) (hal : ∀ c, c < 4 → m 44 (4 * c) = al c) (x2 : Int32) : ∀ (es : List IT) (i : Nat) (f : Nat → Int32) (E N : Nat), i + es.length = L → (∀ (q : Nat) (e : IT), es[q]? = some e → m 54 (i + q) = nI e.1 ∧ m 55 (i + q) = nI e.2.1 ∧ m 56 (i + q) = nI e.2.2) → (∀ (q : Nat) (e : IT), es[q]? = some e → okG P e) → f 1105 = nI N → N + es.length ≤ 100 → f 1107 = nI E → E + es.length < 2 ^ 30 →
    dn 118 104 [some (.ref 39), some (.int (nI L)), some (.int x2), some (.int (nI i)), some (.int (nI i))] [] (tm W (m1 m 40 f) l) = some (some (.int (nI L)), tm W (m1 m 40 (gvF al es f E N)) l)
  | [], i, f, E, N, hi, hx, hq, hN, hN2, hE, hE2 => by
    have : i = L := by simpa using hi
    rw [q_118_104, this, if_pos (Int32.le_refl (nI L))]
    rfl
  | e :: es, i, f, E, N, hi, hx, hq, hN, hN2, hE, hE2 => by
    have hi' : i + (es.length + 1) = L := hi
    have hN' : N + (es.length + 1) ≤ 100 := hN2
    have hE' : E + (es.length + 1) < 2 ^ 30 := hE2
    obtain ⟨a1, a2, a3⟩ := hx 0 e rfl
    obtain ⟨b1, b2, b3, b4⟩ := hq 0 e rfl
    have ih := d118b M hL hal x2 es (i + 1) (tBn f E N (nI e.1) (nI e.2.1) (nI e.2.2) (al e.2.1)) (E + 1) (N + 1) (by omega) (fun q e' he => by rw [show i + 1 + q = i + (q + 1) by omega]; exact hx (q + 1) e' he) (fun q e' he => hq (q + 1) e' he) (tBn_5 _ _ _ (by omega) _ _ _ _) (by omega) (tBn_7 _ _ _ _ _ _ _) (by omega)
    rw [Nat.add_zero] at a1 a2 a3
    rw [q_118_104]
    simp only [rok M, rR27 M, rR28 M, rR29 M, Option.bind_some, eq_false (nI_ge (show i < L by omega) (by omega)), if_false, if_true, rl54 M (show i < 200 by omega), rl55 M (show i < 200 by omega), rl56 M (show i < 200 by omega), m1_a _ _ (show (54 : Nat) ≠ 40 by decide), m1_a _ _ (show (55 : Nat) ≠ 40 by decide), m1_a _ _ (show (56 : Nat) ≠ 40 by decide), a1, a2, a3, c86 M hN (show N < 100 by omega) hE (show E < 2 ^ 30 by omega) b2, hal _ b2, kxi_s, i10, nI_1]
    exact ih
theorem wv_row_eq {m m' : Nat → Nat → Int32} (hm : ∀ a, 13 ≤ a → a < 21 → m' a = m a) (f : Nat → Int32) {a : Nat} (h : 13 ≤ a ∧ a < 21) : wv m' 13 f a = wv m 13 f a := by
  funext k
  unfold wv
  rw [hm a h.1 h.2]
theorem wv_tx (m : Nat → Nat → Int32) (s : RS) (f : Nat → Int32) : wv (txC m s) 13 f = txC (wv m 13 f) s := by
  funext a k
  by_cases h : 13 ≤ a ∧ a < 21
  · rw [txC_o _ _ (by omega)]
    exact congrFun (wv_row_eq (fun a h1 h2 => txC_o m s (by omega)) f h) k
  · rw [wv_out _ _ (by omega)]
    by_cases h1 : a = 1
    · subst h1
      by_cases h2 : k = 2
      · subst h2
        rw [txC_2, txC_2]
      · by_cases h3 : k = 3
        · subst h3
          rw [txC_3, txC_3]
        · rw [txC_1 _ _ h2 h3, txC_1 _ _ h2 h3, wv_out _ _ (by omega)]
    · rw [txC_o _ _ h1, txC_o _ _ h1, wv_out _ _ (by omega)]
theorem c246e (C : isC W) {s : RS} (h : s.2 = none) : cl 246 [.ref 1] (tm W (txC m s) l) = some (some (.int 1), tm W (txC m s) l) := by
  obtain ⟨a, q⟩ := s
  cases h
  exact c246s C a
theorem txR_w (m : Nat → Nat → Int32) (s : RS) (f : Nat → Int32) : m1 (txR m s) 40 f = txR (m1 m 40 f) s := by
  unfold txR
  rw [m12 _ _ _ _ _ (by decide), m12 _ _ _ _ _ (by decide)]
theorem u_1105 (M : isM W) {s : RS} : ia_ld (tm W (txR m s) l) 0 40 1105 = some (m 40 1105) := u_ld40 M (i := 1105) (by decide)
theorem s13_2 (C : isC W) : ia_gI (tm W m l) 5 13 2 = some (m 13 2) := tm_gI C.now.1 rfl
theorem b_given {j : Nat} (hj : j < 600) (h : Inv j W m l) : Both j W m l 13 118 [] [] := by
  obtain ⟨⟨C, M, h61, g1, g2, g3⟩, ⟨P, N, E, S, V, hE, hB⟩, -, -, R, hT, hrow⟩ := id h
  have p12 := S.P12
  have n100 := S.N100
  obtain ⟨n, sg, T, h10, h47⟩ := iTxt_sg hT
  have hn := T.2.1
  have hP : m 13 0 = nI P := S.f4
  obtain ⟨mr, e64, F, hd⟩ := rd64 (l := l) C T hP p12
  have hoks := plE_ok (sg := sg) (it := itG sg n P) hn (fun s hs => (itG_ok hn hs).2.2)
  have mo : ∀ s {a : Nat}, a ≠ 1 → a ≠ 5 → a ≠ 6 → txC (m2 mr 1 1 0) s a = m a := fun s a h1 h5 h6 => frC_o F s h1 h5 h6
  by_cases hq : (plE sg n (itG sg n P)).1.2 = none
  · obtain ⟨hall, hlen⟩ := plE_all (sg := sg) (it := itG sg n P) (Q := okG P) hn (fun s hs => (itG_ok hn hs).2.2) (fun s hs => by have := (itG_s hs).2.1; omega) (fun s hs => by
      obtain ⟨c1, c2, c3, c4, c5, c6, c7, c8, c9⟩ := itG_s hs
      exact ⟨c4, c6, c8, c9⟩) hq
    have hd' := hd hq
    have e5 : m2 mr 1 1 0 5 1 = nI (plE sg n (itG sg n P)).2.length := by rw [m2_a _ _ _ _ (by decide)]; exact hd'.1
    have es : enc (plE sg n (itG sg n P)).1.2 = -1 := by rw [hq]; rfl
    have eN : txC (m2 mr 1 1 0) (plE sg n (itG sg n P)).1 13 2 = nI N := by
      rw [mo _ (by decide) (by decide) (by decide)]
      exact S.f5
    by_cases hL : N + (plE sg n (itG sg n P)).2.length ≤ 100
    · have eLe : (nI N + nI (plE sg n (itG sg n P)).2.length ≤ 100) = True := eq_true (by rw [nI_add]; exact nI_le (b := 100) hL (by decide))
      obtain ⟨s, W', mk', hs8, h5s, ⟨C', M', hW, hsh, -⟩, e174, k62, -, hInv⟩ := act3 (W1 := W) (mc := txC (m2 mr 1 1 0) (plE sg n (itG sg n P)).1) h C M h61 (Nat.le_refl _) (by omega) (by omega) rfl (fun _ _ => rfl) rfl (mo _ (by decide) (by decide) (by decide)) (fun x x1 x2 => mo _ (by omega) (by omega) (by omega)) (vw_row fun x x1 x2 => mo _ (by omega) (by omega) (by omega))
      have v13 : vw mk' 13 = vw m 13 := vw_row fun x x1 x2 => by rw [k62 x (by omega) (by omega), mo _ (by omega) (by omega) (by omega)]
      have hc := d13 (m := mk') (l := l) (P := P) (al := fun c => m 44 (4 * c)) C' (L := (plE sg n (itG sg n P)).2.length) hlen (by rw [k62 5 (by decide) (by decide), txC_o _ _ (by decide)]; exact e5) (fun c hc => by rw [k62 10 (by decide) (by decide), mo _ (by decide) (by decide) (by decide)]; exact (R c hc).1.1) (plE sg n (itG sg n P)).2 0 (vw m 13) E N none (by omega) (fun q e he => by
        rw [k62 6 (by decide) (by decide), txC_o _ _ (by decide), m2_r _ _ _ (by decide), Nat.zero_add]
        exact hd'.2 q e he) hall S.f5 hL S.f7 (by omega)
      obtain ⟨S', V', B'⟩ := gv_SR (al := fun c => m 44 (4 * c)) (plE sg n (itG sg n P)).2 (vw m 13) (m 40) E N hall hL S V (CB_le hB sub_le)
      have ko : ∀ (f' : Nat → Int32) {x : Nat}, x < 62 → x ≠ 37 → x ≠ 1 → x ≠ 5 → x ≠ 6 → (x < 13 ∨ 21 ≤ x) → wv mk' 13 f' x = m x := fun f' x h1 h2 h3 h4 h5 h6 => by
        rw [wv_out _ _ (by omega), k62 x h1 h2, mo _ h3 h4 h5]
      obtain ⟨mk, s', q0, q1, q2, q3, q4⟩ := rd118 (l := l) (m := wv mk' 13 (gvF (fun c => m 44 (4 * c)) (plE sg n (itG sg n P)).2 (vw m 13) E N)) (n := n) (P := P) (sg := sg) M' (by rw [ko _ (by decide) (by decide) (by decide) (by decide) (by decide) (by decide)]; exact h10) hn (fun i hi => by rw [ko _ (by decide) (by decide) (by decide) (by decide) (by decide) (by decide)]; exact h47 i hi) (by rw [ko _ (by decide) (by decide) (by decide) (by decide) (by decide) (by decide)]; exact S.g4) p12
      generalize hXs : (plE sg n (itG sg n P)).2 = xs at *
      generalize hse : (plE sg n (itG sg n P)).1 = se at *
      generalize hFf : gvF (fun c => m 44 (4 * c)) xs (vw m 13) E N = F' at *
      have TU : txU mk n sg := txU_of (bgR_U (m := m2 (wv mk' 13 F') 39 13 0) hn (fun i hi => by rw [m2_r _ _ _ (by decide), ko _ (by decide) (by decide) (by decide) (by decide) (by decide) (by decide)]; exact h47 i hi)) (by rw [q3 39 (by decide) (by decide) (by decide)]) (by rw [q3 47 (by decide) (by decide) (by decide)])
      have eK : ∀ {a : Nat}, a ≠ 39 → a ≠ 54 → a ≠ 55 → a ≠ 56 → txR mk se a = wv mk' 13 F' a := fun h1 h2 h3 h4 => by
        rw [txR_o _ _ h1, q3 _ h2 h3 h4, bgR_o _ _ h1, m2_r _ _ _ h1]
      have eK39 : ∀ {k : Nat}, k ≠ 22 → k ≠ 23 → k ≠ 21 → k ≠ 10 → k ≠ 13 → txR mk se 39 k = m 39 k := fun h2 h3 h4 h5 h6 => by
        rw [txR_1 _ _ h2 h3, q3 39 (by decide) (by decide) (by decide), bgR_k _ _ h4 h5, m2_k _ _ _ _ h6, ko _ (by decide) (by decide) (by decide) (by decide) (by decide) (by decide)]
      have eA : ∀ {a : Nat}, 40 ≤ a → a < 47 → txR mk se a = m a := fun h1 h2 => by
        rw [eK (by omega) (by omega) (by omega) (by omega), ko _ (by omega) (by omega) (by omega) (by omega) (by omega) (by omega)]
      have h5' : txR mk se 39 5 = nI s := by rw [eK39 (by decide) (by decide) (by decide) (by decide) (by decide)]; exact h5s
      have e40 : rkM (txR mk se) s 40 = m 40 := by rw [rkM_o _ _ (by decide) (by decide) (by decide), eA (by decide) (by decide)]
      have hr := d118b (m := rkM (txR mk se) s) (l := l) (P := P) (al := fun c => m 44 (4 * c)) M' (L := xs.length) hlen (fun c hc => by rw [rkM_o _ _ (by decide) (by decide) (by decide), eA (by decide) (by decide)]) 0 xs 0 (m 40) E N (by omega) (fun q e he => by
        rw [rkM_o _ _ (by decide) (by decide) (by decide), rkM_o _ _ (by decide) (by decide) (by decide), rkM_o _ _ (by decide) (by decide) (by decide), txR_o _ _ (by decide), txR_o _ _ (by decide), txR_o _ _ (by decide), Nat.zero_add]
        exact q4 q e he) hall S.g5 hL S.g7 (by omega)
      rw [← e40, m1_e, e40] at hr
      have eo : ∀ g' {x : Nat}, x ≠ 39 → x ≠ 40 → x ≠ 41 → x ≠ 43 → x ≠ 54 → x ≠ 55 → x ≠ 56 → m1 (rkM (txR mk se) s) 40 g' x = wv mk' 13 F' x := fun g' x h1 h2 h3 h4 h5 h6 h7 => by
        rw [m1_a _ _ h2, rkM_o _ _ h4 h1 h3, eK h1 h5 h6 h7]
      have e39 : ∀ g' {k : Nat}, k ≠ 22 → k ≠ 23 → k ≠ 21 → k ≠ 10 → k ≠ 13 → k ≠ 5 → m1 (rkM (txR mk se) s) 40 g' 39 k = m 39 k := fun g' k h2 h3 h4 h5 h6 h7 => by
        rw [m1_a _ _ (by decide), rkM_39 _ _ h7, eK39 h2 h3 h4 h5 h6]
      refine ⟨nI xs.length, W', wv mk' 13 F', l, W', _, l, ?_, ?_, hW, hW, hsh 0 (by decide), hsh 39 (by decide), hInv (m1 (rkM (txR mk se) s) 40 (gvF (fun c => m 44 (4 * c)) xs (m 40) E N)) l _ _ P (N + xs.length) (E + xs.length) S' V' (by omega) B' (fun i hi => ?_) (fun i hi => by rw [m1_s]) (fun x hx => ?_) ?_ ?_ ?_ ?_ (fun x hx => ?_) (fun k i hi hk => ?_) ?_ ?_⟩
      · have ev := wv_eta mk' 13
        rw [v13] at ev
        rw [ev] at hc
        simp only [q_13, xok C, xR0 C, xR2 C, xR6 C, xR9 C, t_ok C, e64, c243 C, c246e C hq, s13_2 C, eN, i1g C, txC_o _ _ (show (5 : Nat) ≠ 1 by decide), e5, eLe, hok C, e174, Option.bind_some, kxi_s, kxv_s, if_true, if_false, i10]
        exact hc
      · have m40 : mk 40 = m 40 := by rw [q3 40 (by decide) (by decide) (by decide), bgR_o _ _ (by decide), m2_r _ _ _ (by decide), ko _ (by decide) (by decide) (by decide) (by decide) (by decide) (by decide)]
        rw [q2, q_118_77]
        simp only [rok M', c105 M' TU q0, q1, u_3 M', es, rR0 M', u_1105 M', m40, S.g5, eLe, c84 M' hs8 h5', kxv_s, Option.bind_some, if_true]
        exact hr
      · rw [vw_row (m := wv mk' 13 F') fun x x1 x2 => eo _ (by omega) (by omega) (by omega) (by omega) (by omega) (by omega) (by omega)]
        exact vw_wv _ _ _ hi
      · rcases (show x = 44 ∨ x = 45 ∨ x = 46 ∨ x = 42 ∨ (x = 10 ∨ (29 ≤ x ∧ x < 37)) by omega) with rfl | rfl | rfl | rfl | hx
        · rw [m1_a _ _ (by decide), rkM_o _ _ (by decide) (by decide) (by decide), eA (by decide) (by decide)]
        · rw [m1_a _ _ (by decide), rkM_o _ _ (by decide) (by decide) (by decide), eA (by decide) (by decide)]
        · rw [m1_a _ _ (by decide), rkM_o _ _ (by decide) (by decide) (by decide), eA (by decide) (by decide)]
        · rw [m1_a _ _ (by decide), rkM_o _ _ (by decide) (by decide) (by decide), eA (by decide) (by decide)]
        · rw [eo _ (by omega) (by omega) (by omega) (by omega) (by omega) (by omega) (by omega), ko _ (by omega) (by omega) (by omega) (by omega) (by omega) (by omega)]
      · rw [eo _ (by decide) (by decide) (by decide) (by decide) (by decide) (by decide) (by decide), ko _ (by decide) (by decide) (by decide) (by decide) (by decide) (by decide)]
      · exact e39 _ (by decide) (by decide) (by decide) (by decide) (by decide) (by decide)
      · rw [eo _ (by decide) (by decide) (by decide) (by decide) (by decide) (by decide) (by decide), wv_out _ _ (by decide)]
      · rw [m1_a _ _ (by decide), rkM_5]
      · rw [eo _ (by omega) (by omega) (by omega) (by omega) (by omega) (by omega) (by omega), wv_out _ _ (by omega)]
      · rw [m1_a _ _ (by decide), rkM_43, eA (by decide) (by decide), eA (by decide) (by decide), eA (by decide) (by decide)]
      · refine iTxt_0 ?_ ?_
        · rw [eo _ (by decide) (by decide) (by decide) (by decide) (by decide) (by decide) (by decide), wv_out _ _ (by decide), k62 1 (by decide) (by decide), txC_1 _ _ (by decide) (by decide), m2_s]
        · rw [m1_a _ _ (by decide), rkM_39 _ _ (by decide), txR_1 _ _ (by decide) (by decide), q3 39 (by decide) (by decide) (by decide), bgR_10]
      · refine iRow_fr hrow ?_ ?_ (e39 _ (by decide) (by decide) (by decide) (by decide) (by decide) (by decide))
        · rw [eo _ (by decide) (by decide) (by decide) (by decide) (by decide) (by decide) (by decide), ko _ (by decide) (by decide) (by decide) (by decide) (by decide) (by decide)]
        · rw [eo _ (by decide) (by decide) (by decide) (by decide) (by decide) (by decide) (by decide), ko _ (by decide) (by decide) (by decide) (by decide) (by decide) (by decide)]
    · have eLe : (nI N + nI (plE sg n (itG sg n P)).2.length ≤ 100) = False := eq_false (by rw [nI_add]; exact nI_ge (a := 100) (by omega) (by omega))
      obtain ⟨mk, s', q0, q1, q2, q3, q4⟩ := rd118 (l := l) (m := txC (m2 mr 1 1 0) (plE sg n (itG sg n P)).1) (n := n) (P := P) (sg := sg) M (by rw [mo _ (by decide) (by decide) (by decide)]; exact h10) hn (fun i hi => by rw [mo _ (by decide) (by decide) (by decide)]; exact h47 i hi) (by rw [mo _ (by decide) (by decide) (by decide)]; exact S.g4) p12
      have TU : txU mk n sg := txU_of (bgR_U (m := m2 (txC (m2 mr 1 1 0) (plE sg n (itG sg n P)).1) 39 13 0) hn (fun i hi => by rw [m2_r _ _ _ (by decide), mo _ (by decide) (by decide) (by decide)]; exact h47 i hi)) (by rw [q3 39 (by decide) (by decide) (by decide)]) (by rw [q3 47 (by decide) (by decide) (by decide)])
      refine ⟨-4, W, txC (m2 mr 1 1 0) (plE sg n (itG sg n P)).1, l, W, txR mk (plE sg n (itG sg n P)).1, l, ?_, ?_, rfl, rfl, rfl, rfl, Inv_tf h (tFr_G F _ _ q3)⟩
      · simp only [q_13, xok C, xR0 C, xR2 C, xR6 C, xR9 C, t_ok C, e64, c243 C, c246e C hq, s13_2 C, eN, i1g C, txC_o _ _ (show (5 : Nat) ≠ 1 by decide), e5, eLe, Option.bind_some, kxi_s, kxv_s, if_true, if_false, i10]
      · have m40 : mk 40 = m 40 := by rw [q3 40 (by decide) (by decide) (by decide), bgR_o _ _ (by decide), m2_r _ _ _ (by decide), mo _ (by decide) (by decide) (by decide)]
        rw [q2, q_118_77]
        simp only [rok M, c105 M TU q0, q1, u_3 M, es, rR0 M, u_1105 M, m40, S.g5, eLe, kxv_s, Option.bind_some, if_true, if_false]
  · obtain ⟨mk, s', q0, q1, q2, q3, q4⟩ := rd118 (l := l) (m := txC (m2 mr 1 1 0) (plE sg n (itG sg n P)).1) (n := n) (P := P) (sg := sg) M (by rw [mo _ (by decide) (by decide) (by decide)]; exact h10) hn (fun i hi => by rw [mo _ (by decide) (by decide) (by decide)]; exact h47 i hi) (by rw [mo _ (by decide) (by decide) (by decide)]; exact S.g4) p12
    have TU : txU mk n sg := txU_of (bgR_U (m := m2 (txC (m2 mr 1 1 0) (plE sg n (itG sg n P)).1) 39 13 0) hn (fun i hi => by rw [m2_r _ _ _ (by decide), mo _ (by decide) (by decide) (by decide)]; exact h47 i hi)) (by rw [q3 39 (by decide) (by decide) (by decide)]) (by rw [q3 47 (by decide) (by decide) (by decide)])
    have TF := tFr_G F (plE sg n (itG sg n P)).1 (plE sg n (itG sg n P)).1 q3
    generalize hse : (plE sg n (itG sg n P)).1 = se at *
    obtain ⟨a, q⟩ := se
    cases q with
    | none => exact absurd rfl hq
    | some p =>
      have hp : p ≤ 200 := hoks.2 p rfl
      refine ⟨-21 - nI p, W, txC (m2 mr 1 1 0) (a, some p), l, W, txR mk (a, some p), l, ?_, ?_, rfl, rfl, rfl, rfl, Inv_tf h TF⟩
      · simp only [q_13, xok C, xR0 C, t_ok C, e64, c243 C, c246f C a hp, c58 C, Option.bind_some, kxi_s, kxv_s, if_true]
      · rw [q2, q_118_77]
        simp only [rok M, c105 M TU q0, q1, u_3 M, enc_s, eq_false (nI_ne_m1 (show p < 2 ^ 31 by omega)), kxv_s, Option.bind_some, if_true, if_false]
end TXG

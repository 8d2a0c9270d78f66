section TXM
variable {W : tm_W} {m : Nat → Nat → Int32} {l : Nat → Nat → Int64} {f g : Nat → Int32}
/-! ONE PLAYER's bans alike -/
def K1 (p0 N : Nat) (f g : Nat → Int32) : Prop := f p0 = g p0 ∧ (∀ b, b < N → f (304 + 8 * b) = g (304 + 8 * b)) ∧ ∀ b, b < N → g (304 + 8 * b) = nI p0 → ∀ j, j < 8 → f (304 + (8 * b + j)) = g (304 + (8 * b + j))
theorem K1_SR {P N E p0 : Nat} (S : SR f g P N E) (hp : p0 < P) : K1 p0 N f g := ⟨S.tm hp, fun b hb => S.ban (by omega), fun b hb _ j hj => S.ban (by omega)⟩
theorem K1_brs {p0 N : Nat} (K : K1 p0 N f g) {b : Nat} (hb : b < N) (c : Int32) : brs (bw f) b (nI p0) c = brs (bw g) b (nI p0) c := by
  by_cases h : g (304 + 8 * b) = nI p0
  · exact brs_cong (fun j hj => K.2.2 b hb h j hj) _ _
  · have z1 : decide (bw f (8 * b) = nI p0) = false := decide_eq_false (by show ¬ f (304 + 8 * b) = nI p0; rw [K.2.1 b hb]; exact h)
    have z2 : decide (bw g (8 * b) = nI p0) = false := decide_eq_false h
    unfold brs
    rw [z1, z2]
    rfl
theorem K1_fbr {p0 N : Nat} (K : K1 p0 N f g) (c : Int32) : fbr (bw f) (nI p0) c N 0 = fbr (bw g) (nI p0) c N 0 := fbr_cong _ c N 0 fun b _ hb => K1_brs K (by omega) c
theorem K1_lf {p0 N : Nat} (K : K1 p0 N f g) : lfF f (nI p0) N = lfF g (nI p0) N := by
  refine fo_cong N 0 0 fun b a _ hb => ?_
  rw [show f (304 + (8 * b)) = g (304 + (8 * b)) from K.2.1 b (by omega)]
  by_cases h : g (304 + 8 * b) = nI p0
  · rw [if_pos h, if_pos h, K.2.2 b (by omega) h 2 (by decide)]
  · rw [if_neg h, if_neg h]
theorem sv1_own {c : Int32} {N p p' : Nat} {s : SV} (hN : N ≤ 100) (hp : p < 2 ^ 31) (hp' : p' < 2 ^ 31) (hne : p' ≠ p) {b : Nat} (hb : b < 100) (ho : s.1 (304 + 8 * b) = nI p') : ∀ j, j < 8 → (sv1 c N p s).1 (304 + (8 * b + j)) = s.1 (304 + (8 * b + j)) := by
  intro j hj
  unfold sv1
  split
  · rfl
  · rename_i q
    obtain ⟨q1, q2, q3⟩ := fbi_e hN q
    have q4 : s.1 (304 + 8 * fbi s.1 p c N) = nI p := (brs_of q3).1
    have hne' : b ≠ fbi s.1 p c N := fun e => by
      rw [e, q4] at ho
      exact nIne hp hp' (Ne.symm hne) ho
    exact tSv_lo _ _ _ (Or.inr ⟨by omega, by omega⟩) (by omega) (by omega)
theorem K1_oth {c : Int32} {p0 p N : Nat} {t : SV} (hN : N ≤ 100) (hp0 : p0 < 124) (hp : p < 2 ^ 31) (hne : p0 ≠ p) (K : K1 p0 N f t.1) : K1 p0 N f (sv1 c N p t).1 := by
  have eo : ∀ b, b < N → (sv1 c N p t).1 (304 + 8 * b) = t.1 (304 + 8 * b) := fun b hb => sv1_b hN (j := 0) (by omega) (by decide) (by decide) (by decide)
  refine ⟨by rw [sv1_lo hN hp0]; exact K.1, fun b hb => by rw [eo b hb]; exact K.2.1 b hb, fun b hb ho j hj => ?_⟩
  rw [eo b hb] at ho
  rw [sv1_own hN hp (by omega) hne (by omega) ho j hj]
  exact K.2.2 b hb ho j hj
theorem K1_sv1 {c : Int32} {p0 N : Nat} {s t : SV} (hN : N ≤ 100) (hp0 : p0 < 124) (K : K1 p0 N s.1 t.1) : K1 p0 N (sv1 c N p0 s).1 (sv1 c N p0 t).1 := by
  have eo : ∀ (s : SV) b, b < N → (sv1 c N p0 s).1 (304 + 8 * b) = s.1 (304 + 8 * b) := fun s b hb => sv1_b hN (j := 0) (by omega) (by decide) (by decide) (by decide)
  refine ⟨by rw [sv1_lo hN hp0, sv1_lo hN hp0]; exact K.1, fun b hb => by rw [eo s b hb, eo t b hb]; exact K.2.1 b hb, fun b hb ho j hj => ?_⟩
  rw [eo t b hb] at ho
  have kb := K.2.2 b hb ho
  unfold sv1
  rw [K1_fbr K]
  by_cases h : fbr (bw t.1) (nI p0) c N 0 = -1
  · rw [if_pos h, if_pos h]
    exact kb j hj
  · rw [if_neg h, if_neg h]
    have hb2 := (fbi_e hN h).2.1
    have e : fbi s.1 p0 c N = fbi t.1 p0 c N := by
      unfold fbi
      rw [K1_fbr K]
    rw [e]
    show tSv s.1 s.2 (fbi t.1 p0 c N) (304 + (8 * b + j)) = tSv t.1 t.2 (fbi t.1 p0 c N) (304 + (8 * b + j))
    by_cases h2 : b = fbi t.1 p0 c N ∧ j = 2
    · rw [h2.2, h2.1, tSv_2 _ _ (by omega), tSv_2 _ _ (by omega), ← h2.1, kb 2 (by decide)]
    · by_cases h7 : b = fbi t.1 p0 c N ∧ j = 7
      · rw [h7.2, h7.1, tSv_7b _ _ (by omega), tSv_7b _ _ (by omega), ← h7.1, kb 7 (by decide)]
      · rw [tSv_lo _ _ _ (Or.inr ⟨by omega, by omega⟩) (by omega) (by omega), tSv_lo _ _ _ (Or.inr ⟨by omega, by omega⟩) (by omega) (by omega), kb j hj]
theorem K1_after {c a b : Int32} {p0 N : Nat} (hN : N ≤ 100) (hp0 : p0 < 124) : ∀ (n i : Nat) (t : SV × Nat × Int32), p0 < i → i + n < 2 ^ 31 → K1 p0 N f t.1.1 → K1 p0 N f (fo (svS c a b N) n i t).1.1
  | 0, i, t, _, _, K => K
  | n + 1, i, t, h, hi, K => by
    rw [fo]
    refine K1_after hN hp0 n (i + 1) _ (by omega) (by omega) ?_
    unfold svS
    split
    · exact K1_oth hN hp0 (by omega) (by omega) K
    · exact K
def own (c a b : Int32) (N p0 : Nat) (s : SV) : SV := if s.1 p0 = a ∨ s.1 p0 = b then sv1 c N p0 s else s
theorem K1_loop {c a b : Int32} {p0 N : Nat} (hN : N ≤ 100) (hp0 : p0 < 124) {s : SV} : ∀ (n i : Nat) (t : SV × Nat × Int32), i ≤ p0 → p0 < i + n → i + n < 2 ^ 31 → K1 p0 N s.1 t.1.1 → K1 p0 N (own c a b N p0 s).1 (fo (svS c a b N) n i t).1.1
  | 0, i, t, h1, h2, hi, K => by omega
  | n + 1, i, t, h1, h2, hi, K => by
    rw [fo]
    by_cases e : i = p0
    · subst e
      refine K1_after hN hp0 n (i + 1) _ (by omega) (by omega) ?_
      unfold own svS
      rw [K.1]
      by_cases ht : t.1.1 i = a ∨ t.1.1 i = b
      · rw [if_pos ht]
        by_cases hf : fbr (bw t.1.1) (nI i) c N 0 = -1
        · rw [if_neg (fun q => q.2 hf)]
          have e2 : sv1 c N i s = s := if_pos (by rw [K1_fbr K]; exact hf)
          rw [e2]
          exact K
        · rw [if_pos ⟨ht, hf⟩]
          exact K1_sv1 hN hp0 K
      · rw [if_neg ht, if_neg (fun q => ht q.1)]
        exact K
    · refine K1_loop hN hp0 n (i + 1) _ (by omega) (by omega) (by omega) ?_
      unfold svS
      split
      · exact K1_oth hN hp0 (by omega) (by omega) K
      · exact K
theorem K1_gb {c a b P N p0 : Nat} {r : Int32} {s t : SV} (hP : P ≤ 12) (hN : N ≤ 100) (hc : c < 4) (ha : a < 4) (hb : b < 4) (hp : p0 < P) (K : K1 p0 N s.1 t.1) : K1 p0 N (own (nI c) (nI a) (nI b) N p0 s).1 (tGb r c a b P N t).1 := by
  have K' : K1 p0 N s.1 (upd t.1 1106 (t.1 1106 + 1)) := ⟨by rw [pk_un (by omega)]; exact K.1, fun b hb => by rw [pk_un (by omega)]; exact K.2.1 b hb, fun b hb ho j hj => by rw [pk_un (by omega)] at ho ⊢; exact K.2.2 b hb ho j hj⟩
  have k1 := K1_loop (c := nI c) (a := nI a) (b := nI b) hN (show p0 < 124 by omega) P 0 ((upd t.1 1106 (t.1 1106 + 1), t.2), 0, 0) (by omega) (by omega) (by omega) K'
  have e : ∀ k, (k < 12 ∨ 304 ≤ k) → (tGb r c a b P N t).1 k = (fo (svS (nI c) (nI a) (nI b) N) P 0 ((upd t.1 1106 (t.1 1106 + 1), t.2), 0, 0)).1.1 k := fun k hk => by
    show tHp r b c P (tHp r a c P _) k = _
    rw [tHp_o hb hc hP (by omega), tHp_o ha hc hP (by omega)]
    rfl
  refine ⟨by rw [e _ (by omega)]; exact k1.1, fun b hb => by rw [e _ (by omega)]; exact k1.2.1 b hb, fun b hb ho j hj => ?_⟩
  rw [e _ (by omega)] at ho ⊢
  exact k1.2.2 b hb ho j hj
theorem own_st {c a b : Int32} {P N p0 : Nat} {s : SV} (hN : N ≤ 100) (h : stP P N s) : stP P N (own c a b N p0 s) ∧ (own c a b N p0 s).2 ≤ s.2 + 2 := by
  unfold own
  split
  · exact ⟨sv1_st hN h, (sv1_E _ _ _ _).1⟩
  · exact ⟨h, by omega⟩
/-! returns -/
def rtF (p0 N : Nat) : List IT → Nat → SV → Nat → Option (Nat × Nat) × SV
  | [], _, s, _ => (none, s)
  | e :: es, i, s, k => if s.1 p0 = nI e.2.1 ∨ s.1 p0 = nI e.2.2 then (if fbr (bw s.1) (nI p0) (nI e.1) N 0 = -1 then (some (i, k), s) else rtF p0 N es (i + 1) (sv1 (nI e.1) N p0 s) (k + 1)) else rtF p0 N es (i + 1) s k
def rtO (W : tm_W) (Y : Nat → Nat → Int32) (l : Nat → Nat → Int64) : Option (Nat × Nat) × SV → ia_O
  | (none, s) => some (some (.int (-2)), tm W (wv Y 21 s.1) l)
  | (some q, s) => some (some (.int (nI q.1)), tm W (wv (rwm Y [nI q.2]) 21 s.1) l)
theorem d31 (C : isC W) {P N L p0 : Nat} {Y : Nat → Nat → Int32} (hL : L ≤ 67) (h5 : Y 5 1 = nI L) (hp : p0 < 12) (hN2 : N ≤ 100) : ∀ (es : List IT) (i : Nat) (s : SV) (k : Nat), i + es.length = L → (∀ (q : Nat) (e : IT), es[q]? = some e → Y 6 (3 * (i + q)) = nI e.1 ∧ Y 6 (3 * (i + q) + 1) = nI e.2.1 ∧ Y 6 (3 * (i + q) + 2) = nI e.2.2) → stP P N s → s.2 + 2 * es.length + 1 < 2 ^ 30 → dn 31 27 [some (.ref 0), some (.int (nI p0)), some (.int (nI k)), some (.int (nI i))] [] (tm W (wv Y 21 s.1) l) = rtO W Y l (rtF p0 N es i s k)
  | [], i, s, k, hi, hx, hs, hE => by
    obtain rfl : i = L := by simpa using hi
    rw [q_31_27]
    simp only [xR2 C, Option.bind_some, i1g C, wv21 Y _ (show 5 < 21 ∨ 29 ≤ 5 by omega), h5, eq_true (Int32.le_refl (nI i)), if_true]
    rfl
  | e :: es, i, s, k, hi, hx, hs, hE => by
    have hi' : i + (es.length + 1) = L := hi
    have hE' : s.2 + 2 * (es.length + 1) + 1 < 2 ^ 30 := hE
    obtain ⟨a1, a2, a3⟩ := hx 0 e rfl
    have y0 : wv Y 21 s.1 6 (3 * i) = nI e.1 := by rw [wv21 _ _ (by omega)]; exact a1
    have y1 : wv Y 21 s.1 6 (3 * i + 1) = nI e.2.1 := by rw [wv21 _ _ (by omega)]; exact a2
    have y2 : wv Y 21 s.1 6 (3 * i + 2) = nI e.2.2 := by rw [wv21 _ _ (by omega)]; exact a3
    have ih := fun s' k' => d31 C (P := P) hL h5 hp hN2 es (i + 1) s' k' (by omega) (fun q e' he => by rw [show i + 1 + q = i + (q + 1) by omega]; exact hx (q + 1) e' he)
    have hE1 := (sv1_E (nI e.1) N p0 s).1
    rw [q_31_27, rtF]
    simp only [xok C, xR2 C, xR7 C, Option.bind_some, i1g C, wv21 Y _ (show 5 < 21 ∨ 29 ≤ 5 by omega), h5, eq_false (nI_ge (show i < L by omega) (by omega)), if_true, if_false, sR4 C.tho, sl1 C.tho hp, c56 C (show i < 67 by omega) y1 y2, kxi_s, nI_1]
    by_cases hc : s.1 p0 = nI e.2.1 ∨ s.1 p0 = nI e.2.2
    · simp only [eq_true hc, if_true, i10, if_false, i_ok C, c179 C (show i < 67 by omega), y0, kxi_s, sok C.tho, k231 C.tho hs hN2 (show s.2 + 1 < 2 ^ 30 by omega)]
      by_cases hf : fbr (bw s.1) (nI p0) (nI e.1) N 0 = -1
      · have e2 : sv1 (nI e.1) N p0 s = s := if_pos hf
        simp only [eq_true hf, if_true, e2, xR3 C, Option.bind_some, vok C, c189t C, c190ta C, kxr_s]
        rfl
      · simp only [eq_false hf, if_false, i10]
        exact ih _ _ (sv1_st hN2 hs) (by omega)
    · simp only [eq_false hc, if_false, if_true]
      exact ih _ _ hs (by omega)
theorem nI_ne_m2 {b : Nat} (h : b < 2 ^ 31) : ¬ nI b = -2 := by
  intro e
  have h1 := congrArg Int32.toInt e
  rw [nI_toInt h] at h1
  have : (-2 : Int32).toInt = -2 := by decide
  omega
def rtX : Option (Nat × Nat) → Int32
  | none => -2
  | some q => nI q.1
theorem d147 (M : isM W) {P N L p0 : Nat} {X : Nat → Nat → Int32} (hL : L ≤ 64) (h35 : X 39 35 = nI L) (hP2 : P ≤ 12) (hp : p0 < P) (hN2 : N ≤ 100) : ∀ (es : List IT) (i : Nat) (s t : SV) (k : Nat) (a b : Int32) (l5 : Option Value), i + es.length = L → (∀ (q : Nat) (e : IT), es[q]? = some e → X 58 (i + q) = nI e.1 ∧ X 59 (i + q) = nI e.2.1 ∧ X 60 (i + q) = nI e.2.2) → (∀ (q : Nat) (e : IT), es[q]? = some e → okL e) → K1 p0 N s.1 t.1 → stP P N t → t.2 + 24 * es.length + 24 < 2 ^ 30 → ∃ x3 x4 l6 a' b' G, dn 147 28 [some (.ref 39), some (.int (nI p0)), some (.int (-2)), some (.int (nI k)), some (.int (nI i)), l5] [] (tm W (m1 (svM X a b) 40 t.1) l) = dn 147 71 [some (.ref 39), some (.int (nI p0)), some (.int (rtX (rtF p0 N es i s k).1)), some (.int x3), some (.int x4), l6] [] (tm W (m1 (svM X a' b') 40 G) l) ∧ ∀ q, (rtF p0 N es i s k).1 = some q → x3 = nI q.2 ∧ q.1 < 2 ^ 31
  | [], i, s, t, k, a, b, l5, hi, hx, hq, K, hs, hE => by
    obtain rfl : i = L := by simpa using hi
    refine ⟨nI k, nI i, l5, a, b, t.1, ?_, fun q hq => by cases hq⟩
    rw [q_147_28]
    simp only [rIw35 M, svM_k _ _ _ (show (35 : Nat) ≠ 14 by decide) (show (35 : Nat) ≠ 15 by decide), h35, Option.bind_some, eq_true (Int32.le_refl (nI i)), if_true]
    rfl
  | e :: es, i, s, t, k, a, b, l5, hi, hx, hq, K, hs, hE => by
    have hi' : i + (es.length + 1) = L := hi
    have hE' : t.2 + 24 * (es.length + 1) + 24 < 2 ^ 30 := hE
    obtain ⟨a1, a2, a3⟩ := hx 0 e rfl
    replace a1 : X 58 i = nI e.1 := a1
    replace a2 : X 59 i = nI e.2.1 := a2
    replace a3 : X 60 i = nI e.2.2 := a3
    have ok := hq 0 e rfl
    have b1 : m1 (svM X a b) 40 t.1 59 i = nI e.2.1 := by rw [m1_a _ _ (by decide), svM_o _ _ _ (by decide)]; exact a2
    have b2 : m1 (svM X a b) 40 t.1 60 i = nI e.2.2 := by rw [m1_a _ _ (by decide), svM_o _ _ _ (by decide)]; exact a3
    have b0 : m1 (svM X a b) 40 t.1 58 i = nI e.1 := by rw [m1_a _ _ (by decide), svM_o _ _ _ (by decide)]; exact a1
    have e144 := c144 (l := l) M (X := svM X a b) (s := t) (P := P) (N := N) (i := i) (e := e) (by omega) (by rw [svM_o _ _ _ (by decide)]; exact a1) (by rw [svM_o _ _ _ (by decide)]; exact a2) (by rw [svM_o _ _ _ (by decide)]; exact a3) ok hP2 hN2 hs (by omega)
    have e95 := c95 (l := l) M (X := svM X a b) hP2 hN2 hs (show t.2 + 24 < 2 ^ 30 by omega) ok.1 ok.2.1 ok.2.2
    have Kg := K1_gb (r := svM X a b 44 (4 * e.1 + 2)) hP2 hN2 ok.1 ok.2.1 ok.2.2 hp K
    rw [svM_sv] at e144
    have ih := fun s' k' a' b' l6 K' => d147 M hL h35 hP2 hp hN2 es (i + 1) s' (tGb (svM X a b 44 (4 * e.1 + 2)) e.1 e.2.1 e.2.2 P N t) k' a' b' l6 (by omega) (fun q e' he => by rw [show i + 1 + q = i + (q + 1) by omega]; exact hx (q + 1) e' he) (fun q e' he => hq (q + 1) e' he) K' e95.2.1 (by have := e95.2.2; omega)
    rw [q_147_28, rtF]
    simp only [rIw35 M, svM_k _ _ _ (show (35 : Nat) ≠ 14 by decide) (show (35 : Nat) ≠ 15 by decide), h35, Option.bind_some, eq_false (nI_ge (show i < L by omega) (by omega)), if_false, if_true, rR0 M, zadd, wl M (show p0 < 1108 by omega), rok M, c143 M (show i < 64 by omega) b1 b2, kxi_s]
    unfold own at Kg
    rw [K.1] at Kg ⊢
    by_cases hc : t.1 p0 = nI e.2.1 ∨ t.1 p0 = nI e.2.2
    · rw [if_pos hc] at Kg
      simp only [eq_true hc, if_true, i10, if_false, rR32 M, Option.bind_some, rl58 M (show i < 64 by omega), b0, c91 M hs.2.1 hN2, kxi_s, K1_fbr K]
      by_cases hf : fbr (bw t.1) (nI p0) (nI e.1) N 0 = -1
      · simp only [eq_true hf, if_true, rok M, e144, kxv_s, nI_1]
        refine ⟨nI k, nI (i + 1), some (.int 1), nI (svF (nI e.1) (nI e.2.1) (nI e.2.2) P N (upd t.1 1106 (t.1 1106 + 1), t.2)).2.1, (svF (nI e.1) (nI e.2.1) (nI e.2.2) P N (upd t.1 1106 (t.1 1106 + 1), t.2)).2.2, (tGb (svM X a b 44 (4 * e.1 + 2)) e.1 e.2.1 e.2.2 P N t).1, ?_, fun q hq => by cases hq; exact ⟨rfl, by omega⟩⟩
        rw [q_147_28]
        simp only [rIw35 M, svM_k _ _ _ (show (35 : Nat) ≠ 14 by decide) (show (35 : Nat) ≠ 15 by decide), h35, Option.bind_some, eq_false (nI_ne_m2 (show i < 2 ^ 31 by omega)), if_false, ite_self]
        rfl
      · have e2 : ¬ fbr (bw s.1) (nI p0) (nI e.1) N 0 = -1 := by rw [K1_fbr K]; exact hf
        simp only [eq_false hf, if_false, i10, q_147_58, e144, kxv_s, nI_1, rok M, if_true]
        exact ih _ _ _ _ _ Kg
    · rw [if_neg hc] at Kg
      simp only [eq_false hc, if_false, if_true, q_147_58, rok M, e144, kxv_s, nI_1, Int32.add_zero]
      exact ih _ _ _ _ _ Kg
end TXM

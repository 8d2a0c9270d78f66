section TXI
variable {W : tm_W} {m : Nat → Nat → Int32} {l : Nat → Nat → Int64} {f g : Nat → Int32}
/-! WHO SERVES: one player, a match without cards -/
def fbi (f : Nat → Int32) (p : Nat) (c : Int32) (N : Nat) : Nat := (fbr (bw f) (nI p) c N 0).toNatClampNeg
theorem fbi_e {p N : Nat} {c : Int32} (hN : N ≤ 100) (h : ¬ fbr (bw f) (nI p) c N 0 = -1) : fbr (bw f) (nI p) c N 0 = nI (fbi f p c N) ∧ fbi f p c N < N ∧ brs (bw f) (fbi f p c N) (nI p) c = true := by
  rcases fbr_cases (bw f) (nI p) c N 0 with h1 | ⟨b, h1, h2, h3, h4⟩
  · exact absurd h1 h
  · have e : fbi f p c N = b := by
      unfold fbi
      rw [h3, nI_clamp (by omega)]
    rw [e]
    exact ⟨h3, by omega, h4⟩
def eSv (f : Nat → Int32) (E b : Nat) : Nat := if f (304 + (8 * b + 2)) - 1 ≤ 0 then E + 2 else E + 1
theorem eSv_le (f : Nat → Int32) (E b : Nat) : eSv f E b ≤ E + 2 ∧ E ≤ eSv f E b := by
  unfold eSv
  split <;> omega
theorem tSv_7 (f : Nat → Int32) (E b : Nat) : tSv f E b 1107 = nI (eSv f E b) := by
  unfold tSv eSv
  split
  · exact tEn_e _ _ _ _
  · exact tEn_e _ _ _ _
theorem tSs_lo (f : Nat → Int32) (b : Nat) {i : Nat} (h2 : i ≠ 304 + (8 * b + 2)) (h7 : i ≠ 304 + (8 * b + 7)) : tSs f b i = f i := by
  unfold tSs
  rw [pk_un h7, pk_un h2]
theorem tSv_lo (f : Nat → Int32) (E b : Nat) {i : Nat} (h : i < 124 ∨ (304 ≤ i ∧ i ≠ 1107)) (h2 : i ≠ 304 + (8 * b + 2)) (h7 : i ≠ 304 + (8 * b + 7)) : tSv f E b i = f i := by
  unfold tSv
  split
  · rw [tEn_lo _ _ _ _ h, tEn_lo _ _ _ _ h, tSs_lo _ _ h2 h7]
  · rw [tEn_lo _ _ _ _ h, tSs_lo _ _ h2 h7]
theorem tSv_2 (f : Nat → Int32) (E : Nat) {b : Nat} (hb : b < 100) : tSv f E b (304 + (8 * b + 2)) = f (304 + (8 * b + 2)) - 1 := by
  have e : tSs f b (304 + (8 * b + 2)) = f (304 + (8 * b + 2)) - 1 := by
    unfold tSs
    rw [pk_un (by omega), pk_us]
  unfold tSv
  split
  · rw [tEn_lo _ _ _ _ (Or.inr ⟨by omega, by omega⟩), tEn_lo _ _ _ _ (Or.inr ⟨by omega, by omega⟩), e]
  · rw [tEn_lo _ _ _ _ (Or.inr ⟨by omega, by omega⟩), e]
abbrev SV : Type := (Nat → Int32) × Nat
def sv1 (c : Int32) (N p : Nat) (s : SV) : SV := if fbr (bw s.1) (nI p) c N 0 = -1 then s else (tSv s.1 s.2 (fbi s.1 p c N), eSv s.1 s.2 (fbi s.1 p c N))
def stP (P N : Nat) (s : SV) : Prop := s.1 1104 = nI P ∧ s.1 1105 = nI N ∧ s.1 1107 = nI s.2
theorem sv1_st {c : Int32} {P N p : Nat} {s : SV} (hN : N ≤ 100) (h : stP P N s) : stP P N (sv1 c N p s) := by
  unfold sv1
  split
  · exact h
  · rename_i q
    have hb := (fbi_e hN q).2.1
    exact ⟨by show tSv _ _ _ 1104 = _; rw [tSv_lo _ _ _ (Or.inr ⟨by omega, by omega⟩) (by omega) (by omega)]; exact h.1, by show tSv _ _ _ 1105 = _; rw [tSv_lo _ _ _ (Or.inr ⟨by omega, by omega⟩) (by omega) (by omega)]; exact h.2.1, tSv_7 _ _ _⟩
theorem sv1_E (c : Int32) (N p : Nat) (s : SV) : (sv1 c N p s).2 ≤ s.2 + 2 ∧ s.2 ≤ (sv1 c N p s).2 := by
  unfold sv1
  split
  · omega
  · exact eSv_le _ _ _
theorem sv1_lo {c : Int32} {N p : Nat} {s : SV} (hN : N ≤ 100) {i : Nat} (hi : i < 124) : (sv1 c N p s).1 i = s.1 i := by
  unfold sv1
  split
  · rfl
  · rename_i q
    have hb := (fbi_e hN q).2.1
    exact tSv_lo _ _ _ (Or.inl hi) (by omega) (by omega)
theorem sv1_b {c : Int32} {N p : Nat} {s : SV} (hN : N ≤ 100) {b j : Nat} (hb : b < 100) (hj : j < 8) (h2 : j ≠ 2) (h7 : j ≠ 7) : (sv1 c N p s).1 (304 + (8 * b + j)) = s.1 (304 + (8 * b + j)) := by
  unfold sv1
  split
  · rfl
  · exact tSv_lo _ _ _ (Or.inr ⟨by omega, by omega⟩) (by omega) (by omega)
theorem nIne {p q : Nat} (hp : p < 2 ^ 31) (hq : q < 2 ^ 31) (h : p ≠ q) : ¬ nI p = nI q := fun e => h ((nI_eq hp hq).mp e)
/-- what one serves changes nothing of another's -/
theorem sv1_oth {c c' : Int32} {N p p' : Nat} {s : SV} (hN : N ≤ 100) (hp : p < 2 ^ 31) (hp' : p' < 2 ^ 31) (hne : p' ≠ p) (b : Nat) (hb : b < 100) : brs (bw (sv1 c N p s).1) b (nI p') c' = brs (bw s.1) b (nI p') c' ∧ (s.1 (304 + (8 * b)) = nI p' → (sv1 c N p s).1 (304 + (8 * b + 2)) = s.1 (304 + (8 * b + 2))) := by
  unfold sv1
  split
  · exact ⟨rfl, fun _ => rfl⟩
  · rename_i q
    obtain ⟨q1, q2, q3⟩ := fbi_e hN q
    have q4 := (brs_of q3).1
    by_cases e : b = fbi s.1 p c N
    · have e0 : tSv s.1 s.2 (fbi s.1 p c N) (304 + (8 * b)) = s.1 (304 + (8 * b)) := tSv_lo _ _ _ (Or.inr ⟨by omega, by omega⟩) (by omega) (by omega)
      have e1 : ¬ s.1 (304 + (8 * b)) = nI p' := by
        rw [e]
        show ¬ bw s.1 (8 * fbi s.1 p c N) = nI p'
        rw [q4]
        exact nIne hp hp' (Ne.symm hne)
      refine ⟨?_, fun h => absurd h e1⟩
      have z1 : decide (bw (tSv s.1 s.2 (fbi s.1 p c N)) (8 * b) = nI p') = false := decide_eq_false (by show ¬ tSv s.1 s.2 (fbi s.1 p c N) (304 + 8 * b) = nI p'; rw [e0]; exact e1)
      have z2 : decide (bw s.1 (8 * b) = nI p') = false := decide_eq_false e1
      unfold brs
      rw [z1, z2]
      rfl
    · have eb : ∀ j, j < 8 → bw (tSv s.1 s.2 (fbi s.1 p c N)) (8 * b + j) = bw s.1 (8 * b + j) := fun j hj => by
        show tSv s.1 s.2 (fbi s.1 p c N) (304 + (8 * b + j)) = s.1 (304 + (8 * b + j))
        exact tSv_lo _ _ _ (Or.inr ⟨by omega, by omega⟩) (by omega) (by omega)
      exact ⟨brs_cong eb _ _, fun _ => eb 2 (by decide)⟩
theorem k231 {o : Nat} (S : isSt W o) {P N : Nat} {s : SV} (h : stP P N s) (hN : N ≤ 100) (hE : s.2 + 1 < 2 ^ 30) (p : Nat) (c : Int32) : cl 231 [.ref o, .int (nI p), .int c] (tm W (wv m o s.1) l) = some (some (.int (if fbr (bw s.1) (nI p) c N 0 = -1 then 0 else 1)), tm W (wv m o (sv1 c N p s).1) l) := by
  unfold sv1
  by_cases q : fbr (bw s.1) (nI p) c N 0 = -1
  · rw [if_pos q, if_pos q, c231n S h.2.1 hN _ _ q]
  · obtain ⟨q1, q2, q3⟩ := fbi_e hN q
    rw [if_neg q, if_neg q, c231 S h.2.1 hN h.2.2 hE _ _ q1 (by omega)]
/-! the reference -/
def svM (X : Nat → Nat → Int32) (a b : Int32) : Nat → Nat → Int32 := m2 (m2 X 39 14 a) 39 15 b
theorem svM_15 (X : Nat → Nat → Int32) (a b v : Int32) : m2 (svM X a b) 39 15 v = svM X a v := m2_m2 _ _ _ _ _
theorem svM_14 (X : Nat → Nat → Int32) (a b v : Int32) : m2 (svM X a b) 39 14 v = svM X v b := by
  unfold svM
  rw [m2_c _ _ _ (by decide), m2_m2]
theorem svM_sv (X : Nat → Nat → Int32) (a b a' b' : Int32) : svM (svM X a b) a' b' = svM X a' b' := by
  show m2 (m2 (svM X a b) 39 14 a') 39 15 b' = _
  rw [svM_14, svM_15]
theorem svM_a (X : Nat → Nat → Int32) (a b : Int32) : svM X a b 39 14 = a := by
  unfold svM
  rw [m2_k _ _ _ _ (by decide), m2_s]
theorem svM_b (X : Nat → Nat → Int32) (a b : Int32) : svM X a b 39 15 = b := m2_s _ _ _ _
theorem svM_k (X : Nat → Nat → Int32) (a b : Int32) {k : Nat} (h1 : k ≠ 14) (h2 : k ≠ 15) : svM X a b 39 k = X 39 k := by
  unfold svM
  rw [m2_k _ _ _ _ h2, m2_k _ _ _ _ h1]
theorem svM_o (X : Nat → Nat → Int32) (a b : Int32) {x : Nat} (h : x ≠ 39) : svM X a b x = X x := by
  unfold svM
  rw [m2_r _ _ _ h, m2_r _ _ _ h]
def svS (c a b : Int32) (N p : Nat) (s : SV × Nat × Int32) : SV × Nat × Int32 := if (s.1.1 p = a ∨ s.1.1 p = b) ∧ ¬ fbr (bw s.1.1) (nI p) c N 0 = -1 then (sv1 c N p s.1, s.2.1 + 1, s.2.2 ||| (1 <<< (nI p &&& 31))) else s
theorem svS_st {c a b : Int32} {P N p : Nat} {s : SV × Nat × Int32} (hN : N ≤ 100) (h : stP P N s.1) : stP P N (svS c a b N p s).1 := by
  unfold svS
  split
  · exact sv1_st hN h
  · exact h
theorem svS_E {c a b : Int32} {N p : Nat} {s : SV × Nat × Int32} : (svS c a b N p s).1.2 ≤ s.1.2 + 2 := by
  unfold svS
  split
  · exact (sv1_E _ _ _ _).1
  · omega
theorem svS_lo {c a b : Int32} {N p : Nat} {s : SV × Nat × Int32} (hN : N ≤ 100) {i : Nat} (hi : i < 124) : (svS c a b N p s).1.1 i = s.1.1 i := by
  unfold svS
  split
  · exact sv1_lo hN hi
  · rfl
theorem k93 (M : isM W) {P N : Nat} {X : Nat → Nat → Int32} {s : SV} {b : Nat} (h : stP P N s) (hb : b < 100) (hE : s.2 + 1 < 2 ^ 30) {x1 x2 x3 x4 : Int32} : (if ia_ok (tm W (m1 X 40 s.1) l) 8 [.ref 39, .int (nI b), .int 2] = true then kxi (cl 79 [.ref 39, .int (nI b), .int 2] (tm W (m1 X 40 s.1) l)) (fun r12 h11 => (if ia_ok h11 8 [.ref 39, .int (nI b), .int 2, .int (r12 - 1)] = true then kxv (cl 80 [.ref 39, .int (nI b), .int 2, .int (r12 - 1)] h11) (fun h13 => (if ia_ok h13 8 [.ref 39, .int (nI b), .int 7] = true then kxi (cl 79 [.ref 39, .int (nI b), .int 7] h13) (fun r15 h14 => (if ia_ok h14 8 [.ref 39, .int (nI b), .int 7, .int (r15 + 1)] = true then kxv (cl 80 [.ref 39, .int (nI b), .int 7, .int (r15 + 1)] h14) (fun h16 => (if ia_ok h16 8 [.ref 39, .int 1, .int (nI b)] = true then kxv (cl 85 [.ref 39, .int 1, .int (nI b)] h16) (fun h17 => (if ia_ok h17 8 [.ref 39, .int (nI b)] = true then kxi (cl 87 [.ref 39, .int (nI b)] h17) (fun r19 h18 => (if r19 = 0 then (if ia_ok h18 8 [.ref 39, .int 2, .int (nI b)] = true then kxv (cl 85 [.ref 39, .int 2, .int (nI b)] h18) (fun h20 => dn 93 8 [some (.ref 39), some (.int x1), some (.int x2), some (.int x3), some (.int x4), some (.int (nI b))] [] h20) else none) else dn 93 8 [some (.ref 39), some (.int x1), some (.int x2), some (.int x3), some (.int x4), some (.int (nI b))] [] h18)) else none)) else none)) else none)) else none)) else none)) else none) = dn 93 8 [some (.ref 39), some (.int x1), some (.int x2), some (.int x3), some (.int x4), some (.int (nI b))] [] (tm W (m1 X 40 (tSv s.1 s.2 b)) l) := by
  have e1 : tSs s.1 b 1107 = nI s.2 := by
    rw [tSs_lo _ _ (by omega) (by omega)]
    exact h.2.2
  have e2 : tEn (tSs s.1 b) s.2 1 (nI b) (304 + (8 * b + 2)) = s.1 (304 + (8 * b + 2)) - 1 := by
    rw [tEn_lo _ _ _ _ (Or.inr ⟨by omega, by omega⟩)]
    unfold tSs
    rw [pk_un (by omega), pk_us]
  rw [if_pos (rok M _), c79_2 M hb, kxi_s, if_pos (rok M _), c80_2 M hb, kxv_s, if_pos (rok M _), c79_7 M hb, kxi_s, pk_un (by omega), if_pos (rok M _), c80_7 M hb, kxv_s, if_pos (rok M _), show upd (upd s.1 (304 + (8 * b + 2)) (s.1 (304 + (8 * b + 2)) - 1)) (304 + (8 * b + 7)) (s.1 (304 + (8 * b + 7)) + 1) = tSs s.1 b from rfl, c85 M e1 (by omega), kxv_s, if_pos (rok M _), c87 M hb, kxi_s, e2]
  by_cases hz : s.1 (304 + (8 * b + 2)) - 1 ≤ 0
  · rw [if_pos hz, if_pos rfl, if_pos (rok M _), c85 M (tEn_e _ _ _ _) (by omega), kxv_s, tSv, if_pos hz]
  · rw [if_neg hz, if_neg (by decide), tSv, if_neg hz]
theorem d93 (M : isM W) {P N : Nat} {X : Nat → Nat → Int32} (hP2 : P ≤ 12) (hN2 : N ≤ 100) (c a b : Int32) : ∀ (n i : Nat) (s : SV × Nat × Int32) (l5 : Option Value), i + n = P → stP P N s.1 → s.1.2 + 2 * n < 2 ^ 30 → dn 93 8 [some (.ref 39), some (.int c), some (.int a), some (.int b), some (.int (nI i)), l5] [] (tm W (m1 (svM X (nI s.2.1) s.2.2) 40 s.1.1) l) = some (none, tm W (m1 (svM X (nI (fo (svS c a b N) n i s).2.1) (fo (svS c a b N) n i s).2.2) 40 (fo (svS c a b N) n i s).1.1) l)
  | 0, i, s, l5, h, hs, hE => by
    rw [q_93_8, rR0 M, Option.bind_some, wl4 M, Option.bind_some, hs.1, if_pos (nI_le (by omega) (by omega))]
    rfl
  | n + 1, i, s, l5, h, hs, hE => by
    have ih := fun s' l5 => d93 M (X := X) hP2 hN2 c a b n (i + 1) s' l5 (by omega)
    rw [q_93_8, rR0 M, Option.bind_some, wl4 M, Option.bind_some, hs.1, if_neg (nI_ge (show i < P by omega) (by omega)), if_pos (rok M _), c90 M hs.2.1 hN2, kxi_s, if_pos (rok M _), c92 M (by omega), kxi_s, nI_1, fo]
    by_cases hc : s.1.1 i = a ∨ s.1.1 i = b
    · by_cases hf : fbr (bw s.1.1) (nI i) c N 0 = -1
      · have e : svS c a b N i s = s := if_neg fun q => q.2 hf
        rw [if_pos hc, if_neg (by decide), if_pos hf, e]
        exact ih s _ hs (by omega)
      · obtain ⟨q1, q2, q3⟩ := fbi_e hN2 hf
        have e : svS c a b N i s = (sv1 c N i s.1, s.2.1 + 1, s.2.2 ||| (1 <<< (nI i &&& 31))) := if_pos ⟨hc, hf⟩
        have e1 : sv1 c N i s.1 = (tSv s.1.1 s.1.2 (fbi s.1.1 i c N), eSv s.1.1 s.1.2 (fbi s.1.1 i c N)) := if_neg hf
        have i2 := ih (svS c a b N i s) (some (.int (nI (fbi s.1.1 i c N)))) (svS_st hN2 hs) (by have := svS_E (c := c) (a := a) (b := b) (N := N) (p := i) (s := s); omega)
        rw [if_pos hc, if_neg (by decide), if_neg hf, rIw15 M, Option.bind_some, svM_b, ruw15 M, Option.bind_some, svM_15, rIw14 M, Option.bind_some, svM_a, ruw14 M, Option.bind_some, svM_14, nI_1, q1]
        rw [k93 M hs (show fbi s.1.1 i c N < 100 by omega) (by omega), ← i2, e, e1]
    · have e : svS c a b N i s = s := if_neg fun q => hc q.1
      rw [if_neg hc, if_pos rfl, e]
      exact ih s _ hs (by omega)
def svF (c a b : Int32) (P N : Nat) (s : SV) : SV × Nat × Int32 := fo (svS c a b N) P 0 (s, 0, 0)
theorem c93 (M : isM W) {P N : Nat} {X : Nat → Nat → Int32} {s : SV} (hP2 : P ≤ 12) (hN2 : N ≤ 100) (hs : stP P N s) (hE : s.2 + 24 < 2 ^ 30) (c a b : Int32) : cl 93 [.ref 39, .int c, .int a, .int b] (tm W (m1 X 40 s.1) l) = some (none, tm W (m1 (svM X (nI (svF c a b P N s).2.1) (svF c a b P N s).2.2) 40 (svF c a b P N s).1.1) l) := by
  rw [q_93, ruw14 M, Option.bind_some, ruw15 M, Option.bind_some]
  exact d93 M (X := X) hP2 hN2 c a b P 0 (s, 0, 0) none (by omega) hs (by show s.2 + 2 * P < 2 ^ 30; omega)
theorem svF_st {c a b : Int32} {P N : Nat} (hN : N ≤ 100) : ∀ (n i : Nat) (s : SV × Nat × Int32), stP P N s.1 → stP P N (fo (svS c a b N) n i s).1 ∧ (fo (svS c a b N) n i s).1.2 ≤ s.1.2 + 2 * n ∧ ∀ k, k < 124 → (fo (svS c a b N) n i s).1.1 k = s.1.1 k
  | 0, i, s, h => ⟨h, by show s.1.2 ≤ s.1.2 + 2 * 0; omega, fun _ _ => rfl⟩
  | n + 1, i, s, h => by
    rw [fo]
    obtain ⟨a1, a2, a3⟩ := svF_st (c := c) (a := a) (b := b) hN n (i + 1) (svS c a b N i s) (svS_st hN h)
    have := svS_E (c := c) (a := a) (b := b) (N := N) (p := i) (s := s)
    exact ⟨a1, by omega, fun k hk => by rw [a3 k hk, svS_lo hN hk]⟩
/-! a team has played -/
def tWp (t : Int32) (c : Nat) (n i : Nat) (f : Nat → Int32) : Nat → Int32 := fo (fun p f => if f p = t then upd f (12 + (4 * p + c)) 0 else f) n i f
theorem tWp_o {t : Int32} {c : Nat} (hc : c < 4) : ∀ (n i : Nat) (f : Nat → Int32), i + n ≤ 12 → ∀ k, (k < 12 ∨ 60 ≤ k) → tWp t c n i f k = f k
  | 0, i, f, _, k, hk => rfl
  | n + 1, i, f, h, k, hk => by
    show tWp t c n (i + 1) (if f i = t then upd f (12 + (4 * i + c)) 0 else f) k = f k
    rw [tWp_o hc n (i + 1) _ (by omega) k hk]
    split
    · rw [pk_un (by omega)]
    · rfl
theorem d94 (M : isM W) {P c : Nat} (hP2 : P ≤ 12) (hc : c < 4) (t : Int32) : ∀ (n i : Nat) (f : Nat → Int32), i + n = P → f 1104 = nI P → dn 94 36 [some (.ref 39), some (.int t), some (.int (nI c)), some (.int (nI i))] [] (tm W (m1 m 40 f) l) = some (none, tm W (m1 m 40 (tWp t c n i f)) l)
  | 0, i, f, h, hP => by
    rw [q_94_36, rR0 M, Option.bind_some, wl4 M, Option.bind_some, hP, if_pos (nI_le (by omega) (by omega))]
    rfl
  | n + 1, i, f, h, hP => by
    have ih := fun f' => d94 M hP2 hc t n (i + 1) f' (by omega)
    rw [q_94_36]
    simp only [rR0 M, Option.bind_some, wl4 M, hP, eq_false (nI_ge (show i < P by omega) (by omega)), if_false, zadd, wl M (show i < 1108 by omega), nI_1]
    show _ = some (none, tm W (m1 m 40 (tWp t c n (i + 1) (if f i = t then upd f (12 + (4 * i + c)) 0 else f))) l)
    by_cases hf : f i = t
    · simp only [eq_true hf, if_true, ixc, wst M (show 12 + (4 * i + c) < 1108 by omega), Option.bind_some]
      exact ih _ (by rw [pk_un (by omega)]; exact hP)
    · simp only [eq_false hf, if_false]
      exact ih _ hP
def tHp (r : Int32) (t c P : Nat) (f : Nat → Int32) : Nat → Int32 := if f (108 + (4 * t + c)) + 1 = r then tWp (nI t) c P 0 (upd f (108 + (4 * t + c)) (f (108 + (4 * t + c)) + 1)) else upd f (108 + (4 * t + c)) (f (108 + (4 * t + c)) + 1)
theorem c94 (M : isM W) {P t c : Nat} (hP : f 1104 = nI P) (hP2 : P ≤ 12) (ht : t < 4) (hc : c < 4) : cl 94 [.ref 39, .int (nI t), .int (nI c)] (tm W (m1 m 40 f) l) = some (none, tm W (m1 m 40 (tHp (m 44 (4 * c + 2)) t c P f)) l) := by
  have h2 : m1 m 40 (upd f (108 + (4 * t + c)) (f (108 + (4 * t + c)) + 1)) 44 = m 44 := m1_a _ _ (by decide)
  rw [q_94]
  simp only [rR0 M, rR6 M, Option.bind_some, ixl, wl M (show 108 + (4 * t + c) < 1108 by omega), wst M (show 108 + (4 * t + c) < 1108 by omega), pk_us, ixf2, rl44 M (show 4 * c + 2 < 16 by omega), h2]
  unfold tHp
  by_cases h : f (108 + (4 * t + c)) + 1 = m 44 (4 * c + 2)
  · rw [if_pos h, if_pos h]
    exact d94 M hP2 hc _ P 0 _ (by omega) (by rw [pk_un (by omega)]; exact hP)
  · rw [if_neg h, if_neg h]
theorem tHp_o {r : Int32} {t c P : Nat} (ht : t < 4) (hc : c < 4) (hP : P ≤ 12) {k : Nat} (hk : k < 12 ∨ (60 ≤ k ∧ k < 108) ∨ 124 ≤ k) : tHp r t c P f k = f k := by
  unfold tHp
  split
  · rw [tWp_o hc _ _ _ (by omega) k (by omega), pk_un (by omega)]
  · rw [pk_un (by omega)]
def tGb (r : Int32) (c a b P N : Nat) (s : SV) : SV := (tHp r b c P (tHp r a c P (svF (nI c) (nI a) (nI b) P N (upd s.1 1106 (s.1 1106 + 1), s.2)).1.1), (svF (nI c) (nI a) (nI b) P N (upd s.1 1106 (s.1 1106 + 1), s.2)).1.2)
theorem stP_upd {P N : Nat} {s : SV} (h : stP P N s) {i : Nat} (v : Int32) (hi : i ≠ 1104 ∧ i ≠ 1105 ∧ i ≠ 1107) : stP P N (upd s.1 i v, s.2) := ⟨by show upd s.1 i v 1104 = _; rw [pk_un (Ne.symm hi.1)]; exact h.1, by show upd s.1 i v 1105 = _; rw [pk_un (Ne.symm hi.2.1)]; exact h.2.1, by show upd s.1 i v 1107 = _; rw [pk_un (Ne.symm hi.2.2)]; exact h.2.2⟩
/-- a match without cards goes by -/
theorem c95 (M : isM W) {P N c a b : Nat} {X : Nat → Nat → Int32} {s : SV} (hP2 : P ≤ 12) (hN2 : N ≤ 100) (hs : stP P N s) (hE : s.2 + 24 < 2 ^ 30) (hc : c < 4) (ha : a < 4) (hb : b < 4) : cl 95 [.ref 39, .int (nI c), .int (nI a), .int (nI b)] (tm W (m1 X 40 s.1) l) = some (none, tm W (m1 (svM X (nI (svF (nI c) (nI a) (nI b) P N (upd s.1 1106 (s.1 1106 + 1), s.2)).2.1) (svF (nI c) (nI a) (nI b) P N (upd s.1 1106 (s.1 1106 + 1), s.2)).2.2) 40 (tGb (X 44 (4 * c + 2)) c a b P N s).1) l) ∧ stP P N (tGb (X 44 (4 * c + 2)) c a b P N s) ∧ (tGb (X 44 (4 * c + 2)) c a b P N s).2 ≤ s.2 + 24 := by
  have hs1 : stP P N (upd s.1 1106 (s.1 1106 + 1), s.2) := stP_upd hs _ (by decide)
  obtain ⟨q1, q2, q3⟩ := svF_st (c := nI c) (a := nI a) (b := nI b) hN2 P 0 ((upd s.1 1106 (s.1 1106 + 1), s.2), 0, 0) hs1
  have e93 := c93 (l := l) M (X := X) hP2 hN2 hs1 hE (nI c) (nI a) (nI b)
  have z1 : (svF (nI c) (nI a) (nI b) P N (upd s.1 1106 (s.1 1106 + 1), s.2)).1.1 1104 = nI P := q1.1
  have z2 : tHp (X 44 (4 * c + 2)) a c P (svF (nI c) (nI a) (nI b) P N (upd s.1 1106 (s.1 1106 + 1), s.2)).1.1 1104 = nI P := by rw [tHp_o ha hc hP2 (by decide)]; exact z1
  have q2' : (svF (nI c) (nI a) (nI b) P N (upd s.1 1106 (s.1 1106 + 1), s.2)).1.2 ≤ s.2 + 2 * P := q2
  refine ⟨?_, ⟨?_, ?_, ?_⟩, ?_⟩
  · have e44 : ∀ v w, svM X v w 44 = X 44 := fun v w => svM_o _ _ _ (by decide)
    rw [q_95]
    simp only [rR0 M, Option.bind_some, wl6 M, ws6 M, rok M, if_true, e93, kxv_s, c94 M z1 hP2 ha hc, e44, c94 M z2 hP2 hb hc]
    rfl
  · show tHp _ b c P (tHp _ a c P _) 1104 = _
    rw [tHp_o hb hc hP2 (by decide)]
    exact z2
  · show tHp _ b c P (tHp _ a c P _) 1105 = _
    rw [tHp_o hb hc hP2 (by decide), tHp_o ha hc hP2 (by decide)]
    exact q1.2.1
  · show tHp _ b c P (tHp _ a c P _) 1107 = _
    rw [tHp_o hb hc hP2 (by decide), tHp_o ha hc hP2 (by decide)]
    exact q1.2.2
  · show (svF (nI c) (nI a) (nI b) P N (upd s.1 1106 (s.1 1106 + 1), s.2)).1.2 ≤ s.2 + 24
    omega
end TXI

section TXJ
variable {W : tm_W} {m : Nat → Nat → Int32} {l : Nat → Nat → Int64} {f g : Nat → Int32}
/-! MATCHES TO COME: both sides go through them in thought -/
theorem plp_len {sg : Nat → Nat} {n : Nat} {it : RS → RS × IT} (hn : n ≤ 200) (hok : ∀ s, okS n s → okS n (it s).1) (h2 : ∀ s, (it s).1.2 = none → s.1 + 3 ≤ (it s).1.1) : ∀ (k : Nat) (s : RS) (xs : List IT), n < s.1 + k → okS n s → (plp sg n it k s xs).1.2 = none → 4 * xs.length ≤ s.1 → 4 * (plp sg n it k s xs).2.length ≤ (plp sg n it k s xs).1.1 + 1
  | 0, s, xs, hk, hs, hq, h3 => absurd hs.1 (by omega)
  | k + 1, s, xs, hk, hs, hq, h3 => by
    have hs1 := hs.1
    rw [plp_s] at hq ⊢
    by_cases hgo : (go sg n 44 (it s).1).2 = true
    · obtain ⟨g1, g2, g3, g4⟩ := go_t hgo
      rw [if_pos hgo] at hq ⊢
      have := h2 s g1
      refine plp_len hn hok h2 k _ _ ?_ (go_ok hn (hok s hs)) hq ?_
      · rw [g2]
        show n < (it s).1.1 + 1 + k
        omega
      · rw [g2, List.length_append]
        show 4 * (xs.length + 1) ≤ (it s).1.1 + 1
        omega
    · rw [if_neg hgo] at hq ⊢
      have h0 := go_n hq
      have := h2 s h0
      have hgo' : (go sg n 44 (it s).1).2 = false := by simpa using hgo
      have e1 : (it s).1 = ((it s).1.1, none) := by rw [← h0]
      have e2 : (go sg n 44 (it s).1).1.1 = (it s).1.1 := by
        rw [go_f hgo', e1]
        simp only [en]
        split <;> rfl
      show 4 * (xs ++ [(it s).2]).length ≤ (go sg n 44 (it s).1).1.1 + 1
      rw [List.length_append]
      show 4 * (xs.length + 1) ≤ _
      omega
theorem plL_len {sg : Nat → Nat} {n : Nat} (hn : n ≤ 200) (hq : (plE sg n (itL sg n)).1.2 = none) : (plE sg n (itL sg n)).2.length ≤ 50 := by
  have hk := plE_ok (sg := sg) (it := itL sg n) hn (fun s hs => (itL_ok hn hs).2.2.2)
  unfold plE at hq hk ⊢
  split
  · decide
  · rename_i h
    rw [if_neg h] at hq hk
    have := plp_len (sg := sg) (it := itL sg n) hn (fun s hs => (itL_ok hn hs).2.2.2) (fun s hs => by have := (itL_s hs).2.1; omega) (n + 1) (0, none) [] (by show n < 0 + (n + 1); omega) (okS0 n) hq (by decide)
    have := hk.1
    omega
def okL (e : IT) : Prop := e.1 < 4 ∧ e.2.1 < 4 ∧ e.2.2 < 4
theorem plL_all {sg : Nat → Nat} {n : Nat} (hn : n ≤ 200) (hq : (plE sg n (itL sg n)).1.2 = none) : ∀ (i : Nat) (e : IT), (plE sg n (itL sg n)).2[i]? = some e → okL e := (plE_all (sg := sg) (it := itL sg n) (Q := okL) hn (fun s hs => (itL_ok hn hs).2.2.2) (fun s hs => by have := (itL_s hs).2.1; omega) (fun s hs => by
    obtain ⟨c1, c2, c2', c3, c4, c5, c6, c7, c8, c9⟩ := itL_s hs
    exact ⟨c4, c6, c8⟩) hq).1
theorem Inv_u {j : Nat} {m' : Nat → Nat → Int32} {l' : Nat → Nat → Int64} (h : Inv j W m l) (hr : ∀ a, (a = 10 ∨ (13 ≤ a ∧ a < 21) ∨ (29 ≤ a ∧ a < 37) ∨ (42 ≤ a ∧ a < 47) ∨ 62 ≤ a) → m' a = m a) (h40 : ∀ i, i < 1108 → m' 40 i = m 40 i)
    (h0 : m' 0 10 = m 0 10) (h371 : m' 37 1 = m 37 1) (h372 : m' 37 2 = m 37 2) (h393 : m' 39 3 = m 39 3) (h395 : m' 39 5 = m 39 5) (ht : iTxt m') (hrow : iRow m' l') : Inv (j + 1) W m' l' := by
  obtain ⟨⟨hC, hM, h61, g1, g2, g3⟩, ⟨P, N, E, s1, s2, s3, s4⟩, ⟨k1, k2⟩, hH, hR, -, -⟩ := h
  have e13 : vw m' 13 = vw m 13 := vw_row fun a a1 a2 => hr a (by omega)
  have e29 : vw m' 29 = vw m 29 := vw_row fun a a1 a2 => hr a (by omega)
  have e42 : m' 42 = m 42 := hr 42 (by omega)
  refine ⟨⟨hC, hM, h61, g1, by omega, by omega⟩, ⟨P, N, E, by rw [e13]; exact SR_of s1 (fun _ _ => rfl) h40, VR_of s2 s1.P12 s1.N100 h40, by omega, CB_of (CB_le s4 (by omega)) h40⟩, ⟨by rw [h0, h393]; exact k1, ?_⟩, iHis_same (by omega) hH (hr 43 (by omega)) (fun x hx => hr x (by omega)) h371 h372 h395, fun c hc => ?_, ht, hrow⟩
  · rw [h393, e29, e42]
    rcases k2 with k2 | ⟨k2, P', N', E', q1, q2, q3, q4⟩
    · exact Or.inl k2
    · exact Or.inr ⟨k2, P', N', E', q1, q2, by omega, CB_le q4 (by omega)⟩
  · rw [hr 10 (by omega), hr 44 (by omega), hr 45 (by omega), hr 46 (by omega)]
    exact hR c hc
/-! who is OUT of some cup, of any State -/
theorem e227o {o : Nat} (S : isSt W o) {N : Nat} (hN : f 1105 = nI N) (hN2 : N ≤ 100) (p : Nat) (a c : Int32) (h4 : ¬ 4 ≤ c) : dn 227 10 [some (.ref o), some (.int a), some (.int (nI p)), some (.int c)] [] (tm W (wv m o f) l) = dn 227 10 [some (.ref o), some (.int (isS f N p c a)), some (.int (nI p)), some (.int (c + 1))] [] (tm W (wv m o f) l) := by
  rw [q_227_10, if_neg h4, if_pos (sok S _), c222 S hN hN2, kxi_s, isS]
  split
  · rw [or0]
  · rw [c54, kxi_s]
theorem d227o {o : Nat} (S : isSt W o) {P N : Nat} (hP : f 1104 = nI P) (hP2 : P ≤ 12) (hN : f 1105 = nI N) (hN2 : N ≤ 100) : ∀ n i a (l3 : Option Value), i + n = P → dn 227 4 [some (.ref o), some (.int a), some (.int (nI i)), l3] [] (tm W (wv m o f) l) = some (some (.int (fo (osS f N) n i a)), tm W (wv m o f) l)
  | 0, i, a, l3, h => by
    rw [q_227_4, sI0 S, Option.bind_some, hP, if_pos (nI_le (by omega) (by omega))]
    rfl
  | n + 1, i, a, l3, h => by
    rw [q_227_4, sI0 S, Option.bind_some, hP, if_neg (nI_ge (by omega) (by omega)), e227o S hN hN2 _ _ _ (by decide), s01, e227o S hN hN2 _ _ _ (by decide), s12, e227o S hN hN2 _ _ _ (by decide), s23, e227o S hN hN2 _ _ _ (by decide), s34, q_227_10, if_pos (by decide), nI_1, fo]
    exact d227o S hP hP2 hN hN2 n (i + 1) _ _ (by omega)
theorem c227o {o : Nat} (S : isSt W o) {P N : Nat} (hP : f 1104 = nI P) (hP2 : P ≤ 12) (hN : f 1105 = nI N) (hN2 : N ≤ 100) : cl 227 [.ref o] (tm W (wv m o f) l) = some (some (.int (fo (osS f N) P 0 0)), tm W (wv m o f) l) := by
  rw [q_227]
  exact d227o S hP hP2 hN hN2 P 0 0 _ (by omega)
/-! teams and bans alike -/
def KA (P N : Nat) (f g : Nat → Int32) : Prop := (∀ p, p < P → f p = g p) ∧ ∀ i, i < 8 * N → f (304 + i) = g (304 + i)
theorem KA_fbr {P N : Nat} (K : KA P N f g) (p c : Int32) : fbr (bw f) p c N 0 = fbr (bw g) p c N 0 := fbr_cong p c N 0 fun b _ hb => brs_cong (fun j hj => K.2 _ (by omega)) p c
theorem tSv_7b (f : Nat → Int32) (E : Nat) {b : Nat} (hb : b < 100) : tSv f E b (304 + (8 * b + 7)) = f (304 + (8 * b + 7)) + 1 := by
  have e : tSs f b (304 + (8 * b + 7)) = f (304 + (8 * b + 7)) + 1 := by
    unfold tSs
    rw [pk_us]
  unfold tSv
  split
  · rw [tEn_lo _ _ _ _ (Or.inr ⟨by omega, by omega⟩), tEn_lo _ _ _ _ (Or.inr ⟨by omega, by omega⟩), e]
  · rw [tEn_lo _ _ _ _ (Or.inr ⟨by omega, by omega⟩), e]
theorem KA_sv1 {c : Int32} {P N p : Nat} {s t : SV} (hP : P ≤ 12) (hN : N ≤ 100) (K : KA P N s.1 t.1) : KA P N (sv1 c N p s).1 (sv1 c N p t).1 := by
  refine ⟨fun q hq => by rw [sv1_lo hN (by omega), sv1_lo hN (by omega)]; exact K.1 q hq, fun i hi => ?_⟩
  unfold sv1
  rw [KA_fbr K]
  by_cases h : fbr (bw t.1) (nI p) c N 0 = -1
  · rw [if_pos h, if_pos h]
    exact K.2 i hi
  · rw [if_neg h, if_neg h]
    have hb := (fbi_e hN h).2.1
    have e : fbi s.1 p c N = fbi t.1 p c N := by
      unfold fbi
      rw [KA_fbr K]
    rw [e]
    show tSv s.1 s.2 (fbi t.1 p c N) (304 + i) = tSv t.1 t.2 (fbi t.1 p c N) (304 + i)
    by_cases h2 : i = 8 * fbi t.1 p c N + 2
    · rw [h2, tSv_2 _ _ (by omega), tSv_2 _ _ (by omega), K.2 _ (by omega)]
    · by_cases h7 : i = 8 * fbi t.1 p c N + 7
      · rw [h7, tSv_7b _ _ (by omega), tSv_7b _ _ (by omega), K.2 _ (by omega)]
      · rw [tSv_lo _ _ _ (Or.inr ⟨by omega, by omega⟩) (by omega) (by omega), tSv_lo _ _ _ (Or.inr ⟨by omega, by omega⟩) (by omega) (by omega), K.2 _ hi]
theorem KA_svF {c a b : Int32} {P N : Nat} (hP : P ≤ 12) (hN : N ≤ 100) : ∀ (n i : Nat) (s t : SV × Nat × Int32), i + n ≤ P → KA P N s.1.1 t.1.1 → KA P N (fo (svS c a b N) n i s).1.1 (fo (svS c a b N) n i t).1.1 ∧ (fo (svS c a b N) n i s).2.1 + t.2.1 = (fo (svS c a b N) n i t).2.1 + s.2.1
  | 0, i, s, t, h, K => ⟨K, by show s.2.1 + t.2.1 = t.2.1 + s.2.1; omega⟩
  | n + 1, i, s, t, h, K => by
    rw [fo, fo]
    by_cases q : (t.1.1 i = a ∨ t.1.1 i = b) ∧ ¬ fbr (bw t.1.1) (nI i) c N 0 = -1
    · have et : svS c a b N i t = (sv1 c N i t.1, t.2.1 + 1, t.2.2 ||| (1 <<< (nI i &&& 31))) := if_pos q
      have es : svS c a b N i s = (sv1 c N i s.1, s.2.1 + 1, s.2.2 ||| (1 <<< (nI i &&& 31))) := if_pos (by rw [K.1 i (by omega), KA_fbr K]; exact q)
      rw [es, et]
      obtain ⟨a1, a2⟩ := KA_svF (c := c) (a := a) (b := b) hP hN n (i + 1) (sv1 c N i s.1, s.2.1 + 1, s.2.2 ||| (1 <<< (nI i &&& 31))) (sv1 c N i t.1, t.2.1 + 1, t.2.2 ||| (1 <<< (nI i &&& 31))) (by omega) (KA_sv1 hP hN K)
      have a2' : _ + (t.2.1 + 1) = _ + (s.2.1 + 1) := a2
      exact ⟨a1, by omega⟩
    · have et : svS c a b N i t = t := if_neg q
      have es : svS c a b N i s = s := if_neg (by rw [K.1 i (by omega), KA_fbr K]; exact q)
      rw [es, et]
      exact KA_svF hP hN n (i + 1) s t (by omega) K
theorem KA_gb {c a b P N : Nat} {r : Int32} {s t : SV} (hP : P ≤ 12) (hN : N ≤ 100) (hc : c < 4) (ha : a < 4) (hb : b < 4) (K : KA P N s.1 t.1) : KA P N (svF (nI c) (nI a) (nI b) P N s).1.1 (tGb r c a b P N t).1 ∧ (svF (nI c) (nI a) (nI b) P N s).2.1 = (svF (nI c) (nI a) (nI b) P N (upd t.1 1106 (t.1 1106 + 1), t.2)).2.1 := by
  have K' : KA P N s.1 (upd t.1 1106 (t.1 1106 + 1)) := ⟨fun p hp => by rw [pk_un (by omega)]; exact K.1 p hp, fun i hi => by rw [pk_un (by omega)]; exact K.2 i hi⟩
  obtain ⟨k1, k2⟩ := KA_svF (c := nI c) (a := nI a) (b := nI b) hP hN P 0 (s, 0, 0) ((upd t.1 1106 (t.1 1106 + 1), t.2), 0, 0) (by omega) K'
  refine ⟨⟨fun p hp => ?_, fun i hi => ?_⟩, k2⟩
  · show _ = tHp r b c P (tHp r a c P _) p
    rw [tHp_o hb hc hP (by omega), tHp_o ha hc hP (by omega)]
    exact k1.1 p hp
  · show _ = tHp r b c P (tHp r a c P _) (304 + i)
    rw [tHp_o hb hc hP (by omega), tHp_o ha hc hP (by omega)]
    exact k1.2 i hi
/-! items on both sides -/
theorem c56 (C : isC W) {Y : Nat → Nat → Int32} {i : Nat} (hi : i < 67) {e : IT} (h1 : Y 6 (3 * i + 1) = nI e.2.1) (h2 : Y 6 (3 * i + 2) = nI e.2.2) (t : Int32) : cl 56 [.ref 0, .int (nI i), .int t] (tm W Y l) = some (some (.int (if t = nI e.2.1 ∨ t = nI e.2.2 then 1 else 0)), tm W Y l) := by
  simp only [q_56, xR2 C, i_ok C, c180 C hi, c181 C hi, h1, h2, Option.bind_some, kxi_s, if_true]
  by_cases a1 : t = nI e.2.1
  · rw [if_pos a1.symm, if_pos (Or.inl a1)]
  · rw [if_neg (Ne.symm a1)]
    by_cases a2 : t = nI e.2.2
    · rw [if_pos a2.symm, if_pos (Or.inr a2)]
    · rw [if_neg (Ne.symm a2), if_neg (fun q => q.elim a1 a2)]
theorem c143 (M : isM W) {Y : Nat → Nat → Int32} {i : Nat} (hi : i < 64) {e : IT} (h1 : Y 59 i = nI e.2.1) (h2 : Y 60 i = nI e.2.2) (t : Int32) : cl 143 [.ref 39, .int (nI i), .int t] (tm W Y l) = some (some (.int (if t = nI e.2.1 ∨ t = nI e.2.2 then 1 else 0)), tm W Y l) := by
  simp only [q_143, rR33 M, rR34 M, rl59 M hi, rl60 M hi, h1, h2, Option.bind_some]
  by_cases a1 : t = nI e.2.1
  · rw [if_pos a1.symm, if_pos (Or.inl a1)]
  · rw [if_neg (Ne.symm a1)]
    by_cases a2 : t = nI e.2.2
    · rw [if_pos a2.symm, if_pos (Or.inr a2)]
    · rw [if_neg (Ne.symm a2), if_neg (fun q => q.elim a1 a2)]
/-- the reference's list in memory -/
theorem c144 (M : isM W) {P N : Nat} {X : Nat → Nat → Int32} {s : SV} {i : Nat} {e : IT} (hi : i < 64) (h0 : X 58 i = nI e.1) (h1 : X 59 i = nI e.2.1) (h2 : X 60 i = nI e.2.2) (ok : okL e) (hP2 : P ≤ 12) (hN2 : N ≤ 100) (hs : stP P N s) (hE : s.2 + 24 < 2 ^ 30) : cl 144 [.ref 39, .int (nI i)] (tm W (m1 X 40 s.1) l) = some (none, tm W (m1 (svM X (nI (svF (nI e.1) (nI e.2.1) (nI e.2.2) P N (upd s.1 1106 (s.1 1106 + 1), s.2)).2.1) (svF (nI e.1) (nI e.2.1) (nI e.2.2) P N (upd s.1 1106 (s.1 1106 + 1), s.2)).2.2) 40 (tGb (X 44 (4 * e.1 + 2)) e.1 e.2.1 e.2.2 P N s).1) l) := by
  have e95 := (c95 (l := l) M (X := X) hP2 hN2 hs hE ok.1 ok.2.1 ok.2.2).1
  simp only [q_144, rR32 M, rR33 M, rR34 M, rl58 M hi, rl59 M hi, rl60 M hi, m1_a _ _ (show (58 : Nat) ≠ 40 by decide), m1_a _ _ (show (59 : Nat) ≠ 40 by decide), m1_a _ _ (show (60 : Nat) ≠ 40 by decide), h0, h1, h2, rok M, Option.bind_some, if_true, e95, kxv_s]
/-! behind -/
theorem wv21 (m : Nat → Nat → Int32) (f : Nat → Int32) {a : Nat} (h : a < 21 ∨ 29 ≤ a) : wv m 21 f a = m a := wv_out _ _ (by omega)
theorem d32i (C : isC W) {P N : Nat} {Y : Nat → Nat → Int32} {i : Nat} {e : IT} (hi : i < 67) (h0 : Y 6 (3 * i) = nI e.1) (h1 : Y 6 (3 * i + 1) = nI e.2.1) (h2 : Y 6 (3 * i + 2) = nI e.2.2) (hP2 : P ≤ 12) (hN2 : N ≤ 100) : ∀ (n p : Nat) (s : SV × Nat × Int32), p + n = P → stP P N s.1 → s.1.2 + 2 * n + 1 < 2 ^ 30 → dn 32 28 [some (.ref 0), some (.int (nI s.2.1)), some (.int (nI i)), some (.int (nI p))] [] (tm W (wv Y 21 s.1.1) l) = dn 32 21 [some (.ref 0), some (.int (nI (fo (svS (nI e.1) (nI e.2.1) (nI e.2.2) N) n p s).2.1)), some (.int (nI (i + 1))), some (.int (nI P))] [] (tm W (wv Y 21 (fo (svS (nI e.1) (nI e.2.1) (nI e.2.2) N) n p s).1.1) l)
  | 0, p, s, hp, hs, hE => by
    obtain rfl : p = P := by omega
    rw [q_32_28]
    simp only [xR7 C, Option.bind_some, sI0 C.tho, hs.1, eq_true (Int32.le_refl (nI p)), if_true, nI_1]
    rfl
  | n + 1, p, s, hp, hs, hE => by
    have ih := fun s' => d32i C hi h0 h1 h2 hP2 hN2 n (p + 1) s' (by omega)
    have y0 : wv Y 21 s.1.1 6 (3 * i) = nI e.1 := by rw [wv21 _ _ (by omega)]; exact h0
    have y1 : wv Y 21 s.1.1 6 (3 * i + 1) = nI e.2.1 := by rw [wv21 _ _ (by omega)]; exact h1
    have y2 : wv Y 21 s.1.1 6 (3 * i + 2) = nI e.2.2 := by rw [wv21 _ _ (by omega)]; exact h2
    have i2 := ih (svS (nI e.1) (nI e.2.1) (nI e.2.2) N p s) (svS_st hN2 hs) (by have := svS_E (c := nI e.1) (a := nI e.2.1) (b := nI e.2.2) (N := N) (p := p) (s := s); omega)
    rw [fo, ← i2, q_32_28]
    simp only [xok C, xR2 C, xR7 C, Option.bind_some, sI0 C.tho, hs.1, eq_false (nI_ge (show p < P by omega) (by omega)), if_true, if_false, sR4 C.tho, sl1 C.tho (show p < 12 by omega), c56 C hi y1 y2, kxi_s, nI_1]
    by_cases hc : s.1.1 p = nI e.2.1 ∨ s.1.1 p = nI e.2.2
    · simp only [eq_true hc, if_true, i10, if_false, i_ok C, c179 C hi, y0, kxi_s, sok C.tho, k231 C.tho hs hN2 (show s.1.2 + 1 < 2 ^ 30 by omega)]
      by_cases hf : fbr (bw s.1.1) (nI p) (nI e.1) N 0 = -1
      · have e1 : svS (nI e.1) (nI e.2.1) (nI e.2.2) N p s = s := if_neg fun q => q.2 hf
        have e2 : sv1 (nI e.1) N p s.1 = s.1 := if_pos hf
        simp only [eq_true hf, if_true, e1, e2]
      · have e1 : svS (nI e.1) (nI e.2.1) (nI e.2.2) N p s = (sv1 (nI e.1) N p s.1, s.2.1 + 1, s.2.2 ||| (1 <<< (nI p &&& 31))) := if_pos ⟨hc, hf⟩
        simp only [eq_false hf, if_false, i10, e1]
    · have e1 : svS (nI e.1) (nI e.2.1) (nI e.2.2) N p s = s := if_neg fun q => hc q.1
      simp only [eq_false hc, if_false, if_true, e1]
def bhF (P N : Nat) : List IT → SV × Nat → SV × Nat
  | [], s => s
  | e :: es, s => bhF P N es ((svF (nI e.1) (nI e.2.1) (nI e.2.2) P N s.1).1, s.2 + (svF (nI e.1) (nI e.2.1) (nI e.2.2) P N s.1).2.1)
def bhR (rr : Nat → Int32) (P N : Nat) : List IT → SV × Nat → SV × Nat
  | [], s => s
  | e :: es, s => bhR rr P N es (tGb (rr e.1) e.1 e.2.1 e.2.2 P N s.1, s.2 + (svF (nI e.1) (nI e.2.1) (nI e.2.2) P N (upd s.1.1 1106 (s.1.1 1106 + 1), s.1.2)).2.1)
theorem svF_acc {c a b : Int32} {N : Nat} : ∀ (n i : Nat) (s : SV) (k : Nat) (o : Int32), (fo (svS c a b N) n i (s, k, o)).1 = (fo (svS c a b N) n i (s, 0, 0)).1 ∧ (fo (svS c a b N) n i (s, k, o)).2.1 = k + (fo (svS c a b N) n i (s, 0, 0)).2.1
  | 0, i, s, k, o => ⟨rfl, rfl⟩
  | n + 1, i, s, k, o => by
    rw [fo, fo]
    by_cases h : (s.1 i = a ∨ s.1 i = b) ∧ ¬ fbr (bw s.1) (nI i) c N 0 = -1
    · have e1 : svS c a b N i (s, k, o) = (sv1 c N i s, k + 1, o ||| (1 <<< (nI i &&& 31))) := if_pos h
      have e2 : svS c a b N i (s, 0, 0) = (sv1 c N i s, 0 + 1, (0 : Int32) ||| (1 <<< (nI i &&& 31))) := if_pos h
      rw [e1, e2]
      obtain ⟨a1, a2⟩ := svF_acc (c := c) (a := a) (b := b) (N := N) n (i + 1) (sv1 c N i s) (k + 1) (o ||| (1 <<< (nI i &&& 31)))
      obtain ⟨b1, b2⟩ := svF_acc (c := c) (a := a) (b := b) (N := N) n (i + 1) (sv1 c N i s) (0 + 1) ((0 : Int32) ||| (1 <<< (nI i &&& 31)))
      exact ⟨a1.trans b1.symm, by omega⟩
    · have e1 : ∀ k o, svS c a b N i (s, k, o) = (s, k, o) := fun k o => if_neg h
      rw [e1, e1]
      exact svF_acc (c := c) (a := a) (b := b) (N := N) n (i + 1) s k o
theorem d32 (C : isC W) {P N L : Nat} {Y : Nat → Nat → Int32} (hL : L ≤ 67) (h5 : Y 5 1 = nI L) (hP2 : P ≤ 12) (hN2 : N ≤ 100) : ∀ (es : List IT) (i : Nat) (s : SV × Nat) (l3 : Option Value), i + es.length = L → (∀ (q : Nat) (e : IT), es[q]? = some e → Y 6 (3 * (i + q)) = nI e.1 ∧ Y 6 (3 * (i + q) + 1) = nI e.2.1 ∧ Y 6 (3 * (i + q) + 2) = nI e.2.2) → stP P N s.1 → s.1.2 + 24 * es.length + 1 < 2 ^ 30 → ∃ l4, dn 32 21 [some (.ref 0), some (.int (nI s.2)), some (.int (nI i)), l3] [] (tm W (wv Y 21 s.1.1) l) = dn 32 21 [some (.ref 0), some (.int (nI (bhF P N es s).2)), some (.int (nI L)), l4] [] (tm W (wv Y 21 (bhF P N es s).1.1) l) ∧ stP P N (bhF P N es s).1
  | [], i, s, l3, hi, hx, hs, hE => by
    obtain rfl : i = L := by simpa using hi
    exact ⟨l3, rfl, hs⟩
  | e :: es, i, s, l3, hi, hx, hs, hE => by
    have hi' : i + (es.length + 1) = L := hi
    have hE' : s.1.2 + 24 * (es.length + 1) + 1 < 2 ^ 30 := hE
    obtain ⟨a1, a2, a3⟩ := hx 0 e rfl
    replace a1 : Y 6 (3 * i) = nI e.1 := a1
    replace a2 : Y 6 (3 * i + 1) = nI e.2.1 := a2
    replace a3 : Y 6 (3 * i + 2) = nI e.2.2 := a3
    obtain ⟨q1, q2, q3⟩ := svF_st (c := nI e.1) (a := nI e.2.1) (b := nI e.2.2) hN2 P 0 (s.1, 0, 0) hs
    have q2' : (svF (nI e.1) (nI e.2.1) (nI e.2.2) P N s.1).1.2 ≤ s.1.2 + 2 * P := q2
    obtain ⟨l4, r1, r2⟩ := d32 C hL h5 hP2 hN2 es (i + 1) ((svF (nI e.1) (nI e.2.1) (nI e.2.2) P N s.1).1, s.2 + (svF (nI e.1) (nI e.2.1) (nI e.2.2) P N s.1).2.1) (some (.int (nI P))) (by omega) (fun q e' he => by rw [show i + 1 + q = i + (q + 1) by omega]; exact hx (q + 1) e' he) q1 (by show (svF (nI e.1) (nI e.2.1) (nI e.2.2) P N s.1).1.2 + 24 * es.length + 1 < 2 ^ 30; omega)
    refine ⟨l4, Eq.trans ?_ r1, r2⟩
    have ei := d32i (l := l) C (Y := Y) (by omega) a1 a2 a3 hP2 hN2 P 0 (s.1, s.2, 0) (by omega) hs (by show s.1.2 + 2 * P + 1 < 2 ^ 30; omega)
    obtain ⟨z1, z2⟩ := svF_acc (c := nI e.1) (a := nI e.2.1) (b := nI e.2.2) (N := N) P 0 s.1 s.2 0
    rw [z1, z2] at ei
    rw [q_32_21]
    simp only [xR2 C, Option.bind_some, i1g C, wv21 Y _ (show 5 < 21 ∨ 29 ≤ 5 by omega), h5, eq_false (nI_ge (show i < L by omega) (by omega)), if_false]
    exact ei
theorem d150 (M : isM W) {P N L : Nat} {X : Nat → Nat → Int32} (hL : L ≤ 64) (h35 : X 39 35 = nI L) (hP2 : P ≤ 12) (hN2 : N ≤ 100) (l3 : Option Value) : ∀ (es : List IT) (i : Nat) (s : SV × Nat) (a b : Int32), i + es.length = L → (∀ (q : Nat) (e : IT), es[q]? = some e → X 58 (i + q) = nI e.1 ∧ X 59 (i + q) = nI e.2.1 ∧ X 60 (i + q) = nI e.2.2) → (∀ (q : Nat) (e : IT), es[q]? = some e → okL e) → stP P N s.1 → s.1.2 + 24 * es.length + 24 < 2 ^ 30 → ∃ a' b', dn 150 20 [some (.ref 39), some (.int (nI s.2)), some (.int (nI i)), l3] [] (tm W (m1 (svM X a b) 40 s.1.1) l) = dn 150 20 [some (.ref 39), some (.int (nI (bhR (fun c => X 44 (4 * c + 2)) P N es s).2)), some (.int (nI L)), l3] [] (tm W (m1 (svM X a' b') 40 (bhR (fun c => X 44 (4 * c + 2)) P N es s).1.1) l) ∧ stP P N (bhR (fun c => X 44 (4 * c + 2)) P N es s).1
  | [], i, s, a, b, hi, hx, hq, hs, hE => by
    obtain rfl : i = L := by simpa using hi
    exact ⟨a, b, rfl, hs⟩
  | e :: es, i, s, a, b, hi, hx, hq, hs, hE => by
    have hi' : i + (es.length + 1) = L := hi
    have hE' : s.1.2 + 24 * (es.length + 1) + 24 < 2 ^ 30 := hE
    obtain ⟨a1, a2, a3⟩ := hx 0 e rfl
    replace a1 : X 58 i = nI e.1 := a1
    replace a2 : X 59 i = nI e.2.1 := a2
    replace a3 : X 60 i = nI e.2.2 := a3
    have ok := hq 0 e rfl
    have e44 : svM X a b 44 = X 44 := svM_o _ _ _ (by decide)
    have e144 := c144 (l := l) M (X := svM X a b) (s := s.1) (P := P) (N := N) (i := i) (e := e) (by omega) (by rw [svM_o _ _ _ (by decide)]; exact a1) (by rw [svM_o _ _ _ (by decide)]; exact a2) (by rw [svM_o _ _ _ (by decide)]; exact a3) ok hP2 hN2 hs (by omega)
    have e95 := c95 (l := l) M (X := svM X a b) hP2 hN2 hs (show s.1.2 + 24 < 2 ^ 30 by omega) ok.1 ok.2.1 ok.2.2
    rw [e44] at e144 e95
    rw [svM_sv] at e144
    obtain ⟨a', b', r1, r2⟩ := d150 M hL h35 hP2 hN2 l3 es (i + 1) (tGb (X 44 (4 * e.1 + 2)) e.1 e.2.1 e.2.2 P N s.1, s.2 + (svF (nI e.1) (nI e.2.1) (nI e.2.2) P N (upd s.1.1 1106 (s.1.1 1106 + 1), s.1.2)).2.1) (nI (svF (nI e.1) (nI e.2.1) (nI e.2.2) P N (upd s.1.1 1106 (s.1.1 1106 + 1), s.1.2)).2.1) (svF (nI e.1) (nI e.2.1) (nI e.2.2) P N (upd s.1.1 1106 (s.1.1 1106 + 1), s.1.2)).2.2 (by omega) (fun q e' he => by rw [show i + 1 + q = i + (q + 1) by omega]; exact hx (q + 1) e' he) (fun q e' he => hq (q + 1) e' he) e95.2.1 (by have := e95.2.2; show (tGb (X 44 (4 * e.1 + 2)) e.1 e.2.1 e.2.2 P N s.1).2 + 24 * es.length + 24 < 2 ^ 30; omega)
    refine ⟨a', b', Eq.trans ?_ r1, r2⟩
    rw [q_150_20]
    simp only [rIw35 M, svM_k _ _ _ (show (35 : Nat) ≠ 14 by decide) (show (35 : Nat) ≠ 15 by decide), h35, Option.bind_some, eq_false (nI_ge (show i < L by omega) (by omega)), if_false, rok M, if_true, e144, kxv_s, rIw14 M, svM_a, nI_add, nI_1]
theorem bh_KA {P N : Nat} {rr : Nat → Int32} (hP : P ≤ 12) (hN : N ≤ 100) : ∀ (es : List IT) (s t : SV × Nat), (∀ (q : Nat) (e : IT), es[q]? = some e → okL e) → KA P N s.1.1 t.1.1 → s.2 = t.2 → KA P N (bhF P N es s).1.1 (bhR rr P N es t).1.1 ∧ (bhF P N es s).2 = (bhR rr P N es t).2
  | [], s, t, _, K, e => ⟨K, e⟩
  | e :: es, s, t, hq, K, h2 => by
    have ok := hq 0 e rfl
    obtain ⟨k1, k2⟩ := KA_gb (r := rr e.1) (s := s.1) (t := t.1) hP hN ok.1 ok.2.1 ok.2.2 K
    exact bh_KA hP hN es _ _ (fun q e' he => hq (q + 1) e' he) k1 (by show s.2 + _ = t.2 + _; rw [k2, h2])
theorem KA_SR {P N E : Nat} (S : SR f g P N E) : KA P N f g := ⟨fun p hp => S.tm hp, fun i hi => S.ban hi⟩
theorem KA_cOp {P N : Nat} (K : KA P N f g) : fo (cOp f) N 0 0 = fo (cOp g) N 0 0 := by
  refine fo_cong N 0 0 fun b a _ hb => ?_
  unfold cOp
  rw [K.2 (8 * b + 2) (by omega)]
theorem KA_os {P N : Nat} (K : KA P N f g) : fo (osS f N) P 0 0 = fo (osS g N) P 0 0 := by
  refine fo_cong P 0 0 fun p a _ _ => ?_
  unfold osS isS
  rw [KA_fbr K, KA_fbr K, KA_fbr K, KA_fbr K]
end TXJ

section TXZd
variable {W : tm_W} {m : Nat → Nat → Int32} {l : Nat → Nat → Int64} {f g : Nat → Int32}
theorem tWp_q {t : Int32} {c p : Nat} (hc : c < 4) : ∀ (n i : Nat) (f : Nat → Int32), p < i → tWp t c n i f (12 + (4 * p + c)) = f (12 + (4 * p + c))
  | 0, i, f, _ => rfl
  | n + 1, i, f, h => by
    show tWp t c n (i + 1) (if f i = t then upd f (12 + (4 * i + c)) 0 else f) (12 + (4 * p + c)) = _
    rw [tWp_q hc n (i + 1) _ (by omega)]
    split
    · rw [pk_un (by omega)]
    · rfl
theorem tWp_p {t : Int32} {c p : Nat} (hc : c < 4) : ∀ (n i : Nat) (f : Nat → Int32), i + n ≤ 12 → i ≤ p → p < i + n → f p = t → tWp t c n i f (12 + (4 * p + c)) = 0
  | 0, i, f, _, h1, h2, _ => absurd h2 (by omega)
  | n + 1, i, f, h, h1, h2, hf => by
    show tWp t c n (i + 1) (if f i = t then upd f (12 + (4 * i + c)) 0 else f) (12 + (4 * p + c)) = 0
    by_cases hp : p = i
    · subst hp
      rw [if_pos hf, tWp_q hc n (p + 1) _ (by omega), pk_us]
    · refine tWp_p hc n (i + 1) _ (by omega) (by omega) (by omega) ?_
      split
      · rw [pk_un (by omega)]
        exact hf
      · exact hf
def TI (g : Nat → Int32) (P p c t N E : Nat) (s : TS) : Prop := g 1104 = nI P ∧ g 1105 = nI N ∧ g 1107 = nI E ∧ N ≤ 100 ∧ (∀ b, b < N → ∃ k, k ≤ 12 ∧ g (304 + (8 * b + 2)) = nI k) ∧ owN (bw g) (nI p) (nI c) N 0 = s.1 ∧ g (12 + (4 * p + c)) = nI s.2.1 ∧ g (108 + (4 * t + c)) = nI s.2.2.1 ∧ g p = nI t
section TI
variable {P p c t N E : Nat} {s : TS} {rr : Int32}
theorem TI_hp (hP : P ≤ 12) (hp : p < P) (hc : c < 4) (ht : t < 4) (h : TI g P p c t N E s) : TI (tHp rr t c P g) P p c t N E (s.1, (if nI (s.2.2.1 + 1) = rr then 0 else s.2.1), s.2.2.1 + 1, s.2.2.2.1, s.2.2.2.2) := by
  obtain ⟨h1, h2, h3, h4, h5, h6, h7, h8, h9⟩ := h
  have lo : ∀ k, (k < 12 ∨ 124 ≤ k) → tHp rr t c P g k = g k := fun k hk => by
    unfold tHp
    split
    · rw [tWp_o hc P 0 _ (by omega) k (by omega), pk_un (by omega)]
    · rw [pk_un (by omega)]
  refine ⟨by rw [lo _ (by decide)]; exact h1, by rw [lo _ (by decide)]; exact h2, by rw [lo _ (by decide)]; exact h3, h4, fun b hb => by rw [lo _ (by omega)]; exact h5 b hb, ?_, ?_, ?_, by rw [lo _ (by omega)]; exact h9⟩
  · rw [← h6]
    exact owN_cong N 0 fun b j _ _ _ => lo _ (by omega)
  · unfold tHp
    rw [h8, nI_1]
    by_cases z : nI (s.2.2.1 + 1) = rr
    · rw [if_pos z]
      show _ = nI (if nI (s.2.2.1 + 1) = rr then 0 else s.2.1)
      rw [if_pos z, tWp_p hc P 0 _ (by omega) (by omega) (by omega) (by rw [pk_un (by omega)]; exact h9)]
      rfl
    · rw [if_neg z]
      show _ = nI (if nI (s.2.2.1 + 1) = rr then 0 else s.2.1)
      rw [if_neg z, pk_un (by omega)]
      exact h7
  · unfold tHp
    rw [h8, nI_1]
    split
    · rw [tWp_o hc P 0 _ (by omega) _ (by omega), pk_us]
    · rw [pk_us]
theorem TI_ca (hp : p < 12) (hc : c < 4) (ht : t < 4) (h : TI g P p c t N E s) : TI (upd g (12 + (4 * p + c)) (nI (s.2.1 + 1))) P p c t N E (s.1, s.2.1 + 1, s.2.2.1, s.2.2.2.1, s.2.2.2.2) := by
  obtain ⟨h1, h2, h3, h4, h5, h6, h7, h8, h9⟩ := h
  refine ⟨by rw [pk_un (by omega)]; exact h1, by rw [pk_un (by omega)]; exact h2, by rw [pk_un (by omega)]; exact h3, h4, fun b hb => by rw [pk_un (by omega)]; exact h5 b hb, ?_, pk_us, by rw [pk_un (by omega)]; exact h8, by rw [pk_un (by omega)]; exact h9⟩
  rw [← h6]
  exact owN_cong N 0 fun b j _ _ _ => pk_un (by omega)
theorem tBn_row (g : Nat → Int32) (E : Nat) {N : Nat} (hN : N < 100) (p c n a : Int32) : tBn g E N p c n a (304 + (8 * N)) = p ∧ tBn g E N p c n a (304 + (8 * N + 1)) = c ∧ tBn g E N p c n a (304 + (8 * N + 2)) = n ∧ tBn g E N p c n a (304 + (8 * N + 4)) = 0 ∧ ∀ k, 304 ≤ k → k < 304 + 8 * N → tBn g E N p c n a k = g k := by
  unfold tBn
  refine ⟨?_, ?_, ?_, ?_, fun k k1 k2 => ?_⟩
  · rw [tEn_lo _ _ _ _ (by omega)]
    unfold tBs
    rw [pk_un (by omega), pk_un (by omega), pk_un (by omega), pk_un (by omega), pk_un (by omega), pk_un (by omega), pk_un (by omega), pk_us]
  · rw [tEn_lo _ _ _ _ (by omega)]
    unfold tBs
    rw [pk_un (by omega), pk_un (by omega), pk_un (by omega), pk_un (by omega), pk_un (by omega), pk_un (by omega), pk_us]
  · rw [tEn_lo _ _ _ _ (by omega)]
    unfold tBs
    rw [pk_un (by omega), pk_un (by omega), pk_un (by omega), pk_un (by omega), pk_un (by omega), pk_us]
  · rw [tEn_lo _ _ _ _ (by omega)]
    unfold tBs
    rw [pk_un (by omega), pk_un (by omega), pk_un (by omega), pk_us]
  · rw [tEn_lo _ _ _ _ (by omega)]
    unfold tBs
    rw [pk_un (by omega), pk_un (by omega), pk_un (by omega), pk_un (by omega), pk_un (by omega), pk_un (by omega), pk_un (by omega), pk_un (by omega), pk_un (by omega)]
theorem TI_bn {n : Nat} {al : Int32} (hN : N < 100) (hp : p < 12) (hc : c < 4) (ht : t < 4) (hn1 : 1 ≤ n) (hn : n ≤ 9) (h : TI g P p c t N E s) : TI (tBn g E N (nI p) (nI c) (nI n) al) P p c t (N + 1) (E + 1) (s.1 + n, s.2) := by
  obtain ⟨h1, h2, h3, h4, h5, h6, h7, h8, h9⟩ := h
  obtain ⟨r0, r1, r2, r4, ro⟩ := tBn_row g E hN (nI p) (nI c) (nI n) al
  refine ⟨by rw [tBn_lo hN (by omega)]; exact h1, tBn_5 _ _ _ hN _ _ _ _, tBn_7 _ _ _ _ _ _ _, by omega, fun b hb => ?_, ?_, by rw [tBn_lo hN (by omega)]; exact h7, by rw [tBn_lo hN (by omega)]; exact h8, by rw [tBn_lo hN (by omega)]; exact h9⟩
  · by_cases e : b = N
    · subst e
      exact ⟨n, by omega, r2⟩
    · rw [ro _ (by omega) (by omega)]
      exact h5 b (by omega)
  · have eb : brs (bw (tBn g E N (nI p) (nI c) (nI n) al)) N (nI p) (nI c) = true := by
      unfold brs bw
      rw [r0, r1, r2, r4, decide_eq_true (rfl : nI p = nI p), decide_eq_true (show ¬ nI n ≤ 0 from nI_ge (a := 0) (by omega) (by omega)), decide_eq_true (rfl : nI c = nI c), Bool.or_true, decide_eq_false (show ¬ (0 : Int32) = 1 by decide)]
      rfl
    rw [owN_add, Nat.zero_add, if_pos eb]
    show owN (bw (tBn g E N (nI p) (nI c) (nI n) al)) (nI p) (nI c) N 0 + vN (tBn g E N (nI p) (nI c) (nI n) al (304 + (8 * N + 2))) = s.1 + n
    rw [r2, vN_e rfl (by omega), ← h6]
    congr 1
    exact owN_cong N 0 fun b j _ hb hj => ro _ (by omega) (by omega)
end TI
section KT
variable {X : Nat → Nat → Int32} {bn : Int32 → Nat} {rr al : Int32} {P p c t N E S red N0 : Nat}
theorem c82w (M : isM W) : cl 82 [.ref 39] (tm W (m1 X 40 g) l) = some (none, tm W (m1 X 40 (fun k => if k < 1108 then X 41 k else g k)) l) := by
  rw [c82 M, m1_m1, m1_s, m1_a _ _ (show (41 : Nat) ≠ 40 by decide)]
theorem k92 (M : isM W) (hP : P ≤ 12) (hp : p < P) (hc : c < 4) (ht : t < 4) (hrr : X 44 (4 * c + 2) = rr) (h4 : g 1104 = nI P) (h9 : g p = nI t) (x3 x4 x5 x6 x7 x9 : Int32) (i : Nat) (l10 : Option Value) : dn 133 92 [some (.ref 39), some (.int (nI p)), some (.int (nI c)), some (.int x3), some (.int x4), some (.int x5), some (.int x6), some (.int x7), some (.int (nI i)), some (.int x9), l10] [] (tm W (m1 X 40 g) l) = dn 133 39 [some (.ref 39), some (.int (nI p)), some (.int (nI c)), some (.int x3), some (.int x4), some (.int x5), some (.int x6), some (.int x7), some (.int (nI (i + 1))), some (.int x9), l10] [] (tm W (m1 X 40 (tHp rr t c P g)) l) := by
  have e0 : (0 : Int32) + nI p = nI p := by
    have := nI_add 0 p
    rw [Nat.zero_add] at this
    exact this
  rw [q_133_92]
  simp only [rR0 M, e0, wl M (show p < 1108 by omega), h9, rok M, c94 M h4 hP ht hc, hrr, Option.bind_some, kxv_s, if_true, nI_1]
theorem k103 (M : isM W) (hp : p < 12) (hc : c < 4) {bs ca : Nat} (h5 : g 1105 = nI (N0 + bs)) (h7 : g (12 + (4 * p + c)) = nI ca) (x1 x2 x3 x6 x8 : Int32) (l9 l10 : Option Value) : dn 133 103 [some (.ref 39), some (.int x1), some (.int x2), some (.int x3), some (.int (nI (12 + (4 * p + c)))), some (.int (nI N0)), some (.int x6), some (.int 1), some (.int x8), l9, l10] [] (tm W (m1 X 40 g) l) = some (some (.int x6), tm W (m2 (m1 X 40 (fun k => if k < 1108 then X 41 k else g k)) 39 12 (nI 2)) (llm l [(nI bs).toInt64, (nI ca).toInt64])) := by
  have e : nI (N0 + bs) - nI N0 = nI bs := by rw [subk (by omega), Nat.add_sub_cancel_left]
  rw [q_133_103]
  simp only [rR0 M, wl5 M, h5, wl M (show 12 + (4 * p + c) < 1108 by omega), h7, rok M, c82w M, i10, ru12 M, e, c71p M, c71q M, Option.bind_some, kxv_s, if_true, if_false]
theorem k103n (M : isM W) (hp : p < 12) (hc : c < 4) (x1 x2 x3 x5 x6 x8 : Int32) (l9 l10 : Option Value) : dn 133 103 [some (.ref 39), some (.int x1), some (.int x2), some (.int x3), some (.int (nI (12 + (4 * p + c)))), some (.int x5), some (.int x6), some (.int 0), some (.int x8), l9, l10] [] (tm W (m1 X 40 g) l) = some (some (.int (-4)), tm W (m1 X 40 (fun k => if k < 1108 then X 41 k else g k)) l) := by
  rw [q_133_103]
  simp only [rR0 M, wl5 M, wl M (show 12 + (4 * p + c) < 1108 by omega), rok M, c82w M, Option.bind_some, kxv_s, if_true]
theorem ifle (q : Prop) [Decidable q] {a n B : Nat} (h : a + n < B) : (if q then 0 else a) + n < B := by
  by_cases z : q
  · rw [if_pos z]
    omega
  · rw [if_neg z]
    exact h
/-- how the reference ends -/
def tsE (W : tm_W) (X : Nat → Nat → Int32) (l : Nat → Nat → Int64) (N0 : Nat) (s : TS) (r : Option (Option Value × ia_H)) : Prop := ∃ G : Nat → Int32, (∀ i, i < 1108 → G i = X 41 i) ∧ ((N0 + s.2.2.2.2 ≤ 100 ∧ r = some (some (.int (nI s.2.2.2.1)), tm W (m2 (m1 X 40 G) 39 12 (nI 2)) (llm l [(nI s.2.2.2.2).toInt64, (nI s.2.1).toInt64]))) ∨ (¬ N0 + s.2.2.2.2 ≤ 100 ∧ r = some (some (.int (-4)), tm W (m1 X 40 G) l)))
theorem d133 (M : isM W) {T : Nat} (R : rlR X c S red al bn) (hrr : X 44 (4 * c + 2) = rr) (hP : P ≤ 12) (hp : p < P) (ht : t < 4) (hT : T ≤ 40) : ∀ (n i : Nat) (s : TS) (g : Nat → Int32) (N E : Nat) (l9 l10 : Option Value), i + n = T → TI g P p c t N E s → N = N0 + s.2.2.2.2 → E + n < 2 ^ 30 → s.2.1 + n < 2 ^ 20 → tsE W X l N0 (tsN bn rr n s) (dn 133 39 [some (.ref 39), some (.int (nI p)), some (.int (nI c)), some (.int (nI T)), some (.int (nI (12 + (4 * p + c)))), some (.int (nI N0)), some (.int (nI s.2.2.2.1)), some (.int 1), some (.int (nI i)), l9, l10] [] (tm W (m1 X 40 g) l))
  | 0, i, s, g, N, E, l9, l10, hi, h, hN, hE, hca => by
    obtain rfl : i = T := by omega
    obtain ⟨h1, h2, h3, h4, h5, h6, h7, h8, h9⟩ := h
    subst hN
    rw [q_133_39, if_pos (nI_le (Nat.le_refl i) (by omega)), k103 M (by omega) R.1 h2 h7]
    exact ⟨_, fun i hi => if_pos hi, Or.inl ⟨h4, rfl⟩⟩
  | n + 1, i, s, g, N, E, l9, l10, hi, h, hN, hE, hca => by
    obtain ⟨h1, h2, h3, h4, h5, h6, h7, h8, h9⟩ := id h
    obtain ⟨hc, r2, r3, -, r5, -, r7⟩ := id R
    have hp12 : p < 12 := by omega
    have ff := owN_f (B := bw g) (p := nI p) (c := nI c) N 0 (by omega) fun b _ hb => h5 b (by omega)
    have ih := fun s' g' N' E' l9 l10 => d133 M R hrr hP hp ht hT n (i + 1) s' g' N' E' l9 l10 (by omega)
    rw [q_133_39, if_neg (nI_ge (show i < T by omega) (by omega)), if_neg (by decide), if_pos (rok M _), c90 M h2 h4, kxi_s]
    by_cases z : s.1 = 0
    · have eP : tsP bn rr s = (bn (nI (s.2.1 + 1)), (if nI (s.2.2.1 + 1) = rr then 0 else s.2.1 + 1), s.2.2.1 + 1, s.2.2.2.1, s.2.2.2.2 + (if bn (nI (s.2.1 + 1)) = 0 then 0 else 1)) := if_pos z
      have b9 := (r7 (nI (s.2.1 + 1))).2
      have hg1 := TI_ca hp12 hc ht h
      have e96 : ∀ v, cl 96 [.ref 39, .int (nI c), .int v] (tm W (m1 X 40 (upd g (12 + (4 * p + c)) (nI (s.2.1 + 1)))) l) = some (some (.int (nI (bn v))), tm W (m1 X 40 (upd g (12 + (4 * p + c)) (nI (s.2.1 + 1)))) l) := fun v => by
        have e := (r7 v).1
        unfold bnR at e
        rw [c96 M hc r3 r2, e]
      rw [ff.1 (h6.trans z), if_pos rfl]
      simp only [rR0 M, wl M (show 12 + (4 * p + c) < 1108 by omega), h7, nI_1, wst M (show 12 + (4 * p + c) < 1108 by omega), pk_us, rok M, e96, Option.bind_some, kxi_s, if_true]
      show tsE W X l N0 (tsN bn rr n (tsP bn rr s)) _
      by_cases y : bn (nI (s.2.1 + 1)) = 0
      · rw [if_pos (show nI (bn (nI (s.2.1 + 1))) = 0 by rw [y]; rfl), q_133_76, q_133_79, k92 M hP hp hc ht hrr hg1.1 hg1.2.2.2.2.2.2.2.2]
        have i' := TI_hp (rr := rr) hP hp hc ht hg1
        rw [eP, if_pos y, y]
        have i2 := ih (0, (if nI (s.2.2.1 + 1) = rr then 0 else s.2.1 + 1), s.2.2.1 + 1, s.2.2.2.1, s.2.2.2.2 + 0) _ N E (some (.int (-1))) (some (.int (nI 0))) (by rw [z] at i'; exact i') hN (by omega) (ifle _ (show s.2.1 + 1 + n < 2 ^ 20 by omega))
        exact i2
      · rw [if_neg (show ¬ nI (bn (nI (s.2.1 + 1))) = 0 from fun q => y ((nI_eq (b := 0) (by omega) (by decide)).mp q))]
        by_cases f : N = 100
        · rw [c86f M hg1.2.1 f, kxi_s, if_pos rfl, q_133_79, k92 M hP hp hc ht hrr hg1.1 hg1.2.2.2.2.2.2.2.2, q_133_39]
          have e3 : ∀ (a b : Option (Option Value × ia_H)), a = b → ∀ (q q' : Prop) [Decidable q] [Decidable q'] (d : Option (Option Value × ia_H)), q' → (if q then a else if q' then b else d) = a := fun a b h q q' _ _ d hq => by
            by_cases q1 : q
            · rw [if_pos q1]
            · rw [if_neg q1, if_pos hq]
              exact h.symm
          rw [e3 _ _ rfl _ _ _ rfl, k103n M hp12 hc]
          refine ⟨_, fun i hi => if_pos hi, Or.inr ⟨?_, rfl⟩⟩
          have hm := tsN_bs (bn := bn) (rr := rr) n (tsP bn rr s)
          have hb : (tsP bn rr s).2.2.2.2 = s.2.2.2.2 + 1 := by rw [eP, if_neg y]
          omega
        · rw [c86 M hg1.2.1 (by omega) hg1.2.2.1 (by omega) hc, kxi_s, if_neg (by decide), q_133_76, q_133_79, r5]
          have hg2 := TI_bn (al := al) (n := bn (nI (s.2.1 + 1))) (by omega) hp12 hc ht (by omega) b9 hg1
          rw [k92 M hP hp hc ht hrr hg2.1 hg2.2.2.2.2.2.2.2.2]
          have i' := TI_hp (rr := rr) hP hp hc ht hg2
          rw [eP, if_neg y]
          have i2 := ih (bn (nI (s.2.1 + 1)), (if nI (s.2.2.1 + 1) = rr then 0 else s.2.1 + 1), s.2.2.1 + 1, s.2.2.2.1, s.2.2.2.2 + 1) _ (N + 1) (E + 1) (some (.int (-1))) (some (.int (nI (bn (nI (s.2.1 + 1)))))) (by
            have i3 : TI _ P p c t (N + 1) (E + 1) (s.1 + bn (nI (s.2.1 + 1)), (if nI (s.2.2.1 + 1) = rr then 0 else s.2.1 + 1), s.2.2.1 + 1, s.2.2.2.1, s.2.2.2.2) := i'
            rw [z, Nat.zero_add] at i3
            exact i3) (by show N + 1 = N0 + (s.2.2.2.2 + 1); omega) (by omega) (ifle _ (show s.2.1 + 1 + n < 2 ^ 20 by omega))
          exact i2
    · have eP : tsP bn rr s = (s.1 - 1, (if nI (s.2.2.1 + 1) = rr then 0 else s.2.1), s.2.2.1 + 1, s.2.2.2.1 + 1, s.2.2.2.2) := if_neg z
      obtain ⟨b, -, b2, b3, ⟨k, k1, k2, k3⟩, b5⟩ := ff.2 (by rw [h6]; exact z)
      have hb : b < N := by omega
      have k3' : g (304 + (8 * b + 2)) = nI k := k3
      rw [b3, if_neg (nI_ne_m1 (by omega)), if_pos (rok M _), c79_2 M (by omega), kxi_s, if_pos (rok M _), c80_2 M (by omega), kxv_s, nI_1]
      have hg1 : TI (upd g (304 + (8 * b + 2)) (g (304 + (8 * b + 2)) - 1)) P p c t N E (s.1 - 1, s.2) := by
        refine ⟨by rw [pk_un (by omega)]; exact h1, by rw [pk_un (by omega)]; exact h2, by rw [pk_un (by omega)]; exact h3, h4, fun b' hb' => ?_, ?_, by rw [pk_un (by omega)]; exact h7, by rw [pk_un (by omega)]; exact h8, by rw [pk_un (by omega)]; exact h9⟩
        · by_cases e : b' = b
          · subst e
            exact ⟨k - 1, by omega, by rw [pk_us, k3']; exact pk_sub (b := 1) k1⟩
          · rw [pk_un (by omega)]
            exact h5 b' hb'
        · have := b5 (bw (upd g (304 + (8 * b + 2)) (g (304 + (8 * b + 2)) - 1))) (fun b' j _ hb' hj hne => by
            show upd g _ _ (304 + (8 * b' + j)) = _
            rw [pk_un (by omega)]
            rfl) (by
            show upd g _ _ (304 + (8 * b + 2)) = _
            rw [pk_us]
            rfl)
          show owN _ _ _ N 0 = s.1 - 1
          omega
      rw [k92 M hP hp hc ht hrr hg1.1 hg1.2.2.2.2.2.2.2.2]
      have i' := TI_hp (rr := rr) hP hp hc ht hg1
      show tsE W X l N0 (tsN bn rr n (tsP bn rr s)) _
      rw [eP]
      exact ih (s.1 - 1, (if nI (s.2.2.1 + 1) = rr then 0 else s.2.1), s.2.2.1 + 1, s.2.2.2.1 + 1, s.2.2.2.2) _ N E (some (.int (nI b))) l10 i' hN (by omega) (ifle _ (show s.2.1 + n < 2 ^ 20 by omega))
end KT
end TXZd

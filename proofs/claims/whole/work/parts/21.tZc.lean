section TXZc
variable {W : tm_W} {m : Nat → Nat → Int32} {l : Nat → Nat → Int64} {f g : Nat → Int32}
/-! TEMPTS -/
abbrev TS : Type := Nat × Nat × Nat × Nat × Nat
def tsP (bn : Int32 → Nat) (rr : Int32) (s : TS) : TS :=
  if s.1 = 0 then (bn (nI (s.2.1 + 1)), (if nI (s.2.2.1 + 1) = rr then 0 else s.2.1 + 1), s.2.2.1 + 1, s.2.2.2.1, s.2.2.2.2 + (if bn (nI (s.2.1 + 1)) = 0 then 0 else 1))
  else (s.1 - 1, (if nI (s.2.2.1 + 1) = rr then 0 else s.2.1), s.2.2.1 + 1, s.2.2.2.1 + 1, s.2.2.2.2)
def tsN (bn : Int32 → Nat) (rr : Int32) : Nat → TS → TS
  | 0, s => s
  | n + 1, s => tsN bn rr n (tsP bn rr s)
section TS
variable {bn : Int32 → Nat} {rr al : Int32} {c S red : Nat}
theorem tsP_bs (s : TS) : s.2.2.2.2 ≤ (tsP bn rr s).2.2.2.2 ∧ (tsP bn rr s).2.2.2.2 ≤ s.2.2.2.2 + 1 := by
  unfold tsP
  split
  · show s.2.2.2.2 ≤ s.2.2.2.2 + _ ∧ s.2.2.2.2 + _ ≤ s.2.2.2.2 + 1
    split <;> omega
  · show s.2.2.2.2 ≤ s.2.2.2.2 ∧ s.2.2.2.2 ≤ s.2.2.2.2 + 1
    omega
theorem tsP_pl (s : TS) : (tsP bn rr s).2.2.1 = s.2.2.1 + 1 := by
  unfold tsP
  split <;> rfl
theorem tsP_ow (h9 : ∀ v, bn v ≤ 9) (s : TS) (h : s.1 < 2 ^ 20) : (tsP bn rr s).1 < 2 ^ 20 := by
  unfold tsP
  split
  · show bn _ < 2 ^ 20
    have := h9 (nI (s.2.1 + 1))
    omega
  · show s.1 - 1 < 2 ^ 20
    omega
theorem tsN_bs : ∀ (n : Nat) (s : TS), s.2.2.2.2 ≤ (tsN bn rr n s).2.2.2.2
  | 0, s => Nat.le_refl _
  | n + 1, s => Nat.le_trans (tsP_bs s).1 (tsN_bs n _)
theorem k70 (C : isC W) (hc : c < 4) (hrr : m 10 (12 * c + 2) = rr) {p t x4 x7 x8 : Int32} {ca pl i : Nat} (hpl : pl + 1 < 2 ^ 20) (l10 : Option Value) : dn 27 70 [some (.ref 0), some (.int p), some (.int (nI c)), some (.int t), some (.int x4), some (.int (nI ca)), some (.int (nI pl)), some (.int x7), some (.int x8), some (.int (nI i)), l10] [] (tm W m l) = dn 27 43 [some (.ref 0), some (.int p), some (.int (nI c)), some (.int t), some (.int x4), some (.int (nI (if nI (pl + 1) = rr then 0 else ca))), some (.int (nI (pl + 1))), some (.int x7), some (.int x8), some (.int (nI (i + 1))), l10] [] (tm W m l) := by
  rw [q_27_70]
  simp only [xR4 C, uok C, nI_1, q_203, eq_false (show ¬ nI (pl + 1) ≤ 0 from nI_ge (a := 0) (b := pl + 1) (by omega) (by omega)), c195_2 C hc, hrr, Option.bind_some, kxi_s, if_true, if_false]
  by_cases h : nI (pl + 1) = rr
  · rw [if_pos h, if_pos h, kxi_s, if_neg (by decide)]
    rfl
  · rw [if_neg h, if_neg h, kxi_s, if_pos rfl]
theorem d27 (C : isC W) {N t : Nat} {p : Int32} (R : rlC m c S red al bn) (hrr : m 10 (12 * c + 2) = rr) (hN : m 13 2 = nI N) (hN2 : N ≤ 100) (ht : t ≤ 40) : ∀ (n i : Nat) (s : TS) (l10 : Option Value), i + n = t → s.1 < 2 ^ 20 → s.2.2.1 + n < 2 ^ 20 → s.2.2.2.2 + n < 2 ^ 10 → dn 27 43 [some (.ref 0), some (.int p), some (.int (nI c)), some (.int (nI t)), some (.int (nI s.1)), some (.int (nI s.2.1)), some (.int (nI s.2.2.1)), some (.int (nI s.2.2.2.1)), some (.int (nI s.2.2.2.2)), some (.int (nI i)), l10] [] (tm W m l) = if N + (tsN bn rr n s).2.2.2.2 ≤ 100 then some (some (.int (nI (tsN bn rr n s).2.2.2.1)), tm W (rwm m [nI (tsN bn rr n s).2.2.2.2, nI (tsN bn rr n s).2.1]) l) else some (some (.int (-4)), tm W m l)
  | 0, i, s, l10, h, h1, h2, h3 => by
    obtain rfl : i = t := by omega
    show _ = if N + s.2.2.2.2 ≤ 100 then some (some (Value.int (nI s.2.2.2.1)), tm W (rwm m [nI s.2.2.2.2, nI s.2.1]) l) else some (some (Value.int (-4)), tm W m l)
    rw [q_27_43, if_pos (nI_le (Nat.le_refl i) (by omega))]
    simp only [xR6 C, s13_2 C, hN, nI_add, Option.bind_some]
    by_cases z : N + s.2.2.2.2 ≤ 100
    · rw [if_pos (show nI (N + s.2.2.2.2) ≤ 100 from nI_le (b := 100) z (by decide)), if_pos z]
      simp only [xR3 C, vok C, c189 C, c190a C, c190b C, Option.bind_some, kxr_s, if_true]
    · rw [if_neg (show ¬ nI (N + s.2.2.2.2) ≤ 100 from nI_ge (a := 100) (by omega) (by omega)), if_neg z]
  | n + 1, i, s, l10, h, h1, h2, h3 => by
    obtain ⟨hc, r2, r3, -, -, -, r7⟩ := id R
    have hb := tsP_bs (bn := bn) (rr := rr) s
    have hp := tsP_pl (bn := bn) (rr := rr) s
    have ih := fun l10 => d27 (p := p) C R hrr hN hN2 ht n (i + 1) (tsP bn rr s) l10 (by omega) (tsP_ow (fun v => (r7 v).2) s h1) (by omega) (by omega)
    have e201 : ∀ v, cl 201 [.ref 9, .int (nI c), .int v] (tm W m l) = some (some (.int (nI (bn v))), tm W m l) := fun v => by
      have e := (r7 v).1
      unfold bnC at e
      rw [c201 C hc r3 r2, e]
    show _ = if N + (tsN bn rr n (tsP bn rr s)).2.2.2.2 ≤ 100 then some (some (Value.int (nI (tsN bn rr n (tsP bn rr s)).2.2.2.1)), tm W (rwm m [nI (tsN bn rr n (tsP bn rr s)).2.2.2.2, nI (tsN bn rr n (tsP bn rr s)).2.1]) l) else some (some (Value.int (-4)), tm W m l)
    rw [q_27_43, if_neg (nI_ge (show i < t by omega) (by omega))]
    by_cases z : s.1 = 0
    · have eP : tsP bn rr s = (bn (nI (s.2.1 + 1)), (if nI (s.2.2.1 + 1) = rr then 0 else s.2.1 + 1), s.2.2.1 + 1, s.2.2.2.1, s.2.2.2.2 + (if bn (nI (s.2.1 + 1)) = 0 then 0 else 1)) := if_pos z
      have b9 := (r7 (nI (s.2.1 + 1))).2
      rw [z, if_pos (show nI 0 ≤ 0 by decide)]
      simp only [xR4 C, uok C, nI_1, e201, Option.bind_some, kxi_s, if_true]
      by_cases y : bn (nI (s.2.1 + 1)) = 0
      · have i' := ih (some (.int (nI (bn (nI (s.2.1 + 1))))))
        rw [eP, if_pos y] at i'
        rw [if_pos (show nI (bn (nI (s.2.1 + 1))) ≤ 0 by rw [y]; decide), q_27_68, nI_add, Nat.zero_add, k70 C hc hrr (by omega), eP, if_pos y, show nI s.2.2.2.2 + 0 = nI (s.2.2.2.2 + 0) from nI_add _ 0]
        exact i'
      · have i' := ih (some (.int (nI (bn (nI (s.2.1 + 1))))))
        rw [eP, if_neg y] at i'
        rw [if_neg (show ¬ nI (bn (nI (s.2.1 + 1))) ≤ 0 from nI_ge (a := 0) (by omega) (by omega)), q_27_68, nI_add, Nat.zero_add, k70 C hc hrr (by omega), eP, if_neg y, nI_1]
        exact i'
    · have eP : tsP bn rr s = (s.1 - 1, (if nI (s.2.2.1 + 1) = rr then 0 else s.2.1), s.2.2.1 + 1, s.2.2.2.1 + 1, s.2.2.2.2) := if_neg z
      have i' := ih l10
      rw [eP] at i'
      have e1 : nI s.1 + -1 = nI (s.1 - 1) := by
        rw [show nI s.1 + -1 = nI s.1 - 1 from (Int32.sub_eq_add_neg _ _).symm]
        exact pk_sub (b := 1) (by omega)
      rw [if_neg (show ¬ nI s.1 ≤ 0 from nI_ge (a := 0) (by omega) (by omega)), e1, nI_1, k70 C hc hrr (by omega), eP]
      exact i'
end TS
/-! the matches owed -/
def owN (B : Nat → Int32) (p c : Int32) : Nat → Nat → Nat
  | 0, _ => 0
  | n + 1, b => (if brs B b p c = true then vN (B (8 * b + 2)) else 0) + owN B p c n (b + 1)
theorem owN_cong {B B' : Nat → Int32} {p c : Int32} : ∀ n i, (∀ b j, i ≤ b → b < i + n → j < 8 → B (8 * b + j) = B' (8 * b + j)) → owN B p c n i = owN B' p c n i
  | 0, i, _ => rfl
  | n + 1, i, h => by
    rw [owN, owN, brs_cong (fun j hj => h i j (by omega) (by omega) hj), h i 2 (by omega) (by omega) (by decide), owN_cong n (i + 1) fun b j h1 h2 h3 => h b j (by omega) (by omega) h3]
theorem owN_bm {B : Nat → Int32} {p c : Int32} : ∀ n i a, (∀ b, i ≤ b → b < i + n → ∃ k, k ≤ 12 ∧ B (8 * b + 2) = nI k) → fo (fun b a => if brs B b p c then a + B (8 * b + 2) else a) n i (nI a) = nI (a + owN B p c n i)
  | 0, i, a, _ => rfl
  | n + 1, i, a, h => by
    obtain ⟨k, k1, k2⟩ := h i (by omega) (by omega)
    have ih := fun a => owN_bm (p := p) (c := c) n (i + 1) a fun b h1 h2 => h b (by omega) (by omega)
    rw [fo, owN, k2, vN_e rfl (by omega)]
    by_cases z : brs B i p c = true
    · rw [if_pos z, if_pos z, nI_add, ih, Nat.add_assoc]
    · rw [if_neg z, if_neg z, ih, Nat.zero_add]
theorem owN_le {B : Nat → Int32} {p c : Int32} : ∀ n i, (∀ b, i ≤ b → b < i + n → ∃ k, k ≤ 12 ∧ B (8 * b + 2) = nI k) → owN B p c n i ≤ 12 * n
  | 0, i, _ => Nat.le_refl _
  | n + 1, i, h => by
    obtain ⟨k, k1, k2⟩ := h i (by omega) (by omega)
    have ih := owN_le (p := p) (c := c) n (i + 1) fun b h1 h2 => h b (by omega) (by omega)
    rw [owN, k2, vN_e rfl (by omega)]
    split <;> omega
theorem brs_dec {B B' : Nat → Int32} {b : Nat} {p c : Int32} (h : brs B b p c = true) (e : ∀ j, j < 8 → j ≠ 2 → B' (8 * b + j) = B (8 * b + j)) : brs B' b p c = decide (¬ B' (8 * b + 2) ≤ 0) := by
  unfold brs at h ⊢
  rw [show B' (8 * b) = B (8 * b) from e 0 (by decide) (by decide), e 1 (by decide) (by decide), e 3 (by decide) (by decide), e 4 (by decide) (by decide)]
  simp only [Bool.and_eq_true] at h
  obtain ⟨⟨⟨h1, h2⟩, h3⟩, h4⟩ := h
  rw [h1, h3, h4, Bool.true_and, Bool.and_true, Bool.and_true]
theorem owN_f {B : Nat → Int32} {p c : Int32} : ∀ n i, i + n ≤ 100 → (∀ b, i ≤ b → b < i + n → ∃ k, k ≤ 12 ∧ B (8 * b + 2) = nI k) → (owN B p c n i = 0 → fbr B p c n i = -1) ∧ (owN B p c n i ≠ 0 → ∃ b, i ≤ b ∧ b < i + n ∧ fbr B p c n i = nI b ∧ (∃ k, 1 ≤ k ∧ k ≤ 12 ∧ B (8 * b + 2) = nI k) ∧ ∀ B' : Nat → Int32, (∀ b' j, i ≤ b' → b' < i + n → j < 8 → ¬ (b' = b ∧ j = 2) → B' (8 * b' + j) = B (8 * b' + j)) → B' (8 * b + 2) = B (8 * b + 2) - 1 → owN B' p c n i + 1 = owN B p c n i)
  | 0, i, _, _ => ⟨fun _ => rfl, fun h => absurd rfl h⟩
  | n + 1, i, hi, h => by
    obtain ⟨k, k1, k2⟩ := h i (by omega) (by omega)
    obtain ⟨a1, a2⟩ := owN_f (p := p) (c := c) n (i + 1) (by omega) fun b h1 h2 => h b (by omega) (by omega)
    rw [owN, fbr]
    by_cases z : brs B i p c = true
    · have hk : 1 ≤ k := by
        have hl := brs_left z
        rw [k2] at hl
        by_cases k0 : k = 0
        · rw [k0] at hl
          exact absurd (by decide) hl
        · omega
      rw [if_pos z, if_pos z, k2, vN_e rfl (by omega)]
      refine ⟨fun y => by omega, fun _ => ⟨i, by omega, by omega, rfl, ⟨k, hk, k1, k2⟩, fun B' e1 e2 => ?_⟩⟩
      have e3 : B' (8 * i + 2) = nI (k - 1) := by
        rw [e2, k2]
        exact pk_sub (b := 1) hk
      rw [owN, owN_cong (B := B') (B' := B) n (i + 1) fun b j h1 h2 h3 => e1 b j (by omega) (by omega) h3 (by omega), brs_dec z fun j h1 h2 => e1 i j (by omega) (by omega) h1 (by omega), e3, vN_e rfl (by omega)]
      by_cases k0 : k - 1 = 0
      · rw [k0, if_neg (by decide)]
        omega
      · rw [if_pos (decide_eq_true (show ¬ nI (k - 1) ≤ 0 from nI_ge (a := 0) (b := k - 1) (by omega) (by omega)))]
        omega
    · rw [if_neg z, if_neg z]
      refine ⟨fun y => a1 (by omega), fun y => ?_⟩
      obtain ⟨b, b1, b2, b3, b4, b5⟩ := a2 (by omega)
      refine ⟨b, by omega, by omega, b3, b4, fun B' e1 e2 => ?_⟩
      rw [owN, brs_cong (B := B') (B' := B) fun j hj => e1 i j (by omega) (by omega) hj (by omega), if_neg z]
      have := b5 B' (fun b' j h1 h2 h3 h4 => e1 b' j (by omega) (by omega) h3 h4) e2
      omega
theorem owN_add {B : Nat → Int32} {p c : Int32} : ∀ n i, owN B p c (n + 1) i = owN B p c n i + (if brs B (i + n) p c = true then vN (B (8 * (i + n) + 2)) else 0)
  | 0, i => by
    show (if brs B i p c = true then vN (B (8 * i + 2)) else 0) + 0 = 0 + _
    rw [Nat.add_zero, Nat.zero_add]
    rfl
  | n + 1, i => by
    have ih := owN_add (B := B) (p := p) (c := c) n (i + 1)
    rw [owN, ih, show i + 1 + n = i + (n + 1) by omega]
    show _ = (if brs B i p c = true then vN (B (8 * i + 2)) else 0) + owN B p c n (i + 1) + _
    omega
end TXZc

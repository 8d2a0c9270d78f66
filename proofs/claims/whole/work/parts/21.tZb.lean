section TXZb
variable {W : tm_W} {m : Nat → Nat → Int32} {l : Nat → Nat → Int64} {f g : Nat → Int32}
/-! COSTS -/
section NB
variable {A G : Nat → Nat}
def bN (A G : Nat → Nat) (v : Nat) : Nat → Nat → Nat
  | 0, _ => 0
  | n + 1, k => if A k = v then G k else bN A G v n (k + 1)
def sB (A G : Nat → Nat) : Nat → Nat → Nat → Nat
  | 0, _, _ => 0
  | t + 1, n, k => sB A G t n k + bN A G (t + 1) n k
def cB (A G : Nat → Nat) : Nat → Nat → Nat → Nat
  | 0, _, _ => 0
  | t + 1, n, k => cB A G t n k + (if bN A G (t + 1) n k = 0 then 0 else 1)
def sS (A G : Nat → Nat) (t : Nat) : Nat → Nat → Nat
  | 0, _ => 0
  | n + 1, k => (if A k ≤ t then G k else 0) + sS A G t n (k + 1)
def cS (A : Nat → Nat) (t : Nat) : Nat → Nat → Nat
  | 0, _ => 0
  | n + 1, k => (if A k ≤ t then 1 else 0) + cS A t n (k + 1)
theorem bN_0 {v : Nat} : ∀ n k, (∀ i, k ≤ i → i < k + n → A i ≠ v) → bN A G v n k = 0
  | 0, k, _ => rfl
  | n + 1, k, h => by
    rw [bN, if_neg (h k (by omega) (by omega))]
    exact bN_0 n (k + 1) fun i h1 h2 => h i (by omega) (by omega)
theorem sB_step {n k : Nat} (h1 : 1 ≤ A k) (hd : ∀ i, k < i → i < k + 1 + n → A i ≠ A k) : ∀ t, sB A G t (n + 1) k = (if A k ≤ t then G k else 0) + sB A G t n (k + 1)
  | 0 => by
    rw [if_neg (by omega)]
    rfl
  | t + 1 => by
    have ih := sB_step h1 hd t
    show sB A G t (n + 1) k + bN A G (t + 1) (n + 1) k = _ + (sB A G t n (k + 1) + bN A G (t + 1) n (k + 1))
    rw [bN]
    by_cases e : A k = t + 1
    · rw [if_pos e, bN_0 n (k + 1) (fun i i1 i2 => by rw [← e]; exact hd i (by omega) (by omega)), ih, if_neg (by omega), if_pos (by omega)]
      omega
    · rw [if_neg e, ih]
      by_cases e2 : A k ≤ t
      · rw [if_pos e2, if_pos (by omega)]
        omega
      · rw [if_neg e2, if_neg (by omega)]
        omega
theorem cB_step {n k : Nat} (h1 : 1 ≤ A k) (hg : 1 ≤ G k) (hd : ∀ i, k < i → i < k + 1 + n → A i ≠ A k) : ∀ t, cB A G t (n + 1) k = (if A k ≤ t then 1 else 0) + cB A G t n (k + 1)
  | 0 => by
    rw [if_neg (by omega)]
    rfl
  | t + 1 => by
    have ih := cB_step h1 hg hd t
    show cB A G t (n + 1) k + (if bN A G (t + 1) (n + 1) k = 0 then 0 else 1) = _ + (cB A G t n (k + 1) + (if bN A G (t + 1) n (k + 1) = 0 then 0 else 1))
    rw [bN]
    by_cases e : A k = t + 1
    · rw [if_pos e, bN_0 n (k + 1) (fun i i1 i2 => by rw [← e]; exact hd i (by omega) (by omega)), ih, if_neg (show ¬ A k ≤ t by omega), if_pos (show A k ≤ t + 1 by omega), if_neg (by omega), if_pos rfl]
      omega
    · rw [if_neg e, ih]
      by_cases e2 : A k ≤ t
      · rw [if_pos e2, if_pos (show A k ≤ t + 1 by omega)]
        omega
      · rw [if_neg e2, if_neg (show ¬ A k ≤ t + 1 by omega)]
        omega
theorem rise {s : Nat} (hr : ∀ k, k + 1 < s → A k < A (k + 1)) : ∀ d i, i + d + 1 < s → A i < A (i + d + 1)
  | 0, i, h => hr i h
  | d + 1, i, h => by
    have h1 := rise hr d i (by omega)
    have h2 := hr (i + d + 1) (by omega)
    rw [show i + (d + 1) + 1 = i + d + 1 + 1 by omega]
    omega
theorem B_S {s : Nat} (t : Nat) (h1 : ∀ k, k < s → 1 ≤ A k ∧ 1 ≤ G k) (hr : ∀ k, k + 1 < s → A k < A (k + 1)) : ∀ n k, k + n = s → sB A G t n k = sS A G t n k ∧ cB A G t n k = cS A t n k
  | 0, k, _ => by
    have z : ∀ t, sB A G t 0 k = 0 ∧ cB A G t 0 k = 0 := by
      intro t
      induction t with
      | zero => exact ⟨rfl, rfl⟩
      | succ t ih =>
        refine ⟨?_, ?_⟩
        · show sB A G t 0 k + 0 = 0
          rw [ih.1]
        · show cB A G t 0 k + 0 = 0
          rw [ih.2]
    exact z t
  | n + 1, k, h => by
    have ih := B_S t h1 hr n (k + 1) (by omega)
    have hd : ∀ i, k < i → i < k + 1 + n → A i ≠ A k := fun i i1 i2 => by
      have := rise hr (i - k - 1) k (by omega)
      rw [show k + (i - k - 1) + 1 = i by omega] at this
      omega
    rw [sB_step (h1 k (by omega)).1 hd, cB_step (h1 k (by omega)).1 (h1 k (by omega)).2 hd, ih.1, ih.2]
    exact ⟨rfl, rfl⟩
theorem bnA_N {a b : Nat → Int32} {s v : Nat} (hv : v < 2 ^ 20) (h : ∀ k, k < s → A k < 2 ^ 20 ∧ a k = nI (A k) ∧ b k = nI (G k)) : ∀ n k, k + n = s → bnA a b (nI v) n k = nI (bN A G v n k)
  | 0, k, _ => rfl
  | n + 1, k, hk => by
    obtain ⟨e0, e1, e2⟩ := h k (by omega)
    rw [bnA, bN, e1, bnA_N hv h n (k + 1) (by omega)]
    by_cases e : A k = v
    · rw [if_pos (by rw [e]), if_pos e, e2]
    · rw [if_neg (fun z => e ((nI_eq (by omega) (by omega)).mp z)), if_neg e]
end NB
theorem d28 (C : isC W) {A G : Nat → Nat} {c s t : Nat} (ht : t ≤ 40) (hb : ∀ v, v ≤ 41 → cl 201 [.ref 9, .int (nI c), .int (nI v)] (tm W m l) = some (some (.int (nI (bN A G v s 0))), tm W m l)) (h9 : ∀ v, bN A G v s 0 < 2 ^ 20) : ∀ (n v : Nat) (l6 : Option Value), v + n = t → dn 28 16 [some (.ref 0), some (.int (nI c)), some (.int (nI t)), some (.int (nI (sB A G v s 0))), some (.int (nI (cB A G v s 0))), some (.int (nI (v + 1))), l6] [] (tm W m l) = some (some (.int (nI (sB A G t s 0))), tm W (rwm m [nI (cB A G t s 0)]) l)
  | 0, v, l6, h => by
    obtain rfl : v = t := by omega
    rw [q_28_16, if_pos (Int32.not_le.mp (nI_ge (show v < v + 1 by omega) (by omega)))]
    simp only [xR3 C, vok C, c189 C, c190a C, Option.bind_some, kxr_s, if_true]
  | n + 1, v, l6, h => by
    have ih := fun l6 => d28 C ht hb h9 n (v + 1) l6 (by omega)
    have e : cl 201 [.ref 9, .int (nI c), .int (nI (v + 1))] (tm W m l) = _ := hb (v + 1) (by omega)
    rw [q_28_16, if_neg (fun z => Int32.not_le.mpr z (nI_le (show v + 1 ≤ t by omega) (by omega)))]
    simp only [xR4 C, uok C, e, Option.bind_some, kxi_s, if_true, nI_1, nI_add]
    by_cases z : bN A G (v + 1) s 0 = 0
    · rw [z, if_pos (by decide)]
      have i := ih (some (.int (nI 0)))
      rw [show sB A G (v + 1) s 0 = sB A G v s 0 + bN A G (v + 1) s 0 from rfl, show cB A G (v + 1) s 0 = cB A G v s 0 + (if bN A G (v + 1) s 0 = 0 then 0 else 1) from rfl, z, if_pos rfl] at i
      rw [show nI (cB A G v s 0) + 0 = nI (cB A G v s 0 + 0) from nI_add _ 0]
      exact i
    · rw [if_neg (show ¬ nI (bN A G (v + 1) s 0) ≤ 0 from nI_ge (a := 0) (by omega) (by have := h9 (v + 1); omega))]
      have i := ih (some (.int (nI (bN A G (v + 1) s 0))))
      rw [show sB A G (v + 1) s 0 = sB A G v s 0 + bN A G (v + 1) s 0 from rfl, show cB A G (v + 1) s 0 = cB A G v s 0 + (if bN A G (v + 1) s 0 = 0 then 0 else 1) from rfl, if_neg z] at i
      exact i
theorem d134 (M : isM W) {A G : Nat → Nat} {c s t : Nat} (hc : c < 4) (hs : s ≤ 4) (ht : t ≤ 40) (hS : m 44 (4 * c + 3) = nI s) (hA : ∀ k, k < s → A k < 2 ^ 20 ∧ m 45 (4 * c + k) = nI (A k) ∧ m 46 (4 * c + k) = nI (G k)) : ∀ (n k S Cn : Nat), k + n = s → dn 134 20 [some (.ref 39), some (.int (nI c)), some (.int (nI t)), some (.int (nI S)), some (.int (nI Cn)), some (.int (nI k))] [] (tm W m l) = some (some (.int (nI (S + sS A G t n k))), tm W (m2 m 39 12 (nI 1)) (llm l [(nI (Cn + cS A t n k)).toInt64]))
  | 0, k, S, Cn, h => by
    obtain rfl : k = s := by omega
    have i4 : 4 * nI c + 3 = nI (4 * c + 3) := by rw [mul4, show (3 : Int32) = nI 3 from rfl, nI_add]
    rw [q_134_20]
    simp only [rR6 M, i4, rl44 M (show 4 * c + 3 < 16 by omega), hS, eq_true (nI_le (Nat.le_refl k) (by omega)), ru12 M, rok M, c71p M, Option.bind_some, kxv_s, if_true]
    rfl
  | n + 1, k, S, Cn, h => by
    have i4 : 4 * nI c + 3 = nI (4 * c + 3) := by rw [mul4, show (3 : Int32) = nI 3 from rfl, nI_add]
    have ik : 4 * nI c + nI k = nI (4 * c + k) := by rw [mul4, nI_add]
    obtain ⟨e0, e1, e2⟩ := hA k (by omega)
    rw [q_134_20]
    simp only [rR6 M, rR7 M, rR8 M, i4, ik, rl44 M (show 4 * c + 3 < 16 by omega), rl45 M (show 4 * c + k < 16 by omega), rl46 M (show 4 * c + k < 16 by omega), hS, e1, e2, eq_false (nI_ge (show k < s by omega) (by omega)), Option.bind_some, if_false, nI_1, nI_add]
    rw [sS, cS]
    by_cases z : A k ≤ t
    · rw [if_pos ((nle (by omega) (by omega)).mpr z), if_pos z, if_pos z, d134 M hc hs ht hS hA n (k + 1) (S + G k) (Cn + 1) (by omega), Nat.add_assoc, Nat.add_assoc]
    · rw [if_neg (fun y => z ((nle (by omega) (by omega)).mp y)), if_neg z, if_neg z, d134 M hc hs ht hS hA n (k + 1) S Cn (by omega), Nat.zero_add, Nat.zero_add]
theorem b_costs {j : Nat} (h : Inv j W m l) (x0 x1 : Int32) : Both j W m l 28 134 [.int x0, .int x1] [.int x0, .int x1] := by
  obtain ⟨⟨C, M, -⟩, -, -, -, R, -, hrow⟩ := id h
  have bad : cl 28 [.ref 0, .int x0, .int x1] (tm W m l) = some (some (.int (-1)), tm W m l) → cl 134 [.ref 39, .int x0, .int x1] (tm W m l) = some (some (.int (-1)), tm W (m2 m 39 13 0) l) → Both j W m l 28 134 [.int x0, .int x1] [.int x0, .int x1] := fun h1 h2 => ⟨-1, W, m, l, W, m2 m 39 13 0, l, h1, h2, rfl, rfl, rfl, rfl, Inv_no h⟩
  rcases arg x0 4 (by decide) with ⟨c, hc, rfl⟩ | h0
  · rcases arg x1 41 (by decide) with ⟨t, ht, rfl⟩ | h1
    · obtain ⟨-, -, -, s, s1, s2, s3, s4, s5⟩ := id (R c hc)
      obtain ⟨A, hA⟩ : ∃ A : Nat → Nat, ∀ k, A k = vN (m 45 (4 * c + k)) := ⟨_, fun _ => rfl⟩
      obtain ⟨G, hG⟩ : ∃ G : Nat → Nat, ∀ k, G k = vN (m 46 (4 * c + k)) := ⟨_, fun _ => rfl⟩
      have e : ∀ k, k < s → (1 ≤ A k ∧ A k ≤ 20) ∧ (1 ≤ G k ∧ G k ≤ 9) ∧ m 10 (12 * c + (4 + 2 * k)) = nI (A k) ∧ m 45 (4 * c + k) = nI (A k) ∧ m 10 (12 * c + (4 + 2 * k + 1)) = nI (G k) ∧ m 46 (4 * c + k) = nI (G k) := fun k hk => by
        obtain ⟨n, g', n1, n2, n3, n4, n5, n6, n7, n8⟩ := s4 k hk
        rw [hA, hG, vN_e n6 (by omega), vN_e n8 (by omega)]
        exact ⟨⟨n1, n2⟩, ⟨n3, n4⟩, n5, n6, n7, n8⟩
      have hr : ∀ k, k + 1 < s → A k < A (k + 1) := fun k hk => s5 k (A k) (A (k + 1)) hk (e k (by omega)).2.2.2.1 (e (k + 1) hk).2.2.2.1 (e k (by omega)).1.2 (e (k + 1) hk).1.2
      obtain ⟨E1, E2⟩ := B_S (A := A) (G := G) (s := s) t (fun k hk => ⟨(e k hk).1.1, (e k hk).2.1.1⟩) hr s 0 (by omega)
      have h9 : ∀ v, bN A G v s 0 < 2 ^ 20 := fun v => by
        have z : ∀ n k, k + n = s → bN A G v n k ≤ 9 := by
          intro n
          induction n with
          | zero => intro k _; exact Nat.zero_le _
          | succ n ih =>
            intro k hk
            rw [bN]
            split
            · exact (e k (by omega)).2.1.2
            · exact ih (k + 1) (by omega)
        have := z s 0 (by omega)
        omega
      have c1 := d28 (l := l) (c := c) C (t := t) (by omega) (fun v hv => by
        rw [c201 C hc s2 s1, bnA_N (A := A) (G := G) (s := s) (by omega) (fun k hk => ⟨by have := (e k hk).1.2; omega, (e k hk).2.2.1, (e k hk).2.2.2.2.1⟩) s 0 (by omega)]) h9 t 0 none (by omega)
      have zo : ∀ {a : Nat}, a ≠ 39 → a ≠ 7 → a ≠ 8 → m2 (rwm m [nI (cB A G t s 0)]) 39 13 0 a = m a := fun h1 h2 h3 => by rw [m2_r _ _ _ h1, rwm_o _ _ h2 h3]
      have r1 := d134 (m := m2 (rwm m [nI (cB A G t s 0)]) 39 13 0) (l := l) M hc s1 (t := t) (A := A) (G := G) (by omega) (by rw [zo (by decide) (by decide) (by decide)]; exact s3) (fun k hk => by
        rw [zo (by decide) (by decide) (by decide), zo (by decide) (by decide) (by decide)]
        exact ⟨by have := (e k hk).1.2; omega, (e k hk).2.2.2.1, (e k hk).2.2.2.2.2⟩) s 0 0 0 (by omega)
      rw [Nat.zero_add, Nat.zero_add, ← E1, ← E2] at r1
      refine ⟨nI (sB A G t s 0), W, rwm m [nI (cB A G t s 0)], l, W, m2 (m2 (rwm m [nI (cB A G t s 0)]) 39 13 0) 39 12 (nI 1), llm l [(nI (cB A G t s 0)).toInt64], ?_, ?_, rfl, rfl, rfl, rfl, Inv_row h [nI (cB A G t s 0)] (show 1 ≤ 100 by decide)⟩
      · rw [q_28, c49y hc, kxi_s, if_neg (by decide), if_neg (nI_pos (by omega)), if_pos (show nI t ≤ 40 from nI_le (b := 40) (by omega) (by decide))]
        exact c1
      · have e69 : cl 69 [.long (nI t).toInt64, .long 0, .long 40] (tm W (m2 (rwm m [nI (cB A G t s 0)]) 39 13 0) l) = _ := c69l (k := t) (n := 40) (by omega) (by decide) _
        rw [q_134, ru13 M, Option.bind_some, c75y hc, kxi_s, if_neg (by decide), e69, kxi_s, if_neg (by decide)]
        exact r1
    · have hx : x1 < 0 ∨ ¬ x1 ≤ nI 40 := by
        rcases h1 with h1 | h1
        · exact Or.inl h1
        · right
          intro z
          exact nI_ge (a := 40) (b := 41) (by decide) (by decide) (Int32.le_trans h1 z)
      refine bad ?_ ?_
      · rw [q_28, c49y hc, kxi_s, if_neg (by decide)]
        by_cases z : x1 < 0
        · rw [if_pos z]
        · rw [if_neg z, if_neg (show ¬ x1 ≤ 40 from hx.resolve_left z)]
      · have e69 : cl 69 [.long x1.toInt64, .long 0, .long 40] (tm W (m2 m 39 13 0) l) = _ := c69m (n := 40) hx _
        rw [q_134, ru13 M, Option.bind_some, c75y hc, kxi_s, if_neg (by decide), e69, kxi_s, if_pos rfl]
  · refine bad ?_ ?_
    · rw [q_28, c49n h0, kxi_s, if_pos rfl]
    · rw [q_134, ru13 M, Option.bind_some, c75n h0, kxi_s, if_pos rfl]
end TXZb

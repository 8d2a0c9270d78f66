section TXY
variable {W : tm_W} {m : Nat → Nat → Int32} {l : Nat → Nat → Int64} {f g : Nat → Int32}
/-! WRITTEN -/
def vN (x : Int32) : Nat := x.toNatClampNeg
theorem vN_e {x : Int32} {n : Nat} (h : x = nI n) (hn : n < 2 ^ 20) : vN x = n := by
  unfold vN
  rw [h, nI_clamp (by omega)]
def dgs (x : Nat) : List Nat := if x < 10 then [48 + x % 10] else [48 + x / 10, 48 + x % 10]
theorem dgs_len (x : Nat) : (dgs x).length ≤ 2 := by
  unfold dgs
  split <;> simp
theorem dgs_b {x : Nat} (hx : x < 64) : ∀ v ∈ dgs x, v < 128 := by
  intro v hv
  unfold dgs at hv
  split at hv <;> simp at hv <;> omega
theorem dg_1 : ∀ x, x < 64 → (((48 + (nI x - nI x / 10 * 10)).toUInt32 % 65536).toInt32) = nI (48 + x % 10) := by decide +kernel
theorem dg_2 : ∀ x, x < 64 → (((48 + ((nI x / 10) - (nI x / 10) / 10 * 10)).toUInt32 % 65536).toInt32) = nI (48 + x / 10) := by decide +kernel
theorem dg_3 : ∀ x, x < 64 → 48 + (nI x - nI x / 10 * 10) = nI (48 + x % 10) := by decide +kernel
theorem dg_4 : ∀ x, x < 64 → 48 + (nI x / 10) = nI (48 + x / 10) := by decide +kernel
theorem dg_5 : ∀ x, x < 64 → ((nI x < 10) ↔ x < 10) := by decide +kernel
theorem dg_6 : ∀ x, x < 64 → ((nI x ≤ 9) ↔ x < 10) := by decide +kernel
theorem p_ok (C : isC W) (as : List Value) : ia_ok (tm W m l) 1 (.ref 3 :: as) = true := tm_ok C.t3 (by decide)
/-- the page of the component, of the reference -/
abbrev pgC (m : Nat → Nat → Int32) (L : List Nat) : Nat → Nat → Int32 := apM fC 3 1 4 0 L m
abbrev pgR (m : Nat → Nat → Int32) (L : List Nat) : Nat → Nat → Int32 := apM fB 39 31 57 0 L m
theorem pgC_add (C : isC W) (h0 : m 3 1 = 0) {L : List Nat} {v : Nat} (hL : L.length < 200) (hv : v < 128) : cl 240 [.ref 3, .int (nI v)] (tm W (pgC m L) l) = some (none, tm W (pgC m (L ++ [v])) l) := by
  have e := apM_f (φ := fC) (o := 3) (fd := 1) (r := 4) L 0 m h0
  rw [Nat.zero_add] at e
  rw [c240p C e hL (by omega), pgC, apM_app, Nat.zero_add]
  rfl
theorem pgR_add (M : isM W) (h0 : m 39 31 = 0) {L : List Nat} (v : Nat) (hL : L.length < 160) : cl 135 [.ref 39, .int (nI v)] (tm W (pgR m L) l) = some (none, tm W (pgR m (L ++ [v])) l) := by
  have e := apM_f (φ := fB) (o := 39) (fd := 31) (r := 57) L 0 m h0
  rw [Nat.zero_add] at e
  rw [c135 M e hL, pgR, apM_app, Nat.zero_add]
  rfl
theorem pgC_dg (C : isC W) (h0 : m 3 1 = 0) {L : List Nat} {x : Nat} (hL : L.length + 1 < 200) (hx : x < 64) : cl 241 [.ref 3, .int (nI x)] (tm W (pgC m L) l) = some (none, tm W (pgC m (L ++ dgs x)) l) := by
  rw [q_241, dg_1 x hx, dg_2 x hx]
  unfold dgs
  by_cases h : x < 10
  · rw [if_pos ((dg_5 x hx).mpr h), if_pos h, if_pos (p_ok C _), pgC_add C h0 (by omega) (by omega), kxv_s]
  · rw [if_neg (fun z => h ((dg_5 x hx).mp z)), if_neg h, if_pos (p_ok C _), pgC_add C h0 (by omega) (by omega), kxv_s, if_pos (p_ok C _), pgC_add C h0 (by rw [List.length_append]; simp; omega) (by omega), kxv_s, List.append_assoc]
    rfl
theorem pgR_dg (M : isM W) (h0 : m 39 31 = 0) {L : List Nat} {x : Nat} (hL : L.length + 1 < 160) (hx : x < 64) : cl 136 [.ref 39, .int (nI x)] (tm W (pgR m L) l) = some (none, tm W (pgR m (L ++ dgs x)) l) := by
  rw [q_136, dg_3 x hx, dg_4 x hx]
  unfold dgs
  by_cases h : x < 10
  · rw [if_pos ((dg_6 x hx).mpr h), if_pos h, if_pos (rok M _), pgR_add M h0 _ (by omega), kxv_s]
  · rw [if_neg (fun z => h ((dg_6 x hx).mp z)), if_neg h, if_pos (rok M _), pgR_add M h0 _ (by omega), kxv_s, if_pos (rok M _), pgR_add M h0 _ (by rw [List.length_append]; simp; omega), kxv_s, List.append_assoc]
    rfl
/-- the page as a list -/
def stpL (a b : Nat → Int32) (c : Nat) : Nat → Nat → List Nat
  | 0, _ => []
  | n + 1, k => [if k = 0 then 58 else 44] ++ (dgs (vN (a (4 * c + k))) ++ ([47] ++ (dgs (vN (b (4 * c + k))) ++ stpL a b c n (k + 1))))
def cupL (q a b : Nat → Int32) (c : Nat) : List Nat := dgs c ++ ([if q (4 * c) = 1 then 97 else 111] ++ (dgs (vN (q (4 * c + 1))) ++ ([120] ++ (dgs (vN (q (4 * c + 2))) ++ stpL a b c (vN (q (4 * c + 3))) 0))))
def pagL (q a b : Nat → Int32) : Nat → Nat → List Nat
  | 0, _ => []
  | n + 1, c => (if c = 0 then [] else [59]) ++ (cupL q a b c ++ pagL q a b n (c + 1))
theorem stpL_len (a b : Nat → Int32) (c : Nat) : ∀ n k, (stpL a b c n k).length ≤ 6 * n
  | 0, k => Nat.le_refl _
  | n + 1, k => by
    have h := stpL_len a b c n (k + 1)
    have h1 := dgs_len (vN (a (4 * c + k)))
    have h2 := dgs_len (vN (b (4 * c + k)))
    rw [stpL]
    simp only [List.length_append, List.length_cons, List.length_nil]
    omega
theorem cupL_len (q a b : Nat → Int32) (c : Nat) (h : vN (q (4 * c + 3)) ≤ 4) : (cupL q a b c).length ≤ 32 := by
  have h1 := dgs_len c
  have h2 := dgs_len (vN (q (4 * c + 1)))
  have h3 := dgs_len (vN (q (4 * c + 2)))
  have h4 := stpL_len a b c (vN (q (4 * c + 3))) 0
  unfold cupL
  simp only [List.length_append, List.length_cons, List.length_nil]
  omega
theorem pagL_len (q a b : Nat → Int32) : ∀ n c, (∀ c', c ≤ c' → c' < c + n → vN (q (4 * c' + 3)) ≤ 4) → (pagL q a b n c).length ≤ 33 * n
  | 0, c, _ => Nat.le_refl _
  | n + 1, c, h => by
    have h1 := pagL_len q a b n (c + 1) fun c' x y => h c' (by omega) (by omega)
    have h2 := cupL_len q a b c (h c (by omega) (by omega))
    rw [pagL]
    split
    · simp only [List.length_append, List.length_nil]
      omega
    · simp only [List.length_append, List.length_cons, List.length_nil]
      omega
theorem pagL_b {r q a b : Nat → Int32} (R : ∀ c, c < 4 → iRul r q a b c) : ∀ n c, c + n ≤ 4 → ∀ v ∈ pagL q a b n c, v < 128
  | 0, c, _, v, hv => by simp [pagL] at hv
  | n + 1, c, h, v, hv => by
    have ih := pagL_b R n (c + 1) (by omega) v
    obtain ⟨-, ⟨n1, a1, a2, a3, a4⟩, ⟨n2, b1, b2, b3⟩, s, s1, s2, s3, s4, -⟩ := R c (by omega)
    have st : ∀ k i, i + k = s → ∀ v ∈ stpL a b c k i, v < 128 := by
      intro k
      induction k with
      | zero => intro i _ v hv; simp [stpL] at hv
      | succ k hk =>
        intro i hi v hv
        obtain ⟨n3, g3, c1, c2, c3, c4, c5, c6, c7, c8⟩ := s4 i (by omega)
        have e1 := vN_e c6 (by omega)
        have e2 := vN_e c8 (by omega)
        rw [stpL, e1, e2] at hv
        simp only [List.mem_append, List.mem_cons, List.not_mem_nil, or_false] at hv
        rcases hv with hv | hv | hv | hv | hv
        · rw [hv]; split <;> decide
        · exact dgs_b (by omega) v hv
        · omega
        · exact dgs_b (by omega) v hv
        · exact hk (i + 1) (by omega) v hv
    rw [pagL, cupL, vN_e a4 (by omega), vN_e b3 (by omega), vN_e s3 (by omega)] at hv
    simp only [List.mem_append, List.mem_cons, List.not_mem_nil, or_false] at hv
    rcases hv with hv | (hv | hv | hv | hv | hv | hv) | hv
    · split at hv
      · simp at hv
      · simp at hv
        omega
    · exact dgs_b (by omega) v hv
    · rw [hv]; split <;> decide
    · exact dgs_b (by omega) v hv
    · omega
    · exact dgs_b (by omega) v hv
    · exact st s 0 (by omega) v hv
    · exact ih hv
end TXY

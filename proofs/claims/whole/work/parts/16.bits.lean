/-! BITS: how many are set, on both sides; sets of players -/
def swr (x : Int32) : Int32 :=
  let a := x - ((x.toUInt32 >>> ((1 : Int32).toUInt32 &&& Int32.toUInt32 31)).toInt32 &&& 1431655765)
  let b := (a &&& 858993459) + ((a.toUInt32 >>> ((2 : Int32).toUInt32 &&& Int32.toUInt32 31)).toInt32 &&& 858993459)
  let c := (b + (b.toUInt32 >>> ((4 : Int32).toUInt32 &&& Int32.toUInt32 31)).toInt32) &&& 252645135
  let d := c + (c.toUInt32 >>> ((8 : Int32).toUInt32 &&& Int32.toUInt32 31)).toInt32
  let e := d + (d.toUInt32 >>> ((16 : Int32).toUInt32 &&& Int32.toUInt32 31)).toInt32
  e &&& 63
theorem c257 (x : Int32) (h : ia_H) : cl 257 [.int x] h = some (some (.int (swr x)), h) := by
  rw [q_257, q_257_8, q_257_18, q_257_26, q_257_32, q_257_38]
  rfl
def on1 : Nat → Int32 → Int32 → Int32
  | 0, c, _ => c
  | n + 1, c, x => if x = 0 then c else on1 n (c + 1) (x &&& (x - 1))
def on2 : Nat → Int32 → Bool
  | 0, x => decide (x = 0)
  | n + 1, x => decide (x = 0) || on2 n (x &&& (x - 1))
theorem d72 (x0 : Int32) (h : ia_H) : ∀ (n : Nat) (c x : Int32), on2 n x = true → dn 72 4 [some (.int x0), some (.int c), some (.int x)] [] h = some (some (.int (on1 n c x)), h)
  | 0, c, x, hx => by
    have : x = 0 := by simpa [on2] using hx
    rw [q_72_4, if_pos this]
    rfl
  | n + 1, c, x, hx => by
    rw [q_72_4, on1]
    by_cases h0 : x = 0
    · rw [if_pos h0, if_pos h0]
    · rw [if_neg h0, if_neg h0]
      exact d72 x0 h n (c + 1) _ (by simpa [on2, h0] using hx)
theorem on_all2 : ∀ i, i < 64 → ∀ j, j < 64 → (on2 12 (nI (64 * i + j)) && decide (on1 12 0 (nI (64 * i + j)) = swr (nI (64 * i + j)))) = true := by decide +kernel
theorem on_all (k : Nat) (hk : k < 4096) : (on2 12 (nI k) && decide (on1 12 0 (nI k) = swr (nI k))) = true := by
  have h := on_all2 (k / 64) (by omega) (k % 64) (by omega)
  rwa [show 64 * (k / 64) + k % 64 = k by omega] at h
theorem c72 {k : Nat} (hk : k < 4096) (h : ia_H) : cl 72 [.int (nI k)] h = some (some (.int (swr (nI k))), h) := by
  have h1 := on_all k hk
  rw [Bool.and_eq_true] at h1
  rw [q_72, d72 _ _ 12 _ _ h1.1, of_decide_eq_true h1.2]
theorem bit_all : ∀ p, p < 31 → (1 : Int32) <<< (nI p &&& 31) = nI (2 ^ p) := by decide +kernel
theorem or_nI (a b : Nat) : nI a ||| nI b = nI (a ||| b) := by
  apply Int32.toBitVec_inj.mp
  simp [nI, BitVec.ofNat_or]
/-- the set of those p below n that c holds of, as a mask: below 4096 -/
theorem mask_lt (c : Nat → Prop) [DecidablePred c] : ∀ (n i a : Nat), i + n ≤ 12 → a < 4096 → ∃ k, k < 4096 ∧ fo (fun p (s : Int32) => if c p then s ||| (1 <<< (nI p &&& 31)) else s) n i (nI a) = nI k
  | 0, i, a, _, ha => ⟨a, ha, rfl⟩
  | n + 1, i, a, h, ha => by
    rw [fo]
    by_cases hc : c i
    · rw [if_pos hc, bit_all i (by omega), or_nI]
      exact mask_lt c n (i + 1) _ (by omega) (Nat.or_lt_two_pow (n := 12) ha (Nat.pow_lt_pow_right (by decide) (by omega)))
    · rw [if_neg hc]
      exact mask_lt c n (i + 1) a (by omega) ha
theorem mask0 (c : Nat → Prop) [DecidablePred c] {P : Nat} (hP : P ≤ 12) : ∃ k, k < 4096 ∧ fo (fun p (s : Int32) => if c p then s ||| (1 <<< (nI p &&& 31)) else s) P 0 0 = nI k := mask_lt c P 0 0 (by omega) (by decide)
theorem and_lt {a : Nat} (ha : a < 4096) (y : Int32) : ∃ k, k < 4096 ∧ nI a &&& y = nI k := by
  have e : nI a &&& y = (y &&& nI a) &&& 4095 := by
    have e1 : nI a = nI a &&& 4095 := by
      rw [pk_andN (by omega) (m := 4095) 12 (by decide), Nat.mod_eq_of_lt (by omega)]
    rw [Int32.and_assoc, ← e1, Int32.and_comm]
  rw [e]
  exact pk_andE _ (m := 4095) 12 (by decide)

/-! THE COMPONENT's own objects; rows that are told; arguments -/
def isC (W : tm_W) : Prop :=
  tm_sh W 0 = .inl (0, [some 1, some 3, some 5, some 7, some 9, some 11, some 13, some 21, some 29, some 37, none]) ∧
  tm_sh W 1 = .inl (1, [some 2, none, none, none]) ∧ tm_sh W 2 = .inr (2, 200) ∧ tm_sh W 3 = .inl (1, [some 4, none, none, none]) ∧ tm_sh W 4 = .inr (2, 200) ∧
  tm_sh W 5 = .inl (2, [some 6, none]) ∧ tm_sh W 6 = .inr (0, 201) ∧ tm_sh W 7 = .inl (3, [some 8, none]) ∧ tm_sh W 8 = .inr (0, 100) ∧
  tm_sh W 9 = .inl (4, [some 10]) ∧ tm_sh W 10 = .inr (0, 48) ∧ tm_sh W 11 = .inl (4, [some 12]) ∧ tm_sh W 12 = .inr (0, 48) ∧
  isSt W 13 ∧ isSt W 21 ∧ isSt W 29 ∧ tm_sh W 37 = .inl (6, [some 38, none, none]) ∧ tm_sh W 38 = .inr (4, 8)
section TOP
variable {W : tm_W} {m : Nat → Nat → Int32} {l : Nat → Nat → Int64} {f : Nat → Int32}
theorem xR0 (C : isC W) : ia_gR (tm W m l) 0 0 0 = some 1 := tm_gR C.1 rfl
theorem xR1 (C : isC W) : ia_gR (tm W m l) 0 0 1 = some 3 := tm_gR C.1 rfl
theorem xR2 (C : isC W) : ia_gR (tm W m l) 0 0 2 = some 5 := tm_gR C.1 rfl
theorem xR3 (C : isC W) : ia_gR (tm W m l) 0 0 3 = some 7 := tm_gR C.1 rfl
theorem xR4 (C : isC W) : ia_gR (tm W m l) 0 0 4 = some 9 := tm_gR C.1 rfl
theorem xR5 (C : isC W) : ia_gR (tm W m l) 0 0 5 = some 11 := tm_gR C.1 rfl
theorem xR6 (C : isC W) : ia_gR (tm W m l) 0 0 6 = some 13 := tm_gR C.1 rfl
theorem xR7 (C : isC W) : ia_gR (tm W m l) 0 0 7 = some 21 := tm_gR C.1 rfl
theorem xR8 (C : isC W) : ia_gR (tm W m l) 0 0 8 = some 29 := tm_gR C.1 rfl
theorem xR9 (C : isC W) : ia_gR (tm W m l) 0 0 9 = some 37 := tm_gR C.1 rfl
theorem xI10 (C : isC W) : ia_gI (tm W m l) 0 0 10 = some (m 0 10) := tm_gI C.1 rfl
theorem xp10 (C : isC W) (v : Int32) : ia_pF (tm W m l) 0 0 10 (.int v) = some (tm W (m2 m 0 10 v) l) := tm_pI C.1 rfl
theorem xok (C : isC W) (as : List Value) : ia_ok (tm W m l) 0 (.ref 0 :: as) = true := tm_ok C.1 (by decide)
theorem isC.t1 (C : isC W) : tm_sh W 1 = .inl (1, [some 2, none, none, none]) := C.2.1
theorem isC.t2 (C : isC W) : tm_sh W 2 = .inr (2, 200) := C.2.2.1
theorem isC.t3 (C : isC W) : tm_sh W 3 = .inl (1, [some 4, none, none, none]) := C.2.2.2.1
theorem isC.t4 (C : isC W) : tm_sh W 4 = .inr (2, 200) := C.2.2.2.2.1
theorem isC.t5 (C : isC W) : tm_sh W 5 = .inl (2, [some 6, none]) := C.2.2.2.2.2.1
theorem isC.t6 (C : isC W) : tm_sh W 6 = .inr (0, 201) := C.2.2.2.2.2.2.1
theorem isC.t7 (C : isC W) : tm_sh W 7 = .inl (3, [some 8, none]) := C.2.2.2.2.2.2.2.1
theorem isC.t8 (C : isC W) : tm_sh W 8 = .inr (0, 100) := C.2.2.2.2.2.2.2.2.1
theorem isC.t9 (C : isC W) : tm_sh W 9 = .inl (4, [some 10]) := C.2.2.2.2.2.2.2.2.2.1
theorem isC.t10 (C : isC W) : tm_sh W 10 = .inr (0, 48) := C.2.2.2.2.2.2.2.2.2.2.1
theorem isC.t11 (C : isC W) : tm_sh W 11 = .inl (4, [some 12]) := C.2.2.2.2.2.2.2.2.2.2.2.1
theorem isC.t12 (C : isC W) : tm_sh W 12 = .inr (0, 48) := C.2.2.2.2.2.2.2.2.2.2.2.2.1
theorem isC.now (C : isC W) : isSt W 13 := C.2.2.2.2.2.2.2.2.2.2.2.2.2.1
theorem isC.tho (C : isC W) : isSt W 21 := C.2.2.2.2.2.2.2.2.2.2.2.2.2.2.1
theorem isC.kep (C : isC W) : isSt W 29 := C.2.2.2.2.2.2.2.2.2.2.2.2.2.2.2.1
theorem isC.t37 (C : isC W) : tm_sh W 37 = .inl (6, [some 38, none, none]) := C.2.2.2.2.2.2.2.2.2.2.2.2.2.2.2.2.1
theorem isC.t38 (C : isC W) : tm_sh W 38 = .inr (4, 8) := C.2.2.2.2.2.2.2.2.2.2.2.2.2.2.2.2.2
/-! the ROW of the component: memory with the row xs laid -/
def rwm (m : Nat → Nat → Int32) (xs : List Int32) : Nat → Nat → Int32 := fun a k => if a = 7 ∧ k = 1 then nI xs.length else if a = 8 ∧ k < xs.length then xs.getD k 0 else m a k
theorem rwm_7 (m : Nat → Nat → Int32) (xs : List Int32) : rwm m xs 7 1 = nI xs.length := if_pos ⟨rfl, rfl⟩
theorem rwm_8 (m : Nat → Nat → Int32) (xs : List Int32) {k : Nat} (h : k < xs.length) : rwm m xs 8 k = xs.getD k 0 := by
  unfold rwm
  rw [if_neg (by omega), if_pos ⟨rfl, h⟩]
theorem rwm_o (m : Nat → Nat → Int32) (xs : List Int32) {a : Nat} (h7 : a ≠ 7) (h8 : a ≠ 8) : rwm m xs a = m a := by
  funext k
  unfold rwm
  rw [if_neg (fun q => h7 q.1), if_neg (fun q => h8 q.1)]
theorem rwm_nil (m : Nat → Nat → Int32) : m2 m 7 1 0 = rwm m [] := by
  funext a k
  unfold m2 rwm
  by_cases h : a = 7 ∧ k = 1
  · rw [if_pos h, if_pos h]
    rfl
  · rw [if_neg h, if_neg h, if_neg (by simp)]
theorem rwm_new (m : Nat → Nat → Int32) (xs : List Int32) : m2 (rwm m xs) 7 1 0 = rwm m [] ∨ True := Or.inr trivial
theorem rwm_add (m : Nat → Nat → Int32) (xs : List Int32) (v : Int32) : m2 (m2 (rwm m xs) 8 xs.length v) 7 1 (nI (xs.length + 1)) = rwm m (xs ++ [v]) := by
  funext a k
  unfold m2 rwm
  by_cases h : a = 7 ∧ k = 1
  · rw [if_pos h, if_pos h]
    simp
  · rw [if_neg h, if_neg h, if_neg h]
    by_cases h8 : a = 8
    · subst h8
      by_cases hk : k = xs.length
      · subst hk
        rw [if_pos ⟨rfl, rfl⟩, if_pos ⟨rfl, by simp⟩]
        simp
      · rw [if_neg (fun q => hk q.2)]
        by_cases hl : k < xs.length
        · rw [if_pos ⟨rfl, hl⟩, if_pos ⟨rfl, by simp; omega⟩]
          simp [List.getD, List.getElem?_append_left hl]
        · rw [if_neg (fun q => hl q.2), if_neg (fun q => by have := q.2; simp at this; omega)]
    · rw [if_neg (fun q => h8 q.1), if_neg (fun q => h8 q.1), if_neg (fun q => h8 q.1)]
theorem vok (C : isC W) (as : List Value) : ia_ok (tm W m l) 3 (.ref 7 :: as) = true := tm_ok C.t7 (by decide)
theorem c189 (C : isC W) : cl 189 [.ref 7] (tm W m l) = some (some (.ref 7), tm W (rwm m []) l) := by
  rw [q_189, tm_pI C.t7 rfl, Option.bind_some, rwm_nil]
theorem c190 (C : isC W) {xs : List Int32} (h : xs.length < 100) (v : Int32) : cl 190 [.ref 7, .int v] (tm W (rwm m xs) l) = some (some (.ref 7), tm W (rwm m (xs ++ [v])) l) := by
  rw [q_190, tm_gI C.t7 rfl, Option.bind_some, rwm_7, tm_gR C.t7 rfl, Option.bind_some, tm_len C.t8 (by decide), Option.bind_some, if_neg (nI_ge h (by decide)), Option.bind_some, Option.bind_some, tm_st C.t8 (by decide) (by decide) h (by decide), Option.bind_some, tm_gI C.t7 rfl, Option.bind_some, m2_a _ _ _ _ (by decide), rwm_7, nI_1, tm_pI C.t7 rfl, Option.bind_some, rwm_add]
/-! the row of the reference -/
def llm (l : Nat → Nat → Int64) (ys : List Int64) : Nat → Nat → Int64 := fun a k => if a = 48 ∧ k < ys.length then ys.getD k 0 else l a k
theorem llm_nil (l : Nat → Nat → Int64) : llm l [] = l := by
  funext a k
  unfold llm
  rw [if_neg (by simp)]
theorem llm_add (l : Nat → Nat → Int64) (ys : List Int64) (v : Int64) : m2 (llm l ys) 48 ys.length v = llm l (ys ++ [v]) := by
  funext a k
  unfold m2 llm
  by_cases h8 : a = 48
  · subst h8
    by_cases hk : k = ys.length
    · subst hk
      rw [if_pos ⟨rfl, rfl⟩, if_pos ⟨rfl, by simp⟩]
      simp
    · rw [if_neg (fun q => hk q.2)]
      by_cases hl : k < ys.length
      · rw [if_pos ⟨rfl, hl⟩, if_pos ⟨rfl, by simp; omega⟩]
        simp [List.getD, List.getElem?_append_left hl]
      · rw [if_neg (fun q => hl q.2), if_neg (fun q => by have := q.2; simp at this; omega)]
  · rw [if_neg (fun q => h8 q.1), if_neg (fun q => h8 q.1), if_neg (fun q => h8 q.1)]
theorem m2_m2 {α : Type} (m : Nat → Nat → α) (a k : Nat) (v w : α) : m2 (m2 m a k v) a k w = m2 m a k w := by
  funext a' k'
  unfold m2
  by_cases h : a' = a ∧ k' = k
  · rw [if_pos h, if_pos h]
  · rw [if_neg h, if_neg h, if_neg h]
theorem c71 (M : isM W) {ys : List Int64} (h : ys.length < 128) (v : Int64) : cl 71 [.ref 39, .long v] (tm W (m2 m 39 12 (nI ys.length)) (llm l ys)) = some (none, tm W (m2 m 39 12 (nI (ys ++ [v]).length)) (llm l (ys ++ [v]))) := by
  rw [q_71, rR11 M, Option.bind_some, rI12 M, Option.bind_some, m2_s, rs48 M h, Option.bind_some, rI12 M, Option.bind_some, m2_s, ru12 M, Option.bind_some, llm_add, m2_m2, nI_1]
  simp
/-! arguments -/
theorem lit_m1 (x : Int32) (n : Nat) (hn : n < 2 ^ 31) : (∃ j, j < n ∧ x = nI j) ∨ x < 0 ∨ nI n ≤ x := by
  rcases pk_ix x hn with h | h | h
  · exact Or.inr (Or.inl h)
  · exact Or.inr (Or.inr h)
  · exact Or.inl h
/-- x is none of 0 .. n - 1 -/
def nin (x : Int32) (n : Nat) : Prop := x < 0 ∨ nI n ≤ x
theorem c49y {j : Nat} (hj : j < 4) (h : ia_H) : cl 49 [.int (nI j)] h = some (some (.int 1), h) := by
  rw [q_49, if_neg (nI_pos (by omega)), if_neg (show ¬ (4 : Int32) ≤ nI j from nI_ge (b := 4) hj (by decide))]
theorem c49n {x : Int32} (hx : nin x 4) (h : ia_H) : cl 49 [.int x] h = some (some (.int 0), h) := by
  rw [q_49]
  rcases hx with hx | hx
  · rw [if_pos hx]
  · split
    · rfl
    · rw [if_pos (show (4 : Int32) ≤ x from hx)]
theorem c50y {j : Nat} (hj : j < 4) (h : ia_H) : cl 50 [.int (nI j)] h = some (some (.int 1), h) := by
  rw [q_50, if_neg (nI_pos (by omega)), if_neg (show ¬ (4 : Int32) ≤ nI j from nI_ge (b := 4) hj (by decide))]
theorem c50n {x : Int32} (hx : nin x 4) (h : ia_H) : cl 50 [.int x] h = some (some (.int 0), h) := by
  rw [q_50]
  rcases hx with hx | hx
  · rw [if_pos hx]
  · split
    · rfl
    · rw [if_pos (show (4 : Int32) ≤ x from hx)]
theorem c52y (C : isC W) {P j : Nat} (hP : f 1104 = nI P) (hP2 : P ≤ 12) (hj : j < P) : cl 52 [.ref 0, .int (nI j)] (tm W (wv m 13 f) l) = some (some (.int 1), tm W (wv m 13 f) l) := by
  rw [q_52, if_neg (nI_pos (by omega)), xR6 C, Option.bind_some, sI0 C.now, Option.bind_some, hP, if_neg (nI_ge hj (by omega))]
theorem c52n (C : isC W) {P : Nat} (hP : f 1104 = nI P) {x : Int32} (hx : nin x P) : cl 52 [.ref 0, .int x] (tm W (wv m 13 f) l) = some (some (.int 0), tm W (wv m 13 f) l) := by
  rw [q_52, xR6 C, Option.bind_some, sI0 C.now, Option.bind_some, hP]
  rcases hx with hx | hx
  · rw [if_pos hx]
  · rw [if_pos hx]
    split <;> rfl
theorem c53y (C : isC W) {N j : Nat} (hN : f 1105 = nI N) (hN2 : N ≤ 100) (hj : j < N) : cl 53 [.ref 0, .int (nI j)] (tm W (wv m 13 f) l) = some (some (.int 1), tm W (wv m 13 f) l) := by
  rw [q_53, if_neg (nI_pos (by omega)), xR6 C, Option.bind_some, sI2 C.now, Option.bind_some, hN, if_neg (nI_ge hj (by omega))]
theorem c53n (C : isC W) {N : Nat} (hN : f 1105 = nI N) {x : Int32} (hx : nin x N) : cl 53 [.ref 0, .int x] (tm W (wv m 13 f) l) = some (some (.int 0), tm W (wv m 13 f) l) := by
  rw [q_53, xR6 C, Option.bind_some, sI2 C.now, Option.bind_some, hN]
  rcases hx with hx | hx
  · rw [if_pos hx]
  · rw [if_pos hx]
    split <;> rfl
/-! the reference's checks -/
theorem w_le (a b : Int32) : a.toInt64 ≤ b.toInt64 ↔ a ≤ b := by
  rw [Int64.le_iff_toInt_le, Int32.le_iff_toInt_le, Int32.toInt_toInt64, Int32.toInt_toInt64]
theorem c69i (a b c : Int32) (h : ia_H) : cl 69 [.long a.toInt64, .long b.toInt64, .long c.toInt64] h = some (some (.int (if b ≤ a ∧ a ≤ c then 1 else 0)), h) := by
  rw [c69]
  simp only [w_le]
theorem in_y {j n : Nat} (hj : j < n) (hn : n < 2 ^ 31) (h : ia_H) : cl 69 [.long (nI j).toInt64, .long (0 : Int32).toInt64, .long (nI n - 1).toInt64] h = some (some (.int 1), h) := by
  obtain ⟨k, rfl⟩ : ∃ k, n = k + 1 := ⟨n - 1, by omega⟩
  rw [c69i, nI_pred, if_pos ⟨nI_pos' (by omega), nI_le (by omega) (by omega)⟩]
theorem in_n {x : Int32} {n : Nat} (hx : nin x n) (hn : n < 2 ^ 31) (h : ia_H) : cl 69 [.long x.toInt64, .long (0 : Int32).toInt64, .long (nI n - 1).toInt64] h = some (some (.int 0), h) := by
  rw [c69i, if_neg]
  rintro ⟨h1, h2⟩
  rcases hx with hx | hx
  · exact absurd h1 (Int32.not_le.mpr hx)
  · rw [Int32.le_iff_toInt_le] at hx h2 h1
    rw [nI_toInt hn] at hx
    have e : (nI n - 1).toInt = (n : Int) - 1 := by
      cases n with
      | zero => decide
      | succ k =>
        rw [nI_pred, nI_toInt (by omega)]
        omega
    rw [e] at h2
    omega
theorem z64 : (0 : Int32).toInt64 = 0 := by decide
theorem c75y {j : Nat} (hj : j < 4) (h : ia_H) : cl 75 [.int (nI j)] h = some (some (.int 1), h) := by
  have := in_y (n := 4) hj (by decide) h
  rw [z64, show (nI 4 - 1).toInt64 = 3 by decide] at this
  rw [q_75, this, kxi_s, if_pos (Or.inr rfl)]
theorem c75n {x : Int32} (hx : nin x 4) (h : ia_H) : cl 75 [.int x] h = some (some (.int 0), h) := by
  have := in_n (n := 4) hx (by decide) h
  rw [z64, show (nI 4 - 1).toInt64 = 3 by decide] at this
  rw [q_75, this, kxi_s, if_pos (Or.inl rfl)]
theorem c76y {j : Nat} (hj : j < 4) (h : ia_H) : cl 76 [.int (nI j)] h = some (some (.int 1), h) := by
  have := in_y (n := 4) hj (by decide) h
  rw [z64, show (nI 4 - 1).toInt64 = 3 by decide] at this
  rw [q_76, this, kxi_s, if_pos (Or.inr rfl)]
theorem c76n {x : Int32} (hx : nin x 4) (h : ia_H) : cl 76 [.int x] h = some (some (.int 0), h) := by
  have := in_n (n := 4) hx (by decide) h
  rw [z64, show (nI 4 - 1).toInt64 = 3 by decide] at this
  rw [q_76, this, kxi_s, if_pos (Or.inl rfl)]
theorem c77y (M : isM W) {P j : Nat} (hP : f 1104 = nI P) (hP2 : P ≤ 12) (hj : j < P) : cl 77 [.ref 39, .int (nI j)] (tm W (m1 m 40 f) l) = some (some (.int 1), tm W (m1 m 40 f) l) := by
  rw [q_77, rR0 M, Option.bind_some, wl4 M, Option.bind_some, hP, ← z64, in_y hj (by omega), kxi_s, if_pos (Or.inr rfl)]
theorem c77n (M : isM W) {P : Nat} (hP : f 1104 = nI P) (hP2 : P ≤ 12) {x : Int32} (hx : nin x P) : cl 77 [.ref 39, .int x] (tm W (m1 m 40 f) l) = some (some (.int 0), tm W (m1 m 40 f) l) := by
  rw [q_77, rR0 M, Option.bind_some, wl4 M, Option.bind_some, hP, ← z64, in_n hx (by omega), kxi_s, if_pos (Or.inl rfl)]
theorem c78y (M : isM W) {N j : Nat} (hN : f 1105 = nI N) (hN2 : N ≤ 100) (hj : j < N) : cl 78 [.ref 39, .int (nI j)] (tm W (m1 m 40 f) l) = some (some (.int 1), tm W (m1 m 40 f) l) := by
  rw [q_78, rR0 M, Option.bind_some, wl5 M, Option.bind_some, hN, ← z64, in_y hj (by omega), kxi_s, if_pos (Or.inr rfl)]
theorem c78n (M : isM W) {N : Nat} (hN : f 1105 = nI N) (hN2 : N ≤ 100) {x : Int32} (hx : nin x N) : cl 78 [.ref 39, .int x] (tm W (m1 m 40 f) l) = some (some (.int 0), tm W (m1 m 40 f) l) := by
  rw [q_78, rR0 M, Option.bind_some, wl5 M, Option.bind_some, hN, ← z64, in_n hx (by omega), kxi_s, if_pos (Or.inl rfl)]
end TOP

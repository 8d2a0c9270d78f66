/-! THE REFERENCE in typed memory: its object is cell 39, its rows 40 to 60; the row w is cell 40 -/
def isM (W : tm_W) : Prop := tm_sh W 39 = .inl (8, [some 40, some 41, some 42, none, some 43, none, some 44, some 45, some 46, some 47, none, some 48, none, none, none, none, some 49, some 50, none, none, none, none, none, none, some 51, some 52, some 53, some 54, some 55, some 56, some 57, none, some 58, some 59, some 60, none]) ∧ (tm_sh W 40 = .inr (0, 1108) ∧ tm_sh W 41 = .inr (0, 1108) ∧ tm_sh W 42 = .inr (0, 1108) ∧ tm_sh W 43 = .inr (0, 8864) ∧ tm_sh W 44 = .inr (0, 16) ∧ tm_sh W 45 = .inr (0, 16) ∧ tm_sh W 46 = .inr (0, 16) ∧ tm_sh W 47 = .inr (3, 200) ∧ tm_sh W 48 = .inr (1, 128) ∧ tm_sh W 49 = .inr (0, 200) ∧ tm_sh W 50 = .inr (0, 200) ∧ tm_sh W 51 = .inr (0, 16) ∧ tm_sh W 52 = .inr (0, 16) ∧ tm_sh W 53 = .inr (0, 16) ∧ tm_sh W 54 = .inr (0, 200) ∧ tm_sh W 55 = .inr (0, 200) ∧ tm_sh W 56 = .inr (0, 200) ∧ tm_sh W 57 = .inr (3, 160) ∧ tm_sh W 58 = .inr (0, 64) ∧ tm_sh W 59 = .inr (0, 64) ∧ tm_sh W 60 = .inr (0, 64))
section MOH
variable {W : tm_W} {m : Nat → Nat → Int32} {l : Nat → Nat → Int64} {f : Nat → Int32}
theorem rR0 (M : isM W) : ia_gR (tm W m l) 8 39 0 = some 40 := tm_gR M.1 rfl
theorem rR1 (M : isM W) : ia_gR (tm W m l) 8 39 1 = some 41 := tm_gR M.1 rfl
theorem rR2 (M : isM W) : ia_gR (tm W m l) 8 39 2 = some 42 := tm_gR M.1 rfl
theorem rI3 (M : isM W) : ia_gI (tm W m l) 8 39 3 = some (m 39 3) := tm_gI M.1 rfl
theorem ru3 (M : isM W) (v : Int32) : ia_pF (tm W m l) 8 39 3 (.int v) = some (tm W (m2 m 39 3 v) l) := tm_pI M.1 rfl
theorem rR4 (M : isM W) : ia_gR (tm W m l) 8 39 4 = some 43 := tm_gR M.1 rfl
theorem rI5 (M : isM W) : ia_gI (tm W m l) 8 39 5 = some (m 39 5) := tm_gI M.1 rfl
theorem ru5 (M : isM W) (v : Int32) : ia_pF (tm W m l) 8 39 5 (.int v) = some (tm W (m2 m 39 5 v) l) := tm_pI M.1 rfl
theorem rR6 (M : isM W) : ia_gR (tm W m l) 8 39 6 = some 44 := tm_gR M.1 rfl
theorem rR7 (M : isM W) : ia_gR (tm W m l) 8 39 7 = some 45 := tm_gR M.1 rfl
theorem rR8 (M : isM W) : ia_gR (tm W m l) 8 39 8 = some 46 := tm_gR M.1 rfl
theorem rR9 (M : isM W) : ia_gR (tm W m l) 8 39 9 = some 47 := tm_gR M.1 rfl
theorem rI10 (M : isM W) : ia_gI (tm W m l) 8 39 10 = some (m 39 10) := tm_gI M.1 rfl
theorem ru10 (M : isM W) (v : Int32) : ia_pF (tm W m l) 8 39 10 (.int v) = some (tm W (m2 m 39 10 v) l) := tm_pI M.1 rfl
theorem rR11 (M : isM W) : ia_gR (tm W m l) 8 39 11 = some 48 := tm_gR M.1 rfl
theorem rI12 (M : isM W) : ia_gI (tm W m l) 8 39 12 = some (m 39 12) := tm_gI M.1 rfl
theorem ru12 (M : isM W) (v : Int32) : ia_pF (tm W m l) 8 39 12 (.int v) = some (tm W (m2 m 39 12 v) l) := tm_pI M.1 rfl
theorem rI13 (M : isM W) : ia_gI (tm W m l) 8 39 13 = some (m 39 13) := tm_gI M.1 rfl
theorem ru13 (M : isM W) (v : Int32) : ia_pF (tm W m l) 8 39 13 (.int v) = some (tm W (m2 m 39 13 v) l) := tm_pI M.1 rfl
theorem rI14 (M : isM W) : ia_gI (tm W m l) 8 39 14 = some (m 39 14) := tm_gI M.1 rfl
theorem ru14 (M : isM W) (v : Int32) : ia_pF (tm W m l) 8 39 14 (.int v) = some (tm W (m2 m 39 14 v) l) := tm_pI M.1 rfl
theorem rI15 (M : isM W) : ia_gI (tm W m l) 8 39 15 = some (m 39 15) := tm_gI M.1 rfl
theorem ru15 (M : isM W) (v : Int32) : ia_pF (tm W m l) 8 39 15 (.int v) = some (tm W (m2 m 39 15 v) l) := tm_pI M.1 rfl
theorem rR16 (M : isM W) : ia_gR (tm W m l) 8 39 16 = some 49 := tm_gR M.1 rfl
theorem rR17 (M : isM W) : ia_gR (tm W m l) 8 39 17 = some 50 := tm_gR M.1 rfl
theorem rI18 (M : isM W) : ia_gI (tm W m l) 8 39 18 = some (m 39 18) := tm_gI M.1 rfl
theorem ru18 (M : isM W) (v : Int32) : ia_pF (tm W m l) 8 39 18 (.int v) = some (tm W (m2 m 39 18 v) l) := tm_pI M.1 rfl
theorem rI19 (M : isM W) : ia_gI (tm W m l) 8 39 19 = some (m 39 19) := tm_gI M.1 rfl
theorem ru19 (M : isM W) (v : Int32) : ia_pF (tm W m l) 8 39 19 (.int v) = some (tm W (m2 m 39 19 v) l) := tm_pI M.1 rfl
theorem rI20 (M : isM W) : ia_gI (tm W m l) 8 39 20 = some (m 39 20) := tm_gI M.1 rfl
theorem ru20 (M : isM W) (v : Int32) : ia_pF (tm W m l) 8 39 20 (.int v) = some (tm W (m2 m 39 20 v) l) := tm_pI M.1 rfl
theorem rI21 (M : isM W) : ia_gI (tm W m l) 8 39 21 = some (m 39 21) := tm_gI M.1 rfl
theorem ru21 (M : isM W) (v : Int32) : ia_pF (tm W m l) 8 39 21 (.int v) = some (tm W (m2 m 39 21 v) l) := tm_pI M.1 rfl
theorem rI22 (M : isM W) : ia_gI (tm W m l) 8 39 22 = some (m 39 22) := tm_gI M.1 rfl
theorem ru22 (M : isM W) (v : Int32) : ia_pF (tm W m l) 8 39 22 (.int v) = some (tm W (m2 m 39 22 v) l) := tm_pI M.1 rfl
theorem rI23 (M : isM W) : ia_gI (tm W m l) 8 39 23 = some (m 39 23) := tm_gI M.1 rfl
theorem ru23 (M : isM W) (v : Int32) : ia_pF (tm W m l) 8 39 23 (.int v) = some (tm W (m2 m 39 23 v) l) := tm_pI M.1 rfl
theorem rR24 (M : isM W) : ia_gR (tm W m l) 8 39 24 = some 51 := tm_gR M.1 rfl
theorem rR25 (M : isM W) : ia_gR (tm W m l) 8 39 25 = some 52 := tm_gR M.1 rfl
theorem rR26 (M : isM W) : ia_gR (tm W m l) 8 39 26 = some 53 := tm_gR M.1 rfl
theorem rR27 (M : isM W) : ia_gR (tm W m l) 8 39 27 = some 54 := tm_gR M.1 rfl
theorem rR28 (M : isM W) : ia_gR (tm W m l) 8 39 28 = some 55 := tm_gR M.1 rfl
theorem rR29 (M : isM W) : ia_gR (tm W m l) 8 39 29 = some 56 := tm_gR M.1 rfl
theorem rR30 (M : isM W) : ia_gR (tm W m l) 8 39 30 = some 57 := tm_gR M.1 rfl
theorem rI31 (M : isM W) : ia_gI (tm W m l) 8 39 31 = some (m 39 31) := tm_gI M.1 rfl
theorem ru31 (M : isM W) (v : Int32) : ia_pF (tm W m l) 8 39 31 (.int v) = some (tm W (m2 m 39 31 v) l) := tm_pI M.1 rfl
theorem rR32 (M : isM W) : ia_gR (tm W m l) 8 39 32 = some 58 := tm_gR M.1 rfl
theorem rR33 (M : isM W) : ia_gR (tm W m l) 8 39 33 = some 59 := tm_gR M.1 rfl
theorem rR34 (M : isM W) : ia_gR (tm W m l) 8 39 34 = some 60 := tm_gR M.1 rfl
theorem rI35 (M : isM W) : ia_gI (tm W m l) 8 39 35 = some (m 39 35) := tm_gI M.1 rfl
theorem ru35 (M : isM W) (v : Int32) : ia_pF (tm W m l) 8 39 35 (.int v) = some (tm W (m2 m 39 35 v) l) := tm_pI M.1 rfl
theorem rok (M : isM W) (as : List Value) : ia_ok (tm W m l) 8 (.ref 39 :: as) = true := tm_ok M.1 (by decide)
theorem rl40 (M : isM W) {i : Nat} (hi : i < 1108) : ia_ld (tm W m l) 0 40 (nI i) = some (m 40 i) := tm_ld M.2.1 (by decide) (by decide) hi (by decide)
theorem rs40 (M : isM W) {i : Nat} (hi : i < 1108) (v : Int32) : ia_st (tm W m l) 0 40 (nI i) v = some (tm W (m2 m 40 i v) l) := tm_st M.2.1 (by decide) (by decide) hi (by decide)
theorem rl41 (M : isM W) {i : Nat} (hi : i < 1108) : ia_ld (tm W m l) 0 41 (nI i) = some (m 41 i) := tm_ld M.2.2.1 (by decide) (by decide) hi (by decide)
theorem rs41 (M : isM W) {i : Nat} (hi : i < 1108) (v : Int32) : ia_st (tm W m l) 0 41 (nI i) v = some (tm W (m2 m 41 i v) l) := tm_st M.2.2.1 (by decide) (by decide) hi (by decide)
theorem rl42 (M : isM W) {i : Nat} (hi : i < 1108) : ia_ld (tm W m l) 0 42 (nI i) = some (m 42 i) := tm_ld M.2.2.2.1 (by decide) (by decide) hi (by decide)
theorem rs42 (M : isM W) {i : Nat} (hi : i < 1108) (v : Int32) : ia_st (tm W m l) 0 42 (nI i) v = some (tm W (m2 m 42 i v) l) := tm_st M.2.2.2.1 (by decide) (by decide) hi (by decide)
theorem rl43 (M : isM W) {i : Nat} (hi : i < 8864) : ia_ld (tm W m l) 0 43 (nI i) = some (m 43 i) := tm_ld M.2.2.2.2.1 (by decide) (by decide) hi (by decide)
theorem rs43 (M : isM W) {i : Nat} (hi : i < 8864) (v : Int32) : ia_st (tm W m l) 0 43 (nI i) v = some (tm W (m2 m 43 i v) l) := tm_st M.2.2.2.2.1 (by decide) (by decide) hi (by decide)
theorem rl44 (M : isM W) {i : Nat} (hi : i < 16) : ia_ld (tm W m l) 0 44 (nI i) = some (m 44 i) := tm_ld M.2.2.2.2.2.1 (by decide) (by decide) hi (by decide)
theorem rs44 (M : isM W) {i : Nat} (hi : i < 16) (v : Int32) : ia_st (tm W m l) 0 44 (nI i) v = some (tm W (m2 m 44 i v) l) := tm_st M.2.2.2.2.2.1 (by decide) (by decide) hi (by decide)
theorem rl45 (M : isM W) {i : Nat} (hi : i < 16) : ia_ld (tm W m l) 0 45 (nI i) = some (m 45 i) := tm_ld M.2.2.2.2.2.2.1 (by decide) (by decide) hi (by decide)
theorem rs45 (M : isM W) {i : Nat} (hi : i < 16) (v : Int32) : ia_st (tm W m l) 0 45 (nI i) v = some (tm W (m2 m 45 i v) l) := tm_st M.2.2.2.2.2.2.1 (by decide) (by decide) hi (by decide)
theorem rl46 (M : isM W) {i : Nat} (hi : i < 16) : ia_ld (tm W m l) 0 46 (nI i) = some (m 46 i) := tm_ld M.2.2.2.2.2.2.2.1 (by decide) (by decide) hi (by decide)
theorem rs46 (M : isM W) {i : Nat} (hi : i < 16) (v : Int32) : ia_st (tm W m l) 0 46 (nI i) v = some (tm W (m2 m 46 i v) l) := tm_st M.2.2.2.2.2.2.2.1 (by decide) (by decide) hi (by decide)
theorem rl47 (M : isM W) {i : Nat} (hi : i < 200) : ia_ld (tm W m l) 3 47 (nI i) = some (m 47 i) := tm_ld M.2.2.2.2.2.2.2.2.1 (by decide) (by decide) hi (by decide)
theorem rs47 (M : isM W) {i : Nat} (hi : i < 200) (v : Int32) : ia_st (tm W m l) 3 47 (nI i) v = some (tm W (m2 m 47 i v) l) := tm_st M.2.2.2.2.2.2.2.2.1 (by decide) (by decide) hi (by decide)
theorem rl48 (M : isM W) {i : Nat} (hi : i < 128) : ia_ldL (tm W m l) 48 (nI i) = some (l 48 i) := tm_ldL M.2.2.2.2.2.2.2.2.2.1 hi (by decide)
theorem rs48 (M : isM W) {i : Nat} (hi : i < 128) (v : Int64) : ia_stL (tm W m l) 48 (nI i) v = some (tm W m (m2 l 48 i v)) := tm_stL M.2.2.2.2.2.2.2.2.2.1 hi (by decide)
theorem rl49 (M : isM W) {i : Nat} (hi : i < 200) : ia_ld (tm W m l) 0 49 (nI i) = some (m 49 i) := tm_ld M.2.2.2.2.2.2.2.2.2.2.1 (by decide) (by decide) hi (by decide)
theorem rs49 (M : isM W) {i : Nat} (hi : i < 200) (v : Int32) : ia_st (tm W m l) 0 49 (nI i) v = some (tm W (m2 m 49 i v) l) := tm_st M.2.2.2.2.2.2.2.2.2.2.1 (by decide) (by decide) hi (by decide)
theorem rl50 (M : isM W) {i : Nat} (hi : i < 200) : ia_ld (tm W m l) 0 50 (nI i) = some (m 50 i) := tm_ld M.2.2.2.2.2.2.2.2.2.2.2.1 (by decide) (by decide) hi (by decide)
theorem rs50 (M : isM W) {i : Nat} (hi : i < 200) (v : Int32) : ia_st (tm W m l) 0 50 (nI i) v = some (tm W (m2 m 50 i v) l) := tm_st M.2.2.2.2.2.2.2.2.2.2.2.1 (by decide) (by decide) hi (by decide)
theorem rl51 (M : isM W) {i : Nat} (hi : i < 16) : ia_ld (tm W m l) 0 51 (nI i) = some (m 51 i) := tm_ld M.2.2.2.2.2.2.2.2.2.2.2.2.1 (by decide) (by decide) hi (by decide)
theorem rs51 (M : isM W) {i : Nat} (hi : i < 16) (v : Int32) : ia_st (tm W m l) 0 51 (nI i) v = some (tm W (m2 m 51 i v) l) := tm_st M.2.2.2.2.2.2.2.2.2.2.2.2.1 (by decide) (by decide) hi (by decide)
theorem rl52 (M : isM W) {i : Nat} (hi : i < 16) : ia_ld (tm W m l) 0 52 (nI i) = some (m 52 i) := tm_ld M.2.2.2.2.2.2.2.2.2.2.2.2.2.1 (by decide) (by decide) hi (by decide)
theorem rs52 (M : isM W) {i : Nat} (hi : i < 16) (v : Int32) : ia_st (tm W m l) 0 52 (nI i) v = some (tm W (m2 m 52 i v) l) := tm_st M.2.2.2.2.2.2.2.2.2.2.2.2.2.1 (by decide) (by decide) hi (by decide)
theorem rl53 (M : isM W) {i : Nat} (hi : i < 16) : ia_ld (tm W m l) 0 53 (nI i) = some (m 53 i) := tm_ld M.2.2.2.2.2.2.2.2.2.2.2.2.2.2.1 (by decide) (by decide) hi (by decide)
theorem rs53 (M : isM W) {i : Nat} (hi : i < 16) (v : Int32) : ia_st (tm W m l) 0 53 (nI i) v = some (tm W (m2 m 53 i v) l) := tm_st M.2.2.2.2.2.2.2.2.2.2.2.2.2.2.1 (by decide) (by decide) hi (by decide)
theorem rl54 (M : isM W) {i : Nat} (hi : i < 200) : ia_ld (tm W m l) 0 54 (nI i) = some (m 54 i) := tm_ld M.2.2.2.2.2.2.2.2.2.2.2.2.2.2.2.1 (by decide) (by decide) hi (by decide)
theorem rs54 (M : isM W) {i : Nat} (hi : i < 200) (v : Int32) : ia_st (tm W m l) 0 54 (nI i) v = some (tm W (m2 m 54 i v) l) := tm_st M.2.2.2.2.2.2.2.2.2.2.2.2.2.2.2.1 (by decide) (by decide) hi (by decide)
theorem rl55 (M : isM W) {i : Nat} (hi : i < 200) : ia_ld (tm W m l) 0 55 (nI i) = some (m 55 i) := tm_ld M.2.2.2.2.2.2.2.2.2.2.2.2.2.2.2.2.1 (by decide) (by decide) hi (by decide)
theorem rs55 (M : isM W) {i : Nat} (hi : i < 200) (v : Int32) : ia_st (tm W m l) 0 55 (nI i) v = some (tm W (m2 m 55 i v) l) := tm_st M.2.2.2.2.2.2.2.2.2.2.2.2.2.2.2.2.1 (by decide) (by decide) hi (by decide)
theorem rl56 (M : isM W) {i : Nat} (hi : i < 200) : ia_ld (tm W m l) 0 56 (nI i) = some (m 56 i) := tm_ld M.2.2.2.2.2.2.2.2.2.2.2.2.2.2.2.2.2.1 (by decide) (by decide) hi (by decide)
theorem rs56 (M : isM W) {i : Nat} (hi : i < 200) (v : Int32) : ia_st (tm W m l) 0 56 (nI i) v = some (tm W (m2 m 56 i v) l) := tm_st M.2.2.2.2.2.2.2.2.2.2.2.2.2.2.2.2.2.1 (by decide) (by decide) hi (by decide)
theorem rl57 (M : isM W) {i : Nat} (hi : i < 160) : ia_ld (tm W m l) 3 57 (nI i) = some (m 57 i) := tm_ld M.2.2.2.2.2.2.2.2.2.2.2.2.2.2.2.2.2.2.1 (by decide) (by decide) hi (by decide)
theorem rs57 (M : isM W) {i : Nat} (hi : i < 160) (v : Int32) : ia_st (tm W m l) 3 57 (nI i) v = some (tm W (m2 m 57 i v) l) := tm_st M.2.2.2.2.2.2.2.2.2.2.2.2.2.2.2.2.2.2.1 (by decide) (by decide) hi (by decide)
theorem rl58 (M : isM W) {i : Nat} (hi : i < 64) : ia_ld (tm W m l) 0 58 (nI i) = some (m 58 i) := tm_ld M.2.2.2.2.2.2.2.2.2.2.2.2.2.2.2.2.2.2.2.1 (by decide) (by decide) hi (by decide)
theorem rs58 (M : isM W) {i : Nat} (hi : i < 64) (v : Int32) : ia_st (tm W m l) 0 58 (nI i) v = some (tm W (m2 m 58 i v) l) := tm_st M.2.2.2.2.2.2.2.2.2.2.2.2.2.2.2.2.2.2.2.1 (by decide) (by decide) hi (by decide)
theorem rl59 (M : isM W) {i : Nat} (hi : i < 64) : ia_ld (tm W m l) 0 59 (nI i) = some (m 59 i) := tm_ld M.2.2.2.2.2.2.2.2.2.2.2.2.2.2.2.2.2.2.2.2.1 (by decide) (by decide) hi (by decide)
theorem rs59 (M : isM W) {i : Nat} (hi : i < 64) (v : Int32) : ia_st (tm W m l) 0 59 (nI i) v = some (tm W (m2 m 59 i v) l) := tm_st M.2.2.2.2.2.2.2.2.2.2.2.2.2.2.2.2.2.2.2.2.1 (by decide) (by decide) hi (by decide)
theorem rl60 (M : isM W) {i : Nat} (hi : i < 64) : ia_ld (tm W m l) 0 60 (nI i) = some (m 60 i) := tm_ld M.2.2.2.2.2.2.2.2.2.2.2.2.2.2.2.2.2.2.2.2.2 (by decide) (by decide) hi (by decide)
theorem rs60 (M : isM W) {i : Nat} (hi : i < 64) (v : Int32) : ia_st (tm W m l) 0 60 (nI i) v = some (tm W (m2 m 60 i v) l) := tm_st M.2.2.2.2.2.2.2.2.2.2.2.2.2.2.2.2.2.2.2.2.2 (by decide) (by decide) hi (by decide)
theorem m1_w (m : Nat → Nat → Int32) (a : Nat) (f : Nat → Int32) (i : Nat) (v : Int32) : m2 (m1 m a f) a i v = m1 m a (upd f i v) := by
  funext a' k
  by_cases ha : a' = a
  · subst ha
    by_cases hk : k = i
    · subst hk
      rw [m2_s, m1_s]
      simp [upd]
    · rw [m2_k _ _ _ _ hk, m1_s, m1_s]
      simp [upd, hk]
  · rw [m2_a _ _ _ _ ha, m1_a _ _ ha, m1_a _ _ ha]
theorem m1_e (m : Nat → Nat → Int32) (a : Nat) : m1 m a (m a) = m := by
  funext a'
  by_cases ha : a' = a
  · subst ha
    rw [m1_s]
  · rw [m1_a _ _ ha]
/-- the row w -/
theorem wl (M : isM W) {i : Nat} (hi : i < 1108) : ia_ld (tm W (m1 m 40 f) l) 0 40 (nI i) = some (f i) := by rw [rl40 M hi, m1_s]
theorem wst (M : isM W) {i : Nat} (hi : i < 1108) (v : Int32) : ia_st (tm W (m1 m 40 f) l) 0 40 (nI i) v = some (tm W (m1 m 40 (upd f i v)) l) := by rw [rs40 M hi, m1_w]
theorem wl4 (M : isM W) : ia_ld (tm W (m1 m 40 f) l) 0 40 1104 = some (f 1104) := wl M (i := 1104) (by decide)
theorem wl5 (M : isM W) : ia_ld (tm W (m1 m 40 f) l) 0 40 1105 = some (f 1105) := wl M (i := 1105) (by decide)
theorem wl6 (M : isM W) : ia_ld (tm W (m1 m 40 f) l) 0 40 1106 = some (f 1106) := wl M (i := 1106) (by decide)
theorem wl7 (M : isM W) : ia_ld (tm W (m1 m 40 f) l) 0 40 1107 = some (f 1107) := wl M (i := 1107) (by decide)
theorem ws5 (M : isM W) (v : Int32) : ia_st (tm W (m1 m 40 f) l) 0 40 1105 v = some (tm W (m1 m 40 (upd f 1105 v)) l) := wst M (i := 1105) (by decide) v
theorem ws6 (M : isM W) (v : Int32) : ia_st (tm W (m1 m 40 f) l) 0 40 1106 v = some (tm W (m1 m 40 (upd f 1106 v)) l) := wst M (i := 1106) (by decide) v
theorem ws7 (M : isM W) (v : Int32) : ia_st (tm W (m1 m 40 f) l) 0 40 1107 v = some (tm W (m1 m 40 (upd f 1107 v)) l) := wst M (i := 1107) (by decide) v
theorem ixr (b j : Nat) : (304 + 8 * nI b) + nI j = nI (304 + (8 * b + j)) := by
  rw [show (304 : Int32) + 8 * nI b = nI 304 + nI 8 * nI b from rfl, pk_mul, nI_add, nI_add, Nat.add_assoc]
theorem c79 (M : isM W) {b j : Nat} (hb : b < 100) (hj : j < 8) : cl 79 [.ref 39, .int (nI b), .int (nI j)] (tm W (m1 m 40 f) l) = some (some (.int (f (304 + (8 * b + j)))), tm W (m1 m 40 f) l) := by
  rw [q_79, rR0 M, Option.bind_some, ixr, wl M (by omega), Option.bind_some]
theorem c80 (M : isM W) {b j : Nat} (hb : b < 100) (hj : j < 8) (v : Int32) : cl 80 [.ref 39, .int (nI b), .int (nI j), .int v] (tm W (m1 m 40 f) l) = some (none, tm W (m1 m 40 (upd f (304 + (8 * b + j)) v)) l) := by
  rw [q_80, rR0 M, Option.bind_some, ixr, wst M (by omega), Option.bind_some]
theorem c79_0 (M : isM W) {b : Nat} (hb : b < 100) : cl 79 [.ref 39, .int (nI b), .int 0] (tm W (m1 m 40 f) l) = some (some (.int (f (304 + (8 * b)))), tm W (m1 m 40 f) l) := c79 (j := 0) M hb (by decide)
theorem c80_0 (M : isM W) {b : Nat} (hb : b < 100) (v : Int32) : cl 80 [.ref 39, .int (nI b), .int 0, .int v] (tm W (m1 m 40 f) l) = some (none, tm W (m1 m 40 (upd f (304 + (8 * b)) v)) l) := c80 (j := 0) M hb (by decide) v
theorem c79_1 (M : isM W) {b : Nat} (hb : b < 100) : cl 79 [.ref 39, .int (nI b), .int 1] (tm W (m1 m 40 f) l) = some (some (.int (f (304 + (8 * b + 1)))), tm W (m1 m 40 f) l) := c79 (j := 1) M hb (by decide)
theorem c80_1 (M : isM W) {b : Nat} (hb : b < 100) (v : Int32) : cl 80 [.ref 39, .int (nI b), .int 1, .int v] (tm W (m1 m 40 f) l) = some (none, tm W (m1 m 40 (upd f (304 + (8 * b + 1)) v)) l) := c80 (j := 1) M hb (by decide) v
theorem c79_2 (M : isM W) {b : Nat} (hb : b < 100) : cl 79 [.ref 39, .int (nI b), .int 2] (tm W (m1 m 40 f) l) = some (some (.int (f (304 + (8 * b + 2)))), tm W (m1 m 40 f) l) := c79 (j := 2) M hb (by decide)
theorem c80_2 (M : isM W) {b : Nat} (hb : b < 100) (v : Int32) : cl 80 [.ref 39, .int (nI b), .int 2, .int v] (tm W (m1 m 40 f) l) = some (none, tm W (m1 m 40 (upd f (304 + (8 * b + 2)) v)) l) := c80 (j := 2) M hb (by decide) v
theorem c79_3 (M : isM W) {b : Nat} (hb : b < 100) : cl 79 [.ref 39, .int (nI b), .int 3] (tm W (m1 m 40 f) l) = some (some (.int (f (304 + (8 * b + 3)))), tm W (m1 m 40 f) l) := c79 (j := 3) M hb (by decide)
theorem c80_3 (M : isM W) {b : Nat} (hb : b < 100) (v : Int32) : cl 80 [.ref 39, .int (nI b), .int 3, .int v] (tm W (m1 m 40 f) l) = some (none, tm W (m1 m 40 (upd f (304 + (8 * b + 3)) v)) l) := c80 (j := 3) M hb (by decide) v
theorem c79_4 (M : isM W) {b : Nat} (hb : b < 100) : cl 79 [.ref 39, .int (nI b), .int 4] (tm W (m1 m 40 f) l) = some (some (.int (f (304 + (8 * b + 4)))), tm W (m1 m 40 f) l) := c79 (j := 4) M hb (by decide)
theorem c80_4 (M : isM W) {b : Nat} (hb : b < 100) (v : Int32) : cl 80 [.ref 39, .int (nI b), .int 4, .int v] (tm W (m1 m 40 f) l) = some (none, tm W (m1 m 40 (upd f (304 + (8 * b + 4)) v)) l) := c80 (j := 4) M hb (by decide) v
theorem c79_5 (M : isM W) {b : Nat} (hb : b < 100) : cl 79 [.ref 39, .int (nI b), .int 5] (tm W (m1 m 40 f) l) = some (some (.int (f (304 + (8 * b + 5)))), tm W (m1 m 40 f) l) := c79 (j := 5) M hb (by decide)
theorem c80_5 (M : isM W) {b : Nat} (hb : b < 100) (v : Int32) : cl 80 [.ref 39, .int (nI b), .int 5, .int v] (tm W (m1 m 40 f) l) = some (none, tm W (m1 m 40 (upd f (304 + (8 * b + 5)) v)) l) := c80 (j := 5) M hb (by decide) v
theorem c79_6 (M : isM W) {b : Nat} (hb : b < 100) : cl 79 [.ref 39, .int (nI b), .int 6] (tm W (m1 m 40 f) l) = some (some (.int (f (304 + (8 * b + 6)))), tm W (m1 m 40 f) l) := c79 (j := 6) M hb (by decide)
theorem c80_6 (M : isM W) {b : Nat} (hb : b < 100) (v : Int32) : cl 80 [.ref 39, .int (nI b), .int 6, .int v] (tm W (m1 m 40 f) l) = some (none, tm W (m1 m 40 (upd f (304 + (8 * b + 6)) v)) l) := c80 (j := 6) M hb (by decide) v
theorem c79_7 (M : isM W) {b : Nat} (hb : b < 100) : cl 79 [.ref 39, .int (nI b), .int 7] (tm W (m1 m 40 f) l) = some (some (.int (f (304 + (8 * b + 7)))), tm W (m1 m 40 f) l) := c79 (j := 7) M hb (by decide)
theorem c80_7 (M : isM W) {b : Nat} (hb : b < 100) (v : Int32) : cl 80 [.ref 39, .int (nI b), .int 7, .int v] (tm W (m1 m 40 f) l) = some (none, tm W (m1 m 40 (upd f (304 + (8 * b + 7)) v)) l) := c80 (j := 7) M hb (by decide) v
theorem c87 (M : isM W) {b : Nat} (hb : b < 100) : cl 87 [.ref 39, .int (nI b)] (tm W (m1 m 40 f) l) = some (some (.int (if f (304 + (8 * b + 2)) ≤ 0 then 0 else 1)), tm W (m1 m 40 f) l) := by
  rw [q_87, if_pos (rok M _), c79_2 M hb, kxi_s]
  split <;> rfl
theorem c88 (M : isM W) {b : Nat} (hb : b < 100) (c : Int32) : cl 88 [.ref 39, .int (nI b), .int c] (tm W (m1 m 40 f) l) = some (some (.int (if f (304 + (8 * b + 3)) = 1 ∨ f (304 + (8 * b + 1)) = c then 1 else 0)), tm W (m1 m 40 f) l) := by
  rw [q_88, if_pos (rok M _), c79_3 M hb, kxi_s, if_pos (rok M _), c79_1 M hb, kxi_s]
  by_cases h1 : f (304 + (8 * b + 3)) = 1
  · simp [h1]
  · by_cases h2 : f (304 + (8 * b + 1)) = c <;> simp [h1, h2]
theorem c89 (M : isM W) {b : Nat} (hb : b < 100) (c : Int32) : cl 89 [.ref 39, .int (nI b), .int c] (tm W (m1 m 40 f) l) = some (some (.int (if brs (bw f) b (f (304 + (8 * b))) c then 1 else 0)), tm W (m1 m 40 f) l) := by
  rw [q_89, if_pos (rok M _), c87 M hb, kxi_s, if_pos (rok M _), c79_4 M hb, kxi_s, if_pos (rok M _), c88 M hb, kxi_s]
  by_cases h2 : f (304 + (8 * b + 2)) ≤ 0
  · simp [brs, bw, h2]
  · by_cases h4 : f (304 + (8 * b + 4)) = 1
    · simp [brs, bw, h2, h4]
    · by_cases h3 : f (304 + (8 * b + 3)) = 1
      · simp [brs, bw, h2, h4, h3]
      · by_cases h1 : f (304 + (8 * b + 1)) = c <;> simp [brs, bw, h2, h4, h3, h1]
theorem brs_its (B : Nat → Int32) (b : Nat) (p c : Int32) : (brs B b p c = true) ↔ (B (8 * b) = p ∧ brs B b (B (8 * b)) c = true) := by
  by_cases h : B (8 * b) = p
  · subst h
    simp
  · simp [brs, h]
theorem d90 (M : isM W) {N : Nat} (hN : f 1105 = nI N) (hN2 : N ≤ 100) (p c : Int32) : ∀ n i, i + n = N → dn 90 2 [some (.ref 39), some (.int p), some (.int c), some (.int (nI i))] [] (tm W (m1 m 40 f) l) = some (some (.int (fbr (bw f) p c n i)), tm W (m1 m 40 f) l)
  | 0, i, h => by
    rw [q_90_2, rR0 M, Option.bind_some, wl5 M, Option.bind_some, hN, if_pos (nI_le (by omega) (by omega))]
    rfl
  | n + 1, i, h => by
    rw [q_90_2, rR0 M, Option.bind_some, wl5 M, Option.bind_some, hN, if_neg (nI_ge (by omega) (by omega)), if_pos (rok M _), c79_0 M (by omega), kxi_s, if_pos (rok M _), c89 M (by omega), kxi_s, fbr]
    by_cases hp : f (304 + (8 * i)) = p
    · by_cases hb : brs (bw f) i (f (304 + (8 * i))) c = true
      · rw [if_pos hp, if_pos hb, if_neg (by decide), if_pos ((brs_its _ _ _ _).mpr ⟨hp, hb⟩)]
      · rw [if_pos hp, if_neg hb, if_pos rfl, if_neg (fun q => hb ((brs_its _ _ _ _).mp q).2), nI_1]
        exact d90 M hN hN2 p c n (i + 1) (by omega)
    · rw [if_neg hp, if_neg (fun q => hp ((brs_its _ _ _ _).mp q).1), nI_1]
      exact d90 M hN hN2 p c n (i + 1) (by omega)
theorem c90 (M : isM W) {N : Nat} (hN : f 1105 = nI N) (hN2 : N ≤ 100) (p c : Int32) : cl 90 [.ref 39, .int p, .int c] (tm W (m1 m 40 f) l) = some (some (.int (fbr (bw f) p c N 0)), tm W (m1 m 40 f) l) := by
  rw [q_90]
  exact d90 M hN hN2 p c N 0 (by omega)
theorem c91 (M : isM W) {N : Nat} (hN : f 1105 = nI N) (hN2 : N ≤ 100) (p c : Int32) : cl 91 [.ref 39, .int p, .int c] (tm W (m1 m 40 f) l) = some (some (.int (if fbr (bw f) p c N 0 = -1 then 0 else 1)), tm W (m1 m 40 f) l) := by
  rw [q_91, if_pos (rok M _), c90 M hN hN2, kxi_s]
  split <;> rfl
theorem zadd (x : Int32) : 0 + x = x := Int32.zero_add x
theorem c92 (M : isM W) {p : Nat} (hp : p < 12) (a b : Int32) : cl 92 [.ref 39, .int (nI p), .int a, .int b] (tm W (m1 m 40 f) l) = some (some (.int (if f p = a ∨ f p = b then 1 else 0)), tm W (m1 m 40 f) l) := by
  rw [q_92, rR0 M, Option.bind_some, zadd, wl M (by omega), Option.bind_some, Option.bind_some, wl M (by omega), Option.bind_some]
  by_cases h1 : f p = a
  · simp [h1]
  · by_cases h2 : f p = b <;> simp [h1, h2]
/-- v in low .. high, as longs -/
theorem c69 (a b c : Int64) (h : ia_H) : cl 69 [.long a, .long b, .long c] h = some (some (.int (if b ≤ a ∧ a ≤ c then 1 else 0)), h) := by
  rw [q_69]
  have e1 : lg_cmp a b < 0 ↔ ¬ b ≤ a := by rw [← lg_cmp_ge]; exact Int32.not_le.symm
  have e2 : 0 < lg_cmp a c ↔ ¬ a ≤ c := by rw [← lg_cmp_le]; exact Int32.not_le.symm
  by_cases h1 : b ≤ a
  · rw [if_neg (fun q => (e1.mp q) h1)]
    by_cases h2 : a ≤ c
    · rw [if_neg (fun q => (e2.mp q) h2), if_pos ⟨h1, h2⟩]
    · rw [if_pos (e2.mpr h2), if_neg (fun q => h2 q.2)]
  · rw [if_pos (e1.mpr h1), if_neg (fun q => h1 q.1)]
end MOH

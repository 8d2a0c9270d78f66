/-! THE COMPONENT's State, in typed memory: a State at o has its rows at o + 1 .. o + 7; what it holds is told as ONE row f, in the order of the reference's own row w:
teams 0, cautions 12, cards of teams 60, cards of players 72, played 108, entries 124, bans 304, players 1104, bans 1105, matches 1106, entries ever 1107 -/
def isSt (W : tm_W) (o : Nat) : Prop :=
  tm_sh W o = .inl (5, [none, none, none, none, some (o + 1), some (o + 2), some (o + 3), some (o + 4), some (o + 5), some (o + 6), some (o + 7)]) ∧
  tm_sh W (o + 1) = .inr (0, 12) ∧ tm_sh W (o + 2) = .inr (0, 48) ∧ tm_sh W (o + 3) = .inr (0, 16) ∧ tm_sh W (o + 4) = .inr (0, 36) ∧ tm_sh W (o + 5) = .inr (0, 12) ∧ tm_sh W (o + 6) = .inr (0, 800) ∧ tm_sh W (o + 7) = .inr (0, 180)
/-- memory with a State f laid at o -/
def wv (m : Nat → Nat → Int32) (o : Nat) (f : Nat → Int32) : Nat → Nat → Int32 := fun a k =>
  if a = o then (if k = 0 then f 1104 else if k = 1 then f 1106 else if k = 2 then f 1105 else if k = 3 then f 1107 else m a k)
  else if a = o + 1 then (if k < 12 then f k else m a k)
  else if a = o + 2 then (if k < 48 then f (12 + k) else m a k)
  else if a = o + 3 then (if k < 16 then f (108 + k) else m a k)
  else if a = o + 4 then (if k < 36 then f (72 + k) else m a k)
  else if a = o + 5 then (if k < 12 then f (60 + k) else m a k)
  else if a = o + 6 then (if k < 800 then f (304 + k) else m a k)
  else if a = o + 7 then (if k < 180 then f (124 + k) else m a k)
  else m a k
/-- the State at o as a row -/
def vw (m : Nat → Nat → Int32) (o : Nat) : Nat → Int32 := fun i =>
  if i < 12 then m (o + 1) i else if i < 60 then m (o + 2) (i - 12) else if i < 72 then m (o + 5) (i - 60) else if i < 108 then m (o + 4) (i - 72) else if i < 124 then m (o + 3) (i - 108) else if i < 304 then m (o + 7) (i - 124)
  else if i < 1104 then m (o + 6) (i - 304) else if i = 1104 then m o 0 else if i = 1105 then m o 2 else if i = 1106 then m o 1 else m o 3
theorem wv_out (m : Nat → Nat → Int32) {o a : Nat} (f : Nat → Int32) (h : a < o ∨ o + 8 ≤ a) : wv m o f a = m a := by
  funext k
  unfold wv
  rw [if_neg (by omega), if_neg (by omega), if_neg (by omega), if_neg (by omega), if_neg (by omega), if_neg (by omega), if_neg (by omega), if_neg (by omega)]
theorem wv_cong (m : Nat → Nat → Int32) (o : Nat) {f g : Nat → Int32} (h : ∀ i, i < 1108 → f i = g i) : wv m o f = wv m o g := by
  funext a k
  unfold wv
  rw [h 1104 (by decide), h 1105 (by decide), h 1106 (by decide), h 1107 (by decide)]
  split
  · rfl
  · split
    · split
      · exact h _ (by omega)
      · rfl
    · split
      · split
        · exact h _ (by omega)
        · rfl
      · split
        · split
          · exact h _ (by omega)
          · rfl
        · split
          · split
            · exact h _ (by omega)
            · rfl
          · split
            · split
              · exact h _ (by omega)
              · rfl
            · split
              · split
                · exact h _ (by omega)
                · rfl
              · split
                · split
                  · exact h _ (by omega)
                  · rfl
                · rfl
theorem wv_f0 (m : Nat → Nat → Int32) (o : Nat) (f : Nat → Int32) : wv m o f o 0 = f 1104 := by
  unfold wv
  rw [if_pos rfl]
  simp
theorem wv_f1 (m : Nat → Nat → Int32) (o : Nat) (f : Nat → Int32) : wv m o f o 1 = f 1106 := by
  unfold wv
  rw [if_pos rfl]
  simp
theorem wv_f2 (m : Nat → Nat → Int32) (o : Nat) (f : Nat → Int32) : wv m o f o 2 = f 1105 := by
  unfold wv
  rw [if_pos rfl]
  simp
theorem wv_f3 (m : Nat → Nat → Int32) (o : Nat) (f : Nat → Int32) : wv m o f o 3 = f 1107 := by
  unfold wv
  rw [if_pos rfl]
  simp
theorem wv_r1 (m : Nat → Nat → Int32) (o : Nat) (f : Nat → Int32) {k : Nat} (h : k < 12) : wv m o f (o + 1) k = f k := by
  unfold wv
  rw [if_neg (by omega), if_pos rfl, if_pos h]
theorem wv_r2 (m : Nat → Nat → Int32) (o : Nat) (f : Nat → Int32) {k : Nat} (h : k < 48) : wv m o f (o + 2) k = f (12 + k) := by
  unfold wv
  rw [if_neg (by omega), if_neg (by omega), if_pos rfl, if_pos h]
theorem wv_r3 (m : Nat → Nat → Int32) (o : Nat) (f : Nat → Int32) {k : Nat} (h : k < 16) : wv m o f (o + 3) k = f (108 + k) := by
  unfold wv
  rw [if_neg (by omega), if_neg (by omega), if_neg (by omega), if_pos rfl, if_pos h]
theorem wv_r4 (m : Nat → Nat → Int32) (o : Nat) (f : Nat → Int32) {k : Nat} (h : k < 36) : wv m o f (o + 4) k = f (72 + k) := by
  unfold wv
  rw [if_neg (by omega), if_neg (by omega), if_neg (by omega), if_neg (by omega), if_pos rfl, if_pos h]
theorem wv_r5 (m : Nat → Nat → Int32) (o : Nat) (f : Nat → Int32) {k : Nat} (h : k < 12) : wv m o f (o + 5) k = f (60 + k) := by
  unfold wv
  rw [if_neg (by omega), if_neg (by omega), if_neg (by omega), if_neg (by omega), if_neg (by omega), if_pos rfl, if_pos h]
theorem wv_r6 (m : Nat → Nat → Int32) (o : Nat) (f : Nat → Int32) {k : Nat} (h : k < 800) : wv m o f (o + 6) k = f (304 + k) := by
  unfold wv
  rw [if_neg (by omega), if_neg (by omega), if_neg (by omega), if_neg (by omega), if_neg (by omega), if_neg (by omega), if_pos rfl, if_pos h]
theorem wv_r7 (m : Nat → Nat → Int32) (o : Nat) (f : Nat → Int32) {k : Nat} (h : k < 180) : wv m o f (o + 7) k = f (124 + k) := by
  unfold wv
  rw [if_neg (by omega), if_neg (by omega), if_neg (by omega), if_neg (by omega), if_neg (by omega), if_neg (by omega), if_neg (by omega), if_pos rfl, if_pos h]
theorem wv_w0 (m : Nat → Nat → Int32) (o : Nat) (f : Nat → Int32) (v : Int32) : m2 (wv m o f) o 0 v = wv m o (upd f 1104 v) := by
  funext a i
  by_cases ha : a = o
  · subst ha
    by_cases hi : i = 0
    · subst hi
      rw [m2_s, wv_f0]
      simp [upd]
    · rw [m2_k _ _ _ _ hi]
      unfold wv
      simp only [if_true, upd]
      simp only [show ¬ (1104 : Nat) = 1105 by decide, show ¬ (1104 : Nat) = 1106 by decide, show ¬ (1104 : Nat) = 1107 by decide, show ¬ (1105 : Nat) = 1104 by decide, show ¬ (1105 : Nat) = 1106 by decide, show ¬ (1105 : Nat) = 1107 by decide, show ¬ (1106 : Nat) = 1104 by decide, show ¬ (1106 : Nat) = 1105 by decide, show ¬ (1106 : Nat) = 1107 by decide, show ¬ (1107 : Nat) = 1104 by decide, show ¬ (1107 : Nat) = 1105 by decide, show ¬ (1107 : Nat) = 1106 by decide, if_false, hi]
  · rw [m2_a _ _ _ _ ha]
    unfold wv
    simp only [if_neg ha, upd]
    repeat' split
    all_goals first | rfl | omega
theorem wv_w1 (m : Nat → Nat → Int32) (o : Nat) (f : Nat → Int32) (v : Int32) : m2 (wv m o f) o 1 v = wv m o (upd f 1106 v) := by
  funext a i
  by_cases ha : a = o
  · subst ha
    by_cases hi : i = 1
    · subst hi
      rw [m2_s, wv_f1]
      simp [upd]
    · rw [m2_k _ _ _ _ hi]
      unfold wv
      simp only [if_true, upd]
      simp only [show ¬ (1104 : Nat) = 1105 by decide, show ¬ (1104 : Nat) = 1106 by decide, show ¬ (1104 : Nat) = 1107 by decide, show ¬ (1105 : Nat) = 1104 by decide, show ¬ (1105 : Nat) = 1106 by decide, show ¬ (1105 : Nat) = 1107 by decide, show ¬ (1106 : Nat) = 1104 by decide, show ¬ (1106 : Nat) = 1105 by decide, show ¬ (1106 : Nat) = 1107 by decide, show ¬ (1107 : Nat) = 1104 by decide, show ¬ (1107 : Nat) = 1105 by decide, show ¬ (1107 : Nat) = 1106 by decide, if_false, hi]
  · rw [m2_a _ _ _ _ ha]
    unfold wv
    simp only [if_neg ha, upd]
    repeat' split
    all_goals first | rfl | omega
theorem wv_w2 (m : Nat → Nat → Int32) (o : Nat) (f : Nat → Int32) (v : Int32) : m2 (wv m o f) o 2 v = wv m o (upd f 1105 v) := by
  funext a i
  by_cases ha : a = o
  · subst ha
    by_cases hi : i = 2
    · subst hi
      rw [m2_s, wv_f2]
      simp [upd]
    · rw [m2_k _ _ _ _ hi]
      unfold wv
      simp only [if_true, upd]
      simp only [show ¬ (1104 : Nat) = 1105 by decide, show ¬ (1104 : Nat) = 1106 by decide, show ¬ (1104 : Nat) = 1107 by decide, show ¬ (1105 : Nat) = 1104 by decide, show ¬ (1105 : Nat) = 1106 by decide, show ¬ (1105 : Nat) = 1107 by decide, show ¬ (1106 : Nat) = 1104 by decide, show ¬ (1106 : Nat) = 1105 by decide, show ¬ (1106 : Nat) = 1107 by decide, show ¬ (1107 : Nat) = 1104 by decide, show ¬ (1107 : Nat) = 1105 by decide, show ¬ (1107 : Nat) = 1106 by decide, if_false, hi]
  · rw [m2_a _ _ _ _ ha]
    unfold wv
    simp only [if_neg ha, upd]
    repeat' split
    all_goals first | rfl | omega
theorem wv_w3 (m : Nat → Nat → Int32) (o : Nat) (f : Nat → Int32) (v : Int32) : m2 (wv m o f) o 3 v = wv m o (upd f 1107 v) := by
  funext a i
  by_cases ha : a = o
  · subst ha
    by_cases hi : i = 3
    · subst hi
      rw [m2_s, wv_f3]
      simp [upd]
    · rw [m2_k _ _ _ _ hi]
      unfold wv
      simp only [if_true, upd]
      simp only [show ¬ (1104 : Nat) = 1105 by decide, show ¬ (1104 : Nat) = 1106 by decide, show ¬ (1104 : Nat) = 1107 by decide, show ¬ (1105 : Nat) = 1104 by decide, show ¬ (1105 : Nat) = 1106 by decide, show ¬ (1105 : Nat) = 1107 by decide, show ¬ (1106 : Nat) = 1104 by decide, show ¬ (1106 : Nat) = 1105 by decide, show ¬ (1106 : Nat) = 1107 by decide, show ¬ (1107 : Nat) = 1104 by decide, show ¬ (1107 : Nat) = 1105 by decide, show ¬ (1107 : Nat) = 1106 by decide, if_false, hi]
  · rw [m2_a _ _ _ _ ha]
    unfold wv
    simp only [if_neg ha, upd]
    repeat' split
    all_goals first | rfl | omega
theorem wv_x1 (m : Nat → Nat → Int32) (o : Nat) (f : Nat → Int32) {k : Nat} (h : k < 12) (v : Int32) : m2 (wv m o f) (o + 1) k v = wv m o (upd f k v) := by
  funext a i
  by_cases ha : a = o + 1
  · subst ha
    by_cases hi : i = k
    · subst hi
      rw [m2_s, wv_r1 m o _ h]
      simp [upd]
    · rw [m2_k _ _ _ _ hi]
      by_cases hn : i < 12
      · rw [wv_r1 m o _ hn, wv_r1 m o _ hn]
        simp only [upd]
        rw [if_neg (by omega)]
      · unfold wv
        rw [if_neg (by omega), if_pos rfl, if_neg hn, if_neg (by omega), if_pos rfl, if_neg hn]
  · rw [m2_a _ _ _ _ ha]
    unfold wv
    simp only [if_neg ha, upd]
    repeat' split
    all_goals first | rfl | omega
theorem wv_x2 (m : Nat → Nat → Int32) (o : Nat) (f : Nat → Int32) {k : Nat} (h : k < 48) (v : Int32) : m2 (wv m o f) (o + 2) k v = wv m o (upd f (12 + k) v) := by
  funext a i
  by_cases ha : a = o + 2
  · subst ha
    by_cases hi : i = k
    · subst hi
      rw [m2_s, wv_r2 m o _ h]
      simp [upd]
    · rw [m2_k _ _ _ _ hi]
      by_cases hn : i < 48
      · rw [wv_r2 m o _ hn, wv_r2 m o _ hn]
        simp only [upd]
        rw [if_neg (by omega)]
      · unfold wv
        rw [if_neg (by omega), if_neg (by omega), if_pos rfl, if_neg hn, if_neg (by omega), if_neg (by omega), if_pos rfl, if_neg hn]
  · rw [m2_a _ _ _ _ ha]
    unfold wv
    simp only [if_neg ha, upd]
    repeat' split
    all_goals first | rfl | omega
theorem wv_x3 (m : Nat → Nat → Int32) (o : Nat) (f : Nat → Int32) {k : Nat} (h : k < 16) (v : Int32) : m2 (wv m o f) (o + 3) k v = wv m o (upd f (108 + k) v) := by
  funext a i
  by_cases ha : a = o + 3
  · subst ha
    by_cases hi : i = k
    · subst hi
      rw [m2_s, wv_r3 m o _ h]
      simp [upd]
    · rw [m2_k _ _ _ _ hi]
      by_cases hn : i < 16
      · rw [wv_r3 m o _ hn, wv_r3 m o _ hn]
        simp only [upd]
        rw [if_neg (by omega)]
      · unfold wv
        rw [if_neg (by omega), if_neg (by omega), if_neg (by omega), if_pos rfl, if_neg hn, if_neg (by omega), if_neg (by omega), if_neg (by omega), if_pos rfl, if_neg hn]
  · rw [m2_a _ _ _ _ ha]
    unfold wv
    simp only [if_neg ha, upd]
    repeat' split
    all_goals first | rfl | omega
theorem wv_x4 (m : Nat → Nat → Int32) (o : Nat) (f : Nat → Int32) {k : Nat} (h : k < 36) (v : Int32) : m2 (wv m o f) (o + 4) k v = wv m o (upd f (72 + k) v) := by
  funext a i
  by_cases ha : a = o + 4
  · subst ha
    by_cases hi : i = k
    · subst hi
      rw [m2_s, wv_r4 m o _ h]
      simp [upd]
    · rw [m2_k _ _ _ _ hi]
      by_cases hn : i < 36
      · rw [wv_r4 m o _ hn, wv_r4 m o _ hn]
        simp only [upd]
        rw [if_neg (by omega)]
      · unfold wv
        rw [if_neg (by omega), if_neg (by omega), if_neg (by omega), if_neg (by omega), if_pos rfl, if_neg hn, if_neg (by omega), if_neg (by omega), if_neg (by omega), if_neg (by omega), if_pos rfl, if_neg hn]
  · rw [m2_a _ _ _ _ ha]
    unfold wv
    simp only [if_neg ha, upd]
    repeat' split
    all_goals first | rfl | omega
theorem wv_x5 (m : Nat → Nat → Int32) (o : Nat) (f : Nat → Int32) {k : Nat} (h : k < 12) (v : Int32) : m2 (wv m o f) (o + 5) k v = wv m o (upd f (60 + k) v) := by
  funext a i
  by_cases ha : a = o + 5
  · subst ha
    by_cases hi : i = k
    · subst hi
      rw [m2_s, wv_r5 m o _ h]
      simp [upd]
    · rw [m2_k _ _ _ _ hi]
      by_cases hn : i < 12
      · rw [wv_r5 m o _ hn, wv_r5 m o _ hn]
        simp only [upd]
        rw [if_neg (by omega)]
      · unfold wv
        rw [if_neg (by omega), if_neg (by omega), if_neg (by omega), if_neg (by omega), if_neg (by omega), if_pos rfl, if_neg hn, if_neg (by omega), if_neg (by omega), if_neg (by omega), if_neg (by omega), if_neg (by omega), if_pos rfl, if_neg hn]
  · rw [m2_a _ _ _ _ ha]
    unfold wv
    simp only [if_neg ha, upd]
    repeat' split
    all_goals first | rfl | omega
theorem wv_x6 (m : Nat → Nat → Int32) (o : Nat) (f : Nat → Int32) {k : Nat} (h : k < 800) (v : Int32) : m2 (wv m o f) (o + 6) k v = wv m o (upd f (304 + k) v) := by
  funext a i
  by_cases ha : a = o + 6
  · subst ha
    by_cases hi : i = k
    · subst hi
      rw [m2_s, wv_r6 m o _ h]
      simp [upd]
    · rw [m2_k _ _ _ _ hi]
      by_cases hn : i < 800
      · rw [wv_r6 m o _ hn, wv_r6 m o _ hn]
        simp only [upd]
        rw [if_neg (by omega)]
      · unfold wv
        rw [if_neg (by omega), if_neg (by omega), if_neg (by omega), if_neg (by omega), if_neg (by omega), if_neg (by omega), if_pos rfl, if_neg hn, if_neg (by omega), if_neg (by omega), if_neg (by omega), if_neg (by omega), if_neg (by omega), if_neg (by omega), if_pos rfl, if_neg hn]
  · rw [m2_a _ _ _ _ ha]
    unfold wv
    simp only [if_neg ha, upd]
    repeat' split
    all_goals first | rfl | omega
theorem wv_x7 (m : Nat → Nat → Int32) (o : Nat) (f : Nat → Int32) {k : Nat} (h : k < 180) (v : Int32) : m2 (wv m o f) (o + 7) k v = wv m o (upd f (124 + k) v) := by
  funext a i
  by_cases ha : a = o + 7
  · subst ha
    by_cases hi : i = k
    · subst hi
      rw [m2_s, wv_r7 m o _ h]
      simp [upd]
    · rw [m2_k _ _ _ _ hi]
      by_cases hn : i < 180
      · rw [wv_r7 m o _ hn, wv_r7 m o _ hn]
        simp only [upd]
        rw [if_neg (by omega)]
      · unfold wv
        rw [if_neg (by omega), if_neg (by omega), if_neg (by omega), if_neg (by omega), if_neg (by omega), if_neg (by omega), if_neg (by omega), if_pos rfl, if_neg hn, if_neg (by omega), if_neg (by omega), if_neg (by omega), if_neg (by omega), if_neg (by omega), if_neg (by omega), if_neg (by omega), if_pos rfl, if_neg hn]
  · rw [m2_a _ _ _ _ ha]
    unfold wv
    simp only [if_neg ha, upd]
    repeat' split
    all_goals first | rfl | omega
section STH
variable {W : tm_W} {m : Nat → Nat → Int32} {l : Nat → Nat → Int64} {o : Nat} {f : Nat → Int32}
theorem sI0 (S : isSt W o) : ia_gI (tm W (wv m o f) l) 5 o 0 = some (f 1104) := by rw [tm_gI S.1 rfl, wv_f0]
theorem sp0 (S : isSt W o) (v : Int32) : ia_pF (tm W (wv m o f) l) 5 o 0 (.int v) = some (tm W (wv m o (upd f 1104 v)) l) := by rw [tm_pI S.1 rfl, wv_w0]
theorem sI1 (S : isSt W o) : ia_gI (tm W (wv m o f) l) 5 o 1 = some (f 1106) := by rw [tm_gI S.1 rfl, wv_f1]
theorem sp1 (S : isSt W o) (v : Int32) : ia_pF (tm W (wv m o f) l) 5 o 1 (.int v) = some (tm W (wv m o (upd f 1106 v)) l) := by rw [tm_pI S.1 rfl, wv_w1]
theorem sI2 (S : isSt W o) : ia_gI (tm W (wv m o f) l) 5 o 2 = some (f 1105) := by rw [tm_gI S.1 rfl, wv_f2]
theorem sp2 (S : isSt W o) (v : Int32) : ia_pF (tm W (wv m o f) l) 5 o 2 (.int v) = some (tm W (wv m o (upd f 1105 v)) l) := by rw [tm_pI S.1 rfl, wv_w2]
theorem sI3 (S : isSt W o) : ia_gI (tm W (wv m o f) l) 5 o 3 = some (f 1107) := by rw [tm_gI S.1 rfl, wv_f3]
theorem sp3 (S : isSt W o) (v : Int32) : ia_pF (tm W (wv m o f) l) 5 o 3 (.int v) = some (tm W (wv m o (upd f 1107 v)) l) := by rw [tm_pI S.1 rfl, wv_w3]
theorem sR4 (S : isSt W o) : ia_gR (tm W m l) 5 o 4 = some (o + 1) := tm_gR S.1 rfl
theorem sR5 (S : isSt W o) : ia_gR (tm W m l) 5 o 5 = some (o + 2) := tm_gR S.1 rfl
theorem sR6 (S : isSt W o) : ia_gR (tm W m l) 5 o 6 = some (o + 3) := tm_gR S.1 rfl
theorem sR7 (S : isSt W o) : ia_gR (tm W m l) 5 o 7 = some (o + 4) := tm_gR S.1 rfl
theorem sR8 (S : isSt W o) : ia_gR (tm W m l) 5 o 8 = some (o + 5) := tm_gR S.1 rfl
theorem sR9 (S : isSt W o) : ia_gR (tm W m l) 5 o 9 = some (o + 6) := tm_gR S.1 rfl
theorem sR10 (S : isSt W o) : ia_gR (tm W m l) 5 o 10 = some (o + 7) := tm_gR S.1 rfl
theorem sok (S : isSt W o) (as : List Value) : ia_ok (tm W m l) 5 (.ref o :: as) = true := tm_ok S.1 (by decide)
theorem sl1 (S : isSt W o) {i : Nat} (hi : i < 12) : ia_ld (tm W (wv m o f) l) 0 (o + 1) (nI i) = some (f i) := by rw [tm_ld S.2.1 (by decide) (by decide) hi (by decide), wv_r1 m o f hi]
theorem ss1 (S : isSt W o) {i : Nat} (hi : i < 12) (v : Int32) : ia_st (tm W (wv m o f) l) 0 (o + 1) (nI i) v = some (tm W (wv m o (upd f i v)) l) := by rw [tm_st S.2.1 (by decide) (by decide) hi (by decide), wv_x1 m o f hi]
theorem sn1 (S : isSt W o) : ia_len (tm W m l) (o + 1) = some (nI 12) := tm_len S.2.1 (by decide)
theorem sl2 (S : isSt W o) {i : Nat} (hi : i < 48) : ia_ld (tm W (wv m o f) l) 0 (o + 2) (nI i) = some (f (12 + i)) := by rw [tm_ld S.2.2.1 (by decide) (by decide) hi (by decide), wv_r2 m o f hi]
theorem ss2 (S : isSt W o) {i : Nat} (hi : i < 48) (v : Int32) : ia_st (tm W (wv m o f) l) 0 (o + 2) (nI i) v = some (tm W (wv m o (upd f (12 + i) v)) l) := by rw [tm_st S.2.2.1 (by decide) (by decide) hi (by decide), wv_x2 m o f hi]
theorem sn2 (S : isSt W o) : ia_len (tm W m l) (o + 2) = some (nI 48) := tm_len S.2.2.1 (by decide)
theorem sl3 (S : isSt W o) {i : Nat} (hi : i < 16) : ia_ld (tm W (wv m o f) l) 0 (o + 3) (nI i) = some (f (108 + i)) := by rw [tm_ld S.2.2.2.1 (by decide) (by decide) hi (by decide), wv_r3 m o f hi]
theorem ss3 (S : isSt W o) {i : Nat} (hi : i < 16) (v : Int32) : ia_st (tm W (wv m o f) l) 0 (o + 3) (nI i) v = some (tm W (wv m o (upd f (108 + i) v)) l) := by rw [tm_st S.2.2.2.1 (by decide) (by decide) hi (by decide), wv_x3 m o f hi]
theorem sn3 (S : isSt W o) : ia_len (tm W m l) (o + 3) = some (nI 16) := tm_len S.2.2.2.1 (by decide)
theorem sl4 (S : isSt W o) {i : Nat} (hi : i < 36) : ia_ld (tm W (wv m o f) l) 0 (o + 4) (nI i) = some (f (72 + i)) := by rw [tm_ld S.2.2.2.2.1 (by decide) (by decide) hi (by decide), wv_r4 m o f hi]
theorem ss4 (S : isSt W o) {i : Nat} (hi : i < 36) (v : Int32) : ia_st (tm W (wv m o f) l) 0 (o + 4) (nI i) v = some (tm W (wv m o (upd f (72 + i) v)) l) := by rw [tm_st S.2.2.2.2.1 (by decide) (by decide) hi (by decide), wv_x4 m o f hi]
theorem sn4 (S : isSt W o) : ia_len (tm W m l) (o + 4) = some (nI 36) := tm_len S.2.2.2.2.1 (by decide)
theorem sl5 (S : isSt W o) {i : Nat} (hi : i < 12) : ia_ld (tm W (wv m o f) l) 0 (o + 5) (nI i) = some (f (60 + i)) := by rw [tm_ld S.2.2.2.2.2.1 (by decide) (by decide) hi (by decide), wv_r5 m o f hi]
theorem ss5 (S : isSt W o) {i : Nat} (hi : i < 12) (v : Int32) : ia_st (tm W (wv m o f) l) 0 (o + 5) (nI i) v = some (tm W (wv m o (upd f (60 + i) v)) l) := by rw [tm_st S.2.2.2.2.2.1 (by decide) (by decide) hi (by decide), wv_x5 m o f hi]
theorem sn5 (S : isSt W o) : ia_len (tm W m l) (o + 5) = some (nI 12) := tm_len S.2.2.2.2.2.1 (by decide)
theorem sl6 (S : isSt W o) {i : Nat} (hi : i < 800) : ia_ld (tm W (wv m o f) l) 0 (o + 6) (nI i) = some (f (304 + i)) := by rw [tm_ld S.2.2.2.2.2.2.1 (by decide) (by decide) hi (by decide), wv_r6 m o f hi]
theorem ss6 (S : isSt W o) {i : Nat} (hi : i < 800) (v : Int32) : ia_st (tm W (wv m o f) l) 0 (o + 6) (nI i) v = some (tm W (wv m o (upd f (304 + i) v)) l) := by rw [tm_st S.2.2.2.2.2.2.1 (by decide) (by decide) hi (by decide), wv_x6 m o f hi]
theorem sn6 (S : isSt W o) : ia_len (tm W m l) (o + 6) = some (nI 800) := tm_len S.2.2.2.2.2.2.1 (by decide)
theorem sl7 (S : isSt W o) {i : Nat} (hi : i < 180) : ia_ld (tm W (wv m o f) l) 0 (o + 7) (nI i) = some (f (124 + i)) := by rw [tm_ld S.2.2.2.2.2.2.2 (by decide) (by decide) hi (by decide), wv_r7 m o f hi]
theorem ss7 (S : isSt W o) {i : Nat} (hi : i < 180) (v : Int32) : ia_st (tm W (wv m o f) l) 0 (o + 7) (nI i) v = some (tm W (wv m o (upd f (124 + i) v)) l) := by rw [tm_st S.2.2.2.2.2.2.2 (by decide) (by decide) hi (by decide), wv_x7 m o f hi]
theorem sn7 (S : isSt W o) : ia_len (tm W m l) (o + 7) = some (nI 180) := tm_len S.2.2.2.2.2.2.2 (by decide)
end STH
theorem ix (b j : Nat) (k : Nat) : nI b * nI k + nI j = nI (k * b + j) := by rw [pk_mul, nI_add, Nat.mul_comm]
theorem ix8 (b j : Nat) : nI b * 8 + nI j = nI (8 * b + j) := ix b j 8
theorem ix4 (b j : Nat) : nI b * 4 + nI j = nI (4 * b + j) := ix b j 4
theorem ix3 (b j : Nat) : nI b * 3 + nI j = nI (3 * b + j) := ix b j 3
theorem ix12 (b j : Nat) : nI b * 12 + nI j = nI (12 * b + j) := ix b j 12
/-- a fold from i on, n times -/
def fo {σ : Type} (f : Nat → σ → σ) : Nat → Nat → σ → σ
  | 0, _, s => s
  | n + 1, i, s => fo f n (i + 1) (f i s)
theorem fo_cong {σ : Type} {f g : Nat → σ → σ} : ∀ (n i : Nat) (s : σ), (∀ j s, i ≤ j → j < i + n → f j s = g j s) → fo f n i s = fo g n i s
  | 0, _, _, _ => rfl
  | n + 1, i, s, h => by
    rw [fo, fo, h i s (Nat.le_refl _) (by omega)]
    exact fo_cong n (i + 1) _ fun j s h1 h2 => h j s (by omega) (by omega)
/-- bans, as rows of eight -/
def brs (B : Nat → Int32) (b : Nat) (p c : Int32) : Bool := decide (B (8 * b) = p) && decide (¬ B (8 * b + 2) ≤ 0) && (decide (B (8 * b + 3) = 1) || decide (B (8 * b + 1) = c)) && !decide (B (8 * b + 4) = 1)
def cns (B : Nat → Int32) (b : Nat) (p c : Int32) : Bool := decide (B (8 * b) = p) && decide (¬ B (8 * b + 2) ≤ 0) && (decide (B (8 * b + 3) = 1) || decide (B (8 * b + 1) = c))
/-- the bans of a row -/
def bw (f : Nat → Int32) : Nat → Int32 := fun i => f (304 + i)
/-- the first that bars, from i on, n to go; -1 if none does -/
def fbr (B : Nat → Int32) (p c : Int32) : Nat → Nat → Int32
  | 0, _ => -1
  | n + 1, i => if brs B i p c then nI i else fbr B p c n (i + 1)
section STC
variable {W : tm_W} {m : Nat → Nat → Int32} {l : Nat → Nat → Int64} {o : Nat} {f : Nat → Int32}
theorem c216 (S : isSt W o) {b j : Nat} (hb : b < 100) (hj : j < 8) : cl 216 [.ref o, .int (nI b), .int (nI j)] (tm W (wv m o f) l) = some (some (.int (f (304 + (8 * b + j)))), tm W (wv m o f) l) := by
  rw [q_216, sR9 S, Option.bind_some, ix8, sl6 S (by omega), Option.bind_some]
theorem c217 (S : isSt W o) {b j : Nat} (hb : b < 100) (hj : j < 8) (v : Int32) : cl 217 [.ref o, .int (nI b), .int (nI j), .int v] (tm W (wv m o f) l) = some (none, tm W (wv m o (upd f (304 + (8 * b + j)) v)) l) := by
  rw [q_217, sR9 S, Option.bind_some, ix8, ss6 S (by omega), Option.bind_some]
theorem c216_0 (S : isSt W o) {b : Nat} (hb : b < 100) : cl 216 [.ref o, .int (nI b), .int 0] (tm W (wv m o f) l) = some (some (.int (f (304 + (8 * b)))), tm W (wv m o f) l) := c216 (j := 0) S hb (by decide)
theorem c217_0 (S : isSt W o) {b : Nat} (hb : b < 100) (v : Int32) : cl 217 [.ref o, .int (nI b), .int 0, .int v] (tm W (wv m o f) l) = some (none, tm W (wv m o (upd f (304 + (8 * b)) v)) l) := c217 (j := 0) S hb (by decide) v
theorem c216_1 (S : isSt W o) {b : Nat} (hb : b < 100) : cl 216 [.ref o, .int (nI b), .int 1] (tm W (wv m o f) l) = some (some (.int (f (304 + (8 * b + 1)))), tm W (wv m o f) l) := c216 (j := 1) S hb (by decide)
theorem c217_1 (S : isSt W o) {b : Nat} (hb : b < 100) (v : Int32) : cl 217 [.ref o, .int (nI b), .int 1, .int v] (tm W (wv m o f) l) = some (none, tm W (wv m o (upd f (304 + (8 * b + 1)) v)) l) := c217 (j := 1) S hb (by decide) v
theorem c216_2 (S : isSt W o) {b : Nat} (hb : b < 100) : cl 216 [.ref o, .int (nI b), .int 2] (tm W (wv m o f) l) = some (some (.int (f (304 + (8 * b + 2)))), tm W (wv m o f) l) := c216 (j := 2) S hb (by decide)
theorem c217_2 (S : isSt W o) {b : Nat} (hb : b < 100) (v : Int32) : cl 217 [.ref o, .int (nI b), .int 2, .int v] (tm W (wv m o f) l) = some (none, tm W (wv m o (upd f (304 + (8 * b + 2)) v)) l) := c217 (j := 2) S hb (by decide) v
theorem c216_3 (S : isSt W o) {b : Nat} (hb : b < 100) : cl 216 [.ref o, .int (nI b), .int 3] (tm W (wv m o f) l) = some (some (.int (f (304 + (8 * b + 3)))), tm W (wv m o f) l) := c216 (j := 3) S hb (by decide)
theorem c217_3 (S : isSt W o) {b : Nat} (hb : b < 100) (v : Int32) : cl 217 [.ref o, .int (nI b), .int 3, .int v] (tm W (wv m o f) l) = some (none, tm W (wv m o (upd f (304 + (8 * b + 3)) v)) l) := c217 (j := 3) S hb (by decide) v
theorem c216_4 (S : isSt W o) {b : Nat} (hb : b < 100) : cl 216 [.ref o, .int (nI b), .int 4] (tm W (wv m o f) l) = some (some (.int (f (304 + (8 * b + 4)))), tm W (wv m o f) l) := c216 (j := 4) S hb (by decide)
theorem c217_4 (S : isSt W o) {b : Nat} (hb : b < 100) (v : Int32) : cl 217 [.ref o, .int (nI b), .int 4, .int v] (tm W (wv m o f) l) = some (none, tm W (wv m o (upd f (304 + (8 * b + 4)) v)) l) := c217 (j := 4) S hb (by decide) v
theorem c216_5 (S : isSt W o) {b : Nat} (hb : b < 100) : cl 216 [.ref o, .int (nI b), .int 5] (tm W (wv m o f) l) = some (some (.int (f (304 + (8 * b + 5)))), tm W (wv m o f) l) := c216 (j := 5) S hb (by decide)
theorem c217_5 (S : isSt W o) {b : Nat} (hb : b < 100) (v : Int32) : cl 217 [.ref o, .int (nI b), .int 5, .int v] (tm W (wv m o f) l) = some (none, tm W (wv m o (upd f (304 + (8 * b + 5)) v)) l) := c217 (j := 5) S hb (by decide) v
theorem c216_6 (S : isSt W o) {b : Nat} (hb : b < 100) : cl 216 [.ref o, .int (nI b), .int 6] (tm W (wv m o f) l) = some (some (.int (f (304 + (8 * b + 6)))), tm W (wv m o f) l) := c216 (j := 6) S hb (by decide)
theorem c217_6 (S : isSt W o) {b : Nat} (hb : b < 100) (v : Int32) : cl 217 [.ref o, .int (nI b), .int 6, .int v] (tm W (wv m o f) l) = some (none, tm W (wv m o (upd f (304 + (8 * b + 6)) v)) l) := c217 (j := 6) S hb (by decide) v
theorem c216_7 (S : isSt W o) {b : Nat} (hb : b < 100) : cl 216 [.ref o, .int (nI b), .int 7] (tm W (wv m o f) l) = some (some (.int (f (304 + (8 * b + 7)))), tm W (wv m o f) l) := c216 (j := 7) S hb (by decide)
theorem c217_7 (S : isSt W o) {b : Nat} (hb : b < 100) (v : Int32) : cl 217 [.ref o, .int (nI b), .int 7, .int v] (tm W (wv m o f) l) = some (none, tm W (wv m o (upd f (304 + (8 * b + 7)) v)) l) := c217 (j := 7) S hb (by decide) v
theorem c218 (S : isSt W o) {b : Nat} (hb : b < 100) : cl 218 [.ref o, .int (nI b)] (tm W (wv m o f) l) = some (some (.int (if f (304 + (8 * b + 2)) ≤ 0 then 0 else 1)), tm W (wv m o f) l) := by
  rw [q_218, if_pos (sok S _), c216_2 S hb, kxi_s]
  split <;> rfl
theorem c219 (S : isSt W o) {b : Nat} (hb : b < 100) : cl 219 [.ref o, .int (nI b)] (tm W (wv m o f) l) = some (some (.int (if f (304 + (8 * b + 4)) = 1 then 1 else 0)), tm W (wv m o f) l) := by
  rw [q_219, if_pos (sok S _), c216_4 S hb, kxi_s]
  split <;> rfl
theorem c220 (S : isSt W o) {b : Nat} (hb : b < 100) (p c : Int32) : cl 220 [.ref o, .int (nI b), .int p, .int c] (tm W (wv m o f) l) = some (some (.int (if cns (bw f) b p c then 1 else 0)), tm W (wv m o f) l) := by
  rw [q_220, if_pos (sok S _), c216_0 S hb, kxi_s, if_pos (sok S _), c216_2 S hb, kxi_s, if_pos (sok S _), c216_3 S hb, kxi_s, if_pos (sok S _), c216_1 S hb, kxi_s]
  by_cases h1 : f (304 + (8 * b)) = p
  · by_cases h2 : f (304 + (8 * b + 2)) ≤ 0
    · simp [cns, bw, h1, h2]
    · by_cases h3 : f (304 + (8 * b + 3)) = 1
      · simp [cns, bw, h1, h2, h3]
      · by_cases h4 : f (304 + (8 * b + 1)) = c <;> simp [cns, bw, h1, h2, h3, h4]
  · simp [cns, bw, h1]
theorem c221 (S : isSt W o) {b : Nat} (hb : b < 100) (p c : Int32) : cl 221 [.ref o, .int (nI b), .int p, .int c] (tm W (wv m o f) l) = some (some (.int (if brs (bw f) b p c then 1 else 0)), tm W (wv m o f) l) := by
  rw [q_221, if_pos (sok S _), c220 S hb, kxi_s, if_pos (sok S _), c219 S hb, kxi_s]
  have e : brs (bw f) b p c = (cns (bw f) b p c && !decide (f (304 + (8 * b + 4)) = 1)) := rfl
  rw [e]
  cases cns (bw f) b p c <;> by_cases h : f (304 + (8 * b + 4)) = 1 <;> simp [h]
theorem d222 (S : isSt W o) {N : Nat} (hN : f 1105 = nI N) (hN2 : N ≤ 100) (p c : Int32) : ∀ n i, i + n = N → dn 222 2 [some (.ref o), some (.int p), some (.int c), some (.int (nI i))] [] (tm W (wv m o f) l) = some (some (.int (fbr (bw f) p c n i)), tm W (wv m o f) l)
  | 0, i, h => by
    rw [q_222_2, sI2 S, Option.bind_some, hN, if_pos (nI_le (by omega) (by omega))]
    rfl
  | n + 1, i, h => by
    rw [q_222_2, sI2 S, Option.bind_some, hN, if_neg (nI_ge (by omega) (by omega)), if_pos (sok S _), c221 S (by omega), kxi_s, fbr]
    by_cases hb : brs (bw f) i p c = true
    · rw [if_pos hb, if_pos hb, if_neg (by decide)]
    · rw [if_neg hb, if_neg hb, if_pos rfl, nI_1]
      exact d222 S hN hN2 p c n (i + 1) (by omega)
theorem c222 (S : isSt W o) {N : Nat} (hN : f 1105 = nI N) (hN2 : N ≤ 100) (p c : Int32) : cl 222 [.ref o, .int p, .int c] (tm W (wv m o f) l) = some (some (.int (fbr (bw f) p c N 0)), tm W (wv m o f) l) := by
  rw [q_222]
  exact d222 S hN hN2 p c N 0 (by omega)
theorem fbr_cases (B : Nat → Int32) (p c : Int32) : ∀ n i, fbr B p c n i = -1 ∨ ∃ b, i ≤ b ∧ b < i + n ∧ fbr B p c n i = nI b ∧ brs B b p c = true
  | 0, i => Or.inl rfl
  | n + 1, i => by
    rw [fbr]
    by_cases h : brs B i p c = true
    · rw [if_pos h]
      exact Or.inr ⟨i, Nat.le_refl _, by omega, rfl, h⟩
    · rw [if_neg h]
      rcases fbr_cases B p c n (i + 1) with h1 | ⟨b, h1, h2, h3⟩
      · exact Or.inl h1
      · exact Or.inr ⟨b, by omega, by omega, h3⟩
theorem nI_ne_m1 {b : Nat} (h : b < 2 ^ 31) : ¬ nI b = -1 := by
  intro e
  have h1 := congrArg Int32.toInt e
  rw [nI_toInt h] at h1
  have : (-1 : Int32).toInt = -1 := by decide
  omega
theorem d223 (S : isSt W o) {N : Nat} (hN : f 1105 = nI N) (hN2 : N ≤ 100) (p c : Int32) : ∀ n i a, i + n = N → dn 223 4 [some (.ref o), some (.int p), some (.int c), some (.int a), some (.int (nI i))] [] (tm W (wv m o f) l) = some (some (.int (fo (fun b a => if brs (bw f) b p c then a + f (304 + (8 * b + 2)) else a) n i a)), tm W (wv m o f) l)
  | 0, i, a, h => by
    rw [q_223_4, sI2 S, Option.bind_some, hN, if_pos (nI_le (by omega) (by omega))]
    rfl
  | n + 1, i, a, h => by
    rw [q_223_4, sI2 S, Option.bind_some, hN, if_neg (nI_ge (by omega) (by omega)), if_pos (sok S _), c221 S (by omega), kxi_s, fo]
    by_cases hb : brs (bw f) i p c = true
    · rw [if_pos hb, if_pos hb, if_neg (by decide), if_pos (sok S _), c216_2 S (by omega), kxi_s, nI_1]
      exact d223 S hN hN2 p c n (i + 1) _ (by omega)
    · rw [if_neg hb, if_neg hb, if_pos rfl, nI_1, Int32.add_zero]
      exact d223 S hN hN2 p c n (i + 1) _ (by omega)
theorem c223 (S : isSt W o) {N : Nat} (hN : f 1105 = nI N) (hN2 : N ≤ 100) (p c : Int32) : cl 223 [.ref o, .int p, .int c] (tm W (wv m o f) l) = some (some (.int (fo (fun b a => if brs (bw f) b p c then a + f (304 + (8 * b + 2)) else a) N 0 0)), tm W (wv m o f) l) := by
  rw [q_223]
  exact d223 S hN hN2 p c N 0 0 (by omega)
theorem d224 (S : isSt W o) {N : Nat} (hN : f 1105 = nI N) (hN2 : N ≤ 100) (p c : Int32) : ∀ n i a, i + n = N → dn 224 4 [some (.ref o), some (.int p), some (.int c), some (.int a), some (.int (nI i))] [] (tm W (wv m o f) l) = some (some (.int (fo (fun b a => if cns (bw f) b p c = true ∧ f (304 + (8 * b + 4)) = 1 then a + f (304 + (8 * b + 2)) else a) n i a)), tm W (wv m o f) l)
  | 0, i, a, h => by
    rw [q_224_4, sI2 S, Option.bind_some, hN, if_pos (nI_le (by omega) (by omega))]
    rfl
  | n + 1, i, a, h => by
    rw [q_224_4, sI2 S, Option.bind_some, hN, if_neg (nI_ge (by omega) (by omega)), if_pos (sok S _), c220 S (by omega), kxi_s, fo]
    by_cases hb : cns (bw f) i p c = true
    · rw [if_pos hb, if_neg (by decide), if_pos (sok S _), c219 S (by omega), kxi_s]
      by_cases h4 : f (304 + (8 * i + 4)) = 1
      · rw [if_pos h4, if_neg (by decide), if_pos (sok S _), c216_2 S (by omega), kxi_s, nI_1, if_pos ⟨hb, h4⟩]
        exact d224 S hN hN2 p c n (i + 1) _ (by omega)
      · rw [if_neg h4, if_pos rfl, nI_1, Int32.add_zero, if_neg (fun q => h4 q.2)]
        exact d224 S hN hN2 p c n (i + 1) _ (by omega)
    · rw [if_neg hb, if_pos rfl, nI_1, Int32.add_zero, if_neg (fun q => hb q.1)]
      exact d224 S hN hN2 p c n (i + 1) _ (by omega)
theorem c224 (S : isSt W o) {N : Nat} (hN : f 1105 = nI N) (hN2 : N ≤ 100) (p c : Int32) : cl 224 [.ref o, .int p, .int c] (tm W (wv m o f) l) = some (some (.int (fo (fun b a => if cns (bw f) b p c = true ∧ f (304 + (8 * b + 4)) = 1 then a + f (304 + (8 * b + 2)) else a) N 0 0)), tm W (wv m o f) l) := by
  rw [q_224]
  exact d224 S hN hN2 p c N 0 0 (by omega)
theorem d225 (S : isSt W o) {N : Nat} (hN : f 1105 = nI N) (hN2 : N ≤ 100) (p : Int32) : ∀ n i a, i + n = N → dn 225 4 [some (.ref o), some (.int p), some (.int a), some (.int (nI i))] [] (tm W (wv m o f) l) = some (some (.int (fo (fun b a => if f (304 + (8 * b)) = p then a + f (304 + (8 * b + 2)) else a) n i a)), tm W (wv m o f) l)
  | 0, i, a, h => by
    rw [q_225_4, sI2 S, Option.bind_some, hN, if_pos (nI_le (by omega) (by omega))]
    rfl
  | n + 1, i, a, h => by
    rw [q_225_4, sI2 S, Option.bind_some, hN, if_neg (nI_ge (by omega) (by omega)), if_pos (sok S _), c216_0 S (by omega), kxi_s, fo]
    by_cases hb : f (304 + (8 * i)) = p
    · rw [if_pos hb, if_pos hb, if_pos (sok S _), c216_2 S (by omega), kxi_s, nI_1]
      exact d225 S hN hN2 p n (i + 1) _ (by omega)
    · rw [if_neg hb, if_neg hb, nI_1, Int32.add_zero]
      exact d225 S hN hN2 p n (i + 1) _ (by omega)
theorem c225 (S : isSt W o) {N : Nat} (hN : f 1105 = nI N) (hN2 : N ≤ 100) (p : Int32) : cl 225 [.ref o, .int p] (tm W (wv m o f) l) = some (some (.int (fo (fun b a => if f (304 + (8 * b)) = p then a + f (304 + (8 * b + 2)) else a) N 0 0)), tm W (wv m o f) l) := by
  rw [q_225]
  exact d225 S hN hN2 p N 0 0 (by omega)
theorem d228 (S : isSt W o) {N : Nat} (hN : f 1105 = nI N) (hN2 : N ≤ 100) : ∀ n i a, i + n = N → dn 228 4 [some (.ref o), some (.int a), some (.int (nI i))] [] (tm W (wv m o f) l) = some (some (.int (fo (fun b a => if f (304 + (8 * b + 2)) ≤ 0 then a else a + 1) n i a)), tm W (wv m o f) l)
  | 0, i, a, h => by
    rw [q_228_4, sI2 S, Option.bind_some, hN, if_pos (nI_le (by omega) (by omega))]
    rfl
  | n + 1, i, a, h => by
    rw [q_228_4, sI2 S, Option.bind_some, hN, if_neg (nI_ge (by omega) (by omega)), if_pos (sok S _), c218 S (by omega), kxi_s, fo]
    by_cases hb : f (304 + (8 * i + 2)) ≤ 0
    · rw [if_pos hb, if_pos hb, if_pos rfl, nI_1, Int32.add_zero]
      exact d228 S hN hN2 n (i + 1) _ (by omega)
    · rw [if_neg hb, if_neg hb, if_neg (by decide), nI_1]
      exact d228 S hN hN2 n (i + 1) _ (by omega)
theorem c228 (S : isSt W o) {N : Nat} (hN : f 1105 = nI N) (hN2 : N ≤ 100) : cl 228 [.ref o] (tm W (wv m o f) l) = some (some (.int (fo (fun b a => if f (304 + (8 * b + 2)) ≤ 0 then a else a + 1) N 0 0)), tm W (wv m o f) l) := by
  rw [q_228]
  exact d228 S hN hN2 N 0 0 (by omega)
theorem d229 (S : isSt W o) {N : Nat} (hN : f 1105 = nI N) (hN2 : N ≤ 100) : ∀ n i a, i + n = N → dn 229 4 [some (.ref o), some (.int a), some (.int (nI i))] [] (tm W (wv m o f) l) = some (some (.int (fo (fun b a => if f (304 + (8 * b + 4)) = 1 then a + 1 else a) n i a)), tm W (wv m o f) l)
  | 0, i, a, h => by
    rw [q_229_4, sI2 S, Option.bind_some, hN, if_pos (nI_le (by omega) (by omega))]
    rfl
  | n + 1, i, a, h => by
    rw [q_229_4, sI2 S, Option.bind_some, hN, if_neg (nI_ge (by omega) (by omega)), if_pos (sok S _), c219 S (by omega), kxi_s, fo]
    by_cases hb : f (304 + (8 * i + 4)) = 1
    · rw [if_pos hb, if_pos hb, if_neg (by decide), nI_1]
      exact d229 S hN hN2 n (i + 1) _ (by omega)
    · rw [if_neg hb, if_neg hb, if_pos rfl, nI_1, Int32.add_zero]
      exact d229 S hN hN2 n (i + 1) _ (by omega)
theorem c229 (S : isSt W o) {N : Nat} (hN : f 1105 = nI N) (hN2 : N ≤ 100) : cl 229 [.ref o] (tm W (wv m o f) l) = some (some (.int (fo (fun b a => if f (304 + (8 * b + 4)) = 1 then a + 1 else a) N 0 0)), tm W (wv m o f) l) := by
  rw [q_229]
  exact d229 S hN hN2 N 0 0 (by omega)
theorem c54 (i : Int32) (h : ia_H) : cl 54 [.int i] h = some (some (.int (1 <<< (i &&& 31))), h) := q_54 i h
theorem d207 (S : isSt W o) {N : Nat} (hN : f 1104 = nI N) (hN2 : N ≤ 12) (t : Int32) : ∀ n i a, i + n = N → dn 207 4 [some (.ref o), some (.int t), some (.int a), some (.int (nI i))] [] (tm W (wv m o f) l) = some (some (.int (fo (fun p a => if f p = t then a ||| (1 <<< (nI p &&& 31)) else a) n i a)), tm W (wv m o f) l)
  | 0, i, a, h => by
    rw [q_207_4, sI0 S, Option.bind_some, hN, if_pos (nI_le (by omega) (by omega))]
    rfl
  | n + 1, i, a, h => by
    rw [q_207_4, sI0 S, Option.bind_some, hN, if_neg (nI_ge (by omega) (by omega)), sR4 S, Option.bind_some, sl1 S (by omega), Option.bind_some, c54, kxi_s, fo]
    by_cases hb : f i = t
    · rw [if_pos hb, if_pos hb, nI_1]
      exact d207 S hN hN2 t n (i + 1) _ (by omega)
    · rw [if_neg hb, if_neg hb, nI_1]
      exact d207 S hN hN2 t n (i + 1) _ (by omega)
theorem c207 (S : isSt W o) {N : Nat} (hN : f 1104 = nI N) (hN2 : N ≤ 12) (t : Int32) : cl 207 [.ref o, .int t] (tm W (wv m o f) l) = some (some (.int (fo (fun p a => if f p = t then a ||| (1 <<< (nI p &&& 31)) else a) N 0 0)), tm W (wv m o f) l) := by
  rw [q_207]
  exact d207 S hN hN2 t N 0 0 (by omega)
theorem d226 (S : isSt W o) {N P : Nat} (hP : f 1104 = nI P) (hP2 : P ≤ 12) (hN : f 1105 = nI N) (hN2 : N ≤ 100) (t c : Int32) : ∀ n i a, i + n = P → dn 226 4 [some (.ref o), some (.int t), some (.int c), some (.int a), some (.int (nI i))] [] (tm W (wv m o f) l) = some (some (.int (fo (fun p a => if f p = t ∧ ¬ fbr (bw f) (nI p) c N 0 = -1 then a ||| (1 <<< (nI p &&& 31)) else a) n i a)), tm W (wv m o f) l)
  | 0, i, a, h => by
    rw [q_226_4, sI0 S, Option.bind_some, hP, if_pos (nI_le (by omega) (by omega))]
    rfl
  | n + 1, i, a, h => by
    rw [q_226_4, sI0 S, Option.bind_some, hP, if_neg (nI_ge (by omega) (by omega)), sR4 S, Option.bind_some, sl1 S (by omega), Option.bind_some, if_pos (sok S _), c222 S hN hN2, kxi_s, c54, kxi_s, fo]
    by_cases hb : f i = t
    · by_cases hf : fbr (bw f) (nI i) c N 0 = -1
      · rw [if_pos hb, if_pos hf, if_neg (fun q => q.2 hf), nI_1]
        exact d226 S hP hP2 hN hN2 t c n (i + 1) _ (by omega)
      · rw [if_pos hb, if_neg hf, if_pos ⟨hb, hf⟩, nI_1]
        exact d226 S hP hP2 hN hN2 t c n (i + 1) _ (by omega)
    · rw [if_neg hb, if_neg (fun q => hb q.1), nI_1]
      exact d226 S hP hP2 hN hN2 t c n (i + 1) _ (by omega)
theorem c226 (S : isSt W o) {N P : Nat} (hP : f 1104 = nI P) (hP2 : P ≤ 12) (hN : f 1105 = nI N) (hN2 : N ≤ 100) (t c : Int32) : cl 226 [.ref o, .int t, .int c] (tm W (wv m o f) l) = some (some (.int (fo (fun p a => if f p = t ∧ ¬ fbr (bw f) (nI p) c N 0 = -1 then a ||| (1 <<< (nI p &&& 31)) else a) P 0 0)), tm W (wv m o f) l) := by
  rw [q_226]
  exact d226 S hP hP2 hN hN2 t c P 0 0 (by omega)
theorem c208 (S : isSt W o) {p c : Nat} (hp : p < 12) (hc : c < 4) : cl 208 [.ref o, .int (nI p), .int (nI c)] (tm W (wv m o f) l) = some (some (.int (f (12 + (4 * p + c)))), tm W (wv m o f) l) := by
  rw [q_208, sR5 S, Option.bind_some, ix4, sl2 S (by omega), Option.bind_some]
theorem c209 (S : isSt W o) {p c : Nat} (hp : p < 12) (hc : c < 4) (v : Int32) : cl 209 [.ref o, .int (nI p), .int (nI c), .int v] (tm W (wv m o f) l) = some (none, tm W (wv m o (upd f (12 + (4 * p + c)) (f (12 + (4 * p + c)) + v))) l) := by
  rw [q_209, sR5 S, Option.bind_some, ix4, sl2 S (by omega), Option.bind_some, ss2 S (by omega), Option.bind_some]
theorem c211 (S : isSt W o) {t c : Nat} (ht : t < 4) (hc : c < 4) : cl 211 [.ref o, .int (nI t), .int (nI c)] (tm W (wv m o f) l) = some (some (.int (f (108 + (4 * t + c)))), tm W (wv m o f) l) := by
  rw [q_211, sR6 S, Option.bind_some, ix4, sl3 S (by omega), Option.bind_some]
theorem c212 (S : isSt W o) {t c : Nat} (ht : t < 4) (hc : c < 4) : cl 212 [.ref o, .int (nI t), .int (nI c)] (tm W (wv m o f) l) = some (some (.int (f (108 + (4 * t + c)) + 1)), tm W (wv m o (upd f (108 + (4 * t + c)) (f (108 + (4 * t + c)) + 1))) l) := by
  rw [q_212, sR6 S, Option.bind_some, ix4, sl3 S (by omega), Option.bind_some, ss3 S (by omega), Option.bind_some, if_pos (sok S _), c211 S ht hc, kxi_s]
  simp [upd]
theorem c215 (S : isSt W o) {t : Nat} (ht : t < 4) : cl 215 [.ref o, .int (nI t)] (tm W (wv m o f) l) = some (some (.int (f (60 + (3 * t)) + 3 * f (60 + (3 * t + 1)))), tm W (wv m o f) l) := by
  rw [q_215, sR8 S, Option.bind_some, show nI t * 3 + 0 = nI (3 * t) from ix3 t 0, sl5 S (by omega), Option.bind_some, Option.bind_some, show nI t * 3 + 1 = nI (3 * t + 1) from ix3 t 1, sl5 S (by omega), Option.bind_some]
theorem c235 (S : isSt W o) : cl 235 [.ref o] (tm W (wv m o f) l) = some (some (.int (if 60 < f 1107 then 60 else f 1107)), tm W (wv m o f) l) := by
  rw [q_235, sI3 S, Option.bind_some]
theorem d210 (S : isSt W o) : ∀ n i a, i + n = 48 → dn 210 4 [some (.ref o), some (.int a), some (.int (nI i))] [] (tm W (wv m o f) l) = some (some (.int (fo (fun j a => a + f (12 + j)) n i a)), tm W (wv m o f) l)
  | 0, i, a, h => by
    rw [q_210_4, sR5 S, Option.bind_some, sn2 S, Option.bind_some, if_pos (nI_le (by omega) (by omega))]
    rfl
  | n + 1, i, a, h => by
    rw [q_210_4, sR5 S, Option.bind_some, sn2 S, Option.bind_some, if_neg (nI_ge (by omega) (by omega)), Option.bind_some, sl2 S (by omega), Option.bind_some, fo, nI_1]
    exact d210 S n (i + 1) _ (by omega)
theorem c210 (S : isSt W o) : cl 210 [.ref o] (tm W (wv m o f) l) = some (some (.int (fo (fun j a => a + f (12 + j)) 48 0 0)), tm W (wv m o f) l) := by
  rw [q_210]
  exact d210 S 48 0 0 (by omega)
end STC

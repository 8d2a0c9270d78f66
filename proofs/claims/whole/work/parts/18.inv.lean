/-! THE INVARIANT of the law's loop, behind j calls -/
/-- cautions and matches played are counted without a loss -/
def CB (g : Nat → Int32) (B : Nat) : Prop := ∀ i, ((12 ≤ i ∧ i < 60) ∨ (108 ≤ i ∧ i < 124)) → ∃ n, n ≤ B ∧ g i = nI n
theorem CB_le {g : Nat → Int32} {B B' : Nat} (h : CB g B) (hB : B ≤ B') : CB g B' := fun i hi => by
  obtain ⟨n, h1, h2⟩ := h i hi
  exact ⟨n, by omega, h2⟩
def iNow (m : Nat → Nat → Int32) (B : Nat) : Prop := ∃ P N E, SR (vw m 13) (m 40) P N E ∧ VR (m 40) P N E ∧ E ≤ B ∧ CB (m 40) B
def iKep (m : Nat → Nat → Int32) (B : Nat) : Prop := m 0 10 = m 39 3 ∧ (m 39 3 = 0 ∨ (m 39 3 = 1 ∧ ∃ P N E, SR (vw m 29) (m 42) P N E ∧ VR (m 42) P N E ∧ E ≤ B ∧ CB (m 42) B))
/-- the acts that can be undone: the ring of the component, the row of the reference -/
def iHis (W : tm_W) (m : Nat → Nat → Int32) (B : Nat) : Prop := ∃ nx s : Nat, nx < 8 ∧ s ≤ 8 ∧ m 37 1 = nI nx ∧ m 37 2 = nI s ∧ m 39 5 = nI s ∧
  (∀ i a, i < 8 → tm_rf W 38 i = some a → 62 ≤ a ∧ a + 8 ≤ W.1 ∧ isSt W a) ∧
  (∀ i k a b, i < 8 → k < 8 → i ≠ k → tm_rf W 38 i = some a → tm_rf W 38 k = some b → a + 8 ≤ b ∨ b + 8 ≤ a) ∧
  (∀ k, k < s → ∃ a P N E, tm_rf W 38 ((nx + 8 - s + k) % 8) = some a ∧ SR (vw m a) (fun i => m 43 (1108 * k + i)) P N E ∧ VR (fun i => m 43 (1108 * k + i)) P N E ∧ E ≤ B ∧ CB (fun i => m 43 (1108 * k + i)) B)
/-- the rules of a cup: the component's row r, the reference's three -/
def iRul (r q at_ gv : Nat → Int32) (c : Nat) : Prop := (r (12 * c) = q (4 * c) ∧ (q (4 * c) = 0 ∨ q (4 * c) = 1)) ∧ (∃ n, 1 ≤ n ∧ n ≤ 9 ∧ r (12 * c + 1) = nI n ∧ q (4 * c + 1) = nI n) ∧ (∃ n, n ≤ 20 ∧ r (12 * c + 2) = nI n ∧ q (4 * c + 2) = nI n) ∧
  ∃ s, s ≤ 4 ∧ r (12 * c + 3) = nI s ∧ q (4 * c + 3) = nI s ∧ (∀ k, k < s → ∃ n g, 1 ≤ n ∧ n ≤ 20 ∧ 1 ≤ g ∧ g ≤ 9 ∧ r (12 * c + (4 + 2 * k)) = nI n ∧ at_ (4 * c + k) = nI n ∧ r (12 * c + (4 + 2 * k + 1)) = nI g ∧ gv (4 * c + k) = nI g) ∧
    (∀ k n n', k + 1 < s → at_ (4 * c + k) = nI n → at_ (4 * c + (k + 1)) = nI n' → n ≤ 20 → n' ≤ 20 → n < n')
def iTxt (m : Nat → Nat → Int32) : Prop := ∃ n, n ≤ 200 ∧ m 1 1 = nI n ∧ m 39 10 = nI n ∧ ∀ i, i < n → ∃ v, v < 256 ∧ m 2 i = nI v ∧ m 47 i = (nI v).toInt8.toInt32
def iRow (m : Nat → Nat → Int32) (l : Nat → Nat → Int64) : Prop := ∃ n, n ≤ 100 ∧ m 7 1 = nI n ∧ m 39 12 = nI n ∧ ∀ i, i < n → (m 8 i).toInt64 = l 48 i
/-- shapes and room -/
def iSh (j : Nat) (W : tm_W) : Prop := isC W ∧ isM W ∧ tm_sh W 61 = .inr (1, 1) ∧ 62 ≤ W.1 ∧ W.1 ≤ 200 + 10 * j ∧ W.2.1 ≤ 30000 + 1200 * j
def Inv (j : Nat) (W : tm_W) (m : Nat → Nat → Int32) (l : Nat → Nat → Int64) : Prop :=
  iSh j W ∧ iNow m (300 * j) ∧ iKep m (300 * j) ∧ iHis W m (300 * j) ∧ (∀ c, c < 4 → iRul (m 10) (m 44) (m 45) (m 46) c) ∧ iTxt m ∧ iRow m l
/-- one call on both sides: equal answers, and the invariant again -/
def Both (j : Nat) (W : tm_W) (m : Nat → Nat → Int32) (l : Nat → Nat → Int64) (yc yr : Nat) (ac ar : List Value) : Prop :=
  ∃ (r : Int32) (W1 : tm_W) (m1' : Nat → Nat → Int32) (l1 : Nat → Nat → Int64) (W2 : tm_W) (m2' : Nat → Nat → Int32) (l2 : Nat → Nat → Int64),
    cl yc (.ref 0 :: ac) (tm W m l) = some (some (.int r), tm W1 m1' l1) ∧ cl yr (.ref 39 :: ar) (tm W1 m1' l1) = some (some (.int r), tm W2 m2' l2) ∧
    W1.2.2.1 = W.2.2.1 ∧ W2.2.2.1 = W.2.2.1 ∧ tm_sh W1 0 = tm_sh W 0 ∧ tm_sh W1 39 = tm_sh W 39 ∧ Inv (j + 1) W2 m2' l2
/-! a State in memory, and a row -/
theorem wv_eta (m : Nat → Nat → Int32) (o : Nat) : wv m o (vw m o) = m := by
  funext a k
  unfold wv
  by_cases h0 : a = o
  · subst h0
    rw [if_pos rfl]
    by_cases k0 : k = 0
    · subst k0
      rw [if_pos rfl]
      rfl
    · rw [if_neg k0]
      by_cases k1 : k = 1
      · subst k1
        rw [if_pos rfl]
        rfl
      · rw [if_neg k1]
        by_cases k2 : k = 2
        · subst k2
          rw [if_pos rfl]
          rfl
        · rw [if_neg k2]
          by_cases k3 : k = 3
          · subst k3
            rw [if_pos rfl]
            rfl
          · rw [if_neg k3]
  · rw [if_neg h0]
    by_cases h1 : a = o + 1
    · subst h1
      rw [if_pos rfl]
      by_cases hk : k < 12
      · rw [if_pos hk, vw, if_pos hk]
      · rw [if_neg hk]
    · rw [if_neg h1]
      by_cases h2 : a = o + 2
      · subst h2
        rw [if_pos rfl]
        by_cases hk : k < 48
        · rw [if_pos hk, vw, if_neg (by omega), if_pos (by omega), show 12 + k - 12 = k by omega]
        · rw [if_neg hk]
      · rw [if_neg h2]
        by_cases h3 : a = o + 3
        · subst h3
          rw [if_pos rfl]
          by_cases hk : k < 16
          · rw [if_pos hk, vw, if_neg (by omega), if_neg (by omega), if_neg (by omega), if_neg (by omega), if_pos (by omega), show 108 + k - 108 = k by omega]
          · rw [if_neg hk]
        · rw [if_neg h3]
          by_cases h4 : a = o + 4
          · subst h4
            rw [if_pos rfl]
            by_cases hk : k < 36
            · rw [if_pos hk, vw, if_neg (by omega), if_neg (by omega), if_neg (by omega), if_pos (by omega), show 72 + k - 72 = k by omega]
            · rw [if_neg hk]
          · rw [if_neg h4]
            by_cases h5 : a = o + 5
            · subst h5
              rw [if_pos rfl]
              by_cases hk : k < 12
              · rw [if_pos hk, vw, if_neg (by omega), if_neg (by omega), if_pos (by omega), show 60 + k - 60 = k by omega]
              · rw [if_neg hk]
            · rw [if_neg h5]
              by_cases h6 : a = o + 6
              · subst h6
                rw [if_pos rfl]
                by_cases hk : k < 800
                · rw [if_pos hk, vw, if_neg (by omega), if_neg (by omega), if_neg (by omega), if_neg (by omega), if_neg (by omega), if_neg (by omega), if_pos (by omega), show 304 + k - 304 = k by omega]
                · rw [if_neg hk]
              · rw [if_neg h6]
                by_cases h7 : a = o + 7
                · subst h7
                  rw [if_pos rfl]
                  by_cases hk : k < 180
                  · rw [if_pos hk, vw, if_neg (by omega), if_neg (by omega), if_neg (by omega), if_neg (by omega), if_neg (by omega), if_pos (by omega), show 124 + k - 124 = k by omega]
                  · rw [if_neg hk]
                · rw [if_neg h7]
theorem vw_wv (m : Nat → Nat → Int32) (o : Nat) (f : Nat → Int32) {i : Nat} (hi : i < 1108) : vw (wv m o f) o i = f i := by
  unfold vw
  repeat' split
  · rw [wv_r1 _ _ _ (by assumption)]
  · rw [wv_r2 _ _ _ (by omega), show 12 + (i - 12) = i by omega]
  · rw [wv_r5 _ _ _ (by omega), show 60 + (i - 60) = i by omega]
  · rw [wv_r4 _ _ _ (by omega), show 72 + (i - 72) = i by omega]
  · rw [wv_r3 _ _ _ (by omega), show 108 + (i - 108) = i by omega]
  · rw [wv_r7 _ _ _ (by omega), show 124 + (i - 124) = i by omega]
  · rw [wv_r6 _ _ _ (by omega), show 304 + (i - 304) = i by omega]
  · rename_i h
    subst h
    rw [wv_f0]
  · rename_i h
    subst h
    rw [wv_f2]
  · rename_i h
    subst h
    rw [wv_f1]
  · rw [wv_f3, show i = 1107 by omega]
theorem vw_row {m m' : Nat → Nat → Int32} {o : Nat} (h : ∀ a, o ≤ a → a < o + 8 → m' a = m a) : vw m' o = vw m o := by
  funext i
  unfold vw
  rw [h o (by omega) (by omega), h (o + 1) (by omega) (by omega), h (o + 2) (by omega) (by omega), h (o + 3) (by omega) (by omega), h (o + 4) (by omega) (by omega), h (o + 5) (by omega) (by omega), h (o + 6) (by omega) (by omega), h (o + 7) (by omega) (by omega)]
theorem SR_of {f f' g g' : Nat → Int32} {P N E : Nat} (h : SR f g P N E) (hf : ∀ i, i < 1108 → f' i = f i) (hg : ∀ i, i < 1108 → g' i = g i) : SR f' g' P N E := by
  have e1 := h.N100
  have e2 := h.P12
  exact ⟨h.P12, h.N100, by rw [hf _ (by decide)]; exact h.f4, by rw [hg _ (by decide)]; exact h.g4, by rw [hf _ (by decide)]; exact h.f5, by rw [hg _ (by decide)]; exact h.g5, by rw [hf _ (by decide)]; exact h.f7, by rw [hg _ (by decide)]; exact h.g7, by rw [hf _ (by decide), hg _ (by decide)]; exact h.e6,
    fun i hi => by rw [hf _ (by omega), hg _ (by omega)]; exact h.tm hi, fun i h1 h2 => by rw [hf _ (by omega), hg _ (by omega)]; exact h.mid h1 h2, fun i hi => by rw [hf _ (by omega), hg _ (by omega)]; exact h.ent hi, fun i hi => by rw [hf _ (by omega), hg _ (by omega)]; exact h.ban hi⟩
theorem VR_of {g g' : Nat → Int32} {P N E : Nat} (h : VR g P N E) (hP : P ≤ 12) (hN : N ≤ 100) (hg : ∀ i, i < 1108 → g' i = g i) : VR g' P N E := by
  obtain ⟨a1, a2, a3⟩ := h
  refine ⟨fun q hq => ?_, fun c hc => ?_, fun e he => ?_⟩
  · rw [hg _ (by omega)]
    exact a1 q hq
  · unfold bOK
    rw [hg _ (by omega), hg _ (by omega), hg _ (by omega), hg _ (by omega), hg _ (by omega)]
    exact a2 c hc
  · rw [hg _ (by omega), hg _ (by omega)]
    exact a3 e he
/-- behind a call that asks: rows that count stay, a new ROW is told or the old one stays -/
theorem Inv_q {j : Nat} {W : tm_W} {m m' : Nat → Nat → Int32} {l l' : Nat → Nat → Int64} (h : Inv j W m l) (hr : ∀ a, (a = 2 ∨ a = 10 ∨ (13 ≤ a ∧ a < 21) ∨ (29 ≤ a ∧ a < 37) ∨ a = 40 ∨ (42 ≤ a ∧ a < 48) ∨ 62 ≤ a) → m' a = m a)
    (h0 : m' 0 10 = m 0 10) (h1 : m' 1 1 = m 1 1) (h371 : m' 37 1 = m 37 1) (h372 : m' 37 2 = m 37 2) (h393 : m' 39 3 = m 39 3) (h395 : m' 39 5 = m 39 5) (h3910 : m' 39 10 = m 39 10) (hrow : iRow m' l') : Inv (j + 1) W m' l' := by
  obtain ⟨⟨hC, hM, h61, g1, g2, g3⟩, ⟨P, N, E, s1, s2, s3, s4⟩, ⟨k1, k2⟩, ⟨nx, s, t1, t2, t3, t4, t5, t6, t7, t8⟩, hR, ⟨n, x1, x2, x3, x4⟩, -⟩ := h
  have e13 : vw m' 13 = vw m 13 := vw_row fun a a1 a2 => hr a (by omega)
  have e29 : vw m' 29 = vw m 29 := vw_row fun a a1 a2 => hr a (by omega)
  have e40 : m' 40 = m 40 := hr 40 (by omega)
  have e42 : m' 42 = m 42 := hr 42 (by omega)
  have e43 : m' 43 = m 43 := hr 43 (by omega)
  refine ⟨⟨hC, hM, h61, g1, by omega, by omega⟩, ⟨P, N, E, by rw [e13, e40]; exact s1, by rw [e40]; exact s2, by omega, by rw [e40]; exact CB_le s4 (by omega)⟩, ⟨by rw [h0, h393]; exact k1, ?_⟩, ⟨nx, s, t1, t2, by rw [h371]; exact t3, by rw [h372]; exact t4, by rw [h395]; exact t5, t6, t7, fun k hk => ?_⟩, fun c hc => ?_, ⟨n, x1, by rw [h1]; exact x2, by rw [h3910]; exact x3, fun i hi => ?_⟩, hrow⟩
  · rw [h393, e29, e42]
    rcases k2 with k2 | ⟨k2, P', N', E', q1, q2, q3, q4⟩
    · exact Or.inl k2
    · exact Or.inr ⟨k2, P', N', E', q1, q2, by omega, CB_le q4 (by omega)⟩
  · obtain ⟨a, P', N', E', q1, q2, q3, q4, q5⟩ := t8 k hk
    have ha := t6 _ a (Nat.mod_lt _ (by decide)) q1
    refine ⟨a, P', N', E', q1, ?_, ?_, by omega, ?_⟩
    · rw [vw_row (m := m) fun b b1 b2 => hr b (by omega), e43]
      exact q2
    · rw [e43]
      exact q3
    · rw [e43]
      exact CB_le q5 (by omega)
  · rw [hr 10 (by omega), hr 44 (by omega), hr 45 (by omega), hr 46 (by omega)]
    exact hR c hc
  · rw [hr 2 (by omega), hr 47 (by omega)]
    exact x4 i hi

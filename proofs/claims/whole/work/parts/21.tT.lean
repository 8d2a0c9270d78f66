section TXT
variable {W : tm_W} {m : Nat → Nat → Int32} {l : Nat → Nat → Int64} {f g : Nat → Int32}
/-! PLAY: the end of a match -/
theorem d213 (C : isC W) {P c : Nat} (hP2 : P ≤ 12) (hc : c < 4) (t : Int32) : ∀ (n i : Nat) (f : Nat → Int32), i + n = P → f 1104 = nI P → dn 213 2 [some (.ref 21), some (.int t), some (.int (nI c)), some (.int (nI i))] [] (tm W (wv m 21 f) l) = some (none, tm W (wv m 21 (tWp t c n i f)) l)
  | 0, i, f, h, hP => by
    rw [q_213_2, sI0 C.tho, Option.bind_some, hP, if_pos (nI_le (by omega) (by omega))]
    rfl
  | n + 1, i, f, h, hP => by
    have ih := fun f' => d213 C hP2 hc t n (i + 1) f' (by omega)
    rw [q_213_2]
    simp only [sI0 C.tho, Option.bind_some, hP, eq_false (nI_ge (show i < P by omega) (by omega)), if_false, sR4 C.tho, sl1 C.tho (show i < 12 by omega), nI_1]
    show _ = some (none, tm W (wv m 21 (tWp t c n (i + 1) (if f i = t then upd f (12 + (4 * i + c)) 0 else f))) l)
    by_cases hf : f i = t
    · simp only [eq_true hf, if_true, sR5 C.tho, Option.bind_some, ix4, ss2 C.tho (show 4 * i + c < 48 by omega)]
      exact ih _ (by rw [pk_un (by omega)]; exact hP)
    · simp only [eq_false hf, if_false]
      exact ih _ hP
theorem c187 (C : isC W) {P q c a b t n : Nat} {Y : Nat → Nat → Int32} {o ca se : Int32} (Q : isQ W q) (hq : 62 ≤ q) (B : isP Y q c a b) (hP2 : P ≤ 12) (hc : c < 4) (ht : t < 4) (hP : f 1104 = nI P) (hn : f (108 + (4 * t + c)) = nI n) (hn2 : n < 2 ^ 20) : cl 187 [.ref q, .int (nI t)] (tm W (wv (mtQ Y q o ca se) 21 f) l) = some (none, tm W (wv (mtQ Y q o ca se) 21 (tHp (Y 10 (12 * c + 2)) t c P f)) l) := by
  have e1 : (nI n + 1 ≤ 0) = False := eq_false (by rw [nI_1]; exact nI_nle (by omega) (by omega))
  have e195 : ∀ F : Nat → Int32, cl 195 [.ref 9, .int (nI c), .int 2] (tm W (wv (mtQ Y q o ca se) 21 F) l) = some (some (.int (Y 10 (12 * c + 2))), tm W (wv (mtQ Y q o ca se) 21 F) l) := fun F => by rw [c195_2 C hc, zY hq (by decide)]
  unfold tHp
  rw [hn]
  rw [q_187]
  simp only [mq_0 Q, mq_1 Q, z_2 Q hq B, Option.bind_some, sok C.tho, if_true, c212 C.tho ht hc, hn, kxi_s, u9 C, q_203, e1, if_false, e195]
  by_cases h : nI n + 1 = Y 10 (12 * c + 2)
  · simp only [eq_true h, if_true, kxi_s, i10, if_false, mq_0 Q, z_2 Q hq B, Option.bind_some, sok C.tho, q_213]
    have d := d213 (m := mtQ Y q o ca se) (l := l) C hP2 hc (nI t) P 0 (upd f (108 + (4 * t + c)) (nI n + 1)) (by omega) (by rw [pk_un (by omega)]; exact hP)
    rw [show dn 213 2 [some (.ref 21), some (.int (nI t)), some (.int (nI c)), some (.int 0)] [] _ = _ from d, kxv_s, h]
  · simp only [eq_false h, if_false, kxi_s, if_true]
theorem SR_wp {P N E c : Nat} {t : Int32} (hc : c < 4) : ∀ (n i : Nat) (f g : Nat → Int32), i + n ≤ P → SR f g P N E → SR (tWp t c n i f) (tWp t c n i g) P N E
  | 0, i, f, g, _, Sx => Sx
  | n + 1, i, f, g, h, Sx => by
    have hP := Sx.P12
    show SR (tWp t c n (i + 1) (if f i = t then upd f (12 + (4 * i + c)) 0 else f)) (tWp t c n (i + 1) (if g i = t then upd g (12 + (4 * i + c)) 0 else g)) P N E
    rw [Sx.tm (show i < P by omega)]
    split
    · exact SR_wp hc n (i + 1) _ _ (by omega) (SR_upd Sx _ (by omega) (by omega) (by omega))
    · exact SR_wp hc n (i + 1) _ _ (by omega) Sx
theorem VR_wp {P N E c : Nat} {t : Int32} (hP : P ≤ 12) (hN : N ≤ 100) (hc : c < 4) : ∀ (n i : Nat) (g : Nat → Int32), i + n ≤ P → VR g P N E → VR (tWp t c n i g) P N E
  | 0, i, g, _, V => V
  | n + 1, i, g, h, V => by
    show VR (tWp t c n (i + 1) (if g i = t then upd g (12 + (4 * i + c)) 0 else g)) P N E
    split
    · exact VR_wp hP hN hc n (i + 1) _ (by omega) (VR_mid V hP hN (by omega) (Or.inl (by omega)) _)
    · exact VR_wp hP hN hc n (i + 1) _ (by omega) V
theorem CB_u0 {B i : Nat} {v : Int32} (h : CB g B) (hv : ∃ n, n ≤ B ∧ v = nI n) : CB (upd g i v) B := fun k hk => by
  by_cases e : k = i
  · subst e
    obtain ⟨n, h1, h2⟩ := hv
    exact ⟨n, h1, by rw [pk_us]; exact h2⟩
  · rw [pk_un e]
    exact h k hk
theorem CB_wp {B c : Nat} {t : Int32} : ∀ (n i : Nat) (g : Nat → Int32), CB g B → CB (tWp t c n i g) B
  | 0, i, g, h => h
  | n + 1, i, g, h => by
    show CB (tWp t c n (i + 1) (if g i = t then upd g (12 + (4 * i + c)) 0 else g)) B
    split
    · exact CB_wp n (i + 1) _ (CB_u0 h ⟨0, by omega, rfl⟩)
    · exact CB_wp n (i + 1) _ h
theorem hp_all {P N E B c t : Nat} {r : Int32} (hc : c < 4) (ht : t < 4) (Sx : SR f g P N E) (V : VR g P N E) (h : CB g B) : SR (tHp r t c P f) (tHp r t c P g) P N E ∧ VR (tHp r t c P g) P N E ∧ CB (tHp r t c P g) (B + 1) := by
  have hP := Sx.P12
  have hN := Sx.N100
  have em : f (108 + (4 * t + c)) = g (108 + (4 * t + c)) := Sx.mid (by omega) (by omega)
  obtain ⟨n, n1, n2⟩ := h (108 + (4 * t + c)) (by omega)
  have S1 : SR (upd f (108 + (4 * t + c)) (g (108 + (4 * t + c)) + 1)) (upd g (108 + (4 * t + c)) (g (108 + (4 * t + c)) + 1)) P N E := SR_upd Sx _ (by omega) (by omega) (by omega)
  have V1 : VR (upd g (108 + (4 * t + c)) (g (108 + (4 * t + c)) + 1)) P N E := VR_mid V hP hN (by omega) (Or.inl (by omega)) _
  have C1 : CB (upd g (108 + (4 * t + c)) (g (108 + (4 * t + c)) + 1)) (B + 1) := CB_u0 (CB_le h (by omega)) ⟨n + 1, by omega, by rw [n2, nI_1]⟩
  unfold tHp
  rw [em]
  split
  · exact ⟨SR_wp hc P 0 _ _ (by omega) S1, VR_wp hP hN hc P 0 _ (by omega) V1, CB_wp P 0 _ C1⟩
  · exact ⟨S1, V1, C1⟩
/-! the match's object -/
abbrev kQ : List (Option Nat) := [some 21, some 9, none, none, none, none, none, none]
def qW (W : tm_W) : tm_W := tm_sS (tm_nw W 8 (.inl (0, []))) W.1 (.inl (7, kQ))
def qF (c a b : Int32) : Nat → Int32 := fun k => if k = 2 then c else if k = 3 then a else if k = 4 then b else 0
theorem qW_sh (W : tm_W) {x : Nat} (h : x < W.1) : tm_sh (qW W) x = tm_sh W x := by
  show (if x = W.1 then _ else if x = W.1 then _ else tm_sh W x) = _
  rw [if_neg (by omega), if_neg (by omega)]
theorem qW_q (W : tm_W) : isQ (qW W) W.1 := if_pos rfl
theorem gR_new {h : ia_H} {n ci a k : Nat} {e : ia_E} (ha : a ≠ h.1) : ia_gR (ia_new h n e) ci a k = ia_gR h ci a k := by
  have : ia_c (ia_new h n e) a = ia_c h a := if_neg ha
  unfold ia_gR
  rw [this]
theorem k182 (c a b : Int32) : cl 182 [.ref W.1, .ref 21, .ref 9, .int c, .int a, .int b] (ia_new (tm W m l) 8 (.inr (7, [.null, .null, .int 0, .int 0, .int 0, .int 0, .int 0, .int 0]))) = some (none, tm (qW W) (m1 m W.1 (qF c a b)) l) := by
  rw [q_182, new_as_up, pF_up _ (by decide), Option.bind_some, pF_up _ (by simp), Option.bind_some, pF_up _ (by simp), Option.bind_some, pF_up _ (by simp), Option.bind_some, pF_up _ (by simp), Option.bind_some]
  exact congrArg (fun x => some ((none : Option Value), x)) (up_tm (ks := kQ) (qF c a b) rfl)
theorem mtQ_e (Y : Nat → Nat → Int32) (q : Nat) (h5 : Y q 5 = 0) (h6 : Y q 6 = 0) (h7 : Y q 7 = 0) : mtQ Y q 0 0 0 = Y := by
  funext x k
  by_cases hx : x = q
  · subst hx
    by_cases k7 : k = 7
    · subst k7
      rw [mtQ_7, h7]
    · by_cases k6 : k = 6
      · subst k6
        rw [mtQ_6, h6]
      · by_cases k5 : k = 5
        · subst k5
          rw [mtQ_5, h5]
        · unfold mtQ
          rw [m2_k _ _ _ _ k7, m2_k _ _ _ _ k6, m2_k _ _ _ _ k5]
  · rw [mtQ_o _ _ _ _ hx]
theorem m1_wv (Y : Nat → Nat → Int32) (f : Nat → Int32) {q : Nat} (F : Nat → Int32) (hq : 62 ≤ q) : m1 (wv Y 21 f) q F = wv (m1 Y q F) 21 f := by
  funext a
  by_cases ha : a = q
  · subst ha
    rw [m1_s, wv21 _ _ (by omega), m1_s]
  · rw [m1_a _ _ ha]
    by_cases h : 21 ≤ a ∧ a < 29
    · funext k
      unfold wv
      rw [m1_a _ _ ha]
    · rw [wv21 _ _ (by omega), wv21 _ _ (by omega), m1_a _ _ ha]
/-- the invariant in a world that has one more object -/
theorem Inv_v {j : Nat} {W1 : tm_W} {m' : Nat → Nat → Int32} {l' : Nat → Nat → Int64} (h : Inv j W m l) (hC1 : isC W1) (hM1 : isM W1) (h61' : tm_sh W1 61 = .inr (1, 1)) (w1 : W.1 ≤ W1.1) (w2 : W1.1 ≤ W.1 + 1) (w3 : W1.2.1 ≤ W.2.1 + 10) (w5 : ∀ x, x < W.1 → tm_sh W1 x = tm_sh W x) (w6 : tm_rf W1 38 = tm_rf W 38)
    (hr : ∀ a, (a = 10 ∨ (13 ≤ a ∧ a < 21) ∨ (29 ≤ a ∧ a < 37) ∨ (42 ≤ a ∧ a < 47)) → m' a = m a) (hb : ∀ x, 62 ≤ x → x < W.1 → m' x = m x) (h40 : ∀ i, i < 1108 → m' 40 i = m 40 i)
    (h0 : m' 0 10 = m 0 10) (h371 : m' 37 1 = m 37 1) (h372 : m' 37 2 = m 37 2) (h393 : m' 39 3 = m 39 3) (h395 : m' 39 5 = m 39 5) (ht : iTxt m') (hrow : iRow m' l') : Inv (j + 1) W1 m' l' := by
  obtain ⟨⟨hC, hM, h61, g1, g2, g3⟩, ⟨P, N, E, s1, s2, s3, s4⟩, ⟨k1, k2⟩, ⟨nx, s, t1, t2, t3, t4, t5, t6, t7, t8⟩, hR, -, -⟩ := h
  have e13 : vw m' 13 = vw m 13 := vw_row fun a a1 a2 => hr a (by omega)
  have e29 : vw m' 29 = vw m 29 := vw_row fun a a1 a2 => hr a (by omega)
  have e42 : m' 42 = m 42 := hr 42 (by omega)
  have e43 : m' 43 = m 43 := hr 43 (by omega)
  refine ⟨⟨hC1, hM1, h61', by omega, by omega, by omega⟩, ⟨P, N, E, by rw [e13]; exact SR_of s1 (fun _ _ => rfl) h40, VR_of s2 s1.P12 s1.N100 h40, by omega, CB_of (CB_le s4 (by omega)) h40⟩, ⟨by rw [h0, h393]; exact k1, ?_⟩, ⟨nx, s, t1, t2, by rw [h371]; exact t3, by rw [h372]; exact t4, by rw [h395]; exact t5, fun i a hi ha => ?_, by rw [w6]; exact t7, fun k hk => ?_⟩, fun c hc => ?_, ht, hrow⟩
  · rw [h393, e29, e42]
    rcases k2 with k2 | ⟨k2, P', N', E', q1, q2, q3, q4⟩
    · exact Or.inl k2
    · exact Or.inr ⟨k2, P', N', E', q1, q2, by omega, CB_le q4 (by omega)⟩
  · rw [w6] at ha
    obtain ⟨a1, a2, a3⟩ := t6 i a hi ha
    exact ⟨a1, by omega, isSt_of (fun x x1 x2 => w5 x (by omega)) a3⟩
  · obtain ⟨a, P', N', E', q1, q2, q3, q4, q5⟩ := t8 k hk
    have ha := t6 _ a (Nat.mod_lt _ (by decide)) q1
    refine ⟨a, P', N', E', by rw [w6]; exact q1, ?_, ?_, by omega, ?_⟩
    · rw [vw_row (m := m) fun b b1 b2 => hb b (by omega) (by omega), e43]
      exact q2
    · rw [e43]
      exact q3
    · rw [e43]
      exact CB_le q5 (by omega)
  · rw [hr 10 (by omega), hr 44 (by omega), hr 45 (by omega), hr 46 (by omega)]
    exact hR c hc
theorem c71p (M : isM W) (v : Int64) : cl 71 [.ref 39, .long v] (tm W (m2 m 39 12 0) l) = some (none, tm W (m2 m 39 12 (nI 1)) (llm l [v])) := by
  have h := c71 (m := m) (l := l) M (ys := []) (by decide) v
  rw [llm_nil] at h
  exact h
theorem c71q (M : isM W) (a v : Int64) : cl 71 [.ref 39, .long v] (tm W (m2 m 39 12 (nI 1)) (llm l [a])) = some (none, tm W (m2 m 39 12 (nI 2)) (llm l [a, v])) := c71 (m := m) (l := l) M (ys := [a]) (by simp) v
theorem c71r (M : isM W) (a b v : Int64) : cl 71 [.ref 39, .long v] (tm W (m2 m 39 12 (nI 2)) (llm l [a, b])) = some (none, tm W (m2 m 39 12 (nI 3)) (llm l [a, b, v])) := c71 (m := m) (l := l) M (ys := [a, b]) (by simp) v
theorem rl6 (M : isM W) : ia_ld (tm W m l) 0 40 1106 = some (m 40 1106) := rl40 M (i := 1106) (by decide)
theorem rl5 (M : isM W) : ia_ld (tm W m l) 0 40 1105 = some (m 40 1105) := rl40 M (i := 1105) (by decide)
theorem c82p (M : isM W) {X : Nat → Nat → Int32} {A : Nat → Int32} (k o ca se : Int32) (G : Nat → Int32) : cl 82 [.ref 39] (tm W (m1 (plM (m1 X 41 A) k o ca se) 40 G) l) = some (none, tm W (m1 (plM (m1 X 41 A) k o ca se) 40 (fun k => if k < 1108 then A k else G k)) l) := by
  rw [c82 M, m1_m1, m1_s, m1_a _ _ (show (41 : Nat) ≠ 40 by decide), plM_o _ _ _ _ _ (by decide), m1_s]
/-- the rules of a cup, on both sides -/
theorem rl_R {Y X : Nat → Nat → Int32} {c : Nat} (hc : c < 4) (R : iRul (Y 10) (X 44) (X 45) (X 46) c) : ∃ Sx red al bn, rlC Y c Sx red al bn ∧ rlR X c Sx red al bn ∧ Y 10 (12 * c + 2) = X 44 (4 * c + 2) := by
  obtain ⟨s, hs, q3, q3', eb⟩ := bn_R R
  obtain ⟨⟨r1, r2⟩, ⟨red, r3, r4, r5, r6⟩, ⟨rr, r7, r8, r9⟩, -⟩ := id R
  have hb : ∀ v, ∃ n, n ≤ 9 ∧ bnR X c s v = nI n := fun v => bn_v R q3' hs v
  refine ⟨s, red, X 44 (4 * c), fun v => Classical.choose (hb v), ⟨hc, hs, q3, r5, r1, ⟨r3, r4⟩, fun v => ?_⟩, ⟨hc, hs, q3', r6, rfl, ⟨r3, r4⟩, fun v => ?_⟩, by rw [r8, r9]⟩
  · have z := Classical.choose_spec (hb v)
    exact ⟨(eb v).trans z.2, z.1⟩
  · have z := Classical.choose_spec (hb v)
    exact ⟨z.2, z.1⟩
end TXT

section QRY
variable {W : tm_W} {m : Nat → Nat → Int32} {l : Nat → Nat → Int64} {f g : Nat → Int32}
/-! rows of a State are wiped -/
theorem upd_z {F : Nat → Int32} {a i : Nat} : upd (fun k => if a ≤ k ∧ k < a + i then 0 else F k) (a + i) 0 = (fun k => if a ≤ k ∧ k < a + (i + 1) then 0 else F k) := by
  funext k
  by_cases hk : k = a + i
  · subst hk
    rw [pk_us, if_pos (by omega)]
  · rw [pk_un hk]
    by_cases h2 : a ≤ k ∧ k < a + i
    · rw [if_pos h2, if_pos (by omega)]
    · rw [if_neg h2, if_neg (by omega)]
theorem z_0 {F : Nat → Int32} {a : Nat} : (fun k => if a ≤ k ∧ k < a + 0 then 0 else F k) = F := funext fun k => if_neg (by omega)
theorem d256_2 {o : Nat} (S : isSt W o) : ∀ n i, i + n = 48 → dn 256 5 [some (.ref (o + 2)), some (.int 0), some (.int (nI i)), some (.int (nI 48))] [] (tm W (wv m o fun k => if 12 ≤ k ∧ k < 12 + i then 0 else f k) l) = some (none, tm W (wv m o fun k => if 12 ≤ k ∧ k < 12 + 48 then 0 else f k) l)
  | 0, i, h => by
    rw [q_256_5, show i = 48 by omega, if_pos (Int32.le_refl _)]
  | n + 1, i, h => by
    rw [q_256_5, if_neg (nI_ge (by omega) (by decide)), ss2 S (by omega), Option.bind_some, upd_z, nI_1]
    exact d256_2 S n (i + 1) (by omega)
theorem c256_2 {o : Nat} (S : isSt W o) : cl 256 [.ref (o + 2), .int 0] (tm W (wv m o f) l) = some (none, tm W (wv m o fun k => if 12 ≤ k ∧ k < 12 + 48 then 0 else f k) l) := by
  rw [q_256, sn2 S, Option.bind_some]
  have e := d256_2 (m := m) (l := l) (f := f) S 48 0 (by omega)
  rw [z_0] at e
  exact e
theorem d256_3 {o : Nat} (S : isSt W o) : ∀ n i, i + n = 16 → dn 256 5 [some (.ref (o + 3)), some (.int 0), some (.int (nI i)), some (.int (nI 16))] [] (tm W (wv m o fun k => if 108 ≤ k ∧ k < 108 + i then 0 else f k) l) = some (none, tm W (wv m o fun k => if 108 ≤ k ∧ k < 108 + 16 then 0 else f k) l)
  | 0, i, h => by
    rw [q_256_5, show i = 16 by omega, if_pos (Int32.le_refl _)]
  | n + 1, i, h => by
    rw [q_256_5, if_neg (nI_ge (by omega) (by decide)), ss3 S (by omega), Option.bind_some, upd_z, nI_1]
    exact d256_3 S n (i + 1) (by omega)
theorem c256_3 {o : Nat} (S : isSt W o) : cl 256 [.ref (o + 3), .int 0] (tm W (wv m o f) l) = some (none, tm W (wv m o fun k => if 108 ≤ k ∧ k < 108 + 16 then 0 else f k) l) := by
  rw [q_256, sn3 S, Option.bind_some]
  have e := d256_3 (m := m) (l := l) (f := f) S 16 0 (by omega)
  rw [z_0] at e
  exact e
theorem d256_4 {o : Nat} (S : isSt W o) : ∀ n i, i + n = 36 → dn 256 5 [some (.ref (o + 4)), some (.int 0), some (.int (nI i)), some (.int (nI 36))] [] (tm W (wv m o fun k => if 72 ≤ k ∧ k < 72 + i then 0 else f k) l) = some (none, tm W (wv m o fun k => if 72 ≤ k ∧ k < 72 + 36 then 0 else f k) l)
  | 0, i, h => by
    rw [q_256_5, show i = 36 by omega, if_pos (Int32.le_refl _)]
  | n + 1, i, h => by
    rw [q_256_5, if_neg (nI_ge (by omega) (by decide)), ss4 S (by omega), Option.bind_some, upd_z, nI_1]
    exact d256_4 S n (i + 1) (by omega)
theorem c256_4 {o : Nat} (S : isSt W o) : cl 256 [.ref (o + 4), .int 0] (tm W (wv m o f) l) = some (none, tm W (wv m o fun k => if 72 ≤ k ∧ k < 72 + 36 then 0 else f k) l) := by
  rw [q_256, sn4 S, Option.bind_some]
  have e := d256_4 (m := m) (l := l) (f := f) S 36 0 (by omega)
  rw [z_0] at e
  exact e
theorem d256_5 {o : Nat} (S : isSt W o) : ∀ n i, i + n = 12 → dn 256 5 [some (.ref (o + 5)), some (.int 0), some (.int (nI i)), some (.int (nI 12))] [] (tm W (wv m o fun k => if 60 ≤ k ∧ k < 60 + i then 0 else f k) l) = some (none, tm W (wv m o fun k => if 60 ≤ k ∧ k < 60 + 12 then 0 else f k) l)
  | 0, i, h => by
    rw [q_256_5, show i = 12 by omega, if_pos (Int32.le_refl _)]
  | n + 1, i, h => by
    rw [q_256_5, if_neg (nI_ge (by omega) (by decide)), ss5 S (by omega), Option.bind_some, upd_z, nI_1]
    exact d256_5 S n (i + 1) (by omega)
theorem c256_5 {o : Nat} (S : isSt W o) : cl 256 [.ref (o + 5), .int 0] (tm W (wv m o f) l) = some (none, tm W (wv m o fun k => if 60 ≤ k ∧ k < 60 + 12 then 0 else f k) l) := by
  rw [q_256, sn5 S, Option.bind_some]
  have e := d256_5 (m := m) (l := l) (f := f) S 12 0 (by omega)
  rw [z_0] at e
  exact e
/-! season -/
theorem d124a (M : isM W) : ∀ n i r, i + n = 48 → dn 124 10 [some (.ref 39), some (.int r), some (.int (nI i))] [] (tm W (m1 m 40 fun k => if 12 ≤ k ∧ k < 12 + i then 0 else f k) l) = dn 124 24 [some (.ref 39), some (.int r), some (.int 0)] [] (tm W (m1 m 40 fun k => if 12 ≤ k ∧ k < 12 + 48 then 0 else f k) l)
  | 0, i, r, h => by
    rw [q_124_10, show i = 48 by omega, if_pos (show (48 : Int32) ≤ nI 48 from Int32.le_refl _)]
  | n + 1, i, r, h => by
    rw [q_124_10, if_neg (show ¬ (48 : Int32) ≤ nI i from nI_ge (b := 48) (by omega) (by decide)), rR0 M, Option.bind_some, i12, wst M (by omega), Option.bind_some, upd_z, nI_1]
    exact d124a M n (i + 1) r (by omega)
theorem i108 (i : Nat) : (108 : Int32) + nI i = nI (108 + i) := nI_add 108 i
theorem d124b (M : isM W) : ∀ n i r, i + n = 16 → dn 124 24 [some (.ref 39), some (.int r), some (.int (nI i))] [] (tm W (m1 m 40 fun k => if 108 ≤ k ∧ k < 108 + i then 0 else f k) l) = some (some (.int r), tm W (m1 m 40 fun k => if 108 ≤ k ∧ k < 108 + 16 then 0 else f k) l)
  | 0, i, r, h => by
    rw [q_124_24, show i = 16 by omega, if_pos (show (16 : Int32) ≤ nI 16 from Int32.le_refl _)]
  | n + 1, i, r, h => by
    rw [q_124_24, if_neg (show ¬ (16 : Int32) ≤ nI i from nI_ge (b := 16) (by omega) (by decide)), rR0 M, Option.bind_some, i108, wst M (by omega), Option.bind_some, upd_z, nI_1]
    exact d124b M n (i + 1) r (by omega)
def tSn (f : Nat → Int32) : Nat → Int32 := fun k => if 108 ≤ k ∧ k < 108 + 16 then 0 else (fun k => if 12 ≤ k ∧ k < 12 + 48 then 0 else f k) k
theorem d124 (M : isM W) (r : Int32) : dn 124 10 [some (.ref 39), some (.int r), some (.int 0)] [] (tm W (m1 m 40 f) l) = some (some (.int r), tm W (m1 m 40 (tSn f)) l) := by
  have e1 := d124a (m := m) (l := l) (f := f) M 48 0 r (by omega)
  rw [z_0] at e1
  have e2 := d124b (m := m) (l := l) (f := fun k => if 12 ≤ k ∧ k < 12 + 48 then 0 else f k) M 16 0 r (by omega)
  rw [z_0] at e2
  rw [show dn 124 10 [some (.ref 39), some (.int r), some (.int 0)] [] (tm W (m1 m 40 f) l) = _ from e1, show dn 124 24 [some (.ref 39), some (.int r), some (.int 0)] [] _ = _ from e2]
  rfl
theorem tSn_o (f : Nat → Int32) {i : Nat} (h : ¬ ((12 ≤ i ∧ i < 60) ∨ (108 ≤ i ∧ i < 124))) : tSn f i = f i := by
  unfold tSn
  rw [if_neg (by omega)]
  exact if_neg (by omega)
theorem tSn_z (f : Nat → Int32) {i : Nat} (h : (12 ≤ i ∧ i < 60) ∨ (108 ≤ i ∧ i < 124)) : tSn f i = 0 := by
  unfold tSn
  rcases h with h | h
  · rw [if_neg (by omega)]
    exact if_pos (by omega)
  · rw [if_pos (by omega)]
theorem SR_sn {P N E : Nat} (S : SR f g P N E) : SR (tSn f) (tSn g) P N E := by
  have key : ∀ i, f i = g i → tSn f i = tSn g i := fun i hi => by
    by_cases h : (12 ≤ i ∧ i < 60) ∨ (108 ≤ i ∧ i < 124)
    · rw [tSn_z f h, tSn_z g h]
    · rw [tSn_o f h, tSn_o g h, hi]
  exact ⟨S.P12, S.N100, by rw [tSn_o f (by omega)]; exact S.f4, by rw [tSn_o g (by omega)]; exact S.g4, by rw [tSn_o f (by omega)]; exact S.f5, by rw [tSn_o g (by omega)]; exact S.g5, by rw [tSn_o f (by omega)]; exact S.f7, by rw [tSn_o g (by omega)]; exact S.g7, key _ S.e6, fun i hi => key _ (S.tm hi), fun i h1 h2 => key _ (S.mid h1 h2), fun i hi => key _ (S.ent hi), fun i hi => key _ (S.ban hi)⟩
theorem VR_sn {P N E : Nat} (V : VR g P N E) (hP : P ≤ 12) (hN : N ≤ 100) : VR (tSn g) P N E := by
  obtain ⟨a1, a2, a3⟩ := V
  refine ⟨fun q hq => ?_, fun c hc => ?_, fun e he => ?_⟩
  · rw [tSn_o g (by omega)]
    exact a1 q hq
  · unfold bOK
    rw [tSn_o g (by omega), tSn_o g (by omega), tSn_o g (by omega), tSn_o g (by omega), tSn_o g (by omega)]
    exact a2 c hc
  · rw [tSn_o g (by omega), tSn_o g (by omega)]
    exact a3 e he
theorem b_season {j : Nat} (hj : j < 600) (h : Inv j W m l) : Both j W m l 18 124 [] [] := by
  obtain ⟨⟨C, M, -⟩, ⟨P, N, E, S, V, hE, hB⟩, -, -, R, -, hrow⟩ := id h
  have p12 := S.P12
  have n100 := S.N100
  obtain ⟨nx, s, W', mk, ⟨hnx, hs⟩, ⟨C', M', hW, hsh⟩, ⟨k39, k10, k44, k40, k5⟩, e174, hInv⟩ := act_keep h
  have f2 := fun (q : Nat → Int32) => (show cl 256 [.ref 15, .int 0] (tm W' (wv mk 13 q) l) = _ from c256_2 C'.now)
  have f3 := fun (q : Nat → Int32) => (show cl 256 [.ref 16, .int 0] (tm W' (wv mk 13 q) l) = _ from c256_3 C'.now)
  refine Both_a (fo (fun j a => a + m 40 (12 + j)) 48 0 0) (mc := wv mk 13 (tSn (vw m 13))) ?_ ?_ (by rw [wv40, k40]) hW hsh (hInv _ _ P N E (SR_sn S) (VR_sn V p12 n100) (by omega) (fun i hi => ⟨0, by omega, by rw [tSn_z _ hi]; rfl⟩))
  · simp only [q_18, xok C, vok C, sok C.now, xR0 C, xR1 C, xR2 C, xR3 C, xR4 C, xR5 C, xR6 C, xR7 C, xR8 C, xR9 C, sR4 C.now, sR5 C.now, sR6 C.now, sR7 C.now, sR8 C.now, sR9 C.now, sR10 C.now, sI0 C.now, sI1 C.now, sI2 C.now, sI3 C.now, kxi_s, kxr_s, kxv_s, Option.bind_some, if_true, if_false, i10, c189w C, List.nil_append, List.cons_append, List.append_nil, c210 C.now, cau_SR S, hok C, e174, xR6 C', sR5 C'.now, sR6 C'.now, f2, f3]
    rfl
  · simp only [q_124, rok M', rR0 M', rR1 M', rR2 M', rR4 M', rR6 M', rR7 M', rR8 M', rR9 M', rR11 M', rR16 M', rR17 M', rR24 M', rR25 M', rR26 M', rR27 M', rR28 M', rR29 M', rR30 M', rR32 M', rR33 M', rR34 M', wl4 M', wl5 M', wl6 M', wl7 M', ruw13 M', ruw12 M', kxi_s, kxr_s, kxv_s, Option.bind_some, if_true, if_false, i10, c71a M', c71b M', c71c M', c71d M', c84k M' hs k39 k5, c123 M']
    exact d124 M' _
/-! what is past stays -/
theorem iHis_same {mf : Nat → Nat → Int32} {B B' : Nat} (hB : B ≤ B') (h : iHis W m B) (e43 : mf 43 = m 43) (eb : ∀ x, 62 ≤ x → mf x = m x) (e1 : mf 37 1 = m 37 1) (e2 : mf 37 2 = m 37 2) (e5 : mf 39 5 = m 39 5) : iHis W mf B' := by
  obtain ⟨nx, s, t1, t2, t3, t4, t5, t6, t7, t8⟩ := h
  refine ⟨nx, s, t1, t2, by rw [e1]; exact t3, by rw [e2]; exact t4, by rw [e5]; exact t5, t6, t7, fun k hk => ?_⟩
  obtain ⟨a, P', N', E', q1, q2, q3, q4, q5⟩ := t8 k hk
  have ha := t6 _ a (Nat.mod_lt _ (by decide)) q1
  refine ⟨a, P', N', E', q1, ?_, ?_, by omega, ?_⟩
  · rw [vw_row (m := m) fun b b1 b2 => eb b (by omega), e43]
    exact q2
  · rw [e43]
    exact q3
  · rw [e43]
    exact CB_le q5 hB
/-! keeps -/
theorem d162 (M : isM W) : ∀ n i, i + n = 1108 → dn 162 5 [some (.ref 39), some (.int (nI i))] [] (tm W (m1 m 42 fun k => if k < i then m 40 k else m 42 k) l) = some (some (.int (m 40 1106)), tm W (m2 (m1 m 42 fun k => if k < 1108 then m 40 k else m 42 k) 39 3 1) l)
  | 0, i, h => by
    rw [q_162_5, show i = 1108 by omega, if_pos (show (1108 : Int32) ≤ nI 1108 from Int32.le_refl _), ru3 M, Option.bind_some, rR0 M, Option.bind_some]
    rw [show ia_ld _ 0 40 1106 = _ from rl40 M (i := 1106) (by decide), Option.bind_some, m2_a _ _ _ _ (by decide), m1_a _ _ (by decide)]
  | n + 1, i, h => by
    rw [q_162_5, if_neg (show ¬ (1108 : Int32) ≤ nI i from nI_ge (b := 1108) (by omega) (by decide)), rR2 M, Option.bind_some, rR0 M, Option.bind_some, rl40 M (by omega), Option.bind_some, m1_a _ _ (by decide), rs42 M (by omega), Option.bind_some, m1_w, nI_1, show upd (fun k => if k < i then m 40 k else m 42 k) i (m 40 i) = (fun k => if k < i + 1 then m 40 k else m 42 k) from funext (upd_cp fun _ => rfl)]
    exact d162 M n (i + 1) (by omega)
theorem c162 (M : isM W) : cl 162 [.ref 39] (tm W m l) = some (some (.int (m 40 1106)), tm W (m2 (m1 (m2 m 39 13 0) 42 fun k => if k < 1108 then m 40 k else m 42 k) 39 3 1) l) := by
  rw [q_162, ru13 M, Option.bind_some]
  have e := d162 (m := m2 m 39 13 0) (l := l) M 1108 0 (by omega)
  rw [m2_r _ _ _ (by decide), m2_r _ _ _ (by decide), show (fun k => if k < 0 then m 40 k else m 42 k) = m 42 from funext fun k => if_neg (by omega)] at e
  have e2 := m1_e (m2 m 39 13 0) 42
  rw [m2_r _ _ _ (by decide)] at e2
  rw [e2] at e
  exact e
theorem b_keeps {j : Nat} (hj : j < 600) (h : Inv j W m l) : Both j W m l 43 162 [] [] := by
  obtain ⟨⟨C, M, h61, g1, g2, g3⟩, ⟨P, N, E, S, V, hE, hB⟩, -, hH, hR, ⟨n, x1, x2, x3, x4⟩, ⟨rn, r1, r2, r3, r4⟩⟩ := id h
  have eo : ∀ x, x ≠ 0 → x ≠ 39 → x ≠ 42 → (x < 29 ∨ 37 ≤ x) → m2 (m1 (m2 (m2 (wv m 29 (vw m 13)) 0 10 1) 39 13 0) 42 (fun k => if k < 1108 then m 40 k else m 42 k)) 39 3 1 x = m x := by
    intro x h0 h1 h2 h3
    rw [m2_r _ _ _ h1, m1_a _ _ h2, m2_r _ _ _ h1, m2_r _ _ _ h0, wv_out _ _ (by omega)]
  have e39 : ∀ k, k ≠ 3 → k ≠ 13 → m2 (m1 (m2 (m2 (wv m 29 (vw m 13)) 0 10 1) 39 13 0) 42 (fun k => if k < 1108 then m 40 k else m 42 k)) 39 3 1 39 k = m 39 k := by
    intro k h0 h1
    rw [m2_k _ _ _ _ h0, m1_a _ _ (by decide), m2_k _ _ _ _ h1, m2_a _ _ _ _ (by decide), wv_out _ _ (by omega)]
  refine ⟨m 40 1106, W, m2 (wv m 29 (vw m 13)) 0 10 1, l, W, m2 (m1 (m2 (m2 (wv m 29 (vw m 13)) 0 10 1) 39 13 0) 42 (fun k => if k < 1108 then m 40 k else m 42 k)) 39 3 1, l, ?_, ?_, rfl, rfl, rfl, rfl, ?_⟩
  · rw [q_43, xR8 C, Option.bind_some, xR6 C, Option.bind_some, if_pos (sok C.kep _), c205' C.kep C.now (by omega), kxv_s, xp10 C, Option.bind_some, xR8 C, Option.bind_some, tm_gI C.kep.1 rfl, Option.bind_some, m2_a _ _ _ _ (by decide), wv_f1, S.e6]
  · have e := c162 (m := m2 (wv m 29 (vw m 13)) 0 10 1) (l := l) M
    rw [m2_r _ _ _ (by decide), m2_r _ _ _ (by decide), wv_out _ _ (by omega), wv_out _ _ (by omega)] at e
    exact e
  · have eF : ∀ i, i < 1108 → m2 (m1 (m2 (m2 (wv m 29 (vw m 13)) 0 10 1) 39 13 0) 42 (fun k => if k < 1108 then m 40 k else m 42 k)) 39 3 1 42 i = m 40 i := fun i hi => by
      rw [m2_r _ _ _ (by decide), m1_s, if_pos hi]
    refine ⟨⟨C, M, h61, g1, by omega, by omega⟩, ⟨P, N, E, ?_, ?_, by omega, ?_⟩, ⟨?_, Or.inr ⟨m2_s _ _ _ _, P, N, E, SR_of S (fun i hi => ?_) eF, VR_of V S.P12 S.N100 eF, by omega, CB_of (CB_le hB (by omega)) eF⟩⟩, iHis_same (by omega) hH ?_ (fun x hx => ?_) ?_ ?_ ?_, fun c hc => ?_, ⟨n, x1, ?_, ?_, fun i hi => ?_⟩, ⟨rn, r1, ?_, ?_, fun i hi => ?_⟩⟩
    · rw [vw_row (m := m) fun x a1 a2 => eo x (by omega) (by omega) (by omega) (by omega), eo 40 (by decide) (by decide) (by decide) (by decide)]
      exact S
    · rw [eo 40 (by decide) (by decide) (by decide) (by decide)]
      exact V
    · rw [eo 40 (by decide) (by decide) (by decide) (by decide)]
      exact CB_le hB (by omega)
    · rw [m2_a _ _ _ _ (by decide), m1_a _ _ (by decide), m2_a _ _ _ _ (by decide), m2_s, m2_s]
    · rw [vw_row (m := wv m 29 (vw m 13)) fun x a1 a2 => by
        rw [m2_r _ _ _ (by omega), m1_a _ _ (by omega), m2_r _ _ _ (by omega), m2_r _ _ _ (by omega)]]
      exact vw_wv _ _ _ hi
    · exact eo 43 (by decide) (by decide) (by decide) (by decide)
    · exact eo x (by omega) (by omega) (by omega) (by omega)
    · rw [eo 37 (by decide) (by decide) (by decide) (by decide)]
    · rw [eo 37 (by decide) (by decide) (by decide) (by decide)]
    · exact e39 5 (by decide) (by decide)
    · rw [eo 10 (by decide) (by decide) (by decide) (by decide), eo 44 (by decide) (by decide) (by decide) (by decide), eo 45 (by decide) (by decide) (by decide) (by decide), eo 46 (by decide) (by decide) (by decide) (by decide)]
      exact hR c hc
    · rw [eo 1 (by decide) (by decide) (by decide) (by decide)]
      exact x2
    · rw [e39 10 (by decide) (by decide)]
      exact x3
    · rw [eo 2 (by decide) (by decide) (by decide) (by decide), eo 47 (by decide) (by decide) (by decide) (by decide)]
      exact x4 i hi
    · rw [eo 7 (by decide) (by decide) (by decide) (by decide)]
      exact r2
    · rw [e39 12 (by decide) (by decide)]
      exact r3
    · rw [eo 8 (by decide) (by decide) (by decide) (by decide)]
      exact r4 i hi
/-! back -/
theorem d163 (M : isM W) : ∀ n i, i + n = 1108 → dn 163 12 [some (.ref 39), some (.int (nI i))] [] (tm W (m1 m 40 fun k => if k < i then m 42 k else f k) l) = some (some (.int (m 42 1106)), tm W (m1 m 40 fun k => if k < 1108 then m 42 k else f k) l)
  | 0, i, h => by
    rw [q_163_12, show i = 1108 by omega, if_pos (show (1108 : Int32) ≤ nI 1108 from Int32.le_refl _), rR0 M, Option.bind_some, wl6 M, Option.bind_some, if_pos (by decide)]
  | n + 1, i, h => by
    rw [q_163_12, if_neg (show ¬ (1108 : Int32) ≤ nI i from nI_ge (b := 1108) (by omega) (by decide)), rR0 M, Option.bind_some, rR2 M, Option.bind_some, rl42 M (by omega), Option.bind_some, m1_a _ _ (by decide), wst M (by omega), Option.bind_some, nI_1, show upd (fun k => if k < i then m 42 k else f k) i (m 42 i) = (fun k => if k < i + 1 then m 42 k else f k) from funext (upd_cp fun _ => rfl)]
    exact d163 M n (i + 1) (by omega)
theorem b_back {j : Nat} (hj : j < 600) (h : Inv j W m l) : Both j W m l 44 163 [] [] := by
  obtain ⟨⟨C, M, -⟩, ⟨P, N, E, S, V, hE, hB⟩, ⟨hk1, hk2⟩, -, R, -, hrow⟩ := id h
  rcases hk2 with hk2 | ⟨hk2, P', N', E', S', V', hE', hB'⟩
  · refine Both_n h (r := -2) ?_ ?_
    · rw [q_44, xI10 C, Option.bind_some, wv_out _ _ (by omega), hk1, hk2, if_pos rfl]
    · have e3 : m2 m 39 13 0 39 3 = 0 := by
        rw [m2_k _ _ _ _ (by decide), hk2]
      simp only [q_163, rok M, rR0 M, rR1 M, rR2 M, rR4 M, rR6 M, rR7 M, rR8 M, rR9 M, rR11 M, rR16 M, rR17 M, rR24 M, rR25 M, rR26 M, rR27 M, rR28 M, rR29 M, rR30 M, rR32 M, rR33 M, rR34 M, wl4 M, wl5 M, wl6 M, wl7 M, ruw13 M, ruw12 M, kxi_s, kxr_s, kxv_s, Option.bind_some, if_true, if_false, i10, c71a M, c71b M, c71c M, c71d M, rIw3 M, e3]
  · obtain ⟨nx, s, W', mk, ⟨hnx, hs⟩, ⟨C', M', hW, hsh⟩, ⟨ko, k5⟩, e174, hInv⟩ := act_keep2 h
    have k29 : vw (wv mk 13 (vw m 13)) 29 = vw m 29 := vw_row fun x a1 a2 => by
      rw [wv_out _ _ (by omega), ko x (by omega) (by omega)]
    have eF : ∀ i, i < 1108 → (fun k => if k < 1108 then m 42 k else m 40 k) i = m 42 i := fun i hi => if_pos hi
    refine Both_a (m 42 1106) (mc := wv mk 13 (vw m 29)) ?_ ?_ (by rw [wv40, ko 40 (by decide) (by decide)]) hW hsh (hInv (vw m 29) (fun k => if k < 1108 then m 42 k else m 40 k) P' N' E' (SR_of S' (fun _ _ => rfl) eF) (VR_of V' S'.P12 S'.N100 eF) (by omega) (CB_of (CB_le hB' (by omega)) eF))
    · rw [q_44, xI10 C, Option.bind_some, wv_out _ _ (by omega), hk1, hk2, if_neg (by decide), xR9 C, Option.bind_some, xR6 C, Option.bind_some, if_pos (hok C _), e174, kxv_s, xR6 C', Option.bind_some, xR8 C', Option.bind_some, if_pos (sok C'.now _)]
      have e := c205 (m := mk) (l := l) (f := vw m 13) C'.now C'.kep (by omega)
      have ek : vw mk 29 = vw m 29 := vw_row fun x a1 a2 => ko x (by omega) (by omega)
      rw [ek] at e
      rw [e, kxv_s, xR6 C', Option.bind_some, sI1 C'.now, Option.bind_some, S'.e6]
    · have e3 : m2 (wv mk 13 (vw m 29)) 39 13 0 39 3 = 1 := by
        rw [m2_k _ _ _ _ (by decide), wv_out _ _ (by omega), ko 39 (by decide) (by decide), hk2]
      simp only [q_163, rok M', rR0 M', rR1 M', rR2 M', rR4 M', rR6 M', rR7 M', rR8 M', rR9 M', rR11 M', rR16 M', rR17 M', rR24 M', rR25 M', rR26 M', rR27 M', rR28 M', rR29 M', rR30 M', rR32 M', rR33 M', rR34 M', wl4 M', wl5 M', wl6 M', wl7 M', ruw13 M', ruw12 M', kxi_s, kxr_s, kxv_s, Option.bind_some, if_true, if_false, i10, c71a M', c71b M', c71c M', c71d M', rIw3 M', e3, c84k M' hs (ko 39 (by decide) (by decide)) k5]
      have e := d163 (m := rkM (m1 (m2 (wv mk 13 (vw m 29)) 39 13 0) 40 (m 40)) s) (l := l) (f := m 40) M' 1108 0 (by omega)
      have e42 : rkM (m1 (m2 (wv mk 13 (vw m 29)) 39 13 0) 40 (m 40)) s 42 = m 42 := by
        rw [rkM_o _ _ (by decide) (by decide) (by decide), m1_a _ _ (by decide), m2_r _ _ _ (by decide), wv_out _ _ (by omega), ko 42 (by decide) (by decide)]
      rw [e42, show (fun k => if k < 0 then m 42 k else m 40 k) = m 40 from funext fun k => if_neg (by omega)] at e
      exact e
/-! undo -/
theorem d168 (M : isM W) {c : Nat} (hc : c < 8) (h5 : m 39 5 = nI c) : ∀ n i, i + n = 1108 → dn 168 16 [some (.ref 39), some (.int (nI i))] [] (tm W (m1 m 40 fun k => if k < i then m 43 (1108 * c + k) else f k) l) = some (some (.int (nI c)), tm W (m1 m 40 fun k => if k < 1108 then m 43 (1108 * c + k) else f k) l)
  | 0, i, h => by
    rw [q_168_16, show i = 1108 by omega, if_pos (show (1108 : Int32) ≤ nI 1108 from Int32.le_refl _), rIw5 M, Option.bind_some, h5]
  | n + 1, i, h => by
    rw [q_168_16, if_neg (show ¬ (1108 : Int32) ≤ nI i from nI_ge (b := 1108) (by omega) (by decide)), rR0 M, Option.bind_some, rR4 M, Option.bind_some, rIw5 M, Option.bind_some, h5, i1108, rl43 M (by omega), Option.bind_some, m1_a _ _ (by decide), wst M (by omega), Option.bind_some, nI_1, show upd (fun k => if k < i then m 43 (1108 * c + k) else f k) i (m 43 (1108 * c + i)) = (fun k => if k < i + 1 then m 43 (1108 * c + k) else f k) from funext (upd_cp (r := fun k => m 43 (1108 * c + k)) fun _ => rfl)]
    exact d168 M hc h5 n (i + 1) (by omega)
theorem rem8' {nx : Nat} (h : nx < 8) : ((nI nx + 8) - 1) - ((nI nx + 8) - 1) / 8 * 8 = nI ((nx + 7) % 8) := by
  have e : (nI nx + 8) - 1 = nI (nx + 7) := by
    rw [show (8 : Int32) = nI 8 from rfl, nI_add, show nx + 8 = nx + 7 + 1 from rfl, nI_pred]
  rw [e, rem8 (by omega)]
theorem b_undo {j : Nat} (hj : j < 600) (h : Inv j W m l) : Both j W m l 47 168 [] [] := by
  obtain ⟨⟨C, M, h61, g1, g2, g3⟩, ⟨P, N, E, S, V, hE, hB⟩, ⟨k1, k2⟩, ⟨nx, s, t1, t2, t3, t4, t5, t6, t7, t8⟩, hR, ⟨n, x1, x2, x3, x4⟩, ⟨rn, r1, r2, r3, r4⟩⟩ := id h
  by_cases hs : s = 0
  · subst hs
    refine Both_n h (r := -2) ?_ ?_
    · rw [wv_eta, q_47, xR9 C, Option.bind_some, xR6 C, Option.bind_some, if_pos (hok C _), q_175, tm_gI C.t37 rfl, Option.bind_some, t4, if_pos (show nI 0 = 0 from rfl), kxi_s, if_pos rfl]
    · have e5 : m2 m 39 13 0 39 5 = 0 := by
        rw [m2_k _ _ _ _ (by decide), t5]
        rfl
      simp only [q_168, rok M, rR0 M, rR1 M, rR2 M, rR4 M, rR6 M, rR7 M, rR8 M, rR9 M, rR11 M, rR16 M, rR17 M, rR24 M, rR25 M, rR26 M, rR27 M, rR28 M, rR29 M, rR30 M, rR32 M, rR33 M, rR34 M, wl4 M, wl5 M, wl6 M, wl7 M, ruw13 M, ruw12 M, kxi_s, kxr_s, kxv_s, Option.bind_some, if_true, if_false, i10, c71a M, c71b M, c71c M, c71d M, rIw5 M, e5]
  · obtain ⟨a, P', N', E', q1, q2, q3, q4, q5⟩ := t8 (s - 1) (by omega)
    rw [show (nx + 8 - s + (s - 1)) % 8 = (nx + 7) % 8 by omega] at q1
    have hlt : (nx + 7) % 8 < 8 := Nat.mod_lt _ (by decide)
    obtain ⟨b1, b2, b3⟩ := t6 _ a hlt q1
    have eo : ∀ x, x ≠ 37 → x ≠ 39 → x ≠ 40 → (x < 13 ∨ 21 ≤ x) → m1 (m2 (m2 (m2 (m2 (wv m 13 (vw m a)) 37 1 (nI ((nx + 7) % 8))) 37 2 (nI (s - 1))) 39 13 0) 39 5 (nI (s - 1))) 40 (fun k => if k < 1108 then m 43 (1108 * (s - 1) + k) else m 40 k) x = m x := by
      intro x h0 h1 h2 h3
      rw [m1_a _ _ h2, m2_r _ _ _ h1, m2_r _ _ _ h1, m2_r _ _ _ h0, m2_r _ _ _ h0, wv_out _ _ (by omega)]
    have e39 : ∀ k, k ≠ 5 → k ≠ 13 → m1 (m2 (m2 (m2 (m2 (wv m 13 (vw m a)) 37 1 (nI ((nx + 7) % 8))) 37 2 (nI (s - 1))) 39 13 0) 39 5 (nI (s - 1))) 40 (fun k => if k < 1108 then m 43 (1108 * (s - 1) + k) else m 40 k) 39 k = m 39 k := by
      intro k h0 h1
      rw [m1_a _ _ (by decide), m2_k _ _ _ _ h0, m2_k _ _ _ _ h1, m2_a _ _ _ _ (by decide), m2_a _ _ _ _ (by decide), wv_out _ _ (by omega)]
    have s1 : nI s - 1 = nI (s - 1) := by
      obtain ⟨q, rfl⟩ : ∃ q, s = q + 1 := ⟨s - 1, by omega⟩
      exact nI_pred q
    refine ⟨nI (s - 1), W, m2 (m2 (wv m 13 (vw m a)) 37 1 (nI ((nx + 7) % 8))) 37 2 (nI (s - 1)), l, W, m1 (m2 (m2 (m2 (m2 (wv m 13 (vw m a)) 37 1 (nI ((nx + 7) % 8))) 37 2 (nI (s - 1))) 39 13 0) 39 5 (nI (s - 1))) 40 (fun k => if k < 1108 then m 43 (1108 * (s - 1) + k) else m 40 k), l, ?_, ?_, rfl, rfl, rfl, rfl, ?_⟩
    · have ns : ¬ nI s = 0 := fun q => hs ((neq0 (by omega)).mp q)
      have w37 : wv m 13 (vw m a) 37 = m 37 := wv_out _ _ (by omega)
      rw [q_47, xR9 C, Option.bind_some, xR6 C, Option.bind_some, if_pos (hok C _), q_175, tm_gI C.t37 rfl, Option.bind_some, t4, if_neg ns, tm_gI C.t37 rfl, Option.bind_some, t3, tm_gR C.t37 rfl, Option.bind_some, rem8' t1, tm_ldR C.t38 hlt (by decide), Option.bind_some, q1]
      simp only [Option.elim]
      rw [if_pos (sok C.now _), c205' C.now b3 (by omega), kxv_s, tm_pI C.t37 rfl, Option.bind_some, tm_gI C.t37 rfl, Option.bind_some, m2_k _ _ _ _ (by decide), w37, t4, s1, tm_pI C.t37 rfl, Option.bind_some, kxi_s, if_neg (by decide), xR9 C, Option.bind_some, tm_gI C.t37 rfl, Option.bind_some, m2_s]
    · have ns : ¬ nI s = 0 := fun q => hs ((neq0 (by omega)).mp q)
      have c5 : m2 (m2 (m2 (wv m 13 (vw m a)) 37 1 (nI ((nx + 7) % 8))) 37 2 (nI (s - 1))) 39 13 0 39 5 = nI s := by
        rw [m2_k _ _ _ _ (by decide), m2_a _ _ _ _ (by decide), m2_a _ _ _ _ (by decide), wv_out _ _ (by omega), t5]
      rw [q_168, ru13 M, Option.bind_some, rI5 M, Option.bind_some, c5, if_neg ns, Option.bind_some, s1, ru5 M, Option.bind_some]
      have e := d168 (m := m2 (m2 (m2 (m2 (wv m 13 (vw m a)) 37 1 (nI ((nx + 7) % 8))) 37 2 (nI (s - 1))) 39 13 0) 39 5 (nI (s - 1))) (l := l) (c := s - 1) (f := m 40) M (by omega) (m2_s _ _ _ _) 1108 0 (by omega)
      have e43 : m2 (m2 (m2 (m2 (wv m 13 (vw m a)) 37 1 (nI ((nx + 7) % 8))) 37 2 (nI (s - 1))) 39 13 0) 39 5 (nI (s - 1)) 43 = m 43 := by
        rw [m2_r _ _ _ (by decide), m2_r _ _ _ (by decide), m2_r _ _ _ (by decide), m2_r _ _ _ (by decide), wv_out _ _ (by omega)]
      have e40 : m2 (m2 (m2 (m2 (wv m 13 (vw m a)) 37 1 (nI ((nx + 7) % 8))) 37 2 (nI (s - 1))) 39 13 0) 39 5 (nI (s - 1)) 40 = m 40 := by
        rw [m2_r _ _ _ (by decide), m2_r _ _ _ (by decide), m2_r _ _ _ (by decide), m2_r _ _ _ (by decide), wv_out _ _ (by omega)]
      have em := m1_e (m2 (m2 (m2 (m2 (wv m 13 (vw m a)) 37 1 (nI ((nx + 7) % 8))) 37 2 (nI (s - 1))) 39 13 0) 39 5 (nI (s - 1))) 40
      rw [e40] at em
      rw [e43, show (fun k => if k < 0 then m 43 (1108 * (s - 1) + k) else m 40 k) = m 40 from funext fun k => if_neg (by omega), em] at e
      exact e
    · have eF : ∀ i, i < 1108 → m1 (m2 (m2 (m2 (m2 (wv m 13 (vw m a)) 37 1 (nI ((nx + 7) % 8))) 37 2 (nI (s - 1))) 39 13 0) 39 5 (nI (s - 1))) 40 (fun k => if k < 1108 then m 43 (1108 * (s - 1) + k) else m 40 k) 40 i = (fun i => m 43 (1108 * (s - 1) + i)) i := fun i hi => by
        rw [m1_s, if_pos hi]
      refine ⟨⟨C, M, h61, g1, by omega, by omega⟩, ⟨P', N', E', SR_of q2 (fun i hi => ?_) eF, VR_of q3 q2.P12 q2.N100 eF, by omega, CB_of (CB_le q5 (by omega)) eF⟩, ⟨?_, ?_⟩, ⟨(nx + 7) % 8, s - 1, hlt, by omega, ?_, ?_, ?_, t6, t7, fun k hk => ?_⟩, fun c hc => ?_, ⟨n, x1, ?_, ?_, fun i hi => ?_⟩, ⟨rn, r1, ?_, ?_, fun i hi => ?_⟩⟩
      · rw [vw_row (m := wv m 13 (vw m a)) fun x a1 a2 => by
          rw [m1_a _ _ (by omega), m2_r _ _ _ (by omega), m2_r _ _ _ (by omega), m2_r _ _ _ (by omega), m2_r _ _ _ (by omega)]]
        exact vw_wv _ _ _ hi
      · rw [eo 0 (by decide) (by decide) (by decide) (by decide), e39 3 (by decide) (by decide)]
        exact k1
      · rw [e39 3 (by decide) (by decide), vw_row (m := m) fun x a1 a2 => eo x (by omega) (by omega) (by omega) (by omega), eo 42 (by decide) (by decide) (by decide) (by decide)]
        rcases k2 with k2 | ⟨k2, P', N', E', q1, q2, q3, q4⟩
        · exact Or.inl k2
        · exact Or.inr ⟨k2, P', N', E', q1, q2, by omega, CB_le q4 (by omega)⟩
      · rw [m1_a _ _ (by decide), m2_a _ _ _ _ (by decide), m2_a _ _ _ _ (by decide), m2_k _ _ _ _ (by decide), m2_s]
      · rw [m1_a _ _ (by decide), m2_a _ _ _ _ (by decide), m2_a _ _ _ _ (by decide), m2_s]
      · rw [m1_a _ _ (by decide), m2_s]
      · obtain ⟨a', P', N', E', u1, u2, u3, u4, u5⟩ := t8 k (by omega)
        have ha := t6 _ a' (Nat.mod_lt _ (by decide)) u1
        refine ⟨a', P', N', E', ?_, ?_, ?_, by omega, ?_⟩
        · rw [show ((nx + 7) % 8 + 8 - (s - 1) + k) % 8 = (nx + 8 - s + k) % 8 by omega]
          exact u1
        · rw [vw_row (m := m) fun x a1 a2 => eo x (by omega) (by omega) (by omega) (by omega), eo 43 (by decide) (by decide) (by decide) (by decide)]
          exact u2
        · rw [eo 43 (by decide) (by decide) (by decide) (by decide)]
          exact u3
        · rw [eo 43 (by decide) (by decide) (by decide) (by decide)]
          exact CB_le u5 (by omega)
      · rw [eo 10 (by decide) (by decide) (by decide) (by decide), eo 44 (by decide) (by decide) (by decide) (by decide), eo 45 (by decide) (by decide) (by decide) (by decide), eo 46 (by decide) (by decide) (by decide) (by decide)]
        exact hR c hc
      · rw [eo 1 (by decide) (by decide) (by decide) (by decide)]
        exact x2
      · rw [e39 10 (by decide) (by decide)]
        exact x3
      · rw [eo 2 (by decide) (by decide) (by decide) (by decide), eo 47 (by decide) (by decide) (by decide) (by decide)]
        exact x4 i hi
      · rw [eo 7 (by decide) (by decide) (by decide) (by decide)]
        exact r2
      · rw [e39 12 (by decide) (by decide)]
        exact r3
      · rw [eo 8 (by decide) (by decide) (by decide) (by decide)]
        exact r4 i hi
end QRY

section TXR
variable {W : tm_W} {m : Nat → Nat → Int32} {l : Nat → Nat → Int64} {f g : Nat → Int32}
/-! PLAY: the reference's card -/
def plM (X : Nat → Nat → Int32) (k o ca se : Int32) : Nat → Nat → Int32 := m2 (m2 (svM X k o) 39 19 ca) 39 20 se
theorem plM_20 (X : Nat → Nat → Int32) (k o ca se : Int32) : plM X k o ca se 39 20 = se := m2_s _ _ _ _
theorem plM_19 (X : Nat → Nat → Int32) (k o ca se : Int32) : plM X k o ca se 39 19 = ca := by
  unfold plM
  rw [m2_k _ _ _ _ (by decide), m2_s]
theorem plM_15 (X : Nat → Nat → Int32) (k o ca se : Int32) : plM X k o ca se 39 15 = o := by
  unfold plM
  rw [m2_k _ _ _ _ (by decide), m2_k _ _ _ _ (by decide), svM_b]
theorem plM_14 (X : Nat → Nat → Int32) (k o ca se : Int32) : plM X k o ca se 39 14 = k := by
  unfold plM
  rw [m2_k _ _ _ _ (by decide), m2_k _ _ _ _ (by decide), svM_a]
theorem plM_k (X : Nat → Nat → Int32) (k o ca se : Int32) {j : Nat} (h1 : j ≠ 14) (h2 : j ≠ 15) (h3 : j ≠ 19) (h4 : j ≠ 20) : plM X k o ca se 39 j = X 39 j := by
  unfold plM
  rw [m2_k _ _ _ _ h4, m2_k _ _ _ _ h3, svM_k _ _ _ h1 h2]
theorem plM_o (X : Nat → Nat → Int32) (k o ca se : Int32) {x : Nat} (h : x ≠ 39) : plM X k o ca se x = X x := by
  unfold plM
  rw [m2_r _ _ _ h, m2_r _ _ _ h, svM_o _ _ _ h]
theorem plM_s20 (X : Nat → Nat → Int32) (k o ca se v : Int32) : m2 (plM X k o ca se) 39 20 v = plM X k o ca v := m2_m2 _ _ _ _ _
theorem plM_s19 (X : Nat → Nat → Int32) (k o ca se v : Int32) : m2 (plM X k o ca se) 39 19 v = plM X k o v se := by
  unfold plM
  rw [m2_c (m2 (svM X k o) 39 19 ca) _ _ (by decide), m2_m2]
theorem or_id {x p : Nat} (h : x.testBit p = true) : x ||| 2 ^ p = x := by
  apply Nat.eq_of_testBit_eq
  intro i
  rw [Nat.testBit_or, Nat.testBit_two_pow]
  by_cases e : p = i
  · subst e
    rw [h]
    rfl
  · rw [decide_eq_false e, Bool.or_false]
theorem ixQ (t j : Nat) : (72 + 3 * nI t) + nI j = nI (72 + (3 * t + j)) := ixP 72 t j
theorem ixQ2 (t : Nat) : (72 + 3 * nI t) + 2 = nI (72 + (3 * t + 2)) := ixP 72 t 2
section CD
variable {c a b S red : Nat} {al : Int32} {bn : Int32 → Nat} {X : Nat → Nat → Int32} {o ca se : Nat} {k0 : Int32}
theorem c97 (M : isM W) {p t : Nat} (hp : p < 12) (ht : t < 4) (hf : f p = nI t) {ca' : Int32} : cl 97 [.ref 39, .int (nI p)] (tm W (m1 (plM X k0 (nI o) ca' (nI se)) 40 f) l) = some (none, tm W (m1 (plM X k0 (nI o) ca' (nI (se ||| 2 ^ p))) 40 (cdF f p t 2)) l) := by
  have e1 : upd f (72 + (3 * p + 2)) (f (72 + (3 * p + 2)) + 1) p = nI t := by rw [pk_un (by omega)]; exact hf
  have e2 : upd f (72 + (3 * p + 2)) (f (72 + (3 * p + 2)) + 1) (60 + (3 * t + 2)) = f (60 + (3 * t + 2)) := pk_un (by omega)
  rw [q_97]
  simp only [rIw20 M, plM_20, Option.bind_some, bitO hp, ruw20 M, plM_s20, rR0 M, ixQ2, wl M (show 72 + (3 * p + 2) < 1108 by omega), wst M (show 72 + (3 * p + 2) < 1108 by omega), zadd, wl M (show p < 1108 by omega), e1, ixp2, wl M (show 60 + (3 * t + 2) < 1108 by omega), wst M (show 60 + (3 * t + 2) < 1108 by omega), e2]
  unfold cdF inc
  rw [e2]
theorem shLen9R {kind p : Nat} {s : SH} (R : rlR X c S red al bn) : shLen bn red c kind p s ≤ 9 := by
  obtain ⟨r1, r2, r3, r4, r5, r6, r7⟩ := R
  unfold shLen
  split
  · omega
  · split
    · omega
    · exact (r7 _).2
theorem c96z (M : isM W) (R : rlR X c S red al bn) (o' ca' se' : Int32) (v : Int32) : cl 96 [.ref 39, .int (nI c), .int v] (tm W (m1 (plM X k0 o' ca' se') 40 f) l) = some (some (.int (nI (bn v))), tm W (m1 (plM X k0 o' ca' se') 40 f) l) := by
  obtain ⟨r1, r2, r3, r4, r5, r6, r7⟩ := R
  have e := c96 (m := plM X k0 o' ca' se') (l := l) (f := f) M r1 (by rw [plM_o _ _ _ _ _ (by decide)]; exact r3) r2 v
  rw [plM_o _ _ _ _ _ (by decide), plM_o _ _ _ _ _ (by decide)] at e
  rw [e]
  rw [show bnA (fun k => X 45 (4 * c + k)) (fun k => X 46 (4 * c + k)) v S 0 = nI (bn v) from (r7 v).1]
/-- the ban, if one comes -/
theorem e98_134 (M : isM W) {p N E len : Nat} {x1 x3 x4 x6 x7 : Int32} {ca' se' : Int32} (R : rlR X c S red al bn) (hl : len ≤ 9) (hN : f 1105 = nI N) (hN2 : N ≤ 100) (hE : f 1107 = nI E) (hE2 : E < 2 ^ 30) : dn 98 134 [some (.ref 39), some (.int x1), some (.int (nI c)), some (.int x3), some (.int x4), some (.int (nI p)), some (.int x6), some (.int x7), some (.int (nI len))] [] (tm W (m1 (plM X k0 (nI o) ca' se') 40 f) l) = some (some (.int (if 0 < len ∧ N = 100 then -4 else 0)), tm W (m1 (plM X k0 (nI o) ca' se') 40 (if len = 0 ∨ N = 100 then f else tBn f E N (nI p) (nI c) (nI len) al)) l) := by
  obtain ⟨r1, r2, r3, r4, r5, r6, r7⟩ := R
  rw [q_98_134]
  by_cases h0 : len = 0
  · subst h0
    rw [if_pos (by decide), if_neg (by omega), if_pos (Or.inl rfl)]
  · rw [if_neg (nI_ne0 (show 0 < len by omega) (by omega)), if_pos (rok M _)]
    by_cases h1 : N = 100
    · rw [c86f M hN h1, kxi_s, if_pos rfl, if_pos ⟨by omega, h1⟩, if_pos (Or.inr h1)]
    · rw [c86 M hN (show N < 100 by omega) hE hE2 r1, kxi_s, if_neg (by decide), if_neg (fun z => h1 z.2), if_neg (fun z => z.elim h0 h1), plM_o _ _ _ _ _ (by decide), r5]
theorem k98 (M : isM W) {i p t kind N E : Nat} (hi : i < 200) (h50 : X 50 i = nI p) (h49 : X 49 i = nI kind) (R : rlR X c S red al bn) (hp : p < 12) (ho : o < 4096) (hca : ca < 4096) (hse : se < 4096) (hk : kind = 0 ∨ kind = 1) (ht : t < 4) (hf : f p = nI t) (hN : f 1105 = nI N) (hN2 : N ≤ 100) (hE : f 1107 = nI E) (hE2 : E < 2 ^ 30) : (shC o (nI a) (nI b) bn red c kind p (f, E, N, ca, se) = 0 → cl 98 [.ref 39, .int (nI i), .int (nI c), .int (nI a), .int (nI b)] (tm W (m1 (plM X k0 (nI o) (nI ca) (nI se)) 40 f) l) = some (some (.int 0), tm W (m1 (plM X k0 (nI o) (nI (shT al c t kind p (shLen bn red c kind p (f, E, N, ca, se)) (f, E, N, ca, se)).2.2.2.1) (nI (shT al c t kind p (shLen bn red c kind p (f, E, N, ca, se)) (f, E, N, ca, se)).2.2.2.2)) 40 (shT al c t kind p (shLen bn red c kind p (f, E, N, ca, se)) (f, E, N, ca, se)).1) l)) ∧ (shC o (nI a) (nI b) bn red c kind p (f, E, N, ca, se) ≠ 0 → ∃ ca' se' G, cl 98 [.ref 39, .int (nI i), .int (nI c), .int (nI a), .int (nI b)] (tm W (m1 (plM X k0 (nI o) (nI ca) (nI se)) 40 f) l) = some (some (.int (shC o (nI a) (nI b) bn red c kind p (f, E, N, ca, se))), tm W (m1 (plM X k0 (nI o) ca' se') 40 G) l)) := by
  have hc := R.1
  have hr := R.2.2.2.1
  have r6 := R.2.2.2.2.2.1
  have h9 := shLen9R (kind := kind) (p := p) (s := (f, E, N, ca, se)) R
  have hos : o ||| se < 4096 := Nat.or_lt_two_pow (n := 12) ho hse
  have so : ∀ k, (k < 12 ∨ 108 ≤ k) → shF c t kind p ca f k = f k := fun k h => shF_o hc hp ht hk h
  have y50 : m1 (plM X k0 (nI o) (nI ca) (nI se)) 40 f 50 i = nI p := by rw [m1_a _ _ (by decide), plM_o _ _ _ _ _ (by decide)]; exact h50
  have y49 : m1 (plM X k0 (nI o) (nI ca) (nI se)) 40 f 49 i = nI kind := by rw [m1_a _ _ (by decide), plM_o _ _ _ _ _ (by decide)]; exact h49
  have y44 : ∀ F, m1 (plM X k0 (nI o) (nI ca) (nI se)) 40 F 44 = X 44 := fun F => by rw [m1_a _ _ (by decide), plM_o _ _ _ _ _ (by decide)]
  have e1 : upd f (72 + (3 * p + kind)) (f (72 + (3 * p + kind)) + 1) p = nI t := by rw [pk_un (by omega)]; exact hf
  have e2 : upd f (72 + (3 * p + kind)) (f (72 + (3 * p + kind)) + 1) (60 + (3 * t + kind)) = f (60 + (3 * t + kind)) := pk_un (by omega)
  have ecd : upd (upd f (72 + (3 * p + kind)) (f (72 + (3 * p + kind)) + 1)) (60 + (3 * t + kind)) (f (60 + (3 * t + kind)) + 1) = cdF f p t kind := by
    unfold cdF inc
    rw [e2]
  have e3 : cdF f p t kind p = nI t := by rw [cdF_o hp ht (by omega) (by omega)]; exact hf
  -- what the card does, ahead of its ban
  have key : ¬ (o ||| se).testBit p = true → (f p = nI a ∨ f p = nI b) → ∃ ca' se', cl 98 [.ref 39, .int (nI i), .int (nI c), .int (nI a), .int (nI b)] (tm W (m1 (plM X k0 (nI o) (nI ca) (nI se)) 40 f) l) = some (some (.int (if 0 < shLen bn red c kind p (f, E, N, ca, se) ∧ N = 100 then -4 else 0)), tm W (m1 (plM X k0 (nI o) ca' se') 40 (if shLen bn red c kind p (f, E, N, ca, se) = 0 ∨ N = 100 then shF c t kind p ca f else tBn (shF c t kind p ca f) E N (nI p) (nI c) (nI (shLen bn red c kind p (f, E, N, ca, se))) al)) l) ∧ ca' = nI (if kind = 1 then ca else ca ||| 2 ^ p) ∧ se' = nI (if kind = 1 ∨ ca.testBit p = true then se ||| 2 ^ p else se) := by
    intro hb hteam
    have e2' : (o ||| se).testBit p = false := by simpa using hb
    have E0 : cl 98 [.ref 39, .int (nI i), .int (nI c), .int (nI a), .int (nI b)] (tm W (m1 (plM X k0 (nI o) (nI ca) (nI se)) 40 f) l) = (if nI kind = 1 then kxv (cl 97 [.ref 39, .int (nI p)] (tm W (m1 (plM X k0 (nI o) (nI ca) (nI se)) 40 (cdF f p t kind)) l)) (fun h33 => dn 98 134 [some (.ref 39), some (.int (nI i)), some (.int (nI c)), some (.int (nI a)), some (.int (nI b)), some (.int (nI p)), some (.int (nI kind)), some (.int (nI (12 + (4 * p + c)))), some (.int (nI red))] [] h33) else (if ca.testBit p = true then kxv (cl 97 [.ref 39, .int (nI p)] (tm W (m1 (plM X k0 (nI o) (nI ca) (nI se)) 40 (cdF f p t kind)) l)) (fun h29 => (ia_gR h29 8 39 0).bind fun a30 => (ia_ld h29 0 a30 (nI (12 + (4 * p + c)))).bind fun v31 => (ia_st h29 0 a30 (nI (12 + (4 * p + c))) (v31 - 1)).bind fun h32 => dn 98 134 [some (.ref 39), some (.int (nI i)), some (.int (nI c)), some (.int (nI a)), some (.int (nI b)), some (.int (nI p)), some (.int (nI kind)), some (.int (nI (12 + (4 * p + c)))), some (.int 1)] [] h32) else dn 98 134 [some (.ref 39), some (.int (nI i)), some (.int (nI c)), some (.int (nI a)), some (.int (nI b)), some (.int (nI p)), some (.int (nI kind)), some (.int (nI (12 + (4 * p + c)))), some (.int (nI (bn (cdF f p t kind (12 + (4 * p + c)) + 1))))] [] (tm W (m1 (plM X k0 (nI o) (nI (ca ||| 2 ^ p)) (nI se)) 40 (inc (cdF f p t kind) (12 + (4 * p + c)) 1)) l))) := by
      rw [q_98]
      simp only [rR17 M, Option.bind_some, rl50 M hi, y50, rok M, if_true, c92 M hp, eq_true hteam, kxi_s, i10, if_false, rIw15 M, rIw20 M, plM_15, plM_20, or_nI, bitR hos hp, e2', Bool.false_eq_true, rR16 M, rl49 M hi, y49, rR0 M, ixQ, wl M (show 72 + (3 * p + kind) < 1108 by omega), wst M (show 72 + (3 * p + kind) < 1108 by omega), zadd, wl M (show p < 1108 by omega), e1, ixp, wl M (show 60 + (3 * t + kind) < 1108 by omega), wst M (show 60 + (3 * t + kind) < 1108 by omega), e2, ecd, rR6 M, ixf1, rl44 M (show 4 * c + 1 < 16 by omega), y44, hr, ixc, rIw19 M, plM_19, bitR hca hp, bitO hp, ruw19 M, plM_s19, wl M (show 12 + (4 * p + c) < 1108 by omega), wst M (show 12 + (4 * p + c) < 1108 by omega), pk_us, c96z M R, nI_1]
      rfl
    rcases hk with rfl | rfl
    · by_cases htb : ca.testBit p = true
      · have eF : shF c t 0 p ca f = inc (cdF (cdF f p t 0) p t 2) (12 + (4 * p + c)) (-1) := by
          unfold shF
          rw [if_neg (by decide), if_pos htb]
        have eL : shLen bn red c 0 p (f, E, N, ca, se) = 1 := by
          unfold shLen
          rw [if_neg (by decide), if_pos htb]
        refine ⟨nI ca, nI (se ||| 2 ^ p), ?_, ?_, ?_⟩
        · rw [E0, if_neg (by decide), if_pos htb, c97 M hp ht e3, kxv_s, rR0 M, Option.bind_some, wl M (show 12 + (4 * p + c) < 1108 by omega), Option.bind_some, wst M (show 12 + (4 * p + c) < 1108 by omega), Option.bind_some, show upd (cdF (cdF f p t 0) p t 2) (12 + (4 * p + c)) (cdF (cdF f p t 0) p t 2 (12 + (4 * p + c)) - 1) = shF c t 0 p ca f by rw [eF]; unfold inc; rw [Int32.sub_eq_add_neg], eL]
          exact e98_134 M (len := 1) R (by decide) (by rw [so _ (by decide)]; exact hN) hN2 (by rw [so _ (by decide)]; exact hE) hE2
        · rw [if_neg (by decide), or_id htb]
        · rw [if_pos (Or.inr htb)]
      · have eF : shF c t 0 p ca f = inc (cdF f p t 0) (12 + (4 * p + c)) 1 := by
          unfold shF
          rw [if_neg (by decide), if_neg htb]
        have eL : shLen bn red c 0 p (f, E, N, ca, se) = bn (cdF f p t 0 (12 + (4 * p + c)) + 1) := by
          unfold shLen
          rw [if_neg (by decide), if_neg htb, cdF_o hp ht (by decide) (by omega)]
        refine ⟨nI (ca ||| 2 ^ p), nI se, ?_, ?_, ?_⟩
        · rw [eL] at h9 ⊢
          rw [E0, if_neg (by decide), if_neg htb, ← eF]
          exact e98_134 M R h9 (by rw [so _ (by decide)]; exact hN) hN2 (by rw [so _ (by decide)]; exact hE) hE2
        · rw [if_neg (by decide)]
        · rw [if_neg (fun z => z.elim (by decide) htb)]
    · have eF : shF c t 1 p ca f = cdF (cdF f p t 1) p t 2 := by
        unfold shF
        rw [if_pos rfl]
      have eL : shLen bn red c 1 p (f, E, N, ca, se) = red := by
        unfold shLen
        rw [if_pos rfl]
      refine ⟨nI ca, nI (se ||| 2 ^ p), ?_, ?_, ?_⟩
      · rw [eL] at h9 ⊢
        rw [E0, if_pos (by decide), c97 M hp ht e3, kxv_s, ← eF]
        exact e98_134 M R h9 (by rw [so _ (by decide)]; exact hN) hN2 (by rw [so _ (by decide)]; exact hE) hE2
      · rw [if_pos rfl]
      · rw [if_pos (Or.inl rfl)]
  unfold shC
  dsimp only
  by_cases h1 : f p = nI a ∨ f p = nI b
  · rw [if_pos h1]
    by_cases h2 : (o ||| se).testBit p = true
    · rw [if_pos h2]
      refine ⟨fun z => (by cases z), fun _ => ⟨nI ca, nI se, f, ?_⟩⟩
      rw [q_98]
      simp only [rR17 M, Option.bind_some, rl50 M hi, y50, rok M, if_true, c92 M hp, eq_true h1, kxi_s, i10, if_false, rIw15 M, rIw20 M, plM_15, plM_20, or_nI, bitR hos hp, h2]
    · rw [if_neg h2]
      obtain ⟨ca', se', k1, k2, k3⟩ := key h2 h1
      by_cases h3 : 0 < shLen bn red c kind p (f, E, N, ca, se) ∧ N = 100
      · rw [if_pos h3] at k1 ⊢
        exact ⟨fun z => (by cases z), fun _ => ⟨ca', se', _, k1⟩⟩
      · rw [if_neg h3] at k1 ⊢
        refine ⟨fun _ => ?_, fun z => absurd rfl z⟩
        rw [k1, k2, k3]
        unfold shT
        dsimp only
        by_cases h4 : shLen bn red c kind p (f, E, N, ca, se) = 0
        · rw [if_pos (Or.inl h4), if_pos h4]
        · rw [if_neg (show ¬ (shLen bn red c kind p (f, E, N, ca, se) = 0 ∨ N = 100) from fun z => z.elim h4 (fun y => h3 ⟨by omega, y⟩)), if_neg h4]
  · rw [if_neg h1]
    refine ⟨fun z => (by cases z), fun _ => ⟨nI ca, nI se, f, ?_⟩⟩
    rw [q_98]
    simp only [rR17 M, Option.bind_some, rl50 M hi, y50, rok M, if_true, c92 M hp, eq_false h1, kxi_s, if_false]
end CD
end TXR

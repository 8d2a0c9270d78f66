/-! WRITERS: what both sides do to the row of a State. Each is told once, as a change of the row -/
def tEn (f : Nat → Int32) (E : Nat) (wh bn : Int32) : Nat → Int32 := upd (upd (upd (upd f (124 + 3 * (E % 60)) wh) (124 + (3 * (E % 60) + 1)) bn) (124 + (3 * (E % 60) + 2)) (f 1106)) 1107 (nI (E + 1))
/-- a ban without its entry -/
def tBs (f : Nat → Int32) (N : Nat) (p c n a : Int32) : Nat → Int32 := upd (upd (upd (upd (upd (upd (upd (upd (upd f 1105 (nI (N + 1))) (304 + (8 * N)) p) (304 + (8 * N + 1)) c) (304 + (8 * N + 2)) n) (304 + (8 * N + 3)) a) (304 + (8 * N + 4)) 0) (304 + (8 * N + 5)) n) (304 + (8 * N + 6)) (f 1106)) (304 + (8 * N + 7)) 0
def tBn (f : Nat → Int32) (E N : Nat) (p c n a : Int32) : Nat → Int32 := tEn (tBs f N p c n a) E 0 (nI N)
/-- one match of a ban is served, without its entries -/
def tSs (f : Nat → Int32) (b : Nat) : Nat → Int32 := upd (upd f (304 + (8 * b + 2)) (f (304 + (8 * b + 2)) - 1)) (304 + (8 * b + 7)) (f (304 + (8 * b + 7)) + 1)
def tSv (f : Nat → Int32) (E b : Nat) : Nat → Int32 := if f (304 + (8 * b + 2)) - 1 ≤ 0 then tEn (tEn (tSs f b) E 1 (nI b)) (E + 1) 2 (nI b) else tEn (tSs f b) E 1 (nI b)
theorem tEn_lo (f : Nat → Int32) (E : Nat) (wh bn : Int32) {i : Nat} (h : i < 124 ∨ (304 ≤ i ∧ i ≠ 1107)) : tEn f E wh bn i = f i := by
  have hm : E % 60 < 60 := Nat.mod_lt _ (by decide)
  unfold tEn
  rw [pk_un (by omega), pk_un (by omega), pk_un (by omega), pk_un (by omega)]
theorem tEn_e (f : Nat → Int32) (E : Nat) (wh bn : Int32) : tEn f E wh bn 1107 = nI (E + 1) := pk_us
theorem tBs_lo (f : Nat → Int32) (N : Nat) (p c n a : Int32) {i : Nat} (h : i < 304 + 8 * N ∨ (304 + 8 * N + 8 ≤ i ∧ i ≠ 1105)) (h2 : i ≠ 1105) : tBs f N p c n a i = f i := by
  unfold tBs
  rw [pk_un (by omega), pk_un (by omega), pk_un (by omega), pk_un (by omega), pk_un (by omega), pk_un (by omega), pk_un (by omega), pk_un (by omega), pk_un (by omega)]
section WRI
variable {W : tm_W} {m : Nat → Nat → Int32} {l : Nat → Nat → Int64} {o : Nat} {f : Nat → Int32}
theorem rem60 {E : Nat} (h : E < 2 ^ 30) : nI E - nI E / 60 * 60 = nI (E % 60) := pk_rem (a := E) (d := 60) (by omega) (by decide) (by decide)
theorem mul3 (k : Nat) : nI k * 3 = nI (3 * k) := by rw [show (3 : Int32) = nI 3 from rfl, pk_mul, Nat.mul_comm]
theorem c234 (S : isSt W o) {E : Nat} (hE : f 1107 = nI E) (hE2 : E < 2 ^ 30) (wh bn : Int32) : cl 234 [.ref o, .int wh, .int bn] (tm W (wv m o f) l) = some (none, tm W (wv m o (tEn f E wh bn)) l) := by
  have hm : E % 60 < 60 := Nat.mod_lt _ (by decide)
  have e2 : nI (3 * (E % 60)) + 1 = nI (3 * (E % 60) + 1) := nI_1 _
  have e3 : nI (3 * (E % 60)) + 2 = nI (3 * (E % 60) + 2) := nI_add _ 2
  rw [q_234, sI3 S, Option.bind_some, hE, rem60 hE2, mul3, e2, e3, sR10 S, Option.bind_some, ss7 S (by omega), Option.bind_some, sR10 S, Option.bind_some, ss7 S (by omega), Option.bind_some, sR10 S, Option.bind_some, sI1 S, Option.bind_some, pk_un (by omega), pk_un (by omega), ss7 S (by omega), Option.bind_some, sI3 S, Option.bind_some, pk_un (by omega), pk_un (by omega), pk_un (by omega), hE, nI_1, sp3 S, Option.bind_some]
  rfl
theorem c230 (S : isSt W o) {E N : Nat} (hN : f 1105 = nI N) (hN2 : N < 100) (hE : f 1107 = nI E) (hE2 : E < 2 ^ 30) (p c n a : Int32) : cl 230 [.ref o, .int p, .int c, .int n, .int a] (tm W (wv m o f) l) = some (some (.int (nI N)), tm W (wv m o (tBn f E N p c n a)) l) := by
  have h100 : nI N < 100 := nI_lt (b := 100) hN2 (by decide)
  rw [q_230, sI2 S, Option.bind_some, hN, if_pos h100, Option.bind_some, Option.bind_some, sp2 S, Option.bind_some, nI_1, if_pos (sok S _), c217_0 S hN2, kxv_s, if_pos (sok S _), c217_1 S hN2, kxv_s, if_pos (sok S _), c217_2 S hN2, kxv_s, if_pos (sok S _), c217_3 S hN2, kxv_s, if_pos (sok S _), c217_4 S hN2, kxv_s, if_pos (sok S _), c217_5 S hN2, kxv_s, sI1 S, Option.bind_some, pk_un (by omega), pk_un (by omega), pk_un (by omega), pk_un (by omega), pk_un (by omega), pk_un (by omega), pk_un (by omega), if_pos (sok S _), c217_6 S hN2, kxv_s, if_pos (sok S _), c217_7 S hN2, kxv_s, if_pos (sok S _)]
  rw [c234 S (E := E) (by rw [pk_un (by omega), pk_un (by omega), pk_un (by omega), pk_un (by omega), pk_un (by omega), pk_un (by omega), pk_un (by omega), pk_un (by omega), pk_un (by omega)]; exact hE) hE2, kxv_s]
  rfl
theorem c230f (S : isSt W o) {N : Nat} (hN : f 1105 = nI N) (hN2 : N = 100) (p c n a : Int32) : cl 230 [.ref o, .int p, .int c, .int n, .int a] (tm W (wv m o f) l) = some (some (.int (-1)), tm W (wv m o f) l) := by
  subst hN2
  rw [q_230, sI2 S, Option.bind_some, hN, if_neg (by decide)]
theorem c231n (S : isSt W o) {N : Nat} (hN : f 1105 = nI N) (hN2 : N ≤ 100) (p c : Int32) (hb : fbr (bw f) p c N 0 = -1) : cl 231 [.ref o, .int p, .int c] (tm W (wv m o f) l) = some (some (.int 0), tm W (wv m o f) l) := by
  rw [q_231, if_pos (sok S _), c222 S hN hN2, kxi_s, if_pos hb]
theorem c231 (S : isSt W o) {E N b : Nat} (hN : f 1105 = nI N) (hN2 : N ≤ 100) (hE : f 1107 = nI E) (hE2 : E + 1 < 2 ^ 30) (p c : Int32) (hb : fbr (bw f) p c N 0 = nI b) (hb2 : b < 100) : cl 231 [.ref o, .int p, .int c] (tm W (wv m o f) l) = some (some (.int 1), tm W (wv m o (tSv f E b)) l) := by
  rw [q_231, if_pos (sok S _), c222 S hN hN2, kxi_s, hb, if_neg (nI_ne_m1 (by omega)), if_pos (sok S _), c216_2 S hb2, kxi_s, if_pos (sok S _), c217_2 S hb2, kxv_s, if_pos (sok S _), c216_7 S hb2, kxi_s, pk_un (by omega), if_pos (sok S _), c217_7 S hb2, kxv_s, if_pos (sok S _)]
  have e1 : tSs f b 1107 = nI E := by
    unfold tSs
    rw [pk_un (by omega), pk_un (by omega)]
    exact hE
  have e2 : tEn (tSs f b) E 1 (nI b) (304 + (8 * b + 2)) = f (304 + (8 * b + 2)) - 1 := by
    rw [tEn_lo _ _ _ _ (Or.inr ⟨by omega, by omega⟩)]
    unfold tSs
    rw [pk_un (by omega), pk_us]
  rw [show upd (upd f (304 + (8 * b + 2)) (f (304 + (8 * b + 2)) - 1)) (304 + (8 * b + 7)) (f (304 + (8 * b + 7)) + 1) = tSs f b from rfl, c234 S e1 (by omega), kxv_s, if_pos (sok S _), c218 S hb2, kxi_s, e2]
  by_cases hz : f (304 + (8 * b + 2)) - 1 ≤ 0
  · rw [if_pos hz, if_pos rfl, if_pos (sok S _), c234 S (tEn_e _ _ _ _) (by omega), kxv_s, tSv, if_pos hz]
  · rw [if_neg hz, if_neg (by decide), tSv, if_neg hz]
/-! the reference -/
theorem ixe (k : Nat) (j : Nat) : (124 + 3 * nI k) + nI j = nI (124 + (3 * k + j)) := by
  rw [show (124 : Int32) + 3 * nI k = nI 124 + nI 3 * nI k from rfl, pk_mul, nI_add, nI_add, Nat.add_assoc]
theorem c85 (M : isM W) {E : Nat} (hE : f 1107 = nI E) (hE2 : E < 2 ^ 30) (wh bn : Int32) : cl 85 [.ref 39, .int wh, .int bn] (tm W (m1 m 40 f) l) = some (none, tm W (m1 m 40 (tEn f E wh bn)) l) := by
  have hm : E % 60 < 60 := Nat.mod_lt _ (by decide)
  have e1 : (124 : Int32) + 3 * nI (E % 60) = nI (124 + 3 * (E % 60)) := by
    rw [show (124 : Int32) + 3 * nI (E % 60) = nI 124 + nI 3 * nI (E % 60) from rfl, pk_mul, nI_add]
  have e2 : nI (124 + 3 * (E % 60)) + 1 = nI (124 + (3 * (E % 60) + 1)) := nI_1 _
  have e3 : nI (124 + 3 * (E % 60)) + 2 = nI (124 + (3 * (E % 60) + 2)) := nI_add _ 2
  rw [q_85, rR0 M, Option.bind_some, wl7 M, Option.bind_some, hE, rem60 hE2, e1, e2, e3, Option.bind_some, wst M (by omega), Option.bind_some, rR0 M, Option.bind_some, wst M (by omega), Option.bind_some, rR0 M, Option.bind_some, Option.bind_some, wl6 M, Option.bind_some, pk_un (by omega), pk_un (by omega), wst M (by omega), Option.bind_some, rR0 M, Option.bind_some, wl7 M, Option.bind_some, pk_un (by omega), pk_un (by omega), pk_un (by omega), hE, nI_1, ws7 M, Option.bind_some]
  rfl
theorem c86f (M : isM W) {N : Nat} (hN : f 1105 = nI N) (hN2 : N = 100) (p c n : Int32) : cl 86 [.ref 39, .int p, .int c, .int n] (tm W (m1 m 40 f) l) = some (some (.int 0), tm W (m1 m 40 f) l) := by
  subst hN2
  rw [q_86, rR0 M, Option.bind_some, wl5 M, Option.bind_some, hN, if_pos (by decide)]
theorem mul4 (k : Nat) : 4 * nI k = nI (4 * k) := by rw [show (4 : Int32) = nI 4 from rfl, pk_mul]
theorem c86 (M : isM W) {E N c : Nat} (hN : f 1105 = nI N) (hN2 : N < 100) (hE : f 1107 = nI E) (hE2 : E < 2 ^ 30) (hc : c < 4) (p n : Int32) : cl 86 [.ref 39, .int p, .int (nI c), .int n] (tm W (m1 m 40 f) l) = some (some (.int 1), tm W (m1 m 40 (tBn f E N p (nI c) n (m 44 (4 * c)))) l) := by
  have h100 : ¬ nI N = 100 := fun q => by
    have := (nI_eq (a := N) (b := 100) (by omega) (by decide)).mp q
    omega
  rw [q_86, rR0 M, Option.bind_some, wl5 M, Option.bind_some, hN, if_neg h100, Option.bind_some, wl5 M, Option.bind_some, hN, ws5 M, Option.bind_some, nI_1, if_pos (rok M _), c80_0 M hN2, kxv_s, if_pos (rok M _), c80_1 M hN2, kxv_s, if_pos (rok M _), c80_2 M hN2, kxv_s, rR6 M, Option.bind_some, mul4, rl44 M (by omega), Option.bind_some, m1_a _ _ (by decide), if_pos (rok M _), c80_3 M hN2, kxv_s, if_pos (rok M _), c80_4 M hN2, kxv_s, if_pos (rok M _), c80_5 M hN2, kxv_s, rR0 M, Option.bind_some, wl6 M, Option.bind_some, pk_un (by omega), pk_un (by omega), pk_un (by omega), pk_un (by omega), pk_un (by omega), pk_un (by omega), pk_un (by omega), if_pos (rok M _), c80_6 M hN2, kxv_s, if_pos (rok M _), c80_7 M hN2, kxv_s, if_pos (rok M _)]
  rw [c85 M (E := E) (by rw [pk_un (by omega), pk_un (by omega), pk_un (by omega), pk_un (by omega), pk_un (by omega), pk_un (by omega), pk_un (by omega), pk_un (by omega), pk_un (by omega)]; exact hE) hE2, kxv_s]
  rfl
end WRI

section POP
/-! BITS of a long: how many are set -/
theorem lN_tn {n : Nat} (h : n < 2 ^ 64) : (lN n).toBitVec.toNat = n := Nat.mod_eq_of_lt h
theorem lN_ush (x s : Int64) (k : Nat) (hs : ((s.toUInt64 &&& Int64.toUInt64 63).toBitVec % 64).toNat = k) : (x.toUInt64 >>> (s.toUInt64 &&& Int64.toUInt64 63)).toInt64.toBitVec.toNat = x.toBitVec.toNat / 2 ^ k := by
  have e : (x.toUInt64 >>> (s.toUInt64 &&& Int64.toUInt64 63)).toInt64.toBitVec = x.toBitVec >>> k := by
    rw [← hs]
    exact UInt64.toBitVec_shiftRight _ _
  rw [e, BitVec.toNat_ushiftRight, Nat.shiftRight_eq_div_pow]
theorem lN_us {n : Nat} (hn : n < 2 ^ 64) (s : Int64) (k : Nat) (hs : ((s.toUInt64 &&& Int64.toUInt64 63).toBitVec % 64).toNat = k) : ((lN n).toUInt64 >>> (s.toUInt64 &&& Int64.toUInt64 63)).toInt64 = lN (n / 2 ^ k) := by
  apply Int64.toBitVec_inj.mp
  apply BitVec.eq_of_toNat_eq
  rw [lN_ush _ s k hs, lN_tn hn, lN_tn (Nat.lt_of_le_of_lt (Nat.div_le_self _ _) hn)]
theorem lN_and (a b : Nat) : lN a &&& lN b = lN (a &&& b) := by
  apply Int64.toBitVec_inj.mp
  simp [lN, BitVec.ofNat_and]
theorem lN_or (a b : Nat) : lN a ||| lN b = lN (a ||| b) := by
  apply Int64.toBitVec_inj.mp
  simp [lN, BitVec.ofNat_or]
theorem and256 {a c x y : Nat} (ha : a < 256) (hc : c < 256) : (a + 256 * x) &&& (c + 256 * y) = (a &&& c) + 256 * (x &&& y) := by
  have h1 : ((a + 256 * x) &&& (c + 256 * y)) % 2 ^ 8 = a &&& c := by
    rw [Nat.and_mod_two_pow, show (a + 256 * x) % 2 ^ 8 = a by omega, show (c + 256 * y) % 2 ^ 8 = c by omega]
  have h2 : ((a + 256 * x) &&& (c + 256 * y)) / 2 ^ 8 = x &&& y := by
    rw [Nat.and_div_two_pow, show (a + 256 * x) / 2 ^ 8 = x by omega, show (c + 256 * y) / 2 ^ 8 = y by omega]
  omega
def dig : List Nat → Nat
  | [] => 0
  | b :: bs => b + 256 * dig bs
def msk (c : Nat) : Nat → Nat
  | 0 => 0
  | k + 1 => c + 256 * msk c k
def lt256 (bs : List Nat) : Prop := ∀ b, b ∈ bs → b < 256
theorem dcA : ∀ b, b < 256 → ∀ r, r < 2 → (b / 2 + 128 * r) &&& 85 = (b / 2) &&& 85 := by decide +kernel
theorem dcB : ∀ b, b < 256 → ∀ r, r < 4 → (b / 4 + 64 * r) &&& 51 = (b / 4) &&& 51 := by decide +kernel
theorem dcA2 : ∀ b, b < 256 → (b / 2) &&& 85 ≤ b := by decide +kernel
theorem dA : ∀ (bs : List Nat), lt256 bs → (dig bs / 2) &&& msk 85 bs.length = dig (bs.map fun b => (b / 2) &&& 85)
  | [], _ => rfl
  | b :: bs, h => by
    have hb := h b (List.mem_cons_self ..)
    have ih := dA bs fun q hq => h q (List.mem_cons_of_mem _ hq)
    show ((b + 256 * dig bs) / 2) &&& (85 + 256 * msk 85 bs.length) = ((b / 2) &&& 85) + 256 * dig (bs.map fun b => (b / 2) &&& 85)
    rw [show (b + 256 * dig bs) / 2 = (b / 2 + 128 * (dig bs % 2)) + 256 * (dig bs / 2) by omega, and256 (by omega) (by decide), ih, dcA b hb _ (Nat.mod_lt _ (by decide))]
theorem dSub (α β : Nat → Nat) : ∀ (bs : List Nat), (∀ b, b ∈ bs → β b ≤ α b) → dig (bs.map α) - dig (bs.map β) = dig (bs.map fun b => α b - β b) ∧ dig (bs.map β) ≤ dig (bs.map α)
  | [], _ => ⟨rfl, Nat.le_refl _⟩
  | b :: bs, h => by
    have hb := h b (List.mem_cons_self ..)
    obtain ⟨i1, i2⟩ := dSub α β bs fun q hq => h q (List.mem_cons_of_mem _ hq)
    show (α b + 256 * dig (bs.map α)) - (β b + 256 * dig (bs.map β)) = (α b - β b) + 256 * dig (bs.map fun b => α b - β b) ∧ β b + 256 * dig (bs.map β) ≤ α b + 256 * dig (bs.map α)
    rw [← i1]
    omega
theorem dB1 : ∀ (bs : List Nat), lt256 bs → dig bs &&& msk 51 bs.length = dig (bs.map fun b => b &&& 51)
  | [], _ => rfl
  | b :: bs, h => by
    have hb := h b (List.mem_cons_self ..)
    have ih := dB1 bs fun q hq => h q (List.mem_cons_of_mem _ hq)
    show (b + 256 * dig bs) &&& (51 + 256 * msk 51 bs.length) = (b &&& 51) + 256 * dig (bs.map fun b => b &&& 51)
    rw [and256 hb (by decide), ih]
theorem dB2 : ∀ (bs : List Nat), lt256 bs → (dig bs / 4) &&& msk 51 bs.length = dig (bs.map fun b => (b / 4) &&& 51)
  | [], _ => rfl
  | b :: bs, h => by
    have hb := h b (List.mem_cons_self ..)
    have ih := dB2 bs fun q hq => h q (List.mem_cons_of_mem _ hq)
    show ((b + 256 * dig bs) / 4) &&& (51 + 256 * msk 51 bs.length) = ((b / 4) &&& 51) + 256 * dig (bs.map fun b => (b / 4) &&& 51)
    rw [show (b + 256 * dig bs) / 4 = (b / 4 + 64 * (dig bs % 4)) + 256 * (dig bs / 4) by omega, and256 (by omega) (by decide), ih, dcB b hb _ (Nat.mod_lt _ (by decide))]
theorem dAdd (α β : Nat → Nat) : ∀ (bs : List Nat), dig (bs.map α) + dig (bs.map β) = dig (bs.map fun b => α b + β b)
  | [] => rfl
  | b :: bs => by
    have ih := dAdd α β bs
    show (α b + 256 * dig (bs.map α)) + (β b + 256 * dig (bs.map β)) = (α b + β b) + 256 * dig (bs.map fun b => α b + β b)
    rw [← ih]
    omega
def nib (b : Nat) : Prop := b % 16 ≤ 4 ∧ b / 16 ≤ 4
theorem dcC : ∀ b, b < 69 → b % 16 ≤ 4 → ∀ r, r < 5 → (b + b / 16 + 16 * r) &&& 15 = b % 16 + b / 16 := by decide +kernel
theorem dC : ∀ (bs : List Nat), (∀ b, b ∈ bs → nib b) → (dig bs + dig bs / 16) &&& msk 15 bs.length = dig (bs.map fun b => b % 16 + b / 16) ∧ dig bs % 16 ≤ 4
  | [], _ => ⟨rfl, by decide⟩
  | b :: bs, h => by
    obtain ⟨h1, h2⟩ := h b (List.mem_cons_self ..)
    obtain ⟨i1, i2⟩ := dC bs fun q hq => h q (List.mem_cons_of_mem _ hq)
    show ((b + 256 * dig bs) + (b + 256 * dig bs) / 16) &&& (15 + 256 * msk 15 bs.length) = (b % 16 + b / 16) + 256 * dig (bs.map fun b => b % 16 + b / 16) ∧ (b + 256 * dig bs) % 16 ≤ 4
    refine ⟨?_, by omega⟩
    rw [show (b + 256 * dig bs) + (b + 256 * dig bs) / 16 = (b + b / 16 + 16 * (dig bs % 16)) + 256 * (dig bs + dig bs / 16) by omega, and256 (by omega) (by decide), i1, dcC b (by omega) h1 _ (by omega)]
def pAl (b : Nat) : Nat := b - ((b / 2) &&& 85)
def pBe (b : Nat) : Nat := (pAl b &&& 51) + ((pAl b / 4) &&& 51)
def pc (b : Nat) : Nat := pBe b % 16 + pBe b / 16
theorem pc_ok : ∀ b, b < 256 → pAl b < 256 ∧ pBe b % 16 ≤ 4 ∧ pBe b / 16 ≤ 4 ∧ pc b ≤ 8 := by decide +kernel
theorem pc_in : ∀ r, r < 8 → ∀ y, y < 2 ^ r → pc (y + 2 ^ r) = pc y + 1 := by decide +kernel
def pcN (X : Nat) : Nat := pc (X % 256) + pc (X / 256 % 256) + pc (X / 65536 % 256) + pc (X / 16777216 % 256) + pc (X / 4294967296 % 256) + pc (X / 1099511627776 % 256) + pc (X / 281474976710656 % 256) + pc (X / 72057594037927936 % 256)
theorem dv1 {a r : Nat} (ha : a < 256) : (a + 256 * r) / 256 = r := by omega
theorem dv2 {a b r : Nat} (ha : a < 256) (hb : b < 256) : (a + 256 * (b + 256 * r)) / 65536 = r := by omega
theorem dv4 {a b c d r : Nat} (ha : a < 256) (hb : b < 256) (hc : c < 256) (hd : d < 256) : (a + 256 * (b + 256 * (c + 256 * (d + 256 * r)))) / 4294967296 = r := by omega
theorem swF {c0 c1 c2 c3 c4 c5 c6 C : Nat} (h0 : c0 ≤ 8) (h1 : c1 ≤ 8) (h2 : c2 ≤ 8) (h3 : c3 ≤ 8) (h4 : c4 ≤ 8) (h5 : c5 ≤ 8) (h6 : c6 ≤ 8) (hC : C = c0 + 256 * (c1 + 256 * (c2 + 256 * (c3 + 256 * (c4 + 256 * (c5 + 256 * (c6 + 256 * (0 + 256 * 0)))))))) : ∃ D E F, D = C + C / 256 ∧ E = D + D / 65536 ∧ F = E + E / 4294967296 ∧ C < 2 ^ 63 ∧ D < 2 ^ 63 ∧ E < 2 ^ 63 ∧ F < 2 ^ 63 ∧ F % 128 = c0 + c1 + c2 + c3 + c4 + c5 + c6 := by
  refine ⟨(c0 + c1) + 256 * ((c1 + c2) + 256 * ((c2 + c3) + 256 * ((c3 + c4) + 256 * ((c4 + c5) + 256 * ((c5 + c6) + 256 * c6))))), (c0 + c1 + c2 + c3) + 256 * ((c1 + c2 + c3 + c4) + 256 * ((c2 + c3 + c4 + c5) + 256 * ((c3 + c4 + c5 + c6) + 256 * ((c4 + c5 + c6) + 256 * ((c5 + c6) + 256 * c6))))), (c0 + c1 + c2 + c3 + c4 + c5 + c6) + 256 * ((c1 + c2 + c3 + c4 + c5 + c6) + 256 * ((c2 + c3 + c4 + c5 + c6) + 256 * ((c3 + c4 + c5 + c6) + 256 * ((c4 + c5 + c6) + 256 * ((c5 + c6) + 256 * c6))))), ?_, ?_, ?_, ?_, ?_, ?_, ?_, ?_⟩
  · rw [hC, dv1 (by omega)]
    omega
  · rw [dv2 (by omega) (by omega)]
    omega
  · rw [dv4 (by omega) (by omega) (by omega) (by omega)]
    omega
  · rw [hC]
    omega
  · omega
  · omega
  · omega
  · have e : ∀ a r : Nat, a < 128 → (a + 256 * r) % 128 = a := fun a r h => by omega
    exact e _ _ (by omega)
theorem swN {X : Nat} (hX : X < 2 ^ 56) : ∃ F, F < 2 ^ 63 ∧ F % 128 = pcN X ∧ ∃ A B C D E : Nat, (X / 2) &&& 6148914691236517205 ≤ X ∧ A = X - ((X / 2) &&& 6148914691236517205) ∧ A < 2 ^ 63 ∧ B = (A &&& 3689348814741910323) + ((A / 4) &&& 3689348814741910323) ∧ B < 2 ^ 63 ∧ C = (B + B / 16) &&& 1085102592571150095 ∧ C < 2 ^ 63 ∧ D = C + C / 256 ∧ D < 2 ^ 63 ∧ E = D + D / 65536 ∧ E < 2 ^ 63 ∧ F = E + E / 4294967296 := by
  obtain ⟨bs, hbs⟩ : ∃ bs, bs = [X % 256, X / 256 % 256, X / 65536 % 256, X / 16777216 % 256, X / 4294967296 % 256, X / 1099511627776 % 256, X / 281474976710656 % 256, X / 72057594037927936 % 256] := ⟨_, rfl⟩
  have hlen : bs.length = 8 := by rw [hbs]; rfl
  have hlt : lt256 bs := by
    intro b hb
    rw [hbs] at hb
    simp only [List.mem_cons, List.not_mem_nil, or_false] at hb
    omega
  have eX : dig bs = X := by
    rw [hbs]
    simp only [dig]
    omega
  have eA1 := dA bs hlt
  rw [hlen, eX, show msk 85 8 = 6148914691236517205 from rfl] at eA1
  have eA2 := dSub (fun b => b) (fun b => (b / 2) &&& 85) bs (fun b hb => dcA2 b (hlt b hb))
  rw [List.map_id', eX, ← eA1] at eA2
  have hA : lt256 (bs.map pAl) := fun b hb => by
    obtain ⟨q, hq, rfl⟩ := List.mem_map.mp hb
    exact (pc_ok q (hlt q hq)).1
  have eB1 := dB1 (bs.map pAl) hA
  have eB2 := dB2 (bs.map pAl) hA
  rw [List.length_map, hlen, show msk 51 8 = 3689348814741910323 from rfl, List.map_map] at eB1 eB2
  have eB := dAdd ((fun b => b &&& 51) ∘ pAl) ((fun b => (b / 4) &&& 51) ∘ pAl) bs
  have hB : ∀ b, b ∈ bs.map pBe → nib b := fun b hb => by
    obtain ⟨q, hq, rfl⟩ := List.mem_map.mp hb
    have := pc_ok q (hlt q hq)
    exact ⟨this.2.1, this.2.2.1⟩
  obtain ⟨eC, -⟩ := dC (bs.map pBe) hB
  rw [List.length_map, hlen, show msk 15 8 = 1085102592571150095 from rfl, List.map_map] at eC
  have hp : ∀ q, q < 256 → pAl q ≤ 255 ∧ pBe q ≤ 68 ∧ pc q ≤ 8 := fun q hq => by
    have := pc_ok q hq
    omega
  have b0 := hp (X % 256) (by omega)
  have b1 := hp (X / 256 % 256) (by omega)
  have b2 := hp (X / 65536 % 256) (by omega)
  have b3 := hp (X / 16777216 % 256) (by omega)
  have b4 := hp (X / 4294967296 % 256) (by omega)
  have b5 := hp (X / 1099511627776 % 256) (by omega)
  have b6 := hp (X / 281474976710656 % 256) (by omega)
  have z7 : X / 72057594037927936 % 256 = 0 := by omega
  have a7 : pAl 0 = 0 := rfl
  have a8 : pBe 0 = 0 := rfl
  have a9 : pc 0 = 0 := rfl
  have eAA : dig (bs.map pAl) = pAl (X % 256) + 256 * (pAl (X / 256 % 256) + 256 * (pAl (X / 65536 % 256) + 256 * (pAl (X / 16777216 % 256) + 256 * (pAl (X / 4294967296 % 256) + 256 * (pAl (X / 1099511627776 % 256) + 256 * (pAl (X / 281474976710656 % 256) + 256 * (0 + 256 * 0))))))) := by
    rw [hbs, z7]
    rfl
  have eBB : dig (bs.map pBe) = pBe (X % 256) + 256 * (pBe (X / 256 % 256) + 256 * (pBe (X / 65536 % 256) + 256 * (pBe (X / 16777216 % 256) + 256 * (pBe (X / 4294967296 % 256) + 256 * (pBe (X / 1099511627776 % 256) + 256 * (pBe (X / 281474976710656 % 256) + 256 * (0 + 256 * 0))))))) := by
    rw [hbs, z7]
    rfl
  have eCC : dig (bs.map pc) = pc (X % 256) + 256 * (pc (X / 256 % 256) + 256 * (pc (X / 65536 % 256) + 256 * (pc (X / 16777216 % 256) + 256 * (pc (X / 4294967296 % 256) + 256 * (pc (X / 1099511627776 % 256) + 256 * (pc (X / 281474976710656 % 256) + 256 * (0 + 256 * 0))))))) := by
    rw [hbs, z7]
    rfl
  have eP : pcN X = pc (X % 256) + pc (X / 256 % 256) + pc (X / 65536 % 256) + pc (X / 16777216 % 256) + pc (X / 4294967296 % 256) + pc (X / 1099511627776 % 256) + pc (X / 281474976710656 % 256) := by
    unfold pcN
    rw [z7, a9]
    rfl
  have eA3 : X - ((X / 2) &&& 6148914691236517205) = dig (bs.map pAl) := eA2.1
  have eB3 : (dig (bs.map pAl) &&& 3689348814741910323) + ((dig (bs.map pAl) / 4) &&& 3689348814741910323) = dig (bs.map pBe) := by
    rw [eB1, eB2]
    exact eB
  have eC3 : (dig (bs.map pBe) + dig (bs.map pBe) / 16) &&& 1085102592571150095 = dig (bs.map pc) := eC
  have hle : (X / 2) &&& 6148914691236517205 ≤ X := eA2.2
  have hAl : dig (bs.map pAl) < 2 ^ 63 := by
    rw [eAA]
    clear eA1 eA2 hA eB1 eB2 eB hB eC hp eAA eBB eP eX hlt hlen eA3 eB3 eC3 eCC hle hbs z7
    omega
  have hBl : dig (bs.map pBe) < 2 ^ 63 := by
    rw [eBB]
    clear eA1 eA2 hA eB1 eB2 eB hB eC hp eAA eBB eP eX hlt hlen eA3 eB3 eC3 eCC hle hbs z7
    omega
  obtain ⟨D, E, F, q1, q2, q3, q4, q5, q6, q7, q8⟩ := swF b0.2.2 b1.2.2 b2.2.2 b3.2.2 b4.2.2 b5.2.2 b6.2.2 eCC
  rw [← eA3] at eB3 hAl
  rw [← eB3] at eC3 hBl
  exact ⟨F, q7, q8.trans eP.symm, _, _, dig (bs.map pc), D, E, hle, rfl, hAl, rfl, hBl, eC3.symm, q4, q1, q5, q2, q6, q3⟩
end POP

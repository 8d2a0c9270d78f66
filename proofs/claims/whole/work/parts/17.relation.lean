/-! WHAT THE TWO SIDES HAVE IN COMMON -/
/-- two rows of a State: P players, N bans, E entries ever -/
def SR (f g : Nat → Int32) (P N E : Nat) : Prop :=
  P ≤ 12 ∧ N ≤ 100 ∧ f 1104 = nI P ∧ g 1104 = nI P ∧ f 1105 = nI N ∧ g 1105 = nI N ∧ f 1107 = nI E ∧ g 1107 = nI E ∧ f 1106 = g 1106 ∧
  (∀ i, i < P → f i = g i) ∧ (∀ i, 12 ≤ i → i < 124 → f i = g i) ∧ (∀ i, i < 3 * min E 60 → f (124 + i) = g (124 + i)) ∧ (∀ i, i < 8 * N → f (304 + i) = g (304 + i))
/-- a ban of a row that is well formed -/
def bOK (g : Nat → Int32) (P b : Nat) : Prop :=
  (∃ p, p < P ∧ g (304 + (8 * b)) = nI p) ∧ (∃ c, c < 4 ∧ g (304 + (8 * b + 1)) = nI c) ∧ (∃ n, n ≤ 12 ∧ g (304 + (8 * b + 2)) = nI n ∧ (n ≤ 9 ∨ g (304 + (8 * b + 4)) = 2)) ∧ (∃ n, 1 ≤ n ∧ n ≤ 9 ∧ g (304 + (8 * b + 5)) = nI n)
/-- a row that is well formed -/
def VR (g : Nat → Int32) (P N E : Nat) : Prop :=
  (∀ p, p < P → ∃ t, t < 4 ∧ g p = nI t) ∧ (∀ b, b < N → bOK g P b) ∧ (∀ e, e < min E 60 → (∃ w, w < 6 ∧ g (124 + 3 * e) = nI w) ∧ ∃ b, b < N ∧ g (124 + (3 * e + 1)) = nI b)
theorem brs_cong {B B' : Nat → Int32} {b : Nat} (h : ∀ j, j < 8 → B (8 * b + j) = B' (8 * b + j)) (p c : Int32) : brs B b p c = brs B' b p c := by
  unfold brs
  rw [show B (8 * b) = B' (8 * b) from h 0 (by decide), h 1 (by decide), h 2 (by decide), h 3 (by decide), h 4 (by decide)]
theorem cns_cong {B B' : Nat → Int32} {b : Nat} (h : ∀ j, j < 8 → B (8 * b + j) = B' (8 * b + j)) (p c : Int32) : cns B b p c = cns B' b p c := by
  unfold cns
  rw [show B (8 * b) = B' (8 * b) from h 0 (by decide), h 1 (by decide), h 2 (by decide), h 3 (by decide)]
theorem fbr_cong {B B' : Nat → Int32} (p c : Int32) : ∀ (n i : Nat), (∀ b, i ≤ b → b < i + n → brs B b p c = brs B' b p c) → fbr B p c n i = fbr B' p c n i
  | 0, _, _ => rfl
  | n + 1, i, h => by
    rw [fbr, fbr, h i (Nat.le_refl _) (by omega), fbr_cong p c n (i + 1) fun b h1 h2 => h b (by omega) (by omega)]
theorem SR.row {f g : Nat → Int32} {P N E : Nat} (h : SR f g P N E) {b j : Nat} (hb : b < N) (hj : j < 8) : f (304 + (8 * b + j)) = g (304 + (8 * b + j)) := h.2.2.2.2.2.2.2.2.2.2.2.2 _ (by omega)
theorem SR.brs {f g : Nat → Int32} {P N E : Nat} (h : SR f g P N E) {b : Nat} (hb : b < N) (p c : Int32) : brs (bw f) b p c = brs (bw g) b p c := brs_cong (fun j hj => h.row hb hj) p c
theorem SR.cns {f g : Nat → Int32} {P N E : Nat} (h : SR f g P N E) {b : Nat} (hb : b < N) (p c : Int32) : cns (bw f) b p c = cns (bw g) b p c := cns_cong (fun j hj => h.row hb hj) p c
theorem SR.fbr {f g : Nat → Int32} {P N E : Nat} (h : SR f g P N E) (p c : Int32) : fbr (bw f) p c N 0 = fbr (bw g) p c N 0 := fbr_cong p c N 0 fun b _ hb => h.brs (by omega) p c
theorem SR.P12 {f g : Nat → Int32} {P N E : Nat} (h : SR f g P N E) : P ≤ 12 := h.1
theorem SR.N100 {f g : Nat → Int32} {P N E : Nat} (h : SR f g P N E) : N ≤ 100 := h.2.1
theorem SR.f4 {f g : Nat → Int32} {P N E : Nat} (h : SR f g P N E) : f 1104 = nI P := h.2.2.1
theorem SR.g4 {f g : Nat → Int32} {P N E : Nat} (h : SR f g P N E) : g 1104 = nI P := h.2.2.2.1
theorem SR.f5 {f g : Nat → Int32} {P N E : Nat} (h : SR f g P N E) : f 1105 = nI N := h.2.2.2.2.1
theorem SR.g5 {f g : Nat → Int32} {P N E : Nat} (h : SR f g P N E) : g 1105 = nI N := h.2.2.2.2.2.1
theorem SR.f7 {f g : Nat → Int32} {P N E : Nat} (h : SR f g P N E) : f 1107 = nI E := h.2.2.2.2.2.2.1
theorem SR.g7 {f g : Nat → Int32} {P N E : Nat} (h : SR f g P N E) : g 1107 = nI E := h.2.2.2.2.2.2.2.1
theorem SR.e6 {f g : Nat → Int32} {P N E : Nat} (h : SR f g P N E) : f 1106 = g 1106 := h.2.2.2.2.2.2.2.2.1
theorem SR.tm {f g : Nat → Int32} {P N E : Nat} (h : SR f g P N E) {i : Nat} (hi : i < P) : f i = g i := h.2.2.2.2.2.2.2.2.2.1 i hi
theorem SR.mid {f g : Nat → Int32} {P N E : Nat} (h : SR f g P N E) {i : Nat} (h1 : 12 ≤ i) (h2 : i < 124) : f i = g i := h.2.2.2.2.2.2.2.2.2.2.1 i h1 h2
theorem SR.ent {f g : Nat → Int32} {P N E : Nat} (h : SR f g P N E) {i : Nat} (hi : i < 3 * min E 60) : f (124 + i) = g (124 + i) := h.2.2.2.2.2.2.2.2.2.2.2.1 i hi
theorem SR.ban {f g : Nat → Int32} {P N E : Nat} (h : SR f g P N E) {i : Nat} (hi : i < 8 * N) : f (304 + i) = g (304 + i) := h.2.2.2.2.2.2.2.2.2.2.2.2 i hi
theorem upd_eq {f g : Nat → Int32} {i j : Nat} (v : Int32) (h : f j = g j) : upd f i v j = upd g i v j := by
  by_cases e : j = i
  · subst e
    rw [pk_us, pk_us]
  · rw [pk_un e, pk_un e, h]
theorem SR_upd {f g : Nat → Int32} {P N E : Nat} (h : SR f g P N E) {i : Nat} (v : Int32) (h4 : i ≠ 1104) (h5 : i ≠ 1105) (h7 : i ≠ 1107) : SR (upd f i v) (upd g i v) P N E :=
  ⟨h.P12, h.N100, by rw [pk_un (Ne.symm h4)]; exact h.f4, by rw [pk_un (Ne.symm h4)]; exact h.g4, by rw [pk_un (Ne.symm h5)]; exact h.f5, by rw [pk_un (Ne.symm h5)]; exact h.g5, by rw [pk_un (Ne.symm h7)]; exact h.f7, by rw [pk_un (Ne.symm h7)]; exact h.g7, upd_eq v h.e6,
    fun _ hk => upd_eq v (h.tm hk), fun _ h1 h2 => upd_eq v (h.mid h1 h2), fun _ hk => upd_eq v (h.ent hk), fun _ hk => upd_eq v (h.ban hk)⟩
theorem SR_en {f g : Nat → Int32} {P N E : Nat} (h : SR f g P N E) (w b : Int32) : SR (tEn f E w b) (tEn g E w b) P N (E + 1) := by
  have key : ∀ j, (f j = g j ∨ (124 + 3 * (E % 60) ≤ j ∧ j < 124 + (3 * (E % 60) + 3))) → tEn f E w b j = tEn g E w b j := by
    intro j hj
    unfold tEn
    by_cases e7 : j = 1107
    · subst e7
      rw [pk_us, pk_us]
    · rw [pk_un e7, pk_un e7]
      by_cases e2 : j = 124 + (3 * (E % 60) + 2)
      · subst e2
        rw [pk_us, pk_us, h.e6]
      · rw [pk_un e2, pk_un e2]
        by_cases e1 : j = 124 + (3 * (E % 60) + 1)
        · subst e1
          rw [pk_us, pk_us]
        · rw [pk_un e1, pk_un e1]
          by_cases e0 : j = 124 + 3 * (E % 60)
          · subst e0
            rw [pk_us, pk_us]
          · rw [pk_un e0, pk_un e0]
            rcases hj with hj | hj
            · exact hj
            · omega
  refine ⟨h.P12, h.N100, ?_, ?_, ?_, ?_, tEn_e _ _ _ _, tEn_e _ _ _ _, key _ (Or.inl h.e6), fun i hi => key _ (Or.inl (h.tm hi)), fun i h1 h2 => key _ (Or.inl (h.mid h1 h2)), fun i hi => key _ ?_, fun i hi => key _ (Or.inl (h.ban hi))⟩
  · rw [tEn_lo _ _ _ _ (Or.inr ⟨by decide, by decide⟩)]; exact h.f4
  · rw [tEn_lo _ _ _ _ (Or.inr ⟨by decide, by decide⟩)]; exact h.g4
  · rw [tEn_lo _ _ _ _ (Or.inr ⟨by decide, by decide⟩)]; exact h.f5
  · rw [tEn_lo _ _ _ _ (Or.inr ⟨by decide, by decide⟩)]; exact h.g5
  · by_cases hk : i < 3 * min E 60
    · exact Or.inl (h.ent hk)
    · right
      omega
theorem VR_en {g : Nat → Int32} {P N E w b : Nat} (h : VR g P N E) (hw : w < 6) (hb : b < N) (hP : P ≤ 12) (hN : N ≤ 100) : VR (tEn g E (nI w) (nI b)) P N (E + 1) := by
  obtain ⟨h1, h2, h3⟩ := h
  have hm : E % 60 < 60 := Nat.mod_lt _ (by decide)
  refine ⟨fun p hp => ?_, fun c hc => ?_, fun e he => ?_⟩
  · rw [tEn_lo _ _ _ _ (Or.inl (by omega))]
    exact h1 p hp
  · unfold bOK
    rw [tEn_lo _ _ _ _ (Or.inr ⟨by omega, by omega⟩), tEn_lo _ _ _ _ (Or.inr ⟨by omega, by omega⟩), tEn_lo _ _ _ _ (Or.inr ⟨by omega, by omega⟩), tEn_lo _ _ _ _ (Or.inr ⟨by omega, by omega⟩), tEn_lo _ _ _ _ (Or.inr ⟨by omega, by omega⟩)]
    exact h2 c hc
  · unfold tEn
    by_cases hE : e = E % 60
    · subst hE
      refine ⟨⟨w, hw, ?_⟩, b, hb, ?_⟩
      · rw [pk_un (by omega), pk_un (by omega), pk_un (by omega), pk_us]
      · rw [pk_un (by omega), pk_un (by omega), pk_us]
    · obtain ⟨⟨w', hw', e1⟩, b', hb', e2⟩ := h3 e (by omega)
      refine ⟨⟨w', hw', ?_⟩, b', hb', ?_⟩
      · rw [pk_un (by omega), pk_un (by omega), pk_un (by omega), pk_un (by omega)]
        exact e1
      · rw [pk_un (by omega), pk_un (by omega), pk_un (by omega), pk_un (by omega)]
        exact e2
theorem SR_bs {f g : Nat → Int32} {P N E : Nat} (h : SR f g P N E) (hN : N < 100) (p c n a : Int32) : SR (tBs f N p c n a) (tBs g N p c n a) P (N + 1) E := by
  have key : ∀ j, (f j = g j ∨ (304 + 8 * N ≤ j ∧ j < 304 + 8 * N + 8)) → tBs f N p c n a j = tBs g N p c n a j := by
    intro j hj
    by_cases e : f j = g j
    · unfold tBs
      rw [h.e6]
      exact upd_eq _ (upd_eq _ (upd_eq _ (upd_eq _ (upd_eq _ (upd_eq _ (upd_eq _ (upd_eq _ (upd_eq _ e))))))))
    · rcases hj with hj | hj
      · exact absurd hj e
      · unfold tBs
        rw [h.e6]
        rcases (show j = 304 + (8 * N) ∨ j = 304 + (8 * N + 1) ∨ j = 304 + (8 * N + 2) ∨ j = 304 + (8 * N + 3) ∨ j = 304 + (8 * N + 4) ∨ j = 304 + (8 * N + 5) ∨ j = 304 + (8 * N + 6) ∨ j = 304 + (8 * N + 7) by omega) with rfl | rfl | rfl | rfl | rfl | rfl | rfl | rfl
        · refine upd_eq _ (upd_eq _ (upd_eq _ (upd_eq _ (upd_eq _ (upd_eq _ (upd_eq _ ?_))))))
          rw [pk_us, pk_us]
        · refine upd_eq _ (upd_eq _ (upd_eq _ (upd_eq _ (upd_eq _ (upd_eq _ ?_)))))
          rw [pk_us, pk_us]
        · refine upd_eq _ (upd_eq _ (upd_eq _ (upd_eq _ (upd_eq _ ?_))))
          rw [pk_us, pk_us]
        · refine upd_eq _ (upd_eq _ (upd_eq _ (upd_eq _ ?_)))
          rw [pk_us, pk_us]
        · refine upd_eq _ (upd_eq _ (upd_eq _ ?_))
          rw [pk_us, pk_us]
        · refine upd_eq _ (upd_eq _ ?_)
          rw [pk_us, pk_us]
        · refine upd_eq _ ?_
          rw [pk_us, pk_us]
        · rw [pk_us, pk_us]
  have e5 : ∀ q : Nat → Int32, tBs q N p c n a 1105 = nI (N + 1) := by
    intro q
    unfold tBs
    rw [pk_un (by omega), pk_un (by omega), pk_un (by omega), pk_un (by omega), pk_un (by omega), pk_un (by omega), pk_un (by omega), pk_un (by omega), pk_us]
  refine ⟨h.P12, by omega, ?_, ?_, e5 f, e5 g, ?_, ?_, key _ (Or.inl h.e6), fun i hi => key _ (Or.inl (h.tm hi)), fun i h1 h2 => key _ (Or.inl (h.mid h1 h2)), fun i hi => key _ (Or.inl (h.ent hi)), fun i hi => key _ ?_⟩
  · rw [tBs_lo _ _ _ _ _ _ (Or.inr ⟨by omega, by decide⟩) (by decide)]; exact h.f4
  · rw [tBs_lo _ _ _ _ _ _ (Or.inr ⟨by omega, by decide⟩) (by decide)]; exact h.g4
  · rw [tBs_lo _ _ _ _ _ _ (Or.inr ⟨by omega, by decide⟩) (by decide)]; exact h.f7
  · rw [tBs_lo _ _ _ _ _ _ (Or.inr ⟨by omega, by decide⟩) (by decide)]; exact h.g7
  · by_cases hk : i < 8 * N
    · exact Or.inl (h.ban hk)
    · exact Or.inr ⟨by omega, by omega⟩
theorem VR_bs {g : Nat → Int32} {P N E p c n : Nat} (h : VR g P N E) (hN : N < 100) (hP : P ≤ 12) (hp : p < P) (hc : c < 4) (hn1 : 1 ≤ n) (hn : n ≤ 9) (a : Int32) : VR (tBs g N (nI p) (nI c) (nI n) a) P (N + 1) E := by
  obtain ⟨h1, h2, h3⟩ := h
  refine ⟨fun q hq => ?_, fun b hb => ?_, fun e he => ?_⟩
  · rw [tBs_lo _ _ _ _ _ _ (Or.inl (by omega)) (by omega)]
    exact h1 q hq
  · by_cases hbN : b = N
    · subst hbN
      unfold bOK tBs
      refine ⟨⟨p, hp, ?_⟩, ⟨c, hc, ?_⟩, ⟨n, by omega, ?_, Or.inl hn⟩, n, hn1, hn, ?_⟩
      · rw [pk_un (by omega), pk_un (by omega), pk_un (by omega), pk_un (by omega), pk_un (by omega), pk_un (by omega), pk_un (by omega), pk_us]
      · rw [pk_un (by omega), pk_un (by omega), pk_un (by omega), pk_un (by omega), pk_un (by omega), pk_un (by omega), pk_us]
      · rw [pk_un (by omega), pk_un (by omega), pk_un (by omega), pk_un (by omega), pk_un (by omega), pk_us]
      · rw [pk_un (by omega), pk_un (by omega), pk_us]
    · unfold bOK
      rw [tBs_lo _ _ _ _ _ _ (Or.inl (by omega)) (by omega), tBs_lo _ _ _ _ _ _ (Or.inl (by omega)) (by omega), tBs_lo _ _ _ _ _ _ (Or.inl (by omega)) (by omega), tBs_lo _ _ _ _ _ _ (Or.inl (by omega)) (by omega), tBs_lo _ _ _ _ _ _ (Or.inl (by omega)) (by omega)]
      exact h2 b (by omega)
  · rw [tBs_lo _ _ _ _ _ _ (Or.inl (by omega)) (by omega), tBs_lo _ _ _ _ _ _ (Or.inl (by omega)) (by omega)]
    obtain ⟨e1, b, hb, e2⟩ := h3 e he
    exact ⟨e1, b, by omega, e2⟩
theorem SR_bn {f g : Nat → Int32} {P N E : Nat} (h : SR f g P N E) (hN : N < 100) (p c n a : Int32) : SR (tBn f E N p c n a) (tBn g E N p c n a) P (N + 1) (E + 1) := SR_en (SR_bs h hN p c n a) _ _
theorem VR_bn {g : Nat → Int32} {P N E p c n : Nat} (h : VR g P N E) (hN : N < 100) (hP : P ≤ 12) (hp : p < P) (hc : c < 4) (hn1 : 1 ≤ n) (hn : n ≤ 9) (a : Int32) : VR (tBn g E N (nI p) (nI c) (nI n) a) P (N + 1) (E + 1) := VR_en (w := 0) (VR_bs h hN hP hp hc hn1 hn a) (by decide) (by omega) hP (by omega)
/-- a number of a ban is written, so that the ban stays well formed -/
theorem VR_upd {g : Nat → Int32} {P N E b j : Nat} (h : VR g P N E) (hj : j < 8) (hb : b < 100) (hP : P ≤ 12) (v : Int32) (hok : bOK (upd g (304 + (8 * b + j)) v) P b ∨ N ≤ b) : VR (upd g (304 + (8 * b + j)) v) P N E := by
  obtain ⟨h1, h2, h3⟩ := h
  refine ⟨fun q hq => ?_, fun c hc => ?_, fun e he => ?_⟩
  · rw [pk_un (by omega)]
    exact h1 q hq
  · by_cases hcb : c = b
    · subst hcb
      rcases hok with hok | hok
      · exact hok
      · omega
    · unfold bOK
      rw [pk_un (by omega), pk_un (by omega), pk_un (by omega), pk_un (by omega), pk_un (by omega)]
      exact h2 c hc
  · rw [pk_un (by omega), pk_un (by omega)]
    exact h3 e he
/-- rows below 124 other than teams are free -/
theorem VR_mid {g : Nat → Int32} {P N E i : Nat} (h : VR g P N E) (hP : P ≤ 12) (hN : N ≤ 100) (h1 : 12 ≤ i) (h2 : i < 124 ∨ i = 1106) (v : Int32) : VR (upd g i v) P N E := by
  obtain ⟨a1, a2, a3⟩ := h
  refine ⟨fun q hq => ?_, fun c hc => ?_, fun e he => ?_⟩
  · rw [pk_un (by omega)]
    exact a1 q hq
  · unfold bOK
    rw [pk_un (by omega), pk_un (by omega), pk_un (by omega), pk_un (by omega), pk_un (by omega)]
    exact a2 c hc
  · rw [pk_un (by omega), pk_un (by omega)]
    exact a3 e he

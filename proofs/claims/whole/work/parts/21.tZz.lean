section TXZz
/-! CardsAndBans.row: what it throws
-/
abbrev nSE : String := "java/util/NoSuchElementException"
/-- the words of a throw that don't stay good by themselves -/
def xw : List Cond := [.declares ⟨"java/lang/RuntimeException", "<init>", "()V"⟩, .declares ⟨"java/lang/Exception", "<init>", "()V"⟩, .declares ⟨"java/lang/Throwable", "<init>", "()V"⟩, .castable nSE nSE]
theorem xw_t : ∀ w ∈ xw, w ∈ lw_tbl := by
  have h : xw = [936, 938, 940, 935].filterMap (fun i => lw_tbl[i]?) := by decide +kernel
  intro w hw
  rw [h] at hw
  obtain ⟨i, -, hi⟩ := List.mem_filterMap.mp hw
  exact List.mem_of_getElem? hi
theorem xw_on : ∀ w ∈ xw, w.onTables = true := by decide +kernel
theorem xw_warm {s U : State} (hW : s.WarmedH U.vm) (h : ∀ w ∈ xw, va_Nw w s) : ∀ w ∈ xw, va_Nw w U := by
  have key : ∀ w ∈ xw, (match w with | .declares _ => true | .castable .. => true | _ => false) = true := by decide +kernel
  intro w hw
  have h1 := h w hw
  have h2 := key w hw
  cases w <;> first | exact va_Nw.warmD hW h1 | exact va_Nw.warmC hW h1 | cases h2
abbrev vx_a : List Cond := vx_at0 "CardsAndBans" 350 nSE ["java/lang/RuntimeException", "java/lang/Exception"]
theorem vx_a_good : ∀ w ∈ vx_a.filter goodWord, w ∈ cb_gw := cb_gs [82, 955, 964, 966, 969, 971, 956, 957, 92, 93, 958, 963, 967, 983, 945, 984, 947, 985, 949, 959, 961, 951, 973, 974, 975, 976, 976, 977, 978, 979, 979, 980, 981, 956, 972, 934, 942, 943, 944, 946, 948, 950, 954, 953, 952] (by decide +kernel) (by decide +kernel)
theorem vx_a_rest : ∀ w ∈ vx_a.filter (fun w => !goodWord w), w ∈ xw := by decide +kernel
theorem vx_a_ot : ∀ w ∈ Cond.classLink "CardsAndBans" 348 nSE :: Cond.initialized nSE :: vx_a, vx_ot w = true := by decide +kernel
/-- what a throw wants of the world -/
def is_PX (z : Nat) (U : State) : Prop := (∀ w ∈ xw, va_Nw w U) ∧ vx_Zq Bundle.tN "UNASSIGNED_STACK" Bundle.steD (fun q => z ≤ q) U U.heap ∧ vx_Zq Bundle.tN "SUPPRESSED_SENTINEL" Bundle.listD (fun q => z ≤ q) U U.heap
theorem is_PX.calling {z : Nat} {U : State} {g : JFrame} {mk : MethodId} {a : Array Value} (h : is_PX z U) : is_PX z (U.calling g mk a) :=
  ⟨fun w hw => va_Nw.same (u := U) (U := U.calling g mk a) (xw_on w hw) rfl (h.1 w hw), vx_Zq.moved (u := U) (U := U.calling g mk a) (Vm.Alike.refl U.vm) h.2.1, vx_Zq.moved (u := U) (U := U.calling g mk a) (Vm.Alike.refl U.vm) h.2.2⟩
theorem is_PX.to {z : Nat} {s U : State} {H : Heap} (h : is_PX z s) (hS : ∀ q : Nat, q < s.heap.size → ¬ z ≤ q → H[q]? = s.heap[q]?) (hU : U.heap = H) (hW : s.WarmedH U.vm) : is_PX z U := by
  refine ⟨xw_warm hW h.1, ?_, ?_⟩
  · rw [hU]
    exact vx_Zq.moved hW.alike (h.2.1.kept hS)
  · rw [hU]
    exact vx_Zq.moved hW.alike (h.2.2.kept hS)
def is_PcX (D : is_D) (z b : Nat) (sc : Nat × (Nat → Int32)) (as : List Value) (h : ia_H) : Array Value → State → Prop := fun v U => is_Pc D z b sc as h v U ∧ is_PX z U
theorem is_blindX {D : is_D} {z b : Nat} {sc : Nat × (Nat → Int32)} {as : List Value} {h : ia_H} : FrameBlind (is_PcX D z b sc as h) := fun a U g mk q => ⟨is_blind a U g mk q.1, q.2.calling⟩
/-! its rows -/
section CR
variable {t : is_M} {p : Program} {l : Launch} {e : Env} {R : Room} {s : State} {m : MethodId} {args : Array Value} {below : List Frame} {meth : Method} {c : Code} {D : is_D} {z b : Nat} {sc : Nat × (Nat → Int32)} {H0 H : Heap} {locs : List Loc} {cells slots nx0 sn0 : Nat} {Q : State → Prop} {ls : Array Slot}
theorem fw_go {k : Nat} {f : ia_F} (hok : is_Ok t k f) {L : ia_L} {st : List Value} {h : ia_H} {k' : Nat} {L' : ia_L} {st' : List Value} {h' : ia_H} (hf : f k L st h = some (k', L', st', h')) (C : is_Cx t p l R s m args meth c D z b sc H0) (hn : nx0 ≤ h.1) (hs : sn0 ≤ h.2.1) (hc : h'.1 - nx0 ≤ R.cells) (hs' : h'.2.1 - sn0 ≤ R.slots)
    (F : is_FW t p l e R s m args below meth c D z b sc H0 nx0 sn0 Q k' L' st' h') : is_FW t p l e R s m args below meth c D z b sc H0 nx0 sn0 Q k L st h :=
  (hok L st h k' L' st' h' hf).2.2 p l e R s m args below meth c D z b sc H0 nx0 sn0 Q C hn hs hc hs' F
theorem gI_ok {h : ia_H} {ci a k : Nat} {n : Int32} (hg : ia_gI h ci a k = some n) (hc : ci < 100) (as : List Value) : ia_ok h ci (.ref a :: as) = true := by
  unfold ia_gI at hg
  split at hg
  · rename_i cc fs he
    split at hg
    · rename_i hcc
      subst hcc
      unfold ia_ok
      rw [if_neg (by omega)]
      show (if cc = 101 then true else (match ia_c h a with | .inr (c, _ :: _) => c == cc | _ => false)) = true
      rw [if_neg (by omega), he]
      cases fs with
      | nil => simp at hg
      | cons v fs => simp
    · cases hg
  · cases hg
theorem cr_5 (C : is_Cx tCR p l R s m args meth c D z b sc H0) {h : ia_H} {x ro : Nat} {i n : Int32} (hro : ia_gR h 0 x 3 = some ro) (hn : ia_gI h 3 ro 1 = some n) (hi : ¬ i < 0)
    (F : is_FW tCR p l e R s m args below meth c D z b sc H0 h.1 h.2.1 Q (if i < n then 8 else 7) [some (.ref x), some (.int i)] [] h) : is_FW tCR p l e R s m args below meth c D z b sc H0 h.1 h.2.1 Q 0 [some (.ref x), some (.int i)] [] h := by
  have z1 : h.1 - h.1 ≤ R.cells := by omega
  have z2 : h.2.1 - h.2.1 ≤ R.slots := by omega
  refine fw_go (cbr_CR 0 _ rfl : is_Ok tCR 0 (ia_iload 1)) (k' := 1) (L' := [some (.ref x), some (.int i)]) (st' := [.int i]) (h' := h) rfl C (Nat.le_refl _) (Nat.le_refl _) z1 z2 ?_
  refine fw_go (cbr_CR 1 _ rfl : is_Ok tCR 1 (ia_iflt 7)) (k' := 2) (L' := [some (.ref x), some (.int i)]) (st' := []) (h' := h) (by show some (if i < 0 then 7 else 2, _, _, _) = _; rw [if_neg hi]) C (Nat.le_refl _) (Nat.le_refl _) z1 z2 ?_
  refine fw_go (cbr_CR 2 _ rfl : is_Ok tCR 2 (ia_iload 1)) (k' := 3) (L' := [some (.ref x), some (.int i)]) (st' := [.int i]) (h' := h) rfl C (Nat.le_refl _) (Nat.le_refl _) z1 z2 ?_
  refine fw_go (cbr_CR 3 _ rfl : is_Ok tCR 3 (ia_aload 0)) (k' := 4) (L' := [some (.ref x), some (.int i)]) (st' := [.ref x, .int i]) (h' := h) rfl C (Nat.le_refl _) (Nat.le_refl _) z1 z2 ?_
  refine fw_go (cbr_CR 4 _ rfl : is_Ok tCR 4 (ia_getR 0 3)) (k' := 5) (L' := [some (.ref x), some (.int i)]) (st' := [.ref ro, .int i]) (h' := h) (by show (ia_gR h 0 x 3).map _ = _; rw [hro]; rfl) C (Nat.le_refl _) (Nat.le_refl _) z1 z2 ?_
  refine fw_go (cbr_CR 5 _ rfl : is_Ok tCR 5 (ia_getI 3 1)) (k' := 6) (L' := [some (.ref x), some (.int i)]) (st' := [.int n, .int i]) (h' := h) (by show (ia_gI h 3 ro 1).map _ = _; rw [hn]; rfl) C (Nat.le_refl _) (Nat.le_refl _) z1 z2 ?_
  exact fw_go (cbr_CR 6 _ rfl : is_Ok tCR 6 (ia_ilt 8)) (k' := if i < n then 8 else 7) (L' := [some (.ref x), some (.int i)]) (st' := []) (h' := h) rfl C (Nat.le_refl _) (Nat.le_refl _) z1 z2 F
theorem cr_t (C : is_Cx tCR p l R s m args meth c D z b sc H0) {h : ia_H} {x ro : Nat} {i n : Int32} (hro : ia_gR h 0 x 3 = some ro) (hn : ia_gI h 3 ro 1 = some n) (hc : i < 0 ∨ n ≤ i)
    (F : is_FW tCR p l e R s m args below meth c D z b sc H0 h.1 h.2.1 Q 7 [some (.ref x), some (.int i)] [] h) : is_FW tCR p l e R s m args below meth c D z b sc H0 h.1 h.2.1 Q 0 [some (.ref x), some (.int i)] [] h := by
  have z1 : h.1 - h.1 ≤ R.cells := by omega
  have z2 : h.2.1 - h.2.1 ≤ R.slots := by omega
  by_cases hi : i < 0
  · refine fw_go (cbr_CR 0 _ rfl : is_Ok tCR 0 (ia_iload 1)) (k' := 1) (L' := [some (.ref x), some (.int i)]) (st' := [.int i]) (h' := h) rfl C (Nat.le_refl _) (Nat.le_refl _) z1 z2 ?_
    exact fw_go (cbr_CR 1 _ rfl : is_Ok tCR 1 (ia_iflt 7)) (k' := 7) (L' := [some (.ref x), some (.int i)]) (st' := []) (h' := h) (by show some (if i < 0 then 7 else 2, _, _, _) = _; rw [if_pos hi]) C (Nat.le_refl _) (Nat.le_refl _) z1 z2 F
  · refine cr_5 C hro hn hi ?_
    rw [if_neg (Int32.not_lt.mpr (hc.resolve_left hi))]
    exact F
theorem cr_n (C : is_Cx tCR p l R s m args meth c D z b sc H0) {h : ia_H} {x ro a : Nat} {i n v : Int32} (hro : ia_gR h 0 x 3 = some ro) (hn : ia_gI h 3 ro 1 = some n) (hc : ¬ (i < 0 ∨ n ≤ i)) (ha : ia_gR h 3 ro 0 = some a) (hv : ia_ld h 0 a i = some v)
    (F : is_FW tCR p l e R s m args below meth c D z b sc H0 h.1 h.2.1 Q 13 [some (.ref x), some (.int i)] [.long v.toInt64] h) : is_FW tCR p l e R s m args below meth c D z b sc H0 h.1 h.2.1 Q 0 [some (.ref x), some (.int i)] [] h := by
  have z1 : h.1 - h.1 ≤ R.cells := by omega
  have z2 : h.2.1 - h.2.1 ≤ R.slots := by omega
  have hi : ¬ i < 0 := fun q => hc (Or.inl q)
  have hni : ¬ n ≤ i := fun q => hc (Or.inr q)
  refine cr_5 C hro hn hi ?_
  rw [if_pos (Int32.not_le.mp hni)]
  refine fw_go (cbr_CR 8 _ rfl : is_Ok tCR 8 (ia_aload 0)) (k' := 9) (L' := [some (.ref x), some (.int i)]) (st' := [.ref x]) (h' := h) rfl C (Nat.le_refl _) (Nat.le_refl _) z1 z2 ?_
  refine fw_go (cbr_CR 9 _ rfl : is_Ok tCR 9 (ia_getR 0 3)) (k' := 10) (L' := [some (.ref x), some (.int i)]) (st' := [.ref ro]) (h' := h) (by show (ia_gR h 0 x 3).map _ = _; rw [hro]; rfl) C (Nat.le_refl _) (Nat.le_refl _) z1 z2 ?_
  refine fw_go (cbr_CR 10 _ rfl : is_Ok tCR 10 (ia_iload 1)) (k' := 11) (L' := [some (.ref x), some (.int i)]) (st' := [.int i, .ref ro]) (h' := h) rfl C (Nat.le_refl _) (Nat.le_refl _) z1 z2 ?_
  have F12 : is_FW tCR p l e R s m args below meth c D z b sc H0 h.1 h.2.1 Q 12 [some (.ref x), some (.int i)] [.int v] h := fw_go (cbr_CR 12 _ rfl : is_Ok tCR 12 ia_i2l) (k' := 13) (L' := [some (.ref x), some (.int i)]) (st' := [.long v.toInt64]) (h' := h) rfl C (Nat.le_refl _) (Nat.le_refl _) z1 z2 F
  have e191 : cl 191 [.ref ro, .int i] h = some (some (.int v), h) := by
    rw [q_191, if_neg hi, hn, Option.bind_some, if_neg hni, ha, Option.bind_some, hv, Option.bind_some]
  obtain ⟨N, hr⟩ := (ia_den_iff cb_P cb_M).mp e191
  have hM : is_Mt l D z b sc (cb_MT 191) [.ref ro, .int i] h (some (.int v)) h := is_metOf (cb_St N) l D z b sc (y := 191) (cb_allG 191 (by decide)).1 (cb_allG 191 (by decide)).2 (as := [.ref ro, .int i]) (show (2 : Nat) ≤ 2 from Nat.le_refl 2) hr
  intro H locs ls rl S lh
  refine is_callW (u := cb_MT 191) (k := 11) (na := 2) (rc := 3) (st := [.int i, .ref ro]) (h := h) (h' := h) (r := some (.int v)) C (cbr_CR 11 _ rfl : 191 < cb_NM ∧ is_OkC tCR (cb_MT 191) 11 2 3).2 (cb_allG 191 (by decide)).2 rl S lh.1 (show (2 : Nat) ≤ 2 from Nat.le_refl 2) (show (0 : Nat) ≤ 8 by decide) (gI_ok hn (by decide) _) hM ⟨by omega, by omega⟩ fun H1 locs1 rl1 S1 => ?_
  have w := F12 H1 locs1 ls rl1 S1 lh
  rw [show h.1 - h.1 + (h.1 - h.1) = h.1 - h.1 by omega, show h.2.1 - h.2.1 + (h.2.1 - h.2.1) = h.2.1 - h.2.1 by omega]
  exact w
end CR
theorem cr_C {p : Program} {l : Launch} {e : Env} {s s₁ : State} {m : MethodId} {args : Array Value} {below : List Frame} {meth : Method} {c : Code} {D : is_D} {z b mc ms : Nat} {sc : Nat × (Nat → Int32)} {h : ia_H} {as : List Value} (B : BodyLoose p l tCR.1 (headSpec (is_ws tCR) (is_rm tCR mc ms)) (is_cc tCR) (is_mL tCR) (is_rt tCR) e s m args below meth c s₁) (hml : c.maxLocals = is_mL tCR) (hv : is_Pc D z b sc as h args s) :
    is_Cx tCR p l (headSpec (is_ws tCR) (is_rm tCR mc ms)).room s m args meth c D z b sc s.heap := by
  obtain ⟨-, rl, hK, hnw, hao, hX, hbz⟩ := hv
  have hts := atoms_spec (ws := is_ws tCR) B.pre
  exact ⟨B.exec, B.bytes, hml, findClass_of_methodNamed B.named, fun w hw => hts w (List.mem_cons_of_mem _ hw), hnw, hao, hK, (name_of_methodNamed B.named B.method).1, hX, hbz, by rw [rl.1]; exact Nat.le_add_right _ _, Nat.le_refl _, Nat.le_refl _, fun q => absurd q (by decide)⟩
theorem cr_metN (l : Launch) (D : is_D) (z b : Nat) (sc : Nat × (Nat → Int32)) {h : ia_H} {x ro a : Nat} {i n v : Int32} (hro : ia_gR h 0 x 3 = some ro) (hn : ia_gI h 3 ro 1 = some n) (hc : ¬ (i < 0 ∨ n ≤ i)) (ha : ia_gR h 3 ro 0 = some a) (hv : ia_ld h 0 a i = some v) : is_Mt l D z b sc tCR [.ref x, .int i] h (some (.long v.toInt64)) h := by
  refine Met.ofW (cc := is_cc tCR) (maxL := is_mL tCR) (ret := is_rt tCR) (by decide) rfl ?_
  intro p e s m args below meth c s₁ B hml hP
  have C := cr_C B hml hP
  have hlocks := B.notSynchronized
  obtain ⟨rfl, rl, hK, hnw, hao, hX, hbz⟩ := hP
  have hfw := cr_n (e := e) (below := below) (Q := MQ below (is_Qc D z b sc (some (.long v.toInt64)) h) (([.ref x, .int i].map (is_tr z b)).toArray) s (h.1 - h.1) (h.2.1 - h.2.1) (fun q => z ≤ q)) C hro hn hc ha hv (fun H locs ls rl' S lh => W.lret C.1 C.2.1 B.returns (fun t ht hW => ⟨rfl, by rw [ht]; exact rl', S.F ht⟩) S.2.2 (by decide +kernel))
  have w := hfw s.heap [] _ rl va_S.rf (is_ent_LH z b _ [.ref x, .int i] (show (2 : Nat) ≤ 2 from Nat.le_refl 2))
  rw [Nat.sub_self, Nat.sub_self] at w ⊢
  rw [lg_entry_eq]
  exact w
/-- what stands behind the throw -/
def crX (D : is_D) (z b : Nat) (sc : Nat × (Nat → Int32)) (h : ia_H) : String → State → State → Prop := fun E st t => E = nSE ∧ is_Rl D z b sc (ia_new h 6 (.inr (9, []))) t.heap ∧ va_F (fun q => z ≤ q) st t
theorem cr_metT (l : Launch) (hl : l.stackTraces = false) (D : is_D) (z b : Nat) (sc : Nat × (Nat → Int32)) {h : ia_H} {x ro : Nat} {i n : Int32} (hro : ia_gR h 0 x 3 = some ro) (hn : ia_gI h 3 ro 1 = some n) (hc : i < 0 ∨ n ≤ i) :
    vx_Met l tCR.1 (is_ws tCR) (is_rm tCR 1 6) (is_PcX D z b sc [.ref x, .int i] h) (fun _ _ _ _ => False) (crX D z b sc h) 1 6 (fun q => z ≤ q) := by
  refine vx_ofW (cc := is_cc tCR) (maxL := is_mL tCR) (ret := is_rt tCR) (by decide) rfl ?_
  intro p e s m args below meth c s₁ B hml hout ⟨hP, hPX⟩
  have C := cr_C B hml hP
  have hlocks := B.notSynchronized
  obtain ⟨rfl, rl, hK, hnw, hao, hX, hbz⟩ := hP
  have hgw := C.2.2.2.2.1
  have hfw := cr_t (e := e) (below := below) (Q := vx_MQ below (fun _ _ _ _ => False) (crX D z b sc h) (([.ref x, .int i].map (is_tr z b)).toArray) s 1 6 (fun q => z ≤ q)) C hro hn hc (fun H locs ls rl' S lh => ?_)
  · have w := hfw s.heap [] _ rl va_S.rf (is_ent_LH z b _ [.ref x, .int i] (show (2 : Nat) ≤ 2 from Nat.le_refl 2))
    rw [Nat.sub_self, Nat.sub_self] at w
    rw [lg_entry_eq]
    exact w
  · refine vx_throwN (own := "CardsAndBans") (cls := nSE) (names := ["java/lang/RuntimeException", "java/lang/Exception"]) (ik := 348) (ic := 350) (A := fun q => z ≤ q) C.1 C.2.1 hl C.2.2.2.1 (by decide +kernel) (by decide +kernel) (hgw _ w_exlink) (hgw _ w_exini) (vx_hat (fun w hw => hgw w (vx_a_good w hw)) vx_a_rest fun w hw => va_Nw.use (xw_on w hw) (hPX.1 w hw)) vx_a_ot hPX.2.1 hPX.2.2 S (lh.1.trans hml.symm) (by decide +kernel) (by decide +kernel) (by decide +kernel) (by decide +kernel) (fun y hy => (hout y hy).elim) (by show 2 + 3 < 6; decide) (by show 0 + (13 * (2 + 1) + 42) ≤ 81; decide) (by show h.1 - h.1 + 1 ≤ 1; omega) (by show h.2.1 - h.2.1 + 6 ≤ 6; omega) hlocks ?_ S.2.2 (by omega) (by omega)
    intro t ce hal hsz hce hvm hcl hk
    have hat : va_at D.1 cb_cl (z + h.1, is_E D z b (.inr (9, []))) t.heap := ⟨_, rfl, ce, by rw [← rl'.1]; exact hce, Option.some.inj (hcl.symm.trans (hK.1 9 _ rfl).2.1), hvm, fun k hk => absurd hk (Nat.not_lt_zero k)⟩
    exact ⟨rfl, rl'.new hat hsz hk, Nat.le_trans S.1 (by omega), fun q h1 h2 => (hk q (Nat.lt_of_lt_of_le h1 S.1)).trans (S.2.1 q h1 h2)⟩
end TXZz

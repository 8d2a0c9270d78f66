section TXZzA
/-! the law's call of row: 'try { .. } catch (NoSuchElementException e) { .. }' -/
abbrev yLR : MethodName := ⟨"CardsAndBansLaw", "row", "(LCardsAndBans;I[J)I"⟩
abbrev hLR : List (Nat × Nat × Nat × Nat) := [(0, 8, 11, 13)]
def wsLR : List Cond := Cond.codeWith yLR method_3_code 4 (some .int) hLR :: cb_gw
def rmLR (mc ms : Nat) : Room := { frames := 7, cells := mc, slots := ms, locals := 102 }
section LR
variable {p : Program} {l : Launch} {e : Env} {R : Room} {s : State} {m : MethodId} {args : Array Value} {below : List Frame} {meth : Method} {c : Code} {D : is_D} {z b : Nat} {sc : Nat × (Nat → Int32)} {H0 H : Heap} {locs : List Loc} {cells slots mc ms pc : Nat} {Q : State → Prop} {ls : Array Slot} {st0 rest : List Value}
theorem run_fin {h' : ia_H} {r : Option Value} {a : Array Value} (hr : va_Run p l e R s m args below meth c H locs cells slots mc ms (F0 m pc ls st0) rest (is_Qc D z b sc r h' a) (fun q => z ≤ q)) (S : va_S (fun q => z ≤ q) H0 H locs)
    (kk : ∀ (H1 : Heap) (locs1 : List Loc), is_Rl D z b sc h' H1 → va_S (fun q => z ≤ q) H0 H1 locs1 → W p l e R s m args below meth c H1 locs1 (cells + mc) (slots + ms) Q (F0 m (pc + 3) ls ((r.map (is_tr z b)).toList ++ rest))) :
    W p l e R s m args below meth c H locs cells slots Q (F0 m pc ls st0) := by
  intro T hT X
  obtain ⟨v, st₀, t1, T', L, h0, X', hL, e1, e2, ⟨hv, hrl, hz, hk⟩, stp⟩ := hr T hT X
  cases hv
  rw [h0] at hz hk
  obtain ⟨t2, a1, b1⟩ := kk T'.heap (locs ++ L) (by rw [e1]; exact hrl) ⟨Nat.le_trans S.1 (by rw [e1]; exact hz), fun q h1 h2 => by rw [e1, hk q (Nat.lt_of_lt_of_le h1 S.1) h2]; exact S.2.1 q h1 h2, fun q hq => by
      rcases List.mem_append.mp hq with h | h
      · exact S.2.2 q h
      · exact hL q h⟩ T' rfl X'
  exact ⟨t2, stp t2 a1, b1⟩
theorem run_finX {h : ia_H} {Qa : State → Outcome → State → Prop} (hr : vx_Run p l e R s m args below meth c H locs cells slots mc ms (F0 m pc ls st0) rest Qa (crX D z b sc h) (fun q => z ≤ q)) (hQ : ∀ a o t, ¬ Qa a o t) (S : va_S (fun q => z ≤ q) H0 H locs)
    (kx : ∀ (q : Addr) (ce : Cell) (H1 : Heap) (locs1 : List Loc), is_Rl D z b sc (ia_new h 6 (.inr (9, []))) H1 → va_S (fun q => z ≤ q) H0 H1 locs1 → H1[q]? = some ce → ce.vm = .none → s.vm.findClass nSE = some ce.cls → vx_W p l e R s m args below meth c H1 locs1 (cells + mc) (slots + ms) Q (F0 m pc ls rest) q) :
    W p l e R s m args below meth c H locs cells slots Q (F0 m pc ls st0) := by
  intro T hT X
  rcases hr T hT X with ⟨v, st₀, t, T', L, h0, X', hL, e1, e2, hq, stp⟩ | ⟨q, st₀, t, T', L, E, ce, h0, X', hL, e1, e2, ⟨hE, hrl, hz, hk⟩, hce, hcv, hcl, stp⟩
  · exact absurd hq (hQ _ _ _)
  · subst hE
    rw [h0] at hz hk
    obtain ⟨t2, a1, b1⟩ := kx q ce T'.heap (locs ++ L) (by rw [e1]; exact hrl) ⟨Nat.le_trans S.1 (by rw [e1]; exact hz), fun q h1 h2 => by rw [e1, hk q (Nat.lt_of_lt_of_le h1 S.1) h2]; exact S.2.1 q h1 h2, fun q hq => by
        rcases List.mem_append.mp hq with h | h
        · exact S.2.2 q h
        · exact hL q h⟩ (by rw [e1]; exact hce) hcv hcl T' rfl X'
    exact ⟨t2, stp.trans a1, b1⟩
/-- from its entry to the call -/
theorem lr_head (hx : p.tables.exec = Jvm.exec) (hb : c.code = method_3_code) {x out : Nat} {i : Int32} (lh : is_LH z b 4 ls [some (.ref x), some (.int i), some (.ref out), none])
    (k : W p l e R s m args below meth c H locs cells slots Q (F0 m 4 ls [.int i, .ref (z + x), .int 0, .ref (z + out)])) : W p l e R s m args below meth c H locs cells slots Q (F0 m 0 ls []) := by
  refine lv_aload_n hx hb (k := 2) (i := 2) (x := z + out) (by decide +kernel) rfl (lh.2.2.2 2 (.ref out) rfl (fun g => by cases g)) ?_
  refine lv_iconst hx hb (n := 0) (v := 0) (by decide +kernel) rfl ?_
  refine lv_aload_n hx hb (k := 0) (i := 0) (x := z + x) (by decide +kernel) rfl (lh.2.2.2 0 (.ref x) rfl (fun g => by cases g)) ?_
  refine lv_iload_n hx hb (k := 1) (i := 1) (x := i) (by decide +kernel) rfl (lh.2.2.2 1 (.int i) rfl (fun g => by cases g)) ?_
  exact k
theorem gR_at {h : ia_H} {ci a k r : Nat} (hg : ia_gR h ci a k = some r) : ∃ fs v, ia_c h a = .inr (ci, fs) ∧ fs[k]? = some v := by
  unfold ia_gR at hg
  split at hg
  · rename_i cc fs he
    split at hg
    · rename_i hcc
      subst hcc
      split at hg
      · rename_i y hy
        exact ⟨fs, _, he, hy⟩
      · cases hg
    · cases hg
  · cases hg
end LR
/-- what the call of CardsAndBans.row wants -/
theorem lr_cw {R : Room} {s : State} {args : Array Value} {mc ms : Nat} (hgw : ∀ w ∈ cb_gw, w.before args s = true) (hR : 7 ≤ R.frames ∧ 102 ≤ R.locals) : CallW R s args "CardsAndBansLaw" "CardsAndBans" 7 tCR.1 (is_cc tCR) (is_mL tCR) (is_rt tCR) (is_ws tCR) (is_rm tCR mc ms) mc ms 1 :=
  ⟨callB_of 1 hgw (is_good tCR cbc_CR) rfl rfl rfl (hgw _ w_cbini) (hgw _ w_crlink) ⟨by decide, by decide, by decide +kernel⟩ ⟨hR.1, hR.2⟩, hgw _ w_crinst, hgw _ w_crsel⟩
theorem lr_metN (l : Launch) (D : is_D) (z b : Nat) (sc : Nat × (Nat → Int32)) {h h' : ia_H} {x ro a out : Nat} {i n v : Int32} (hro : ia_gR h 0 x 3 = some ro) (hn : ia_gI h 3 ro 1 = some n) (hc : ¬ (i < 0 ∨ n ≤ i)) (ha : ia_gR h 3 ro 0 = some a) (hv : ia_ld h 0 a i = some v) (hst : ia_stL h out 0 v.toInt64 = some h') :
    Met l yLR wsLR (rmLR 0 0) (is_PcX D z b sc [.ref x, .int i, .ref out] h) (is_Qc D z b sc (some (.int 0)) h') 0 0 (fun q => z ≤ q) := by
  refine va_MetW (cc := method_3_code) (maxL := 4) (ret := some .int) (hh := hLR) (ws' := cb_gw) (by decide) rfl ?_
  intro p e s m args below meth c s₁ B hml ⟨hP, hPX⟩
  have hlocks := B.notSynchronized
  obtain ⟨rfl, rl, hK, hnw, hao, hX, hbz⟩ := hP
  have hts := atoms_spec (ws := wsLR) B.pre
  have hgw : ∀ w ∈ cb_gw, w.before (([.ref x, .int i, .ref out].map (is_tr z b)).toArray) s = true := fun w hw => hts w (List.mem_cons_of_mem _ hw)
  have lh := is_ent_LH z b 4 [.ref x, .int i, .ref out] (show (3 : Nat) ≤ 4 by decide)
  obtain ⟨fs0, v0', he0, hf0⟩ := gR_at hro
  have hrecv := va_recv hK (is_P1 (rl.at he0 (is_nd2 hf0))) (ci := 0) (q0 := 0) (a := z + x) rfl rfl
  obtain ⟨nL, f, h1, hin, rfl⟩ := is_stL hst
  rw [lg_entry_eq]
  refine lr_head B.exec B.bytes lh ?_
  have hr := va_runV (C := "CardsAndBans") (e := e) (below := below) (meth := meth) (locs := []) (cells := 0) (slots := 0) (R := (headSpec wsLR (rmLR 0 0)).room) (g := F0 m 4 ((lg_sl ([.ref x, .int i, .ref out].map (is_tr z b)) ++ List.replicate (4 - (lg_sl ([.ref x, .int i, .ref out].map (is_tr z b))).length) Slot.unset).toArray) [.int i, .ref (z + x), .int 0, .ref (z + out)]) (As := [.int i]) (rest := [.int 0, .ref (z + out)]) (H := s.heap) ⟨B.exec, B.bytes, hml, findClass_of_methodNamed B.named, hgw⟩ (cr_metN l D z b sc hro hn hc ha hv) (lr_cw hgw ⟨Nat.le_refl 7, Nat.le_refl 102⟩)
    ⟨is_blind, hrecv, fun U hU hW => ⟨rfl, by rw [hU]; exact rl, va_K.moved hW.alike hK, cb_nwarm hW hnw, va_AO.moved hW.alike hao, by rw [hU]; exact va_X.moved hW.alike hX, hbz⟩⟩ rfl rfl lh.1 rfl (lv_room (show (2 : Nat) ≤ 8 by decide)) (show decode method_3_code 4 = _ by decide +kernel) ⟨by show 0 + (h.1 - h.1) ≤ 0; omega, by show 0 + (h.2.1 - h.2.1) ≤ 0; omega⟩
  refine run_fin hr va_S.rf fun H locs1 rl1 S1 => ?_
  rw [show 0 + (h.1 - h.1) = 0 by omega, show 0 + (h.2.1 - h.2.1) = 0 by omega]
  show W p l e _ s m _ below meth c H locs1 0 0 _ (F0 m 7 _ [.long v.toInt64, .int 0, .ref (z + out)])
  have hat := rl1.at h1 is_nd1
  refine W.last B.exec B.bytes hat ((hK.2 1 _ rfl).1 nL (fun j => .long (f j))) (fun q => by cases q) (by show ¬ ((0 : Int32) < 0 ∨ (arrV _ _ _).slots.size ≤ _); rw [arrV_size]; exact hin) rfl rfl (show decode method_3_code 7 = _ by decide +kernel) fun H1 e1 z1 oq => ?_
  have rl2 : is_Rl D z b sc (ia_up h out (.inl (1, nL, .inr (.inl (vp_updL f (0 : Int32).toNatClampNeg v.toInt64))))) H1 := by
    refine rl1.up (rl1.lt (by rw [h1]; exact is_nd1)) ?_ z1 oq
    show H1[z + out]? = some (vp_cell _ _)
    rw [e1]
    show some ((vp_cell (D.2 1) (nL, .inr (.inl f))).setSlot _ _) = some (vp_cell (D.2 1) (nL, .inr (.inl _)))
    rw [vp_cell_l, vp_cell_l, arrV_store]
    congr 2
    funext q
    by_cases hq : q = (0 : Int32).toNatClampNeg
    · subst hq
      simp [updV, vp_updL]
    · rw [show ((0 : Int32).toNatClampNeg) = 0 by decide] at hq
      simp [updV, vp_updL, hq]
  have S2 := is_S.put (k := (0 : Int32).toNatClampNeg) S1 z1 oq
  refine lv_goto (pc := 8) (off := 6) (tgt := 14) B.exec B.bytes (by decide +kernel) (by decide) ?_
  refine lv_iconst B.exec B.bytes (n := 0) (v := 0) (by decide +kernel) rfl ?_
  exact W.iret B.exec B.bytes B.returns (fun t ht hW => ⟨rfl, by rw [ht]; exact rl2, S2.F ht⟩) S2.2.2 (by decide +kernel)
theorem lr_metT (l : Launch) (hl : l.stackTraces = false) (D : is_D) (z b : Nat) (sc : Nat × (Nat → Int32)) {h : ia_H} {x ro out : Nat} {i n : Int32} (hro : ia_gR h 0 x 3 = some ro) (hn : ia_gI h 3 ro 1 = some n) (hc : i < 0 ∨ n ≤ i) :
    Met l yLR wsLR (rmLR 1 6) (is_PcX D z b sc [.ref x, .int i, .ref out] h) (is_Qc D z b sc (some (.int 1)) (ia_new h 6 (.inr (9, [])))) 1 6 (fun q => z ≤ q) := by
  refine va_MetW (cc := method_3_code) (maxL := 4) (ret := some .int) (hh := hLR) (ws' := cb_gw) (by decide) rfl ?_
  intro p e s m args below meth c s₁ B hml ⟨hP, hPX⟩
  have hlocks := B.notSynchronized
  obtain ⟨rfl, rl, hK, hnw, hao, hX, hbz⟩ := hP
  have hts := atoms_spec (ws := wsLR) B.pre
  have hgw : ∀ w ∈ cb_gw, w.before (([.ref x, .int i, .ref out].map (is_tr z b)).toArray) s = true := fun w hw => hts w (List.mem_cons_of_mem _ hw)
  have lh := is_ent_LH z b 4 [.ref x, .int i, .ref out] (show (3 : Nat) ≤ 4 by decide)
  obtain ⟨fs0, v0', he0, hf0⟩ := gR_at hro
  have hrecv := va_recv hK (is_P1 (rl.at he0 (is_nd2 hf0))) (ci := 0) (q0 := 0) (a := z + x) rfl rfl
  have htab : c.exceptionTable.toList = [⟨0, 8, 11, 13⟩] := vx_table (x := yLR) B (hts _ List.mem_cons_self)
  rw [lg_entry_eq]
  refine lr_head B.exec B.bytes lh ?_
  have hr := vx_runV (C := "CardsAndBans") (e := e) (below := below) (meth := meth) (locs := []) (cells := 0) (slots := 0) (R := (headSpec wsLR (rmLR 1 6)).room) (g := F0 m 4 ((lg_sl ([.ref x, .int i, .ref out].map (is_tr z b)) ++ List.replicate (4 - (lg_sl ([.ref x, .int i, .ref out].map (is_tr z b))).length) Slot.unset).toArray) [.int i, .ref (z + x), .int 0, .ref (z + out)]) (As := [.int i]) (rest := [.int 0, .ref (z + out)]) (H := s.heap) ⟨B.exec, B.bytes, hml, findClass_of_methodNamed B.named, hgw⟩ (cr_metT l hl D z b sc hro hn hc) (lr_cw hgw ⟨Nat.le_refl 7, Nat.le_refl 102⟩)
    ⟨is_blindX, hrecv, fun U hU hW => ⟨⟨rfl, by rw [hU]; exact rl, va_K.moved hW.alike hK, cb_nwarm hW hnw, va_AO.moved hW.alike hao, by rw [hU]; exact va_X.moved hW.alike hX, hbz⟩, hPX.to (fun _ _ _ => rfl) hU hW⟩⟩ rfl rfl lh.1 rfl (lv_room (show (2 : Nat) ≤ 8 by decide)) (show decode method_3_code 4 = _ by decide +kernel) ⟨by show 0 + 1 ≤ 1; decide, by show 0 + 6 ≤ 6; decide⟩
  refine run_finX hr (fun _ _ _ q => q) va_S.rf fun q ce H1 locs1 rl1 S1 hce hcv hcl => ?_
  refine vx_catch (own := "CardsAndBansLaw") (name := nSE) (findClass_of_methodNamed B.named) [] ⟨0, 8, 11, 13⟩ [] htab (fun y hy => nomatch hy) (by decide) (by decide) (hgw _ w_lrcatch) (va_Nw.use (xw_on _ (by decide +kernel)) (hPX.1 (.castable nSE nSE) (by decide +kernel))) hce hcv hcl ?_
  refine lv_astore_n B.exec B.bytes (k := 3) (i := 3) (nL := 4) (x := q) (by decide +kernel) rfl lh.has (by decide) rfl (fun ls' h' => ?_)
  refine lv_iconst B.exec B.bytes (n := 1) (v := 1) (by decide +kernel) rfl ?_
  exact W.iret B.exec B.bytes B.returns (fun t ht hW => ⟨rfl, by rw [ht]; exact rl1, S1.F ht⟩) S1.2.2 (by decide +kernel)
end TXZzA

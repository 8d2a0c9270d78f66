section TXZzB
/-! the law: row as one act; what its entry gives -/
theorem law_PX {z : Nat} {s : State} {args : Array Value} (htb : ∀ w ∈ lw_tbl, w.before args s = true) (hgv : (Jvm.Cond.and given_1 narrow_1).before args s = true) (hz : z = s.heap.size) : is_PX z s := by
  have hs := flat_of_before _ hgv
  have hA : ∀ a : Nat, a < s.heap.size → ¬ z ≤ a := fun a ha => by omega
  exact ⟨fun w hw => va_Nw.of (xw_on w hw) (htb w (xw_t w hw)), vx_Zqof (htb _ (List.mem_of_getElem? (i := 960) (by decide +kernel))) (htb _ (List.mem_of_getElem? (i := 82) (by decide +kernel))) (hs _ (by decide +kernel)) hA, vx_Zqof (htb _ (List.mem_of_getElem? (i := 962) (by decide +kernel))) (htb _ (List.mem_of_getElem? (i := 82) (by decide +kernel))) (hs _ (by decide +kernel)) hA⟩
theorem wsLR_gw : ∀ w ∈ va_wsS "CardsAndBansLaw" 218 yLR wsLR, w ∈ cb_gw := List.forall_mem_append.mpr ⟨List.forall_mem_cons.mpr ⟨w_lrlink, List.forall_mem_cons.mpr ⟨w_lrstat, List.forall_mem_cons.mpr ⟨w_lwini, fun _ q => nomatch q⟩⟩⟩, List.forall_mem_cons.mpr ⟨w_lrcode, fun _ q => q⟩⟩
section LRC
variable {p : Program} {l : Launch} {e : Env} {R : Room} {s : State} {m : MethodId} {args : Array Value} {below : List Frame} {meth : Method} {c : Code} {D : is_D} {z b : Nat} {sc : Nat × (Nat → Int32)} {H0 : Heap} {nx0 sn0 : Nat} {Q : State → Prop}
theorem lr_call (C : is_Cx mt_259 p l R s m args meth c D z b sc H0) {h h' : ia_H} {q : Int32} {x out : Nat} {i : Int32} {st : List Value} {L : ia_L} {k mc ms : Nat} (A : is_At mt_259 k (.invokestatic 218) 3) (hw8 : ia_w st ≤ 8)
    (hM : Met l yLR wsLR (rmLR mc ms) (is_PcX D z b sc [.ref x, .int i, .ref out] h) (is_Qc D z b sc (some (.int q)) h') mc ms (fun q => z ≤ q)) (hmc : h'.1 = h.1 + mc) (hms : h'.2.1 = h.2.1 + ms) (hn : nx0 ≤ h.1) (hs : sn0 ≤ h.2.1) (hcl : h'.1 - nx0 ≤ R.cells) (hsl : h'.2.1 - sn0 ≤ R.slots)
    (F : is_FW mt_259 p l e R s m args below meth c D z b sc H0 nx0 sn0 Q (k + 1) L (.int q :: st) h') : is_FW mt_259 p l e R s m args below meth c D z b sc H0 nx0 sn0 Q k L (.ref out :: .int i :: .ref x :: st) h := by
  intro H locs ls rl S lh
  obtain ⟨hx, hb, hml, hown, hts, hnw, hao, hK, hname, hX, hbz, hzH, hRf, hRl, hLw⟩ := id C
  obtain ⟨htb, hgv, hfl, hz, hH0⟩ := hLw rfl
  have hXH : va_X b sc.1 sc.2 s H := hX.kept (S.2.1 b (Nat.lt_of_lt_of_le hbz hzH) (by show ¬ z ≤ b; omega))
  have hPX := law_PX htb hgv hz
  have hS2 : ∀ q : Nat, q < s.heap.size → ¬ z ≤ q → H[q]? = s.heap[q]? := fun q h1 h2 => by rw [← hH0] at h1 ⊢; exact S.2.1 q h1 h2
  have hR1 : 10 ≤ R.frames := hRf
  have hR2 : 366 ≤ R.locals := hRl
  have hr := vx_runSW (p := p) (l := l) (e := e) (R := R) (s := s) (m := m) (args := args) (below := below) (meth := meth) (c := c) (H := H) (locs := locs) (cells := h.1 - nx0) (slots := h.2.1 - sn0) (bytes := method_3_code) (maxL := 4) (ret := some .int) (hh := hLR) (index := 218) (own := "CardsAndBansLaw") (n := 3) (As := [.ref (z + x), .int i, .ref (z + out)]) (rest := st.map (is_tr z b)) (g := F0 m (is_pc mt_259 k) ls (((Value.ref out) :: .int i :: .ref x :: st).map (is_tr z b))) ⟨hx, hb, hml, hown, hts⟩ hM (vx_cwSW 3 hts (fun w hw => ⟨wsLR_gw w hw, (cb_gg w (wsLR_gw w hw)).2⟩) rfl rfl rfl ⟨by decide, by decide, by decide +kernel⟩ ⟨by show 7 + 1 ≤ R.frames; omega, by show 8 + (4 + 11) + 102 ≤ R.locals; omega⟩)
    ⟨is_blindX, fun U hU hW => ⟨⟨rfl, by rw [hU]; exact rl, va_K.moved hW.alike hK, cb_nwarm hW hnw, va_AO.moved hW.alike hao, by rw [hU]; exact va_X.moved hW.alike hXH, hbz⟩, hPX.to hS2 hU hW⟩⟩ rfl rfl lh.1 rfl (lv_room (by rw [is_w_sum]; exact hw8)) A.2 ⟨by omega, by omega⟩
  refine run_fin hr S fun H1 locs1 rl1 S1 => ?_
  have w := F H1 locs1 ls rl1 S1 lh
  rw [A.1] at w
  rw [show h.1 - nx0 + mc = h'.1 - nx0 by omega, show h.2.1 - sn0 + ms = h'.2.1 - sn0 by omega]
  exact w
end LRC
theorem ok_lrow {k : Nat} (A : is_At mt_259 k (.invokestatic 218) 3) : is_Ok mt_259 k ia_lrow := by
  intro L st h k' L' st' h' hf
  unfold ia_lrow at hf
  split at hf
  · rename_i out i x st0
    split at hf
    · rename_i hw8
      obtain ⟨ro, hro, hf⟩ := Option.bind_eq_some_iff.mp hf
      obtain ⟨n, hn, hf⟩ := Option.bind_eq_some_iff.mp hf
      split at hf
      · rename_i hc
        cases hf
        refine ⟨Nat.le_succ _, Nat.le_add_right _ _, ?_⟩
        intro p l e R s m args below meth c D z b sc H0 nx0 sn0 Q C hn1 hs1 hcl hsl F
        have hfl : l.flags = flags0 := (C.2.2.2.2.2.2.2.2.2.2.2.2.2.2 rfl).2.2.1
        have hst : l.stackTraces = false := by
          unfold Launch.stackTraces
          rw [hfl]
          decide +kernel
        exact lr_call C A hw8 (lr_metT l hst D z b sc hro hn hc) rfl rfl hn1 hs1 hcl hsl F
      · rename_i hc
        obtain ⟨a, ha, hf⟩ := Option.bind_eq_some_iff.mp hf
        obtain ⟨v, hv, hf⟩ := Option.bind_eq_some_iff.mp hf
        obtain ⟨h2, hst, hf⟩ := Option.map_eq_some_iff.mp hf
        cases hf
        obtain ⟨nL, f, g1, g2, g3⟩ := is_stL hst
        have e1 : h'.1 = h.1 := by rw [g3]; rfl
        have e2 : h'.2.1 = h.2.1 := by rw [g3]; rfl
        refine ⟨Nat.le_of_eq e1.symm, Nat.le_of_eq e2.symm, ?_⟩
        intro p l e R s m args below meth c D z b sc H0 nx0 sn0 Q C hn1 hs1 hcl hsl F
        exact lr_call C A hw8 (lr_metN l D z b sc hro hn hc ha hv hst) e1 e2 hn1 hs1 hcl hsl F
    · cases hf
  · cases hf
/-! the classes -/
theorem cb_Kc {args : Array Value} {s : State} (hts : ∀ w ∈ lw_tbl, w.before args s = true) (hgw : ∀ w ∈ cb_gw, w.before args s = true) : ∀ (c : Nat) (q : vw_C), cb_cl[c]? = some q → ∃ (cC : ClassId) (iS : Nat → Nat), u_Kn s q.1 q.2.1 q.2.2 cC iS
  | 0, q, hq => by
    cases hq
    exact u_known (n := 11) hgw cb_i0 (hts _ (List.mem_of_getElem? (i := 87) (by decide +kernel)))
  | 1, q, hq => by
    cases hq
    exact u_known (n := 4) hgw cb_i1 (hts _ (List.mem_of_getElem? (i := 95) (by decide +kernel)))
  | 2, q, hq => by
    cases hq
    exact u_known (n := 2) hgw cb_i2 (hts _ (List.mem_of_getElem? (i := 118) (by decide +kernel)))
  | 3, q, hq => by
    cases hq
    exact u_known (n := 2) hgw cb_i3 (hts _ (List.mem_of_getElem? (i := 134) (by decide +kernel)))
  | 4, q, hq => by
    cases hq
    exact u_known (n := 1) hgw cb_i4 (hts _ (List.mem_of_getElem? (i := 148) (by decide +kernel)))
  | 5, q, hq => by
    cases hq
    exact u_known (n := 11) hgw cb_i5 (hts _ (List.mem_of_getElem? (i := 169) (by decide +kernel)))
  | 6, q, hq => by
    cases hq
    exact u_known (n := 3) hgw cb_i6 (hts _ (List.mem_of_getElem? (i := 221) (by decide +kernel)))
  | 7, q, hq => by
    cases hq
    exact u_known (n := 8) hgw cb_i7 (hts _ (List.mem_of_getElem? (i := 521) (by decide +kernel)))
  | 8, q, hq => by
    cases hq
    exact u_known (n := 36) hgw cb_i8 (hts _ (List.mem_of_getElem? (i := 995) (by decide +kernel)))
  | 9, q, hq => by
    cases hq
    exact u_known (n := 6) hgw (fun w hw => nomatch hw) (hts _ (List.mem_of_getElem? (i := 934) (by decide +kernel)))
  | _ + 10, q, hq => by cases hq
theorem cb_D {args : Array Value} {s : State} (hts : ∀ w ∈ lw_tbl, w.before args s = true) (hgw : ∀ w ∈ cb_gw, w.before args s = true) : ∃ D : is_D, va_K D.1 cb_cl (is_tys D.2) s ∧ va_AO "CardsAndBans$State" s := by
  have h : ∀ c : Nat, ∃ (cC : ClassId) (iS : Nat → Nat), ∀ q : vw_C, cb_cl[c]? = some q → u_Kn s q.1 q.2.1 q.2.2 cC iS := fun c => by
    cases hq : cb_cl[c]? with
    | none => exact ⟨0, fun _ => 0, fun q h => by cases h⟩
    | some q =>
      obtain ⟨cC, iS, hk⟩ := cb_Kc hts hgw c q hq
      exact ⟨cC, iS, fun q' h => by cases h; exact hk⟩
  have hao : va_AO "CardsAndBans$State" s := va_AO.of (hts _ (List.mem_of_getElem? (i := 227) (by decide +kernel)))
  obtain ⟨c0, k0, p0, f0, g0, e0⟩ := Cond.arrayClass_spec (hts (.arrayClass .int) (List.mem_of_getElem? (i := 132) (by decide +kernel)))
  obtain ⟨c1, k1, p1, f1, g1, e1⟩ := Cond.arrayClass_spec (hts (.arrayClass .long) (List.mem_of_getElem? (i := 1110) (by decide +kernel)))
  obtain ⟨c2, k2, p2, f2, g2, e2⟩ := Cond.arrayClass_spec (hts (.arrayClass .char) (List.mem_of_getElem? (i := 116) (by decide +kernel)))
  obtain ⟨c3, k3, p3, f3, g3, e3⟩ := Cond.arrayClass_spec (hts (.arrayClass .byte) (List.mem_of_getElem? (i := 1109) (by decide +kernel)))
  obtain ⟨comp, c4, k4, f4, -, g4, e4, n4⟩ := Cond.arrayOver_spec (hts (.arrayOver (.object "CardsAndBans$State")) (List.mem_of_getElem? (i := 227) (by decide +kernel)))
  refine ⟨((fun c => Classical.choose (h c), fun c => Classical.choose (Classical.choose_spec (h c))), fun k => match k with | 0 => c0 | 1 => c1 | 2 => c2 | 3 => c3 | _ => c4), ⟨fun c q hq => Classical.choose_spec (Classical.choose_spec (h c)) q hq, fun k q hq => ?_⟩, hao⟩
  match k, hq with
  | 0, hq => cases hq; exact ⟨fun n z => ⟨fun k h => (by cases h), k0, g0, p0, e0⟩, f0⟩
  | 1, hq => cases hq; exact ⟨fun n z => ⟨fun k h => (by cases h), k1, g1, p1, e1⟩, f1⟩
  | 2, hq => cases hq; exact ⟨fun n z => ⟨fun k h => (by cases h), k2, g2, p2, e2⟩, f2⟩
  | 3, hq => cases hq; exact ⟨fun n z => ⟨fun k h => (by cases h), k3, g3, p3, e3⟩, f3⟩
  | 4, hq => cases hq; exact ⟨fun n z => ⟨fun k h => (by cases h), k4, g4, comp, e4⟩, k4, comp, g4, e4, f4, n4⟩
  | _ + 5, hq => cases hq
end TXZzB

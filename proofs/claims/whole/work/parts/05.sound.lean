/-! RUNS OF THE ABSTRACT MACHINE ARE RUNS OF THE MACHINE: one theorem for all methods, by the fuel. -/
/-- the link of a method that is called -/
def is_ml (t : is_M) (index : Nat) (y : MethodName) : Prop := Cond.methodLink t.1.cls index y ∈ cb_gw ∨ ∃ host, Cond.methodLinkNest t.1.cls index y host ∈ cb_nw
abbrev is_np (y : MethodName) (n : Nat) : Prop := (parseMethodDescriptor y.desc).map (fun d => d.parameters.length) = some n
def is_OkC (t u : is_M) (k na rc : Nat) : Prop :=
  is_rF u + 1 ≤ is_rF t ∧ 8 + (is_mL u + 11) + is_rL u ≤ is_rL t ∧ (u.1.cls ≠ "java/lang/invoke/MethodHandle" ∧ u.1.cls ≠ "java/lang/invoke/VarHandle") ∧ Cond.initialized u.1.cls ∈ cb_gw ∧ is_pc t (k + 1) = is_pc t k + 3 ∧
  ∃ index, is_ml t index u.1 ∧
    ((rc = 100 ∧ decode (is_cc t) (is_pc t k) = .ok (.invokestatic index, 3) ∧ Cond.static u.1 ∈ cb_gw ∧ is_np u.1 na) ∨
     (rc = 101 ∧ decode (is_cc t) (is_pc t k) = .ok (.invokespecial index, 3) ∧ u.1.name = "<init>" ∧ is_rt u = none ∧ Cond.instanceMethod u.1 ∈ cb_gw ∧ is_np u.1 (na - 1) ∧ 1 ≤ na) ∨
     (rc < 100 ∧ (∃ T N, cb_cl[rc]? = some (u.1.cls, T, N)) ∧ decode (is_cc t) (is_pc t k) = .ok (.invokevirtual index, 3) ∧ Cond.instanceMethod u.1 ∈ cb_gw ∧ Cond.selects u.1.cls u.1 u.1 ∈ cb_gw ∧ is_np u.1 (na - 1) ∧ 1 ≤ na))
def is_OkR (t : is_M) (k r : Nat) : Prop :=
  (r = 0 ∧ decode (is_cc t) (is_pc t k) = .ok (.return_, 1) ∧ is_rt t = none) ∨ (r = 1 ∧ decode (is_cc t) (is_pc t k) = .ok (.ireturn, 1) ∧ is_rt t = some .int) ∨
  (r = 2 ∧ decode (is_cc t) (is_pc t k) = .ok (.ireturn, 1) ∧ is_rt t = some .boolean) ∨ (r = 3 ∧ decode (is_cc t) (is_pc t k) = .ok (.lreturn, 1) ∧ is_rt t = some .long) ∨
  (r = 4 ∧ decode (is_cc t) (is_pc t k) = .ok (.areturn, 1) ∧ ∃ C, is_rt t = some (.object C))
/-- a row of a method, in a table MT whose first NM are called -/
def is_OkW (MT : Nat → is_M) (NM : Nat) (t : is_M) (k : Nat) : ia_R → Prop
  | .inl f => is_Ok t k f
  | .inr (.inl q) => q.1 < NM ∧ is_OkC t (MT q.1) k q.2.1 q.2.2
  | .inr (.inr r) => is_OkR t k r
def is_Gr (MT : Nat → is_M) (NM : Nat) (t : is_M) : Prop := ∀ k w, is_row t k = some w → is_OkW MT NM t k w
def is_Gc (t : is_M) : Prop := plainName t.1.cls = true ∧ Cond.code t.1 (is_cc t) (is_mL t) (is_rt t) ∈ cb_gw ∧ is_pc t 0 = 0 ∧ t.1.cls ≠ "CardsAndBansLaw"
def is_ws (t : is_M) : List Cond := Cond.code t.1 (is_cc t) (is_mL t) (is_rt t) :: cb_gw
def is_rm (t : is_M) (mc ms : Nat) : Room := { frames := is_rF t, cells := mc, slots := ms, locals := is_rL t }
def is_Pc (D : is_D) (z b : Nat) (sc : Nat × (Nat → Int32)) (as : List Value) (h : ia_H) : Array Value → State → Prop := fun v U =>
  v = (as.map (is_tr z b)).toArray ∧ is_Rl D z b sc h U.heap ∧ va_K D.1 cb_cl (is_tys D.2) U ∧ (∀ w ∈ cb_nw, va_Nw w U) ∧ va_AO "CardsAndBans$State" U ∧ va_X b sc.1 sc.2 U U.heap ∧ b < z
def is_Qc (D : is_D) (z b : Nat) (sc : Nat × (Nat → Int32)) (r : Option Value) (h : ia_H) : Array Value → State → Outcome → State → Prop := fun _ st oc t =>
  oc = .returned (r.map (is_tr z b)) ∧ is_Rl D z b sc h t.heap ∧ va_F (fun q => z ≤ q) st t
def is_Mt (l : Launch) (D : is_D) (z b : Nat) (sc : Nat × (Nat → Int32)) (t : is_M) (as : List Value) (h : ia_H) (r : Option Value) (h' : ia_H) : Prop :=
  Met l t.1 (is_ws t) (is_rm t (h'.1 - h.1) (h'.2.1 - h.2.1)) (is_Pc D z b sc as h) (is_Qc D z b sc r h') (h'.1 - h.1) (h'.2.1 - h.2.1) (fun q => z ≤ q)
/-! the entry -/
theorem is_ent_len (n : Nat) (as : List Value) (h : ia_w as ≤ n) : (ia_ent n as).length = n := by
  induction as generalizing n with
  | nil => simp [ia_ent]
  | cons v as ih =>
    simp only [ia_w] at h
    rw [ia_ent]
    by_cases hc : v.category = 2
    · rw [if_pos hc]
      simp only [List.length_cons]
      rw [ih (n - 2) (by omega)]
      omega
    · have h1 : v.category = 1 := (lv_cat v).resolve_right hc
      rw [if_neg hc]
      simp only [List.length_cons]
      rw [ih (n - 1) (by omega)]
      omega
theorem is_sl_len (z b : Nat) (as : List Value) : (lg_sl (as.map (is_tr z b))).length = ia_w as := by
  induction as with
  | nil => rfl
  | cons v as ih =>
    have e : lg_sl ((v :: as).map (is_tr z b)) = (if (is_tr z b v).category = 2 then [.val (is_tr z b v), .second] else [.val (is_tr z b v)]) ++ lg_sl (as.map (is_tr z b)) := by
      simp [lg_sl]
    rw [e, List.length_append, ih, is_cat, ia_w]
    rcases lv_cat v with hc | hc <;> simp [hc]
theorem is_ent_at (z b : Nat) (as : List Value) : ∀ (n i : Nat) (v : Value) (tl : List Slot), (ia_ent n as)[i]? = some (some v) → (lg_sl (as.map (is_tr z b)) ++ tl)[i]? = some (.val (is_tr z b v)) := by
  induction as with
  | nil =>
    intro n i v tl h
    simp [ia_ent, List.getElem?_replicate] at h
  | cons w as ih =>
    intro n i v tl h
    have e : lg_sl ((w :: as).map (is_tr z b)) = (if (is_tr z b w).category = 2 then [.val (is_tr z b w), .second] else [.val (is_tr z b w)]) ++ lg_sl (as.map (is_tr z b)) := by
      simp [lg_sl]
    rw [e, is_cat]
    rw [ia_ent] at h
    by_cases hc : w.category = 2
    · rw [if_pos hc] at h ⊢
      match i, h with
      | 0, h => simp at h; subst h; rfl
      | 1, h => simp at h
      | i + 2, h =>
        simp only [List.getElem?_cons_succ] at h
        simpa using ih (n - 2) i v tl h
    · rw [if_neg hc] at h ⊢
      match i, h with
      | 0, h => simp at h; subst h; rfl
      | i + 1, h =>
        simp only [List.getElem?_cons_succ] at h
        simpa using ih (n - 1) i v tl h
theorem is_ent_LH (z b n : Nat) (as : List Value) (h : ia_w as ≤ n) : is_LH z b n ((lg_sl (as.map (is_tr z b)) ++ List.replicate (n - (lg_sl (as.map (is_tr z b))).length) Slot.unset).toArray) (ia_ent n as) := by
  have hl := lv_entry (as.map (is_tr z b)) (n := n) (by rw [is_sl_len]; exact h)
  refine ⟨hl.1, is_ent_len n as h, hl.2.1, fun i v hi _ => ?_⟩
  rw [List.getElem?_toArray]
  exact is_ent_at z b as n i v _ hi
/-! calls -/
theorem is_good (t : is_M) (hc : is_Gc t) : GoodIn cb_gw (is_ws t) := by
  intro w hw
  rcases List.mem_cons.mp hw with rfl | hw
  · exact ⟨hc.2.1, (cb_gg _ hc.2.1).2⟩
  · exact ⟨hw, (cb_gg _ hw).2⟩
theorem is_blind {D : is_D} {z b : Nat} {sc : Nat × (Nat → Int32)} {as : List Value} {h : ia_H} : FrameBlind (is_Pc D z b sc as h) := by
  intro a U g mk q
  obtain ⟨q1, q2, q3, q4, q5, q6, q7⟩ := q
  exact ⟨q1, q2, va_K.moved (u := U) (U := U.calling g mk a) (Vm.Alike.refl U.vm) q3, fun w hw => va_Nw.same (u := U) (U := U.calling g mk a) (by
    have key : ∀ w ∈ cb_nw, w.onTables = true := by decide +kernel
    exact key w hw) rfl (q4 w hw), va_AO.moved (u := U) (U := U.calling g mk a) (Vm.Alike.refl U.vm) q5, va_X.moved (u := U) (U := U.calling g mk a) (Vm.Alike.refl U.vm) q6, q7⟩
section ISL
variable {t u : is_M} {p : Program} {l : Launch} {e : Env} {R : Room} {s : State} {m : MethodId} {args : Array Value} {below : List Frame} {meth : Method} {c : Code} {D : is_D} {z b : Nat} {sc : Nat × (Nat → Int32)} {H0 H : Heap} {locs : List Loc} {cells slots : Nat} {Q : State → Prop} {ls : Array Slot}
theorem is_callW (C : is_Cx t p l R s m args meth c D z b sc H0) {h h' : ia_H} {r : Option Value} {st : List Value} {k na rc : Nat} (K : is_OkC t u k na rc) (hu : is_Gc u) (rl : is_Rl D z b sc h H) (S : va_S (fun q => z ≤ q) H0 H locs) (hls : ls.size = is_mL t)
    (hlen : na ≤ st.length) (hw8 : ia_w (st.drop na) ≤ 8) (hok : ia_ok h rc (st.take na).reverse = true) (hM : is_Mt l D z b sc u (st.take na).reverse h r h') (hf : cells + (h'.1 - h.1) ≤ R.cells ∧ slots + (h'.2.1 - h.2.1) ≤ R.slots)
    (kk : ∀ (H1 : Heap) (locs1 : List Loc), is_Rl D z b sc h' H1 → va_S (fun q => z ≤ q) H0 H1 locs1 → W p l e R s m args below meth c H1 locs1 (cells + (h'.1 - h.1)) (slots + (h'.2.1 - h.2.1)) Q (F0 m (is_pc t (k + 1)) ls ((r.toList ++ st.drop na).map (is_tr z b)))) :
    W p l e R s m args below meth c H locs cells slots Q (F0 m (is_pc t k) ls (st.map (is_tr z b))) := by
  obtain ⟨hx, hb, hml, hown, hts, hnw, hao, hK, hname, hX, hbz, hzH, hRf, hRl, hLw⟩ := C
  obtain ⟨kF, kL, kD, kI, kP, index, km, kk3⟩ := K
  have hXH : va_X b sc.1 sc.2 s H := hX.kept (S.2.1 b (Nat.lt_of_lt_of_le hbz hzH) (by show ¬ z ≤ b; omega))
  have hpre : ∀ U : State, U.heap = H → s.WarmedH U.vm → is_Pc D z b sc (st.take na).reverse h ((st.take na).reverse.map (is_tr z b)).toArray U := by
    intro U hU hW
    refine ⟨rfl, by rw [hU]; exact rl, va_K.moved hW.alike hK, cb_nwarm hW hnw, va_AO.moved hW.alike hao, ?_, hbz⟩
    rw [hU]
    exact va_X.moved hW.alike hXH
  have hroom : (is_rm u (h'.1 - h.1) (h'.2.1 - h.2.1)).frames + 1 ≤ R.frames ∧ 8 + (is_mL u + 11) + (is_rm u (h'.1 - h.1) (h'.2.1 - h.2.1)).locals ≤ R.locals := ⟨Nat.le_trans kF hRf, Nat.le_trans kL hRl⟩
  have hrest : 2 * (F0 m (is_pc t k) ls (st.map (is_tr z b))).monitorRoom + (((st.drop na).map (is_tr z b)).map fun v => v.category).sum ≤ 8 := lv_room (by rw [is_w_sum]; exact hw8)
  have hsplit : st.map (is_tr z b) = ((st.take na).reverse.map (is_tr z b)).reverse ++ (st.drop na).map (is_tr z b) := by
    rw [← List.map_reverse, List.reverse_reverse, ← List.map_append, List.take_append_drop]
  have hS : CallFix p m c (is_cc t) (is_mL t) s args cb_gw t.1.cls := ⟨hx, hb, hml, hown, hts⟩
  have fin : va_Run p l e R s m args below meth c H locs cells slots (h'.1 - h.1) (h'.2.1 - h.2.1) (F0 m (is_pc t k) ls (st.map (is_tr z b))) ((st.drop na).map (is_tr z b)) (is_Qc D z b sc r h' ((st.take na).reverse.map (is_tr z b)).toArray) (fun q => z ≤ q) → W p l e R s m args below meth c H locs cells slots Q (F0 m (is_pc t k) ls (st.map (is_tr z b))) := by
    intro hr T hT X
    obtain ⟨v, st₀, t1, T', L, h0, X', hL, e1, e2, ⟨hv, hrl, hz, hk⟩, stp⟩ := hr T hT X
    cases hv
    rw [h0] at hz hk
    obtain ⟨t2, a1, b1⟩ := kk T'.heap (locs ++ L) (by rw [e1]; exact hrl) ⟨Nat.le_trans S.1 (by rw [e1]; exact hz), fun q h1 h2 => by rw [e1, hk q (Nat.lt_of_lt_of_le h1 S.1) h2]; exact S.2.1 q h1 h2, fun q hq => by
        rcases List.mem_append.mp hq with h | h
        · exact S.2.2 q h
        · exact hL q h⟩ T' rfl X'
    refine ⟨t2, stp t2 ?_, b1⟩
    have hfr : F0 m (is_pc t (k + 1)) ls ((r.toList ++ st.drop na).map (is_tr z b)) = { F0 m (is_pc t k) ls (st.map (is_tr z b)) with pc := (F0 m (is_pc t k) ls (st.map (is_tr z b))).pc + 3, stack := (r.map (is_tr z b)).toList ++ (st.drop na).map (is_tr z b) } := by
      rw [kP, List.map_append]
      cases r <;> rfl
    rw [← hfr]
    exact a1
  rcases kk3 with ⟨hrc, kd, ks, kn⟩ | ⟨hrc, kd, ki1, ki2, ki3, kn, kna⟩ | ⟨hrc, ⟨T0, N0, kc⟩, kd, ki, kse, kn, kna⟩
  · -- static
    refine fin ?_
    have hn : ((st.take na).reverse.map (is_tr z b)).length = na := by simp; omega
    rcases km with km | ⟨host, km⟩
    · exact va_runS (As := (st.take na).reverse.map (is_tr z b)) (rest := (st.drop na).map (is_tr z b)) hS hM ⟨callB_of na hts (is_good u hu) rfl rfl rfl (hts _ kI) (hts _ km) ⟨kD.1, kD.2, kn⟩ hroom, hts _ ks⟩ ⟨is_blind, hpre⟩ rfl hn hls hsplit hrest kd hf
    · exact va_runSN (As := (st.take na).reverse.map (is_tr z b)) (rest := (st.drop na).map (is_tr z b)) hS hM ⟨va_cnB na hts (is_good u hu) rfl rfl rfl (hnw _ km) (hts _ kI) ⟨kD.1, kD.2, kn⟩ hroom, hts _ ks, trivial⟩ ⟨is_blind, hpre⟩ rfl hn hls hsplit hrest kd hf
  · -- a constructor
    subst hrc
    cases has : (st.take na).reverse with
    | nil => rw [has] at hok; simp [ia_ok] at hok
    | cons a as =>
      rw [has] at hok hpre hM hsplit fin
      cases a with
      | ref a =>
        have hn : (as.map (is_tr z b)).length = na - 1 := by
          have := congrArg List.length has
          simp at this
          simp
          omega
        have hsp : st.map (is_tr z b) = (as.map (is_tr z b)).reverse ++ .ref (z + a) :: (st.drop na).map (is_tr z b) := by
          rw [hsplit]
          simp [is_tr]
        obtain ⟨yu, cu, mu, ru, fu, lu, pu, wu⟩ := u
        have hru : ru = none := ki2
        subst hru
        refine fin ?_
        rcases km with km | ⟨host, km⟩
        · exact va_runI (As := as.map (is_tr z b)) (rest := (st.drop na).map (is_tr z b)) hS hM ⟨callB_of (na - 1) hts (is_good _ hu) rfl rfl rfl (hts _ kI) (hts _ km) ⟨kD.1, kD.2, kn⟩ hroom, ki1, hts _ ki3⟩ ⟨is_blind, hpre⟩ rfl hn hls hsp hrest kd hf
        · exact va_runIN (As := as.map (is_tr z b)) (rest := (st.drop na).map (is_tr z b)) hS hM ⟨va_cnB (na - 1) hts (is_good _ hu) rfl rfl rfl (hnw _ km) (hts _ kI) ⟨kD.1, kD.2, kn⟩ hroom, ki1, hts _ ki3⟩ ⟨is_blind, hpre⟩ rfl hn hls hsp hrest kd hf
      | _ => simp [ia_ok] at hok
  · -- a method of an object
    have h100 : ¬ rc = 100 := by omega
    have h101 : ¬ rc = 101 := by omega
    cases has : (st.take na).reverse with
    | nil => rw [has] at hok; simp [ia_ok, h100] at hok
    | cons a as =>
      rw [has] at hok hpre hM hsplit fin
      cases a with
      | ref a =>
        have hn : (as.map (is_tr z b)).length = na - 1 := by
          have := congrArg List.length has
          simp at this
          simp
          omega
        have hsp : st.map (is_tr z b) = (as.map (is_tr z b)).reverse ++ .ref (z + a) :: (st.drop na).map (is_tr z b) := by
          rw [hsplit]
          simp [is_tr]
        have hrecv : ∃ cell : Cell, H[z + a]? = some cell ∧ cell.vm.isStatics = false ∧ s.vm.findClass u.1.cls = some cell.cls := by
          simp only [ia_ok, h100, h101, if_false] at hok
          split at hok
          · rename_i cc v fs he
            have hcc : cc = rc := by simpa using hok
            subst hcc
            have hat := is_P1 (rl.at he (is_nd2 (k := 0) rfl))
            exact va_recv hK hat (ci := cc) (q0 := 0) kc rfl
          · cases hok
        refine fin ?_
        rcases km with km | ⟨host, km⟩
        · exact va_runV (C := u.1.cls) (As := as.map (is_tr z b)) (rest := (st.drop na).map (is_tr z b)) hS hM ⟨callB_of (na - 1) hts (is_good u hu) rfl rfl rfl (hts _ kI) (hts _ km) ⟨kD.1, kD.2, kn⟩ hroom, hts _ ki, hts _ kse⟩ ⟨is_blind, hrecv, hpre⟩ rfl hn hls hsp hrest kd hf
        · exact va_runVN (C := u.1.cls) (As := as.map (is_tr z b)) (rest := (st.drop na).map (is_tr z b)) hS hM ⟨va_cnB (na - 1) hts (is_good u hu) rfl rfl rfl (hnw _ km) (hts _ kI) ⟨kD.1, kD.2, kn⟩ hroom, hts _ ki, hts _ kse⟩ ⟨is_blind, hrecv, hpre⟩ rfl hn hls hsp hrest kd hf
      | _ => simp [ia_ok, h100] at hok
end ISL
/-! the theorem -/
def is_St (MT : Nat → is_M) (NM n : Nat) : Prop :=
  ∀ (y k : Nat) (L : ia_L) (st : List Value) (h : ia_H) (r : Option Value) (hF : ia_H), ia_run (fun y k => is_row (MT y) k) (fun y => is_mL (MT y)) n y k L st h = some (r, hF) → is_Gr MT NM (MT y) → h.1 ≤ hF.1 ∧ h.2.1 ≤ hF.2.1 ∧
    ∀ (p : Program) (l : Launch) (e : Env) (R : Room) (s : State) (m : MethodId) (args : Array Value) (below : List Frame) (meth : Method) (c : Code) (D : is_D) (z b : Nat) (sc : Nat × (Nat → Int32)) (H0 : Heap) (nx0 sn0 : Nat) (Q : State → Prop),
      is_Cx (MT y) p l R s m args meth c D z b sc H0 → nx0 ≤ h.1 → sn0 ≤ h.2.1 → hF.1 - nx0 ≤ R.cells → hF.2.1 - sn0 ≤ R.slots →
      (∀ (k' : Nat) (L' : ia_L) (st' : List Value) (q : Nat), is_row (MT y) k' = some (.inr (.inr q)) → ia_ret q st' = some r → is_FW (MT y) p l e R s m args below meth c D z b sc H0 nx0 sn0 Q k' L' st' hF) →
      is_FW (MT y) p l e R s m args below meth c D z b sc H0 nx0 sn0 Q k L st h
theorem is_metOf {MT : Nat → is_M} {NM n : Nat} (IH : is_St MT NM n) (l : Launch) (D : is_D) (z b : Nat) (sc : Nat × (Nat → Int32)) {y : Nat} (hg : is_Gr MT NM (MT y)) (hc : is_Gc (MT y)) {as : List Value} {h hF : ia_H} {r : Option Value} (hw : ia_w as ≤ is_mL (MT y))
    (hr : ia_run (fun y k => is_row (MT y) k) (fun y => is_mL (MT y)) n y 0 (ia_ent (is_mL (MT y)) as) [] h = some (r, hF)) : is_Mt l D z b sc (MT y) as h r hF := by
  refine Met.ofW (cc := is_cc (MT y)) (maxL := is_mL (MT y)) (ret := is_rt (MT y)) hc.1 rfl ?_
  intro p e s m args below meth c s₁ B hml hv
  obtain ⟨rfl, rl, hK, hnw, hao, hX, hbz⟩ := hv
  have hts := atoms_spec (ws := is_ws (MT y)) B.pre
  have hlocks := B.notSynchronized
  have C : is_Cx (MT y) p l (headSpec (is_ws (MT y)) (is_rm (MT y) (hF.1 - h.1) (hF.2.1 - h.2.1))).room s m ((as.map (is_tr z b)).toArray) meth c D z b sc s.heap :=
    ⟨B.exec, B.bytes, hml, findClass_of_methodNamed B.named, fun w hw => hts w (List.mem_cons_of_mem _ hw), hnw, hao, hK, (name_of_methodNamed B.named B.method).1, hX, hbz, by rw [rl.1]; exact Nat.le_add_right _ _, Nat.le_refl _, Nat.le_refl _, fun h => absurd h hc.2.2.2⟩
  obtain ⟨-, -, key⟩ := IH y 0 _ [] h r hF hr hg
  have hfw := key p l e _ s m _ below meth c D z b sc s.heap h.1 h.2.1 (MQ below (is_Qc D z b sc r hF) ((as.map (is_tr z b)).toArray) s (hF.1 - h.1) (hF.2.1 - h.2.1) (fun q => z ≤ q)) C (Nat.le_refl _) (Nat.le_refl _) (Nat.le_refl _) (Nat.le_refl _) ?_
  · have w := hfw s.heap [] _ rl va_S.rf (is_ent_LH z b _ as hw)
    rw [Nat.sub_self, Nat.sub_self] at w
    rw [lg_entry_eq]
    have h0 : is_pc (MT y) 0 = 0 := hc.2.2.1
    rw [h0] at w
    exact w
  · intro k' L' st' q hrow hret H locs ls rl' S lh
    have hR := hg k' _ hrow
    have hq : ∀ v, r.map (is_tr z b) = v → ∀ t : State, t.heap = H → s.WarmedH t.vm → is_Qc D z b sc r hF ((as.map (is_tr z b)).toArray) s (.returned v) t := by
      rintro v rfl t ht hW
      exact ⟨rfl, by rw [ht]; exact rl', S.F ht⟩
    rcases hR with ⟨rfl, kd, krt⟩ | ⟨rfl, kd, krt⟩ | ⟨rfl, kd, krt⟩ | ⟨rfl, kd, krt⟩ | ⟨rfl, kd, C0, krt⟩
    · match st', hret with
      | [], hret =>
        cases hret
        exact W.vret C.1 C.2.1 (B.returns.trans krt) (hq _ rfl) S.2.2 kd
    · match st', hret with
      | [.int x], hret =>
        cases hret
        exact W.iret C.1 C.2.1 (B.returns.trans krt) (hq _ rfl) S.2.2 kd
    · match st', hret with
      | [.int x], hret =>
        simp only [ia_ret] at hret
        split at hret
        · rename_i hx
          cases hret
          exact W.zret (ty := .boolean) C.1 C.2.1 (B.returns.trans krt) (by rcases hx with rfl | rfl <;> decide) (hq _ rfl) S.2.2 kd
        · cases hret
    · match st', hret with
      | [.long x], hret =>
        cases hret
        exact W.lret C.1 C.2.1 (B.returns.trans krt) (hq _ rfl) S.2.2 kd
    · match st', hret with
      | [.ref x], hret =>
        cases hret
        exact W.aret C.1 C.2.1 (B.returns.trans krt) (Or.inl ⟨_, rfl⟩) (Or.inr ⟨_, rfl⟩) (hq _ rfl) S.2.2 kd
theorem is_sound {MT : Nat → is_M} {NM : Nat} (hG : ∀ y, y < NM → is_Gr MT NM (MT y) ∧ is_Gc (MT y)) : ∀ n, is_St MT NM n := by
  intro n
  induction n with
  | zero => intro y k L st h r hF hr; cases hr
  | succ n IH =>
    intro y k L st h r hF hr hg
    rw [ia_run] at hr
    split at hr
    · cases hr
    · rename_i f hf
      obtain ⟨⟨k1, L1, st1, h1⟩, hr1, hr2⟩ := Option.bind_eq_some_iff.mp hr
      obtain ⟨a1, a2, a3⟩ := (hg k _ hf : is_Ok (MT y) k f) L st h k1 L1 st1 h1 hr1
      obtain ⟨b1, b2, b3⟩ := IH y k1 L1 st1 h1 r hF hr2 hg
      refine ⟨Nat.le_trans a1 b1, Nat.le_trans a2 b2, ?_⟩
      intro p l e R s m args below meth c D z b sc H0 nx0 sn0 Q C hn hs hcl hsl HR
      exact a3 p l e R s m args below meth c D z b sc H0 nx0 sn0 Q C hn hs (by omega) (by omega) (b3 p l e R s m args below meth c D z b sc H0 nx0 sn0 Q C (Nat.le_trans hn a1) (Nat.le_trans hs a2) hcl hsl HR)
    · rename_i u na rc hf
      split at hr
      · cases hr
      · rename_i hnl
        obtain ⟨⟨v, h1⟩, hr1, hr2⟩ := Option.bind_eq_some_iff.mp hr
        obtain ⟨hu, K⟩ := (hg k _ hf : u < NM ∧ is_OkC (MT y) (MT u) k na rc)
        obtain ⟨a1, a2, -⟩ := IH u 0 _ [] h v h1 hr1 (hG u hu).1
        obtain ⟨b1, b2, b3⟩ := IH y (k + 1) L _ h1 r hF hr2 hg
        refine ⟨Nat.le_trans a1 b1, Nat.le_trans a2 b2, ?_⟩
        intro p l e R s m args below meth c D z b sc H0 nx0 sn0 Q C hn hs hcl hsl HR H locs ls rl S lh
        have q1 : na ≤ st.length := by omega
        have q2 : ia_w (st.take na) ≤ is_mL (MT u) := by omega
        have q3 : ia_w (st.drop na) ≤ 8 := by omega
        have q4 : ia_ok h rc (st.take na).reverse = true := by
          cases hx : ia_ok h rc (st.take na).reverse with
          | true => rfl
          | false => exact absurd (Or.inr (Or.inr (Or.inr hx))) hnl
        have hwr : ia_w (st.take na).reverse = ia_w (st.take na) := by
          have hs : ∀ l : List Value, ia_w l = (l.map fun v => v.category).sum := by
            intro l
            induction l with
            | nil => rfl
            | cons v l ih => simp [ia_w, ih]
          rw [hs, hs, List.map_reverse, List.sum_reverse]
        have hM := is_metOf IH l D z b sc (hG u hu).1 (hG u hu).2 (by rw [hwr]; exact q2) hr1
        have hfw := b3 p l e R s m args below meth c D z b sc H0 nx0 sn0 Q C (Nat.le_trans hn a1) (Nat.le_trans hs a2) hcl hsl HR
        refine is_callW C K (hG u hu).2 rl S lh.1 q1 q3 q4 hM ⟨by omega, by omega⟩ fun H1 locs1 rl1 S1 => ?_
        have w := hfw H1 locs1 ls rl1 S1 lh
        have e1 : h.1 - nx0 + (h1.1 - h.1) = h1.1 - nx0 := by omega
        have e2 : h.2.1 - sn0 + (h1.2.1 - h.2.1) = h1.2.1 - sn0 := by omega
        rw [e1, e2]
        exact w
    · rename_i q hf
      obtain ⟨v, hr1, hr2⟩ := Option.map_eq_some_iff.mp hr
      cases hr2
      refine ⟨Nat.le_refl _, Nat.le_refl _, ?_⟩
      intro p l e R s m args below meth c D z b sc H0 nx0 sn0 Q C hn hs hcl hsl HR
      exact HR k L st q hf hr1

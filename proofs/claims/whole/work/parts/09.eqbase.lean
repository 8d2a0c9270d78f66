/-! EQUATIONS: what each row does to `dn`; calls by what they return -/
def cb_P (y k : Nat) : Option ia_R := is_row (cb_MT y) k
def cb_M (y : Nat) : Nat := is_mL (cb_MT y)
noncomputable def dn (y k : Nat) (L : ia_L) (st : List Value) (h : ia_H) : ia_O := ia_den cb_P cb_M y k L st h
noncomputable def cl (y : Nat) (as : List Value) (h : ia_H) : ia_O := dn y 0 (ia_ent (cb_M y) as) [] h
theorem dq {y k : Nat} {f : ia_F} {L : ia_L} {st : List Value} {h : ia_H} {k' : Nat} {L' : ia_L} {st' : List Value} {h' : ia_H} (hP : cb_P y k = some (.inl f)) (hf : f k L st h = some (k', L', st', h')) : dn y k L st h = dn y k' L' st' h' := ia_den_to cb_P cb_M hP hf
theorem dq_iinc {y k i : Nat} {n : Int} {L : ia_L} {st : List Value} {h : ia_H} {x v : Int32} (hP : cb_P y k = some (.inl (ia_iinc i n))) (hx : L[i]? = some (some (.int x))) (hv : Int32.ofInt n = v) : dn y k L st h = dn y (k + 1) (L.set i (some (.int (x + v)))) st h := by
  refine ia_den_to cb_P cb_M hP ?_
  rw [ia_iinc, hx, ← hv]
theorem dq_bind {y k : Nat} {f : ia_F} {L : ia_L} {st : List Value} {h : ia_H} {α : Type} {o : Option α} {g : α → ia_S} (hP : cb_P y k = some (.inl f)) (hf : f k L st h = o.map g) : dn y k L st h = o.bind fun x => dn y (g x).1 (g x).2.1 (g x).2.2.1 (g x).2.2.2 := by
  rw [dn, ia_den_go cb_P cb_M hP, hf]
  cases o <;> rfl
def kxi (o : ia_O) (f : Int32 → ia_H → ia_O) : ia_O := o.bind fun s => match s.1 with
  | some (.int r) => f r s.2
  | _ => none
def kxl (o : ia_O) (f : Int64 → ia_H → ia_O) : ia_O := o.bind fun s => match s.1 with
  | some (.long r) => f r s.2
  | _ => none
def kxr (o : ia_O) (f : Nat → ia_H → ia_O) : ia_O := o.bind fun s => match s.1 with
  | some (.ref r) => f r s.2
  | _ => none
def kxv (o : ia_O) (f : ia_H → ia_O) : ia_O := o.bind fun s => match s.1 with
  | none => f s.2
  | _ => none
theorem kxi_s (r : Int32) (h : ia_H) (f : Int32 → ia_H → ia_O) : kxi (some (some (.int r), h)) f = f r h := rfl
theorem kxl_s (r : Int64) (h : ia_H) (f : Int64 → ia_H → ia_O) : kxl (some (some (.long r), h)) f = f r h := rfl
theorem kxr_s (r : Nat) (h : ia_H) (f : Nat → ia_H → ia_O) : kxr (some (some (.ref r), h)) f = f r h := rfl
theorem kxv_s (h : ia_H) (f : ia_H → ia_O) : kxv (some (none, h)) f = f h := rfl
theorem kxi_c {o : ia_O} {f g : Int32 → ia_H → ia_O} (h : ∀ r q, f r q = g r q) : kxi o f = kxi o g := by rw [show f = g from funext fun r => funext fun q => h r q]
theorem kxl_c {o : ia_O} {f g : Int64 → ia_H → ia_O} (h : ∀ r q, f r q = g r q) : kxl o f = kxl o g := by rw [show f = g from funext fun r => funext fun q => h r q]
theorem kxr_c {o : ia_O} {f g : Nat → ia_H → ia_O} (h : ∀ r q, f r q = g r q) : kxr o f = kxr o g := by rw [show f = g from funext fun r => funext fun q => h r q]
theorem kxv_c {o : ia_O} {f g : ia_H → ia_O} (h : ∀ q, f q = g q) : kxv o f = kxv o g := by rw [show f = g from funext h]
theorem bn_c {α β : Type} {o : Option α} {f g : α → Option β} (h : ∀ x, f x = g x) : o.bind f = o.bind g := by rw [show f = g from funext h]
theorem it_c {c : Prop} [Decidable c] {α : Type} {a b : Option α} (h : a = b) : (if c then a else none) = (if c then b else none) := by rw [h]
theorem ie_c {c : Prop} [Decidable c] {α : Type} {a b a' b' : α} (h : a = a') (h' : b = b') : (if c then a else b) = (if c then a' else b') := by rw [h, h']
theorem oe_c {α β : Type} {o : Option α} {a a' : β} {f f' : α → β} (h : a = a') (h' : ∀ x, f x = f' x) : o.elim a f = o.elim a' f' := by rw [h, show f = f' from funext h']
/-- the kinds of a method's returns -/
def ia_kd (p : Nat → Bool) (ws : List ia_R) : Bool := ws.all fun w => match w with
  | .inr (.inr r) => p r
  | _ => true
theorem ia_kd_run (P : Nat → Nat → Option ia_R) (M : Nat → Nat) (y : Nat) (p : Nat → Bool) (hp : ∀ k r, P y k = some (.inr (.inr r)) → p r = true) : ∀ (n k : Nat) (L : ia_L) (st : List Value) (h : ia_H) (o : Option Value × ia_H), ia_run P M n y k L st h = some o → ∃ (r : Nat) (st' : List Value), p r = true ∧ ia_ret r st' = some o.1 := by
  intro n
  induction n with
  | zero => intro k L st h o ho; cases ho
  | succ n ih =>
    intro k L st h o ho
    rw [ia_run] at ho
    split at ho
    · cases ho
    · obtain ⟨s, h1, h2⟩ := Option.bind_eq_some_iff.mp ho
      exact ih _ _ _ _ _ h2
    · split at ho
      · cases ho
      · obtain ⟨s, h1, h2⟩ := Option.bind_eq_some_iff.mp ho
        exact ih _ _ _ _ _ h2
    · rename_i r hf
      obtain ⟨v, hv, rfl⟩ := Option.map_eq_some_iff.mp ho
      exact ⟨r, st, hp k r hf, hv⟩
theorem ia_kd_cl {y : Nat} {p : Nat → Bool} (hk : ia_kd p (cb_MT y).2.2.2.2.2.2.2 = true) {as : List Value} {h : ia_H} {o : Option Value × ia_H} (ho : cl y as h = some o) : ∃ (r : Nat) (st' : List Value), p r = true ∧ ia_ret r st' = some o.1 := by
  obtain ⟨n, hn⟩ := (ia_den_iff cb_P cb_M).mp ho
  refine ia_kd_run cb_P cb_M y p (fun k r hr => ?_) n _ _ _ _ _ hn
  have := List.all_eq_true.mp hk _ (List.mem_of_getElem? hr)
  exact this
def ia_kI (r : Nat) : Bool := r == 1 || r == 2
def ia_kV (r : Nat) : Bool := r == 0
def ia_kL (r : Nat) : Bool := r == 3
def ia_kR (r : Nat) : Bool := r == 4
theorem ia_ret_I {r : Nat} {st : List Value} {v : Option Value} (hp : ia_kI r = true) (h : ia_ret r st = some v) : ∃ x, v = some (.int x) := by
  unfold ia_kI at hp
  unfold ia_ret at h
  split at h <;> simp_all
  · exact ⟨_, h.symm⟩
  · exact ⟨_, h.2.symm⟩
theorem ia_ret_V {r : Nat} {st : List Value} {v : Option Value} (hp : ia_kV r = true) (h : ia_ret r st = some v) : v = none := by
  unfold ia_kV at hp
  unfold ia_ret at h
  split at h <;> simp_all
theorem ia_ret_L {r : Nat} {st : List Value} {v : Option Value} (hp : ia_kL r = true) (h : ia_ret r st = some v) : ∃ x, v = some (.long x) := by
  unfold ia_kL at hp
  unfold ia_ret at h
  split at h <;> simp_all
  exact ⟨_, h.symm⟩
theorem ia_ret_R {r : Nat} {st : List Value} {v : Option Value} (hp : ia_kR r = true) (h : ia_ret r st = some v) : ∃ x, v = some (.ref x) := by
  unfold ia_kR at hp
  unfold ia_ret at h
  split at h <;> simp_all
  exact ⟨_, h.symm⟩
theorem dq_kxi {y k z na rc : Nat} {L : ia_L} {st : List Value} {h : ia_H} (hP : cb_P y k = some (.inr (.inl (z, na, rc)))) (hl : na ≤ st.length) (hw : ia_w (st.take na) ≤ cb_M z) (hd : ia_w (st.drop na) ≤ 8) (ht : ia_kd ia_kI (cb_MT z).2.2.2.2.2.2.2 = true) : dn y k L st h = if ia_ok h rc (st.take na).reverse = true then kxi (cl z (st.take na).reverse h) (fun r h' => dn y (k + 1) L (.int r :: st.drop na) h') else none := by
  rw [dn, ia_den_call cb_P cb_M hP L st h hl hw hd]
  by_cases hok : ia_ok h rc (st.take na).reverse = true
  · rw [if_pos hok, if_pos hok]
    show (cl z (st.take na).reverse h).bind _ = _
    cases hc : cl z (st.take na).reverse h with
    | none => rfl
    | some s =>
      obtain ⟨v, h1⟩ := s
      obtain ⟨r, st', h2, h3⟩ := ia_kd_cl ht hc
      obtain ⟨x, hx⟩ := ia_ret_I h2 h3
      cases hx
      rfl
  · rw [if_neg hok, if_neg hok]
theorem dq_kxi0 {y k z na : Nat} {L : ia_L} {st : List Value} {h : ia_H} (hP : cb_P y k = some (.inr (.inl (z, na, 100)))) (hl : na ≤ st.length) (hw : ia_w (st.take na) ≤ cb_M z) (hd : ia_w (st.drop na) ≤ 8) (ht : ia_kd ia_kI (cb_MT z).2.2.2.2.2.2.2 = true) : dn y k L st h = kxi (cl z (st.take na).reverse h) (fun r h' => dn y (k + 1) L (.int r :: st.drop na) h') := (dq_kxi hP hl hw hd ht).trans (if_pos rfl)
theorem dq_kxi1 {y k z na : Nat} {L : ia_L} {st : List Value} {h : ia_H} {a : Nat} {as : List Value} (hP : cb_P y k = some (.inr (.inl (z, na, 101)))) (hl : na ≤ st.length) (hw : ia_w (st.take na) ≤ cb_M z) (hd : ia_w (st.drop na) ≤ 8) (ht : ia_kd ia_kI (cb_MT z).2.2.2.2.2.2.2 = true) (ha : (st.take na).reverse = .ref a :: as) : dn y k L st h = kxi (cl z (st.take na).reverse h) (fun r h' => dn y (k + 1) L (.int r :: st.drop na) h') := (dq_kxi hP hl hw hd ht).trans (if_pos (by rw [ha]; rfl))
theorem dq_kxl {y k z na rc : Nat} {L : ia_L} {st : List Value} {h : ia_H} (hP : cb_P y k = some (.inr (.inl (z, na, rc)))) (hl : na ≤ st.length) (hw : ia_w (st.take na) ≤ cb_M z) (hd : ia_w (st.drop na) ≤ 8) (ht : ia_kd ia_kL (cb_MT z).2.2.2.2.2.2.2 = true) : dn y k L st h = if ia_ok h rc (st.take na).reverse = true then kxl (cl z (st.take na).reverse h) (fun r h' => dn y (k + 1) L (.long r :: st.drop na) h') else none := by
  rw [dn, ia_den_call cb_P cb_M hP L st h hl hw hd]
  by_cases hok : ia_ok h rc (st.take na).reverse = true
  · rw [if_pos hok, if_pos hok]
    show (cl z (st.take na).reverse h).bind _ = _
    cases hc : cl z (st.take na).reverse h with
    | none => rfl
    | some s =>
      obtain ⟨v, h1⟩ := s
      obtain ⟨r, st', h2, h3⟩ := ia_kd_cl ht hc
      obtain ⟨x, hx⟩ := ia_ret_L h2 h3
      cases hx
      rfl
  · rw [if_neg hok, if_neg hok]
theorem dq_kxl0 {y k z na : Nat} {L : ia_L} {st : List Value} {h : ia_H} (hP : cb_P y k = some (.inr (.inl (z, na, 100)))) (hl : na ≤ st.length) (hw : ia_w (st.take na) ≤ cb_M z) (hd : ia_w (st.drop na) ≤ 8) (ht : ia_kd ia_kL (cb_MT z).2.2.2.2.2.2.2 = true) : dn y k L st h = kxl (cl z (st.take na).reverse h) (fun r h' => dn y (k + 1) L (.long r :: st.drop na) h') := (dq_kxl hP hl hw hd ht).trans (if_pos rfl)
theorem dq_kxl1 {y k z na : Nat} {L : ia_L} {st : List Value} {h : ia_H} {a : Nat} {as : List Value} (hP : cb_P y k = some (.inr (.inl (z, na, 101)))) (hl : na ≤ st.length) (hw : ia_w (st.take na) ≤ cb_M z) (hd : ia_w (st.drop na) ≤ 8) (ht : ia_kd ia_kL (cb_MT z).2.2.2.2.2.2.2 = true) (ha : (st.take na).reverse = .ref a :: as) : dn y k L st h = kxl (cl z (st.take na).reverse h) (fun r h' => dn y (k + 1) L (.long r :: st.drop na) h') := (dq_kxl hP hl hw hd ht).trans (if_pos (by rw [ha]; rfl))
theorem dq_kxr {y k z na rc : Nat} {L : ia_L} {st : List Value} {h : ia_H} (hP : cb_P y k = some (.inr (.inl (z, na, rc)))) (hl : na ≤ st.length) (hw : ia_w (st.take na) ≤ cb_M z) (hd : ia_w (st.drop na) ≤ 8) (ht : ia_kd ia_kR (cb_MT z).2.2.2.2.2.2.2 = true) : dn y k L st h = if ia_ok h rc (st.take na).reverse = true then kxr (cl z (st.take na).reverse h) (fun r h' => dn y (k + 1) L (.ref r :: st.drop na) h') else none := by
  rw [dn, ia_den_call cb_P cb_M hP L st h hl hw hd]
  by_cases hok : ia_ok h rc (st.take na).reverse = true
  · rw [if_pos hok, if_pos hok]
    show (cl z (st.take na).reverse h).bind _ = _
    cases hc : cl z (st.take na).reverse h with
    | none => rfl
    | some s =>
      obtain ⟨v, h1⟩ := s
      obtain ⟨r, st', h2, h3⟩ := ia_kd_cl ht hc
      obtain ⟨x, hx⟩ := ia_ret_R h2 h3
      cases hx
      rfl
  · rw [if_neg hok, if_neg hok]
theorem dq_kxr0 {y k z na : Nat} {L : ia_L} {st : List Value} {h : ia_H} (hP : cb_P y k = some (.inr (.inl (z, na, 100)))) (hl : na ≤ st.length) (hw : ia_w (st.take na) ≤ cb_M z) (hd : ia_w (st.drop na) ≤ 8) (ht : ia_kd ia_kR (cb_MT z).2.2.2.2.2.2.2 = true) : dn y k L st h = kxr (cl z (st.take na).reverse h) (fun r h' => dn y (k + 1) L (.ref r :: st.drop na) h') := (dq_kxr hP hl hw hd ht).trans (if_pos rfl)
theorem dq_kxr1 {y k z na : Nat} {L : ia_L} {st : List Value} {h : ia_H} {a : Nat} {as : List Value} (hP : cb_P y k = some (.inr (.inl (z, na, 101)))) (hl : na ≤ st.length) (hw : ia_w (st.take na) ≤ cb_M z) (hd : ia_w (st.drop na) ≤ 8) (ht : ia_kd ia_kR (cb_MT z).2.2.2.2.2.2.2 = true) (ha : (st.take na).reverse = .ref a :: as) : dn y k L st h = kxr (cl z (st.take na).reverse h) (fun r h' => dn y (k + 1) L (.ref r :: st.drop na) h') := (dq_kxr hP hl hw hd ht).trans (if_pos (by rw [ha]; rfl))
theorem dq_kxv {y k z na rc : Nat} {L : ia_L} {st : List Value} {h : ia_H} (hP : cb_P y k = some (.inr (.inl (z, na, rc)))) (hl : na ≤ st.length) (hw : ia_w (st.take na) ≤ cb_M z) (hd : ia_w (st.drop na) ≤ 8) (ht : ia_kd ia_kV (cb_MT z).2.2.2.2.2.2.2 = true) : dn y k L st h = if ia_ok h rc (st.take na).reverse = true then kxv (cl z (st.take na).reverse h) (fun h' => dn y (k + 1) L (st.drop na) h') else none := by
  rw [dn, ia_den_call cb_P cb_M hP L st h hl hw hd]
  by_cases hok : ia_ok h rc (st.take na).reverse = true
  · rw [if_pos hok, if_pos hok]
    show (cl z (st.take na).reverse h).bind _ = _
    cases hc : cl z (st.take na).reverse h with
    | none => rfl
    | some s =>
      obtain ⟨v, h1⟩ := s
      obtain ⟨r, st', h2, h3⟩ := ia_kd_cl ht hc
      have hx := ia_ret_V h2 h3
      cases hx
      rfl
  · rw [if_neg hok, if_neg hok]
theorem dq_kxv0 {y k z na : Nat} {L : ia_L} {st : List Value} {h : ia_H} (hP : cb_P y k = some (.inr (.inl (z, na, 100)))) (hl : na ≤ st.length) (hw : ia_w (st.take na) ≤ cb_M z) (hd : ia_w (st.drop na) ≤ 8) (ht : ia_kd ia_kV (cb_MT z).2.2.2.2.2.2.2 = true) : dn y k L st h = kxv (cl z (st.take na).reverse h) (fun h' => dn y (k + 1) L (st.drop na) h') := (dq_kxv hP hl hw hd ht).trans (if_pos rfl)
theorem dq_kxv1 {y k z na : Nat} {L : ia_L} {st : List Value} {h : ia_H} {a : Nat} {as : List Value} (hP : cb_P y k = some (.inr (.inl (z, na, 101)))) (hl : na ≤ st.length) (hw : ia_w (st.take na) ≤ cb_M z) (hd : ia_w (st.drop na) ≤ 8) (ht : ia_kd ia_kV (cb_MT z).2.2.2.2.2.2.2 = true) (ha : (st.take na).reverse = .ref a :: as) : dn y k L st h = kxv (cl z (st.take na).reverse h) (fun h' => dn y (k + 1) L (st.drop na) h') := (dq_kxv hP hl hw hd ht).trans (if_pos (by rw [ha]; rfl))
theorem dq_ret0 {y k : Nat} {L : ia_L} {h : ia_H} (hP : cb_P y k = some (.inr (.inr 0))) : dn y k L [] h = some (none, h) := by
  rw [dn, ia_den_ret cb_P cb_M hP]
  rfl
theorem dq_ret1 {y k : Nat} {L : ia_L} {h : ia_H} {x : Int32} (hP : cb_P y k = some (.inr (.inr 1))) : dn y k L [.int x] h = some (some (.int x), h) := by
  rw [dn, ia_den_ret cb_P cb_M hP]
  rfl
theorem dq_ret3 {y k : Nat} {L : ia_L} {h : ia_H} {x : Int64} (hP : cb_P y k = some (.inr (.inr 3))) : dn y k L [.long x] h = some (some (.long x), h) := by
  rw [dn, ia_den_ret cb_P cb_M hP]
  rfl
theorem dq_ret4 {y k : Nat} {L : ia_L} {h : ia_H} {x : Nat} (hP : cb_P y k = some (.inr (.inr 4))) : dn y k L [.ref x] h = some (some (.ref x), h) := by
  rw [dn, ia_den_ret cb_P cb_M hP]
  rfl
theorem dq_ret2 {y k : Nat} {L : ia_L} {h : ia_H} {x : Int32} (hP : cb_P y k = some (.inr (.inr 2))) : dn y k L [.int x] h = if x = 0 ∨ x = 1 then some (some (.int x), h) else none := by
  rw [dn, ia_den_ret cb_P cb_M hP]
  simp only [ia_ret]
  split <;> rfl
theorem dq_ret20 {y k : Nat} {L : ia_L} {h : ia_H} (hP : cb_P y k = some (.inr (.inr 2))) : dn y k L [.int 0] h = some (some (.int 0), h) := (dq_ret2 hP).trans (if_pos (Or.inl rfl))
theorem dq_ret21 {y k : Nat} {L : ia_L} {h : ia_H} (hP : cb_P y k = some (.inr (.inr 2))) : dn y k L [.int 1] h = some (some (.int 1), h) := (dq_ret2 hP).trans (if_pos (Or.inr rfl))
theorem dq_ifeq {y k t : Nat} {L : ia_L} {st : List Value} {h : ia_H} {x : Int32} (hP : cb_P y k = some (.inl (ia_ifeq t))) : dn y k L (.int x :: st) h = if x = 0 then dn y t L st h else dn y (k + 1) L st h := by
  refine (dq hP rfl).trans ?_
  split <;> rfl
theorem dq_ifne {y k t : Nat} {L : ia_L} {st : List Value} {h : ia_H} {x : Int32} (hP : cb_P y k = some (.inl (ia_ifne t))) : dn y k L (.int x :: st) h = if x = 0 then dn y (k + 1) L st h else dn y t L st h := by
  refine (dq hP rfl).trans ?_
  split <;> rfl
theorem dq_iflt {y k t : Nat} {L : ia_L} {st : List Value} {h : ia_H} {x : Int32} (hP : cb_P y k = some (.inl (ia_iflt t))) : dn y k L (.int x :: st) h = if x < 0 then dn y t L st h else dn y (k + 1) L st h := by
  refine (dq hP rfl).trans ?_
  split <;> rfl
theorem dq_ifge {y k t : Nat} {L : ia_L} {st : List Value} {h : ia_H} {x : Int32} (hP : cb_P y k = some (.inl (ia_ifge t))) : dn y k L (.int x :: st) h = if 0 ≤ x then dn y t L st h else dn y (k + 1) L st h := by
  refine (dq hP rfl).trans ?_
  split <;> rfl
theorem dq_ifgt {y k t : Nat} {L : ia_L} {st : List Value} {h : ia_H} {x : Int32} (hP : cb_P y k = some (.inl (ia_ifgt t))) : dn y k L (.int x :: st) h = if 0 < x then dn y t L st h else dn y (k + 1) L st h := by
  refine (dq hP rfl).trans ?_
  split <;> rfl
theorem dq_ifle {y k t : Nat} {L : ia_L} {st : List Value} {h : ia_H} {x : Int32} (hP : cb_P y k = some (.inl (ia_ifle t))) : dn y k L (.int x :: st) h = if x ≤ 0 then dn y t L st h else dn y (k + 1) L st h := by
  refine (dq hP rfl).trans ?_
  split <;> rfl
theorem dq_ieq {y k t : Nat} {L : ia_L} {st : List Value} {h : ia_H} {x w : Int32} (hP : cb_P y k = some (.inl (ia_ieq t))) : dn y k L (.int w :: .int x :: st) h = if x = w then dn y t L st h else dn y (k + 1) L st h := by
  refine (dq hP rfl).trans ?_
  split <;> rfl
theorem dq_ine {y k t : Nat} {L : ia_L} {st : List Value} {h : ia_H} {x w : Int32} (hP : cb_P y k = some (.inl (ia_ine t))) : dn y k L (.int w :: .int x :: st) h = if x = w then dn y (k + 1) L st h else dn y t L st h := by
  refine (dq hP rfl).trans ?_
  split <;> rfl
theorem dq_ilt {y k t : Nat} {L : ia_L} {st : List Value} {h : ia_H} {x w : Int32} (hP : cb_P y k = some (.inl (ia_ilt t))) : dn y k L (.int w :: .int x :: st) h = if x < w then dn y t L st h else dn y (k + 1) L st h := by
  refine (dq hP rfl).trans ?_
  split <;> rfl
theorem dq_ige {y k t : Nat} {L : ia_L} {st : List Value} {h : ia_H} {x w : Int32} (hP : cb_P y k = some (.inl (ia_ige t))) : dn y k L (.int w :: .int x :: st) h = if w ≤ x then dn y t L st h else dn y (k + 1) L st h := by
  refine (dq hP rfl).trans ?_
  split <;> rfl
theorem dq_igt {y k t : Nat} {L : ia_L} {st : List Value} {h : ia_H} {x w : Int32} (hP : cb_P y k = some (.inl (ia_igt t))) : dn y k L (.int w :: .int x :: st) h = if w < x then dn y t L st h else dn y (k + 1) L st h := by
  refine (dq hP rfl).trans ?_
  split <;> rfl
theorem dq_ile {y k t : Nat} {L : ia_L} {st : List Value} {h : ia_H} {x w : Int32} (hP : cb_P y k = some (.inl (ia_ile t))) : dn y k L (.int w :: .int x :: st) h = if x ≤ w then dn y t L st h else dn y (k + 1) L st h := by
  refine (dq hP rfl).trans ?_
  split <;> rfl
theorem dq_i2z {y k : Nat} {f : Int32 → Int32 → Int32} {L : ia_L} {st : List Value} {h : ia_H} {x w : Int32} (hP : cb_P y k = some (.inl (ia_i2z f))) : dn y k L (.int w :: .int x :: st) h = if w = 0 then none else dn y (k + 1) L (.int (f x w) :: st) h := by
  rw [dn, ia_den_go cb_P cb_M hP]
  simp only [ia_i2z]
  split <;> rfl
theorem dq_i2zl {y k : Nat} {f : Int32 → Int32 → Int32} {L : ia_L} {st : List Value} {h : ia_H} {x w : Int32} (hP : cb_P y k = some (.inl (ia_i2z f))) (hw : ¬ w = 0) : dn y k L (.int w :: .int x :: st) h = dn y (k + 1) L (.int (f x w) :: st) h := (dq_i2z hP).trans (if_neg hw)
theorem dq_getI {y k ci f : Nat} {L : ia_L} {st : List Value} {h : ia_H} {a : Nat} (hP : cb_P y k = some (.inl (ia_getI ci f))) : dn y k L (.ref a :: st) h = (ia_gI h ci a f).bind fun x => dn y (k + 1) L (.int x :: st) h := dq_bind (g := fun x => (k + 1, L, .int x :: st, h)) hP rfl
theorem dq_getR {y k ci f : Nat} {L : ia_L} {st : List Value} {h : ia_H} {a : Nat} (hP : cb_P y k = some (.inl (ia_getR ci f))) : dn y k L (.ref a :: st) h = (ia_gR h ci a f).bind fun x => dn y (k + 1) L (.ref x :: st) h := dq_bind (g := fun x => (k + 1, L, .ref x :: st, h)) hP rfl
theorem dq_putI {y k ci f : Nat} {L : ia_L} {st : List Value} {h : ia_H} {a : Nat} {x : Int32} (hP : cb_P y k = some (.inl (ia_putI ci f))) : dn y k L (.int x :: .ref a :: st) h = (ia_pF h ci a f (.int x)).bind fun h => dn y (k + 1) L st h := dq_bind (g := fun h => (k + 1, L, st, h)) hP rfl
theorem dq_putR {y k ci f : Nat} {L : ia_L} {st : List Value} {h : ia_H} {a x : Nat} (hP : cb_P y k = some (.inl (ia_putR ci f))) : dn y k L (.ref x :: .ref a :: st) h = (ia_pF h ci a f (.ref x)).bind fun h => dn y (k + 1) L st h := dq_bind (g := fun h => (k + 1, L, st, h)) hP rfl
theorem dq_putZ {y k ci f : Nat} {L : ia_L} {st : List Value} {h : ia_H} {a : Nat} {x : Int32} (hP : cb_P y k = some (.inl (ia_putZ ci f))) : dn y k L (.int x :: .ref a :: st) h = if x = 0 ∨ x = 1 then (ia_pF h ci a f (.int x)).bind fun h => dn y (k + 1) L st h else none := by
  rw [dn, ia_den_go cb_P cb_M hP]
  simp only [ia_putZ]
  split
  · cases ia_pF h ci a f (.int x) <;> rfl
  · rfl
theorem dq_putZ0 {y k ci f : Nat} {L : ia_L} {st : List Value} {h : ia_H} {a : Nat} (hP : cb_P y k = some (.inl (ia_putZ ci f))) : dn y k L (.int 0 :: .ref a :: st) h = (ia_pF h ci a f (.int 0)).bind fun h => dn y (k + 1) L st h := (dq_putZ hP).trans (if_pos (Or.inl rfl))
theorem dq_putZ1 {y k ci f : Nat} {L : ia_L} {st : List Value} {h : ia_H} {a : Nat} (hP : cb_P y k = some (.inl (ia_putZ ci f))) : dn y k L (.int 1 :: .ref a :: st) h = (ia_pF h ci a f (.int 1)).bind fun h => dn y (k + 1) L st h := (dq_putZ hP).trans (if_pos (Or.inr rfl))
theorem dq_iald {y k : Nat} {L : ia_L} {st : List Value} {h : ia_H} {a : Nat} {i : Int32} (hP : cb_P y k = some (.inl ia_iald)) : dn y k L (.int i :: .ref a :: st) h = (ia_ld h 0 a i).bind fun x => dn y (k + 1) L (.int x :: st) h := dq_bind (g := fun x => (k + 1, L, .int x :: st, h)) hP rfl
theorem dq_sld {y k : Nat} {L : ia_L} {st : List Value} {h : ia_H} {a : UInt32} {i : Int32} (hP : cb_P y k = some (.inl ia_iald)) : dn y k L (.int i :: .float a :: st) h = if i < 0 ∨ h.2.2.1.1 ≤ i.toNatClampNeg then none else dn y (k + 1) L (.int (h.2.2.1.2 i.toNatClampNeg) :: st) h := by
  rw [dn, ia_den_go cb_P cb_M hP]
  simp only [ia_iald]
  split <;> rfl
theorem dq_ald {y k t : Nat} {L : ia_L} {st : List Value} {h : ia_H} {a : Nat} {i : Int32} (hP : cb_P y k = some (.inl (ia_ald t))) : dn y k L (.int i :: .ref a :: st) h = (ia_ld h t a i).bind fun x => dn y (k + 1) L (.int x :: st) h := dq_bind (g := fun x => (k + 1, L, .int x :: st, h)) hP rfl
theorem dq_lald {y k : Nat} {L : ia_L} {st : List Value} {h : ia_H} {a : Nat} {i : Int32} (hP : cb_P y k = some (.inl ia_lald)) : dn y k L (.int i :: .ref a :: st) h = (ia_ldL h a i).bind fun x => dn y (k + 1) L (.long x :: st) h := dq_bind (g := fun x => (k + 1, L, .long x :: st, h)) hP rfl
theorem dq_rald {y k : Nat} {L : ia_L} {st : List Value} {h : ia_H} {a : Nat} {i : Int32} (hP : cb_P y k = some (.inl ia_rald)) : dn y k L (.int i :: .ref a :: st) h = (ia_ldR h a i).bind fun o => o.elim (dn y (k + 1) L (.null :: st) h) fun x => dn y (k + 1) L (.ref x :: st) h := by
  refine (dq_bind (g := fun x => (k + 1, L, va_rf x :: st, h)) hP (o := ia_ldR h a i) rfl).trans (bn_c fun o => ?_)
  cases o <;> rfl
theorem dq_iast {y k : Nat} {L : ia_L} {st : List Value} {h : ia_H} {a : Nat} {i x : Int32} (hP : cb_P y k = some (.inl ia_iast)) : dn y k L (.int x :: .int i :: .ref a :: st) h = (ia_st h 0 a i x).bind fun h => dn y (k + 1) L st h := dq_bind (g := fun h => (k + 1, L, st, h)) hP rfl
theorem dq_bast {y k : Nat} {L : ia_L} {st : List Value} {h : ia_H} {a : Nat} {i x : Int32} (hP : cb_P y k = some (.inl ia_bast)) : dn y k L (.int x :: .int i :: .ref a :: st) h = (ia_st h 3 a i (x.toInt8.toInt32)).bind fun h => dn y (k + 1) L st h := dq_bind (g := fun h => (k + 1, L, st, h)) hP rfl
theorem dq_cast {y k : Nat} {L : ia_L} {st : List Value} {h : ia_H} {a : Nat} {i x : Int32} (hP : cb_P y k = some (.inl ia_cast)) : dn y k L (.int x :: .int i :: .ref a :: st) h = (ia_st h 2 a i (x.toUInt32.toUInt16.toUInt32.toInt32)).bind fun h => dn y (k + 1) L st h := dq_bind (g := fun h => (k + 1, L, st, h)) hP rfl
theorem dq_last {y k : Nat} {L : ia_L} {st : List Value} {h : ia_H} {a : Nat} {i : Int32} {x : Int64} (hP : cb_P y k = some (.inl ia_last)) : dn y k L (.long x :: .int i :: .ref a :: st) h = (ia_stL h a i x).bind fun h => dn y (k + 1) L st h := dq_bind (g := fun h => (k + 1, L, st, h)) hP rfl
theorem dq_rast {y k : Nat} {L : ia_L} {st : List Value} {h : ia_H} {a v : Nat} {i : Int32} (hP : cb_P y k = some (.inl ia_rast)) : dn y k L (.ref v :: .int i :: .ref a :: st) h = (ia_stR h a i v).bind fun h => dn y (k + 1) L st h := dq_bind (g := fun h => (k + 1, L, st, h)) hP rfl
theorem dq_alen {y k : Nat} {L : ia_L} {st : List Value} {h : ia_H} {a : Nat} (hP : cb_P y k = some (.inl ia_alen)) : dn y k L (.ref a :: st) h = (ia_len h a).bind fun x => dn y (k + 1) L (.int x :: st) h := dq_bind (g := fun x => (k + 1, L, .int x :: st, h)) hP rfl
theorem dq_copy {y k : Nat} {L : ia_L} {st : List Value} {h : ia_H} {a b : Nat} {n dp sp : Int32} (hP : cb_P y k = some (.inl ia_copy)) (hw : ia_w st ≤ 8) : dn y k L (.int n :: .int dp :: .ref b :: .int sp :: .ref a :: st) h = (ia_cp h a b sp dp n).bind fun h => dn y (k + 1) L st h := dq_bind (g := fun h => (k + 1, L, st, h)) hP (by simp only [ia_copy, if_pos hw])
theorem dq_newa {y k t n : Nat} {L : ia_L} {st : List Value} {h : ia_H} {x : Int32} (hP : cb_P y k = some (.inl (ia_newa t))) (hn : ¬ x < 0 ∧ n ≤ 10000 ∧ x.toNatClampNeg = n) : dn y k L (.int x :: st) h = dn y (k + 1) L (.ref h.1 :: st) (ia_new h n (.inl (t, n, ia_zero t))) := by
  obtain ⟨h1, h2, h3⟩ := hn
  subst h3
  exact dq hP (by simp only [ia_newa]; rw [if_pos ⟨h1, h2⟩])
theorem dq_sw {y k d : Nat} {ts : List Nat} {L : ia_L} {st : List Value} {h : ia_H} {x : Int32} (hP : cb_P y k = some (.inl (ia_sw ts d))) : dn y k L (.int x :: st) h = if x.toInt < 0 ∨ (ts.length : Int) ≤ x.toInt then dn y d L st h else dn y (ts.getD x.toInt.toNat d) L st h := by
  refine (dq hP rfl).trans ?_
  split <;> rfl
/-- what the law's call of row comes to -/
def lrowd (h : ia_H) (x : Nat) (i : Int32) (out : Nat) : Option (Int32 × ia_H) := (ia_gR h 0 x 3).bind fun ro => (ia_gI h 3 ro 1).bind fun n =>
  if i < 0 ∨ n ≤ i then some (1, ia_new h 6 (.inr (9, []))) else (ia_gR h 3 ro 0).bind fun a => (ia_ld h 0 a i).bind fun v => (ia_stL h out 0 v.toInt64).map fun h => (0, h)
theorem dq_lrow {y k : Nat} {L : ia_L} {st : List Value} {h : ia_H} {x out : Nat} {i : Int32} (hP : cb_P y k = some (.inl ia_lrow)) (hw : ia_w st ≤ 8) : dn y k L (.ref out :: .int i :: .ref x :: st) h = (lrowd h x i out).bind fun q => dn y (k + 1) L (.int q.1 :: st) q.2 := by
  refine dq_bind (o := lrowd h x i out) (g := fun q => (k + 1, L, .int q.1 :: st, q.2)) hP ?_
  simp only [ia_lrow, if_pos hw, lrowd]
  cases ia_gR h 0 x 3 with
  | none => rfl
  | some ro =>
    dsimp only [Option.bind_some]
    cases ia_gI h 3 ro 1 with
    | none => rfl
    | some n =>
      dsimp only [Option.bind_some]
      split
      · rfl
      · cases ia_gR h 3 ro 0 with
        | none => rfl
        | some a =>
          dsimp only [Option.bind_some]
          cases ia_ld h 0 a i with
          | none => rfl
          | some v =>
            dsimp only [Option.bind_some]
            cases ia_stL h out 0 v.toInt64 <;> rfl

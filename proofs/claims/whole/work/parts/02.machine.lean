/-! AN ABSTRACT MACHINE: locals by place, a stack, a heap of numbered cells; rows of a method are acts, calls, returns.
`ia_run` goes by fuel, `ia_den` is what it comes to; the equations of `ia_den` are what later parts compute with. -/
abbrev ia_E : Type := (Nat × vp_A) ⊕ (Nat × List Value)
abbrev ia_L : Type := List (Option Value)
/-- next cell, slots made so far, the script, the cells -/
abbrev ia_H : Type := Nat × Nat × (Nat × (Nat → Int32)) × (Nat → ia_E)
abbrev ia_S : Type := Nat × ia_L × List Value × ia_H
abbrev ia_F : Type := Nat → ia_L → List Value → ia_H → Option ia_S
abbrev ia_R : Type := ia_F ⊕ ((Nat × Nat × Nat) ⊕ Nat)
abbrev ia_O : Type := Option (Option Value × ia_H)
def ia_dead : ia_E := .inr (99, [])
def ia_c (h : ia_H) (a : Nat) : ia_E := h.2.2.2 a
def ia_up (h : ia_H) (a : Nat) (e : ia_E) : ia_H := (h.1, h.2.1, h.2.2.1, fun k => if k = a then e else h.2.2.2 k)
def ia_new (h : ia_H) (n : Nat) (e : ia_E) : ia_H := (h.1 + 1, h.2.1 + n, h.2.2.1, fun k => if k = h.1 then e else h.2.2.2 k)
/-- reading and writing cells -/
def ia_gI (h : ia_H) (ci a k : Nat) : Option Int32 := match ia_c h a with
  | .inr (c, fs) => if c = ci then (match fs[k]? with | some (.int x) => some x | _ => none) else none
  | .inl _ => none
def ia_gR (h : ia_H) (ci a k : Nat) : Option Nat := match ia_c h a with
  | .inr (c, fs) => if c = ci then (match fs[k]? with | some (.ref x) => some x | _ => none) else none
  | .inl _ => none
def ia_pF (h : ia_H) (ci a k : Nat) (v : Value) : Option ia_H := match ia_c h a with
  | .inr (c, fs) => if c = ci ∧ k < fs.length then some (ia_up h a (.inr (c, fs.set k v))) else none
  | .inl _ => none
/-- arrays of ints, chars, bytes: t is 0, 2, 3 -/
def ia_ld (h : ia_H) (t a : Nat) (i : Int32) : Option Int32 := match ia_c h a with
  | .inl (t', n, .inl f) => if t' = t ∧ ¬ (i < 0 ∨ n ≤ i.toNatClampNeg) then some (f i.toNatClampNeg) else none
  | _ => none
def ia_st (h : ia_H) (t a : Nat) (i x : Int32) : Option ia_H := match ia_c h a with
  | .inl (t', n, .inl f) => if t' = t ∧ ¬ (i < 0 ∨ n ≤ i.toNatClampNeg) then some (ia_up h a (.inl (t', n, .inl (upd f i.toNatClampNeg x)))) else none
  | _ => none
def ia_ldL (h : ia_H) (a : Nat) (i : Int32) : Option Int64 := match ia_c h a with
  | .inl (t', n, .inr (.inl f)) => if t' = 1 ∧ ¬ (i < 0 ∨ n ≤ i.toNatClampNeg) then some (f i.toNatClampNeg) else none
  | _ => none
def ia_stL (h : ia_H) (a : Nat) (i : Int32) (x : Int64) : Option ia_H := match ia_c h a with
  | .inl (t', n, .inr (.inl f)) => if t' = 1 ∧ ¬ (i < 0 ∨ n ≤ i.toNatClampNeg) then some (ia_up h a (.inl (t', n, .inr (.inl (vp_updL f i.toNatClampNeg x))))) else none
  | _ => none
def ia_ldR (h : ia_H) (a : Nat) (i : Int32) : Option (Option Nat) := match ia_c h a with
  | .inl (t', n, .inr (.inr (.inr (.inr f)))) => if t' = 4 ∧ ¬ (i < 0 ∨ n ≤ i.toNatClampNeg) then some (f i.toNatClampNeg) else none
  | _ => none
/-- into the row of states: an object of kind 5 alone -/
def ia_stR (h : ia_H) (a : Nat) (i : Int32) (v : Nat) : Option ia_H := match ia_c h a, ia_c h v with
  | .inl (t', n, .inr (.inr (.inr (.inr f)))), .inr (c, _ :: _) => if t' = 4 ∧ c = 5 ∧ ¬ (i < 0 ∨ n ≤ i.toNatClampNeg) then some (ia_up h a (.inl (t', n, .inr (.inr (.inr (.inr (va_up f i.toNatClampNeg (some v)))))))) else none
  | _, _ => none
def ia_len (h : ia_H) (a : Nat) : Option Int32 := match ia_c h a with
  | .inl (t', n, _) => if t' < 5 then some (Int32.ofNat n) else none
  | .inr _ => none
/-- System.arraycopy of ints -/
def ia_cp (h : ia_H) (a b : Nat) (sp dp n : Int32) : Option ia_H := match ia_c h a, ia_c h b with
  | .inl (t0, n0, .inl f), .inl (t1, n1, .inl g) => if t0 = 0 ∧ t1 = 0 ∧ ¬ sp < 0 ∧ ¬ dp < 0 ∧ ¬ n < 0 ∧ sp.toNatClampNeg + n.toNatClampNeg ≤ n0 ∧ dp.toNatClampNeg + n.toNatClampNeg ≤ n1 then some (ia_up h b (.inl (t1, n1, .inl (va_cpy f g sp.toNatClampNeg dp.toNatClampNeg n.toNatClampNeg)))) else none
  | _, _ => none
/-! acts -/
/-- the words that arguments take -/
def ia_w : List Value → Nat
  | [] => 0
  | v :: vs => v.category + ia_w vs
def ia_const (v : Value) : ia_F := fun k L st h => some (k + 1, L, v :: st, h)
def ia_iload (i : Nat) : ia_F := fun k L st h => match L[i]? with
  | some (some (.int x)) => some (k + 1, L, .int x :: st, h)
  | _ => none
def ia_lload (i : Nat) : ia_F := fun k L st h => match L[i]?, L[i + 1]? with
  | some (some (.long x)), some none => some (k + 1, L, .long x :: st, h)
  | _, _ => none
def ia_aload (i : Nat) : ia_F := fun k L st h => match L[i]? with
  | some (some (.ref x)) => some (k + 1, L, .ref x :: st, h)
  | some (some .null) => some (k + 1, L, .null :: st, h)
  | some (some (.float x)) => some (k + 1, L, .float x :: st, h)
  | _ => none
def ia_istore (i : Nat) : ia_F := fun k L st h => match st with
  | .int x :: st => if i < L.length then some (k + 1, L.set i (some (.int x)), st, h) else none
  | _ => none
def ia_lstore (i : Nat) : ia_F := fun k L st h => match st with
  | .long x :: st => if i + 1 < L.length then some (k + 1, (L.set i (some (.long x))).set (i + 1) none, st, h) else none
  | _ => none
def ia_astore (i : Nat) : ia_F := fun k L st h => match st with
  | .ref x :: st => if i < L.length then some (k + 1, L.set i (some (.ref x)), st, h) else none
  | .null :: st => if i < L.length then some (k + 1, L.set i (some .null), st, h) else none
  | _ => none
def ia_iinc (i : Nat) (n : Int) : ia_F := fun k L st h => match L[i]? with
  | some (some (.int x)) => some (k + 1, L.set i (some (.int (x + Int32.ofInt n))), st, h)
  | _ => none
def ia_i1 (f : Int32 → Int32) : ia_F := fun k L st h => match st with
  | .int x :: st => some (k + 1, L, .int (f x) :: st, h)
  | _ => none
def ia_i2 (f : Int32 → Int32 → Int32) : ia_F := fun k L st h => match st with
  | .int y :: .int x :: st => some (k + 1, L, .int (f x y) :: st, h)
  | _ => none
def ia_i2z (f : Int32 → Int32 → Int32) : ia_F := fun k L st h => match st with
  | .int y :: .int x :: st => if y = 0 then none else some (k + 1, L, .int (f x y) :: st, h)
  | _ => none
def ia_l2 (f : Int64 → Int64 → Int64) : ia_F := fun k L st h => match st with
  | .long y :: .long x :: st => some (k + 1, L, .long (f x y) :: st, h)
  | _ => none
def ia_lsh (f : Int64 → Int32 → Int64) : ia_F := fun k L st h => match st with
  | .int y :: .long x :: st => some (k + 1, L, .long (f x y) :: st, h)
  | _ => none
def ia_lcmp : ia_F := fun k L st h => match st with
  | .long y :: .long x :: st => some (k + 1, L, .int (lg_cmp x y) :: st, h)
  | _ => none
def ia_i2l : ia_F := fun k L st h => match st with
  | .int x :: st => some (k + 1, L, .long x.toInt64 :: st, h)
  | _ => none
def ia_l2i : ia_F := fun k L st h => match st with
  | .long x :: st => some (k + 1, L, .int x.toInt32 :: st, h)
  | _ => none
def ia_dup : ia_F := fun k L st h => match st with
  | v :: st => if v.category = 1 then some (k + 1, L, v :: v :: st, h) else none
  | _ => none
def ia_pop : ia_F := fun k L st h => match st with
  | v :: st => if v.category = 1 then some (k + 1, L, st, h) else none
  | _ => none
def ia_dupx1 : ia_F := fun k L st h => match st with
  | v :: w :: st => if v.category = 1 ∧ w.category = 1 then some (k + 1, L, v :: w :: v :: st, h) else none
  | _ => none
def ia_dup2 : ia_F := fun k L st h => match st with
  | v :: w :: st => if v.category = 1 ∧ w.category = 1 then some (k + 1, L, v :: w :: v :: w :: st, h) else none
  | _ => none
def ia_goto (t : Nat) : ia_F := fun _ L st h => some (t, L, st, h)
def ia_ifeq (t : Nat) : ia_F := fun k L st h => match st with
  | .int x :: st => some (if x = 0 then t else k + 1, L, st, h)
  | _ => none
def ia_ifne (t : Nat) : ia_F := fun k L st h => match st with
  | .int x :: st => some (if x = 0 then k + 1 else t, L, st, h)
  | _ => none
def ia_iflt (t : Nat) : ia_F := fun k L st h => match st with
  | .int x :: st => some (if x < 0 then t else k + 1, L, st, h)
  | _ => none
def ia_ifge (t : Nat) : ia_F := fun k L st h => match st with
  | .int x :: st => some (if 0 ≤ x then t else k + 1, L, st, h)
  | _ => none
def ia_ifgt (t : Nat) : ia_F := fun k L st h => match st with
  | .int x :: st => some (if 0 < x then t else k + 1, L, st, h)
  | _ => none
def ia_ifle (t : Nat) : ia_F := fun k L st h => match st with
  | .int x :: st => some (if x ≤ 0 then t else k + 1, L, st, h)
  | _ => none
def ia_ieq (t : Nat) : ia_F := fun k L st h => match st with
  | .int y :: .int x :: st => some (if x = y then t else k + 1, L, st, h)
  | _ => none
def ia_ine (t : Nat) : ia_F := fun k L st h => match st with
  | .int y :: .int x :: st => some (if x = y then k + 1 else t, L, st, h)
  | _ => none
def ia_ilt (t : Nat) : ia_F := fun k L st h => match st with
  | .int y :: .int x :: st => some (if x < y then t else k + 1, L, st, h)
  | _ => none
def ia_ige (t : Nat) : ia_F := fun k L st h => match st with
  | .int y :: .int x :: st => some (if y ≤ x then t else k + 1, L, st, h)
  | _ => none
def ia_igt (t : Nat) : ia_F := fun k L st h => match st with
  | .int y :: .int x :: st => some (if y < x then t else k + 1, L, st, h)
  | _ => none
def ia_ile (t : Nat) : ia_F := fun k L st h => match st with
  | .int y :: .int x :: st => some (if x ≤ y then t else k + 1, L, st, h)
  | _ => none
def ia_nonnull (t : Nat) : ia_F := fun k L st h => match st with
  | .ref _ :: st => some (t, L, st, h)
  | .null :: st => some (k + 1, L, st, h)
  | _ => none
/-- a table from 0 on -/
def ia_sw (ts : List Nat) (d : Nat) : ia_F := fun _ L st h => match st with
  | .int x :: st => some (if x.toInt < 0 ∨ (ts.length : Int) ≤ x.toInt then d else ts.getD x.toInt.toNat d, L, st, h)
  | _ => none
def ia_getI (ci f : Nat) : ia_F := fun k L st h => match st with
  | .ref a :: st => (ia_gI h ci a f).map fun x => (k + 1, L, .int x :: st, h)
  | _ => none
def ia_getR (ci f : Nat) : ia_F := fun k L st h => match st with
  | .ref a :: st => (ia_gR h ci a f).map fun x => (k + 1, L, .ref x :: st, h)
  | _ => none
def ia_putI (ci f : Nat) : ia_F := fun k L st h => match st with
  | .int x :: .ref a :: st => (ia_pF h ci a f (.int x)).map fun h => (k + 1, L, st, h)
  | _ => none
def ia_putZ (ci f : Nat) : ia_F := fun k L st h => match st with
  | .int x :: .ref a :: st => if x = 0 ∨ x = 1 then (ia_pF h ci a f (.int x)).map fun h => (k + 1, L, st, h) else none
  | _ => none
def ia_putR (ci f : Nat) : ia_F := fun k L st h => match st with
  | .ref x :: .ref a :: st => (ia_pF h ci a f (.ref x)).map fun h => (k + 1, L, st, h)
  | _ => none
/-- an int array, or the script -/
def ia_iald : ia_F := fun k L st h => match st with
  | .int i :: .ref a :: st => (ia_ld h 0 a i).map fun x => (k + 1, L, .int x :: st, h)
  | .int i :: .float _ :: st => if i < 0 ∨ h.2.2.1.1 ≤ i.toNatClampNeg then none else some (k + 1, L, .int (h.2.2.1.2 i.toNatClampNeg) :: st, h)
  | _ => none
def ia_ald (t : Nat) : ia_F := fun k L st h => match st with
  | .int i :: .ref a :: st => (ia_ld h t a i).map fun x => (k + 1, L, .int x :: st, h)
  | _ => none
def ia_lald : ia_F := fun k L st h => match st with
  | .int i :: .ref a :: st => (ia_ldL h a i).map fun x => (k + 1, L, .long x :: st, h)
  | _ => none
def ia_rald : ia_F := fun k L st h => match st with
  | .int i :: .ref a :: st => (ia_ldR h a i).map fun x => (k + 1, L, va_rf x :: st, h)
  | _ => none
def ia_iast : ia_F := fun k L st h => match st with
  | .int x :: .int i :: .ref a :: st => (ia_st h 0 a i x).map fun h => (k + 1, L, st, h)
  | _ => none
def ia_bast : ia_F := fun k L st h => match st with
  | .int x :: .int i :: .ref a :: st => (ia_st h 3 a i (x.toInt8.toInt32)).map fun h => (k + 1, L, st, h)
  | _ => none
def ia_cast : ia_F := fun k L st h => match st with
  | .int x :: .int i :: .ref a :: st => (ia_st h 2 a i (x.toUInt32.toUInt16.toUInt32.toInt32)).map fun h => (k + 1, L, st, h)
  | _ => none
def ia_last : ia_F := fun k L st h => match st with
  | .long x :: .int i :: .ref a :: st => (ia_stL h a i x).map fun h => (k + 1, L, st, h)
  | _ => none
def ia_rast : ia_F := fun k L st h => match st with
  | .ref v :: .int i :: .ref a :: st => (ia_stR h a i v).map fun h => (k + 1, L, st, h)
  | _ => none
def ia_alen : ia_F := fun k L st h => match st with
  | .ref a :: st => (ia_len h a).map fun x => (k + 1, L, .int x :: st, h)
  | .float _ :: st => some (k + 1, L, .int (Int32.ofNat h.2.2.1.1) :: st, h)
  | _ => none
/-- arrays of zeros: t is 0, 1, 2, 3, 4 (ints, longs, chars, bytes, states) -/
def ia_zero (t : Nat) : (Nat → Int32) ⊕ (Nat → Int64) ⊕ (Nat → UInt32) ⊕ (Nat → UInt64) ⊕ (Nat → Option Nat) := if t = 1 then .inr (.inl fun _ => 0) else if t = 4 then .inr (.inr (.inr (.inr fun _ => none))) else .inl fun _ => 0
def ia_newa (t : Nat) : ia_F := fun k L st h => match st with
  | .int n :: st => if ¬ n < 0 ∧ n.toNatClampNeg ≤ 10000 then some (k + 1, L, .ref h.1 :: st, ia_new h n.toNatClampNeg (.inl (t, n.toNatClampNeg, ia_zero t))) else none
  | _ => none
def ia_newo (ci n : Nat) (fs : List Value) : ia_F := fun k L st h => some (k + 1, L, .ref h.1 :: st, ia_new h n (.inr (ci, fs)))
def ia_copy : ia_F := fun k L st h => match st with
  | .int n :: .int dp :: .ref b :: .int sp :: .ref a :: st => if ia_w st ≤ 8 then (ia_cp h a b sp dp n).map fun h => (k + 1, L, st, h) else none
  | _ => none
def ia_min : ia_F := fun k L st h => match st with
  | .int y :: .int x :: st => if ia_w st ≤ 8 then some (k + 1, L, .int (if y < x then y else x) :: st, h) else none
  | _ => none
def ia_oinit : ia_F := fun k L st h => match st with
  | .ref _ :: st => if ia_w st ≤ 8 then some (k + 1, L, st, h) else none
  | _ => none
/-- what a return of kind r answers: 0 nothing, 1 an int, 2 a boolean, 3 a long, 4 a reference -/
def ia_ret (r : Nat) (st : List Value) : Option (Option Value) := match r, st with
  | 0, [] => some none
  | 1, [.int x] => some (some (.int x))
  | 2, [.int x] => if x = 0 ∨ x = 1 then some (some (.int x)) else none
  | 3, [.long x] => some (some (.long x))
  | 4, [.ref x] => some (some (.ref x))
  | _, _ => none
/-- locals at the entry -/
def ia_ent : Nat → List Value → ia_L
  | n, [] => List.replicate n none
  | n, v :: vs => if v.category = 2 then some v :: none :: ia_ent (n - 2) vs else some v :: ia_ent (n - 1) vs
/-- who is asked: 100 nobody, 101 some object, else an object of that kind -/
def ia_ok (h : ia_H) (rc : Nat) (as : List Value) : Bool := if rc = 100 then true else match as with
  | .ref b :: _ => if rc = 101 then true else (match ia_c h b with
    | .inr (c, _ :: _) => c == rc
    | _ => false)
  | _ => false
section IAD
variable (P : Nat → Nat → Option ia_R) (M : Nat → Nat)
/-- P: a method's rows; M: its locals -/
def ia_run : Nat → Nat → Nat → ia_L → List Value → ia_H → ia_O
  | 0, _, _, _, _, _ => none
  | n + 1, y, k, L, st, h => match P y k with
    | none => none
    | some (.inl f) => (f k L st h).bind fun s => ia_run n y s.1 s.2.1 s.2.2.1 s.2.2.2
    | some (.inr (.inl (z, na, rc))) => if st.length < na ∨ M z < ia_w (st.take na) ∨ 8 < ia_w (st.drop na) ∨ ia_ok h rc (st.take na).reverse = false then none else
        (ia_run n z 0 (ia_ent (M z) (st.take na).reverse) [] h).bind fun s => ia_run n y (k + 1) L (s.1.toList ++ st.drop na) s.2
    | some (.inr (.inr r)) => (ia_ret r st).map fun v => (v, h)
theorem ia_run_succ : ∀ (n y k : Nat) (L : ia_L) (st : List Value) (h : ia_H) (o : Option Value × ia_H), ia_run P M n y k L st h = some o → ia_run P M (n + 1) y k L st h = some o := by
  intro n
  induction n with
  | zero => intro y k L st h o ho; cases ho
  | succ n ih =>
    intro y k L st h o ho
    rw [ia_run] at ho ⊢
    split at ho
    · cases ho
    · rename_i f hf
      rw [Option.bind_eq_some_iff] at ho ⊢
      obtain ⟨s, h1, h2⟩ := ho
      exact ⟨s, h1, ih _ _ _ _ _ _ h2⟩
    · rename_i z na rc hf
      split at ho
      · cases ho
      · rename_i hlt
        rw [if_neg hlt]
        rw [Option.bind_eq_some_iff] at ho ⊢
        obtain ⟨s, h1, h2⟩ := ho
        exact ⟨s, ih _ _ _ _ _ _ h1, ih _ _ _ _ _ _ h2⟩
    · exact ho
theorem ia_run_le {n m y k : Nat} {L : ia_L} {st : List Value} {h : ia_H} {o : Option Value × ia_H} (hnm : n ≤ m) (ho : ia_run P M n y k L st h = some o) : ia_run P M m y k L st h = some o := by
  induction hnm with
  | refl => exact ho
  | step _ ih => exact ia_run_succ P M _ _ _ _ _ _ _ ih
/-- what a run comes to -/
noncomputable def ia_den (y k : Nat) (L : ia_L) (st : List Value) (h : ia_H) : ia_O :=
  @dite _ (∃ (o : Option Value × ia_H) (n : Nat), ia_run P M n y k L st h = some o) (Classical.propDecidable _) (fun w => some (Classical.choose w)) (fun _ => none)
theorem ia_den_iff {y k : Nat} {L : ia_L} {st : List Value} {h : ia_H} {o : Option Value × ia_H} : ia_den P M y k L st h = some o ↔ ∃ n, ia_run P M n y k L st h = some o := by
  unfold ia_den
  by_cases w : ∃ (o : Option Value × ia_H) (n : Nat), ia_run P M n y k L st h = some o
  · rw [dif_pos w]
    obtain ⟨n1, h1⟩ := Classical.choose_spec w
    constructor
    · intro e
      cases e
      exact ⟨n1, h1⟩
    · rintro ⟨n, hn⟩
      have a := ia_run_le P M (Nat.le_max_left n n1) hn
      have b := ia_run_le P M (Nat.le_max_right n n1) h1
      rw [a] at b
      rw [Option.some.inj b]
  · rw [dif_neg w]
    constructor
    · intro e; cases e
    · rintro ⟨n, hn⟩; exact absurd ⟨o, n, hn⟩ w
theorem ia_den_ext {y k y' k' : Nat} {L L' : ia_L} {st st' : List Value} {h h' : ia_H} (e : ∀ o, (∃ n, ia_run P M n y k L st h = some o) ↔ ia_den P M y' k' L' st' h' = some o) : ia_den P M y k L st h = ia_den P M y' k' L' st' h' := by
  apply Option.ext
  intro o
  rw [ia_den_iff]
  exact e o
theorem ia_den_go {y k : Nat} {f : ia_F} (hP : P y k = some (.inl f)) (L : ia_L) (st : List Value) (h : ia_H) : ia_den P M y k L st h = (f k L st h).bind fun s => ia_den P M y s.1 s.2.1 s.2.2.1 s.2.2.2 := by
  apply Option.ext
  intro o
  rw [ia_den_iff, Option.bind_eq_some_iff]
  constructor
  · rintro ⟨n, hn⟩
    cases n with
    | zero => cases hn
    | succ n =>
      rw [ia_run, hP] at hn
      obtain ⟨s, h1, h2⟩ := Option.bind_eq_some_iff.mp hn
      exact ⟨s, h1, (ia_den_iff P M).mpr ⟨n, h2⟩⟩
  · rintro ⟨s, h1, h2⟩
    obtain ⟨n, hn⟩ := (ia_den_iff P M).mp h2
    refine ⟨n + 1, ?_⟩
    rw [ia_run, hP]
    exact Option.bind_eq_some_iff.mpr ⟨s, h1, hn⟩
theorem ia_den_to {y k : Nat} {f : ia_F} (hP : P y k = some (.inl f)) {L : ia_L} {st : List Value} {h : ia_H} {k' : Nat} {L' : ia_L} {st' : List Value} {h' : ia_H} (hf : f k L st h = some (k', L', st', h')) : ia_den P M y k L st h = ia_den P M y k' L' st' h' := by
  rw [ia_den_go P M hP, hf]
  rfl
theorem ia_den_ret {y k r : Nat} (hP : P y k = some (.inr (.inr r))) (L : ia_L) (st : List Value) (h : ia_H) : ia_den P M y k L st h = (ia_ret r st).map fun v => (v, h) := by
  apply Option.ext
  intro o
  rw [ia_den_iff]
  constructor
  · rintro ⟨n, hn⟩
    cases n with
    | zero => cases hn
    | succ n =>
      rw [ia_run, hP] at hn
      exact hn
  · intro e
    refine ⟨1, ?_⟩
    rw [ia_run, hP]
    exact e
/-- a whole method, from its arguments -/
noncomputable def ia_call (y : Nat) (as : List Value) (h : ia_H) : ia_O := ia_den P M y 0 (ia_ent (M y) as) [] h
theorem ia_den_call {y k z na rc : Nat} (hP : P y k = some (.inr (.inl (z, na, rc)))) (L : ia_L) (st : List Value) (h : ia_H) (hl : na ≤ st.length) (hw : ia_w (st.take na) ≤ M z) (hd : ia_w (st.drop na) ≤ 8) : ia_den P M y k L st h = if ia_ok h rc (st.take na).reverse = true then (ia_call P M z (st.take na).reverse h).bind fun s => ia_den P M y (k + 1) L (s.1.toList ++ st.drop na) s.2 else none := by
  by_cases hok : ia_ok h rc (st.take na).reverse = true
  · have hnl : ¬ (st.length < na ∨ M z < ia_w (st.take na) ∨ 8 < ia_w (st.drop na) ∨ ia_ok h rc (st.take na).reverse = false) := by
      rintro (q | q | q | q)
      · omega
      · omega
      · omega
      · rw [hok] at q; cases q
    rw [if_pos hok]
    apply Option.ext
    intro o
    rw [ia_den_iff, Option.bind_eq_some_iff]
    unfold ia_call
    constructor
    · rintro ⟨n, hn⟩
      cases n with
      | zero => cases hn
      | succ n =>
        rw [ia_run, hP] at hn
        dsimp only at hn
        rw [if_neg hnl] at hn
        obtain ⟨s, h1, h2⟩ := Option.bind_eq_some_iff.mp hn
        exact ⟨s, (ia_den_iff P M).mpr ⟨n, h1⟩, (ia_den_iff P M).mpr ⟨n, h2⟩⟩
    · rintro ⟨s, h1, h2⟩
      obtain ⟨n2, hn2⟩ := (ia_den_iff P M).mp h2
      obtain ⟨n1, hn1⟩ := (ia_den_iff P M).mp h1
      refine ⟨max n1 n2 + 1, ?_⟩
      rw [ia_run, hP]
      dsimp only
      rw [if_neg hnl]
      exact Option.bind_eq_some_iff.mpr ⟨s, ia_run_le P M (Nat.le_max_left _ _) hn1, ia_run_le P M (Nat.le_max_right _ _) hn2⟩
  · rw [if_neg hok]
    apply Option.ext
    intro o
    rw [ia_den_iff]
    constructor
    · rintro ⟨n, hn⟩
      cases n with
      | zero => cases hn
      | succ n =>
        rw [ia_run, hP] at hn
        dsimp only at hn
        rw [if_pos (Or.inr (Or.inr (Or.inr (Bool.eq_false_iff.mpr hok))))] at hn
        cases hn
    · intro e; cases e
end IAD

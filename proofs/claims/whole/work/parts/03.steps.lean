/-! THE ACTS ARE THE MACHINE'S OWN STEPS. Cell k of the abstract heap is cell z + k of the machine's; the script is the cell b. -/
def is_tr (z b : Nat) : Value → Value
  | .ref k => .ref (z + k)
  | .float _ => .ref b
  | v => v
theorem is_cat (z b : Nat) (v : Value) : (is_tr z b v).category = v.category := by cases v <;> rfl
def is_trA (z : Nat) (a : vp_A) : vp_A := (a.1, match a.2 with
  | .inr (.inr (.inr (.inr f))) => .inr (.inr (.inr (.inr fun j => (f j).map (z + ·))))
  | x => x)
abbrev is_D : Type := va_G × (Nat → ClassId)
def is_E (D : is_D) (z b : Nat) : ia_E → va_E
  | .inl q => .inl (D.2 q.1, is_trA z q.2)
  | .inr q => .inr (q.1, q.2.map (is_tr z b))
def is_tys (dA : Nat → ClassId) : List (ClassId × FieldType) := [(dA 0, .int), (dA 1, .long), (dA 2, .char), (dA 3, .byte), (dA 4, .object "CardsAndBans$State")]
def is_Rl (D : is_D) (z b : Nat) (sc : Nat × (Nat → Int32)) (h : ia_H) (H : Heap) : Prop :=
  H.size = z + h.1 ∧ (∀ k, k < h.1 → va_at D.1 cb_cl (z + k, is_E D z b (ia_c h k)) H) ∧ (∀ k, h.1 ≤ k → ia_c h k = ia_dead) ∧ h.2.2.1 = sc
def is_LH (z b nL : Nat) (ls : Array Slot) (L : ia_L) : Prop :=
  ls.size = nL ∧ L.length = nL ∧ lv_wf ls ∧ ∀ (i : Nat) (v : Value), L[i]? = some (some v) → (v.category = 2 → L[i + 1]? = some none) → ls[i]? = some (.val (is_tr z b v))
/-- a method: name, bytes, locals, what it returns, frames and locals below it, places of its rows, its rows -/
abbrev is_M : Type := MethodName × ByteArray × Nat × Option FieldType × Nat × Nat × List Nat × List ia_R
abbrev is_cc (t : is_M) : ByteArray := t.2.1
abbrev is_mL (t : is_M) : Nat := t.2.2.1
abbrev is_rt (t : is_M) : Option FieldType := t.2.2.2.1
abbrev is_rF (t : is_M) : Nat := t.2.2.2.2.1
abbrev is_rL (t : is_M) : Nat := t.2.2.2.2.2.1
abbrev is_pc (t : is_M) (k : Nat) : Nat := t.2.2.2.2.2.2.1.getD k 0
abbrev is_row (t : is_M) (k : Nat) : Option ia_R := t.2.2.2.2.2.2.2[k]?
def is_Cx (t : is_M) (p : Program) (l : Launch) (R : Room) (s : State) (m : MethodId) (args : Array Value) (meth : Method) (c : Code) (D : is_D) (z b : Nat) (sc : Nat × (Nat → Int32)) (H0 : Heap) : Prop :=
  p.tables.exec = Jvm.exec ∧ c.code = is_cc t ∧ c.maxLocals = is_mL t ∧ s.vm.findClass t.1.cls = some m.cls ∧ (∀ w ∈ cb_gw, w.before args s = true) ∧ (∀ w ∈ cb_nw, va_Nw w s) ∧ va_AO "CardsAndBans$State" s ∧
  va_K D.1 cb_cl (is_tys D.2) s ∧ meth.name = t.1.name ∧ va_X b sc.1 sc.2 s H0 ∧ b < z ∧ z ≤ H0.size ∧ is_rF t ≤ R.frames ∧ is_rL t ≤ R.locals ∧
  (t.1.cls = "CardsAndBansLaw" → (∀ w ∈ lw_tbl, w.before args s = true) ∧ (Jvm.Cond.and given_1 narrow_1).before args s = true ∧ l.flags = flags0 ∧ z = s.heap.size ∧ H0 = s.heap)
def is_FW (t : is_M) (p : Program) (l : Launch) (e : Env) (R : Room) (s : State) (m : MethodId) (args : Array Value) (below : List Frame) (meth : Method) (c : Code) (D : is_D) (z b : Nat) (sc : Nat × (Nat → Int32)) (H0 : Heap) (nx0 sn0 : Nat) (Q : State → Prop) (k : Nat) (L : ia_L) (st : List Value) (h : ia_H) : Prop :=
  ∀ (H : Heap) (locs : List Loc) (ls : Array Slot), is_Rl D z b sc h H → va_S (fun q => z ≤ q) H0 H locs → is_LH z b (is_mL t) ls L →
    W p l e R s m args below meth c H locs (h.1 - nx0) (h.2.1 - sn0) Q (F0 m (is_pc t k) ls (st.map (is_tr z b)))
def is_Ok (t : is_M) (k : Nat) (f : ia_F) : Prop :=
  ∀ (L : ia_L) (st : List Value) (h : ia_H) (k' : Nat) (L' : ia_L) (st' : List Value) (h' : ia_H), f k L st h = some (k', L', st', h') → h.1 ≤ h'.1 ∧ h.2.1 ≤ h'.2.1 ∧
    ∀ (p : Program) (l : Launch) (e : Env) (R : Room) (s : State) (m : MethodId) (args : Array Value) (below : List Frame) (meth : Method) (c : Code) (D : is_D) (z b : Nat) (sc : Nat × (Nat → Int32)) (H0 : Heap) (nx0 sn0 : Nat) (Q : State → Prop),
      is_Cx t p l R s m args meth c D z b sc H0 → nx0 ≤ h.1 → sn0 ≤ h.2.1 → h'.1 - nx0 ≤ R.cells → h'.2.1 - sn0 ≤ R.slots →
      is_FW t p l e R s m args below meth c D z b sc H0 nx0 sn0 Q k' L' st' h' → is_FW t p l e R s m args below meth c D z b sc H0 nx0 sn0 Q k L st h
/-- an instruction, and the row behind it -/
def is_At (t : is_M) (k : Nat) (i : Instr) (n : Nat) : Prop := is_pc t (k + 1) = is_pc t k + n ∧ decode (is_cc t) (is_pc t k) = .ok (i, n)
abbrev is_To (t : is_M) (k : Nat) (off : Int) (tgt : Nat) : Prop := (is_pc t k : Int) + off = (is_pc t tgt : Int)
/-! locals -/
def is_lv (z b : Nat) (L : ia_L) : List (Nat × Value) := (List.range L.length).filterMap fun j => match L[j]? with
  | some (some v) => if v.category = 2 ∧ ¬ L[j + 1]? = some none then none else some (j, is_tr z b v)
  | _ => none
theorem is_lv_mem {z b : Nat} {L : ia_L} {q : Nat × Value} (h : q ∈ is_lv z b L) : ∃ v, L[q.1]? = some (some v) ∧ (v.category = 2 → L[q.1 + 1]? = some none) ∧ q.2 = is_tr z b v := by
  obtain ⟨j, -, h2⟩ := List.mem_filterMap.mp h
  split at h2
  · rename_i v hv
    split at h2
    · cases h2
    · rename_i hc
      cases h2
      exact ⟨v, hv, fun h => Classical.byContradiction fun g => hc ⟨h, g⟩, rfl⟩
  · cases h2
theorem is_lv_of {z b : Nat} {L : ia_L} {j : Nat} {v : Value} (h : L[j]? = some (some v)) (hc : v.category = 2 → L[j + 1]? = some none) : (j, is_tr z b v) ∈ is_lv z b L := by
  refine List.mem_filterMap.mpr ⟨j, List.mem_range.mpr (List.getElem?_eq_some_iff.mp h).1, ?_⟩
  rw [h]
  dsimp only
  rw [if_neg]
  rintro ⟨h1, h2⟩
  exact h2 (hc h1)
theorem is_LH.has {z b nL : Nat} {ls : Array Slot} {L : ia_L} (h : is_LH z b nL ls L) : lv_has ls nL (is_lv z b L) := by
  refine ⟨h.1, h.2.2.1, fun q hq => ?_⟩
  obtain ⟨v, h1, h2, h3⟩ := is_lv_mem hq
  rw [h3]
  exact h.2.2.2 q.1 v h1 h2
theorem is_LH.set1 {z b nL i : Nat} {ls ls' : Array Slot} {L : ia_L} {v : Value} (h : is_LH z b nL ls L) (hc : v.category = 1) (h' : lv_has ls' nL ((i, is_tr z b v) :: (is_lv z b L).filter (fun q => !(q.1 == i) && !(q.1 + 1 == i && q.2.category == 2)))) : is_LH z b nL ls' (L.set i (some v)) := by
  refine ⟨h'.1, by rw [List.length_set]; exact h.2.1, h'.2.1, fun j w hj hw => ?_⟩
  by_cases hji : j = i
  · subst hji
    have hlt : j < L.length := by
      have := (List.getElem?_eq_some_iff.mp hj).1
      rwa [List.length_set] at this
    rw [List.getElem?_set_self hlt] at hj
    cases hj
    exact h'.2.2 _ List.mem_cons_self
  · rw [List.getElem?_set_ne (Ne.symm hji)] at hj
    have hw2 : w.category = 2 → L[j + 1]? = some none ∧ ¬ j + 1 = i := by
      intro hc2
      have h1 := hw hc2
      by_cases hi : j + 1 = i
      · subst hi
        have hlt : j + 1 < L.length := by
          have := (List.getElem?_eq_some_iff.mp h1).1
          rwa [List.length_set] at this
        rw [List.getElem?_set_self hlt] at h1
        cases h1
      · rw [List.getElem?_set_ne (Ne.symm hi)] at h1
        exact ⟨h1, hi⟩
    refine h'.2.2 (j, is_tr z b w) (List.mem_cons_of_mem _ (List.mem_filter.mpr ⟨is_lv_of hj (fun g => (hw2 g).1), ?_⟩))
    have hx : (is_tr z b w).category = w.category := is_cat z b w
    by_cases hc2 : w.category = 2
    · have := (hw2 hc2).2
      simp [hji, this]
    · simp [hji, hx, hc2]
theorem is_LH.set2 {z b nL i : Nat} {ls ls' : Array Slot} {L : ia_L} {x : Int64} (h : is_LH z b nL ls L) (h' : lv_has ls' nL ((i, .long x) :: (is_lv z b L).filter (fun q => !(q.1 == i) && (!(q.1 == i + 1) && !(q.1 + 1 == i && q.2.category == 2))))) : is_LH z b nL ls' ((L.set i (some (.long x))).set (i + 1) none) := by
  refine ⟨h'.1, by rw [List.length_set, List.length_set]; exact h.2.1, h'.2.1, fun j w hj hw => ?_⟩
  have hji1 : ¬ j = i + 1 := by
    intro e
    subst e
    have hlt : i + 1 < (L.set i (some (.long x))).length := by
      have := (List.getElem?_eq_some_iff.mp hj).1
      rwa [List.length_set] at this
    rw [List.getElem?_set_self hlt] at hj
    cases hj
  rw [List.getElem?_set_ne (Ne.symm hji1)] at hj
  by_cases hji : j = i
  · subst hji
    have hlt : j < L.length := by
      have := (List.getElem?_eq_some_iff.mp hj).1
      rwa [List.length_set] at this
    rw [List.getElem?_set_self hlt] at hj
    cases hj
    exact h'.2.2 _ List.mem_cons_self
  · rw [List.getElem?_set_ne (Ne.symm hji)] at hj
    have hw2 : w.category = 2 → L[j + 1]? = some none ∧ ¬ j + 1 = i := by
      intro hc2
      have h1 := hw hc2
      rw [List.getElem?_set_ne (by omega)] at h1
      by_cases hi : j + 1 = i
      · subst hi
        have hlt : j + 1 < L.length := by
          have := (List.getElem?_eq_some_iff.mp h1).1
          rwa [List.length_set] at this
        rw [List.getElem?_set_self hlt] at h1
        cases h1
      · rw [List.getElem?_set_ne (Ne.symm hi)] at h1
        exact ⟨h1, hi⟩
    refine h'.2.2 (j, is_tr z b w) (List.mem_cons_of_mem _ (List.mem_filter.mpr ⟨is_lv_of hj (fun g => (hw2 g).1), ?_⟩))
    have hx : (is_tr z b w).category = w.category := is_cat z b w
    by_cases hc2 : w.category = 2
    · have := (hw2 hc2).2
      simp [hji, hji1, this]
    · simp [hji, hji1, hx, hc2]

theorem ok_iadd {t : is_M} {k : Nat} (A : is_At t k (.iadd) 1) : is_Ok t k (ia_i2 fun x y => x + y) := by
  intro L st h k' L' st' h' hf
  unfold ia_i2 at hf
  split at hf
  · cases hf
    refine ⟨Nat.le_refl _, Nat.le_refl _, ?_⟩
    intro p l e R s m args below meth c D z b sc H0 nx0 sn0 Q C hn hs hcl hsl F H locs ls r S lh
    have w := F H locs ls r S lh
    rw [A.1] at w
    exact lv_iadd C.1 C.2.1 A.2 w
  · cases hf
theorem ok_isub {t : is_M} {k : Nat} (A : is_At t k (.isub) 1) : is_Ok t k (ia_i2 fun x y => x - y) := by
  intro L st h k' L' st' h' hf
  unfold ia_i2 at hf
  split at hf
  · cases hf
    refine ⟨Nat.le_refl _, Nat.le_refl _, ?_⟩
    intro p l e R s m args below meth c D z b sc H0 nx0 sn0 Q C hn hs hcl hsl F H locs ls r S lh
    have w := F H locs ls r S lh
    rw [A.1] at w
    exact lv_isub C.1 C.2.1 A.2 w
  · cases hf
theorem ok_imul {t : is_M} {k : Nat} (A : is_At t k (.imul) 1) : is_Ok t k (ia_i2 fun x y => x * y) := by
  intro L st h k' L' st' h' hf
  unfold ia_i2 at hf
  split at hf
  · cases hf
    refine ⟨Nat.le_refl _, Nat.le_refl _, ?_⟩
    intro p l e R s m args below meth c D z b sc H0 nx0 sn0 Q C hn hs hcl hsl F H locs ls r S lh
    have w := F H locs ls r S lh
    rw [A.1] at w
    exact lv_imul C.1 C.2.1 A.2 w
  · cases hf
theorem ok_iand {t : is_M} {k : Nat} (A : is_At t k (.iand) 1) : is_Ok t k (ia_i2 fun x y => x &&& y) := by
  intro L st h k' L' st' h' hf
  unfold ia_i2 at hf
  split at hf
  · cases hf
    refine ⟨Nat.le_refl _, Nat.le_refl _, ?_⟩
    intro p l e R s m args below meth c D z b sc H0 nx0 sn0 Q C hn hs hcl hsl F H locs ls r S lh
    have w := F H locs ls r S lh
    rw [A.1] at w
    exact lv_iand C.1 C.2.1 A.2 w
  · cases hf
theorem ok_ior {t : is_M} {k : Nat} (A : is_At t k (.ior) 1) : is_Ok t k (ia_i2 fun x y => x ||| y) := by
  intro L st h k' L' st' h' hf
  unfold ia_i2 at hf
  split at hf
  · cases hf
    refine ⟨Nat.le_refl _, Nat.le_refl _, ?_⟩
    intro p l e R s m args below meth c D z b sc H0 nx0 sn0 Q C hn hs hcl hsl F H locs ls r S lh
    have w := F H locs ls r S lh
    rw [A.1] at w
    exact lv_ior C.1 C.2.1 A.2 w
  · cases hf
theorem ok_ixor {t : is_M} {k : Nat} (A : is_At t k (.ixor) 1) : is_Ok t k (ia_i2 fun x y => x ^^^ y) := by
  intro L st h k' L' st' h' hf
  unfold ia_i2 at hf
  split at hf
  · cases hf
    refine ⟨Nat.le_refl _, Nat.le_refl _, ?_⟩
    intro p l e R s m args below meth c D z b sc H0 nx0 sn0 Q C hn hs hcl hsl F H locs ls r S lh
    have w := F H locs ls r S lh
    rw [A.1] at w
    exact lv_ixor C.1 C.2.1 A.2 w
  · cases hf
theorem ok_ishl {t : is_M} {k : Nat} (A : is_At t k (.ishl) 1) : is_Ok t k (ia_i2 fun x y => x <<< (y &&& 31)) := by
  intro L st h k' L' st' h' hf
  unfold ia_i2 at hf
  split at hf
  · cases hf
    refine ⟨Nat.le_refl _, Nat.le_refl _, ?_⟩
    intro p l e R s m args below meth c D z b sc H0 nx0 sn0 Q C hn hs hcl hsl F H locs ls r S lh
    have w := F H locs ls r S lh
    rw [A.1] at w
    exact lv_ishl C.1 C.2.1 A.2 w
  · cases hf
theorem ok_ishr {t : is_M} {k : Nat} (A : is_At t k (.ishr) 1) : is_Ok t k (ia_i2 fun x y => x >>> (y &&& 31)) := by
  intro L st h k' L' st' h' hf
  unfold ia_i2 at hf
  split at hf
  · cases hf
    refine ⟨Nat.le_refl _, Nat.le_refl _, ?_⟩
    intro p l e R s m args below meth c D z b sc H0 nx0 sn0 Q C hn hs hcl hsl F H locs ls r S lh
    have w := F H locs ls r S lh
    rw [A.1] at w
    exact lv_ishr C.1 C.2.1 A.2 w
  · cases hf
theorem ok_iushr {t : is_M} {k : Nat} (A : is_At t k (.iushr) 1) : is_Ok t k (ia_i2 fun x y => (x.toUInt32 >>> (y.toUInt32 &&& Int32.toUInt32 31)).toInt32) := by
  intro L st h k' L' st' h' hf
  unfold ia_i2 at hf
  split at hf
  · cases hf
    refine ⟨Nat.le_refl _, Nat.le_refl _, ?_⟩
    intro p l e R s m args below meth c D z b sc H0 nx0 sn0 Q C hn hs hcl hsl F H locs ls r S lh
    have w := F H locs ls r S lh
    rw [A.1] at w
    exact lv_iushr C.1 C.2.1 A.2 rfl w
  · cases hf
theorem ok_ladd {t : is_M} {k : Nat} (A : is_At t k (.ladd) 1) : is_Ok t k (ia_l2 fun x y => x + y) := by
  intro L st h k' L' st' h' hf
  unfold ia_l2 at hf
  split at hf
  · cases hf
    refine ⟨Nat.le_refl _, Nat.le_refl _, ?_⟩
    intro p l e R s m args below meth c D z b sc H0 nx0 sn0 Q C hn hs hcl hsl F H locs ls r S lh
    have w := F H locs ls r S lh
    rw [A.1] at w
    exact lv_ladd C.1 C.2.1 A.2 w
  · cases hf
theorem ok_lsub {t : is_M} {k : Nat} (A : is_At t k (.lsub) 1) : is_Ok t k (ia_l2 fun x y => x - y) := by
  intro L st h k' L' st' h' hf
  unfold ia_l2 at hf
  split at hf
  · cases hf
    refine ⟨Nat.le_refl _, Nat.le_refl _, ?_⟩
    intro p l e R s m args below meth c D z b sc H0 nx0 sn0 Q C hn hs hcl hsl F H locs ls r S lh
    have w := F H locs ls r S lh
    rw [A.1] at w
    exact lv_lsub C.1 C.2.1 A.2 w
  · cases hf
theorem ok_land {t : is_M} {k : Nat} (A : is_At t k (.land) 1) : is_Ok t k (ia_l2 fun x y => x &&& y) := by
  intro L st h k' L' st' h' hf
  unfold ia_l2 at hf
  split at hf
  · cases hf
    refine ⟨Nat.le_refl _, Nat.le_refl _, ?_⟩
    intro p l e R s m args below meth c D z b sc H0 nx0 sn0 Q C hn hs hcl hsl F H locs ls r S lh
    have w := F H locs ls r S lh
    rw [A.1] at w
    exact lv_land C.1 C.2.1 A.2 w
  · cases hf
theorem ok_lor {t : is_M} {k : Nat} (A : is_At t k (.lor) 1) : is_Ok t k (ia_l2 fun x y => x ||| y) := by
  intro L st h k' L' st' h' hf
  unfold ia_l2 at hf
  split at hf
  · cases hf
    refine ⟨Nat.le_refl _, Nat.le_refl _, ?_⟩
    intro p l e R s m args below meth c D z b sc H0 nx0 sn0 Q C hn hs hcl hsl F H locs ls r S lh
    have w := F H locs ls r S lh
    rw [A.1] at w
    exact lv_lor C.1 C.2.1 A.2 w
  · cases hf
theorem ok_lshl {t : is_M} {k : Nat} (A : is_At t k (.lshl) 1) : is_Ok t k (ia_lsh fun x y => x <<< (y.toInt64 &&& 63)) := by
  intro L st h k' L' st' h' hf
  unfold ia_lsh at hf
  split at hf
  · cases hf
    refine ⟨Nat.le_refl _, Nat.le_refl _, ?_⟩
    intro p l e R s m args below meth c D z b sc H0 nx0 sn0 Q C hn hs hcl hsl F H locs ls r S lh
    have w := F H locs ls r S lh
    rw [A.1] at w
    exact lv_lshl C.1 C.2.1 A.2 rfl w
  · cases hf
theorem ok_lushr {t : is_M} {k : Nat} (A : is_At t k (.lushr) 1) : is_Ok t k (ia_lsh fun x y => (x.toUInt64 >>> (y.toInt64.toUInt64 &&& Int64.toUInt64 63)).toInt64) := by
  intro L st h k' L' st' h' hf
  unfold ia_lsh at hf
  split at hf
  · cases hf
    refine ⟨Nat.le_refl _, Nat.le_refl _, ?_⟩
    intro p l e R s m args below meth c D z b sc H0 nx0 sn0 Q C hn hs hcl hsl F H locs ls r S lh
    have w := F H locs ls r S lh
    rw [A.1] at w
    exact lv_lushr C.1 C.2.1 A.2 rfl w
  · cases hf
theorem ok_lcmp {t : is_M} {k : Nat} (A : is_At t k (.lcmp) 1) : is_Ok t k (ia_lcmp) := by
  intro L st h k' L' st' h' hf
  unfold ia_lcmp at hf
  split at hf
  · cases hf
    refine ⟨Nat.le_refl _, Nat.le_refl _, ?_⟩
    intro p l e R s m args below meth c D z b sc H0 nx0 sn0 Q C hn hs hcl hsl F H locs ls r S lh
    have w := F H locs ls r S lh
    rw [A.1] at w
    exact W.lcmp C.1 C.2.1 A.2 w
  · cases hf
theorem ok_i2l {t : is_M} {k : Nat} (A : is_At t k (.i2l) 1) : is_Ok t k (ia_i2l) := by
  intro L st h k' L' st' h' hf
  unfold ia_i2l at hf
  split at hf
  · cases hf
    refine ⟨Nat.le_refl _, Nat.le_refl _, ?_⟩
    intro p l e R s m args below meth c D z b sc H0 nx0 sn0 Q C hn hs hcl hsl F H locs ls r S lh
    have w := F H locs ls r S lh
    rw [A.1] at w
    exact lv_i2l C.1 C.2.1 A.2 rfl w
  · cases hf
theorem ok_l2i {t : is_M} {k : Nat} (A : is_At t k (.l2i) 1) : is_Ok t k (ia_l2i) := by
  intro L st h k' L' st' h' hf
  unfold ia_l2i at hf
  split at hf
  · cases hf
    refine ⟨Nat.le_refl _, Nat.le_refl _, ?_⟩
    intro p l e R s m args below meth c D z b sc H0 nx0 sn0 Q C hn hs hcl hsl F H locs ls r S lh
    have w := F H locs ls r S lh
    rw [A.1] at w
    exact lv_l2i C.1 C.2.1 A.2 rfl w
  · cases hf
theorem ok_i2b {t : is_M} {k : Nat} (A : is_At t k (.i2b) 1) : is_Ok t k (ia_i1 fun x => x.toInt8.toInt32) := by
  intro L st h k' L' st' h' hf
  unfold ia_i1 at hf
  split at hf
  · cases hf
    refine ⟨Nat.le_refl _, Nat.le_refl _, ?_⟩
    intro p l e R s m args below meth c D z b sc H0 nx0 sn0 Q C hn hs hcl hsl F H locs ls r S lh
    have w := F H locs ls r S lh
    rw [A.1] at w
    exact lv_i2b C.1 C.2.1 A.2 rfl w
  · cases hf
theorem ok_i2c {t : is_M} {k : Nat} (A : is_At t k (.i2c) 1) : is_Ok t k (ia_i1 fun x => (x.toUInt32 % 65536).toInt32) := by
  intro L st h k' L' st' h' hf
  unfold ia_i1 at hf
  split at hf
  · cases hf
    refine ⟨Nat.le_refl _, Nat.le_refl _, ?_⟩
    intro p l e R s m args below meth c D z b sc H0 nx0 sn0 Q C hn hs hcl hsl F H locs ls r S lh
    have w := F H locs ls r S lh
    rw [A.1] at w
    exact lv_i2c C.1 C.2.1 A.2 rfl w
  · cases hf
theorem ok_idiv {t : is_M} {k : Nat} (A : is_At t k .idiv 1) : is_Ok t k (ia_i2z fun x y => x / y) := by
  intro L st h k' L' st' h' hf
  unfold ia_i2z at hf
  split at hf
  · split at hf
    · cases hf
    · rename_i hne
      cases hf
      refine ⟨Nat.le_refl _, Nat.le_refl _, ?_⟩
      intro p l e R s m args below meth c D z b sc H0 nx0 sn0 Q C hn hs hcl hsl F H locs ls r S lh
      have w := F H locs ls r S lh
      rw [A.1] at w
      exact lv_idiv C.1 C.2.1 A.2 hne w
  · cases hf
theorem ok_irem {t : is_M} {k : Nat} (A : is_At t k .irem 1) : is_Ok t k (ia_i2z fun x y => x - x / y * y) := by
  intro L st h k' L' st' h' hf
  unfold ia_i2z at hf
  split at hf
  · split at hf
    · cases hf
    · rename_i hne
      cases hf
      refine ⟨Nat.le_refl _, Nat.le_refl _, ?_⟩
      intro p l e R s m args below meth c D z b sc H0 nx0 sn0 Q C hn hs hcl hsl F H locs ls r S lh
      have w := F H locs ls r S lh
      rw [A.1] at w
      exact lv_irem C.1 C.2.1 A.2 hne w
  · cases hf
theorem ok_iconst {t : is_M} {k : Nat} {n : Int} {v : Int32} (hv : Int32.ofInt n = v) (A : is_At t k (.iconst n) 1) : is_Ok t k (ia_const (.int v)) := by
  intro L st h k' L' st' h' hf
  unfold ia_const at hf
  cases hf
  refine ⟨Nat.le_refl _, Nat.le_refl _, ?_⟩
  intro p l e R s m args below meth c D z b sc H0 nx0 sn0 Q C hn hs hcl hsl F H locs ls r S lh
  have w := F H locs ls r S lh
  rw [A.1] at w
  exact lv_iconst C.1 C.2.1 A.2 hv w
theorem ok_bipush {t : is_M} {k : Nat} {n : Int} {v : Int32} (hv : (Int8.ofInt n).toInt32 = v) (A : is_At t k (.bipush n) 2) : is_Ok t k (ia_const (.int v)) := by
  intro L st h k' L' st' h' hf
  unfold ia_const at hf
  cases hf
  refine ⟨Nat.le_refl _, Nat.le_refl _, ?_⟩
  intro p l e R s m args below meth c D z b sc H0 nx0 sn0 Q C hn hs hcl hsl F H locs ls r S lh
  have w := F H locs ls r S lh
  rw [A.1] at w
  exact lv_bipush C.1 C.2.1 A.2 hv w
theorem ok_sipush {t : is_M} {k : Nat} {n : Int} {v : Int32} (hv : (Int16.ofInt n).toInt32 = v) (A : is_At t k (.sipush n) 3) : is_Ok t k (ia_const (.int v)) := by
  intro L st h k' L' st' h' hf
  unfold ia_const at hf
  cases hf
  refine ⟨Nat.le_refl _, Nat.le_refl _, ?_⟩
  intro p l e R s m args below meth c D z b sc H0 nx0 sn0 Q C hn hs hcl hsl F H locs ls r S lh
  have w := F H locs ls r S lh
  rw [A.1] at w
  exact lv_sipush C.1 C.2.1 A.2 hv w
theorem ok_lconst {t : is_M} {k : Nat} {n : Fin 2} {v : Int64} (hv : Int64.ofNat (n : Nat) = v) (A : is_At t k (.lconst n) 1) : is_Ok t k (ia_const (.long v)) := by
  intro L st h k' L' st' h' hf
  unfold ia_const at hf
  cases hf
  refine ⟨Nat.le_refl _, Nat.le_refl _, ?_⟩
  intro p l e R s m args below meth c D z b sc H0 nx0 sn0 Q C hn hs hcl hsl F H locs ls r S lh
  have w := F H locs ls r S lh
  rw [A.1] at w
  exact lv_lconst C.1 C.2.1 A.2 hv w
theorem ok_ldcw {t : is_M} {k : Nat} {index : Nat} {v : Int32} (hc : Cond.constant t.1.cls index v ∈ cb_gw) (A : is_At t k (.ldc_w index) 3) : is_Ok t k (ia_const (.int v)) := by
  intro L st h k' L' st' h' hf
  unfold ia_const at hf
  cases hf
  refine ⟨Nat.le_refl _, Nat.le_refl _, ?_⟩
  intro p l e R s m args below meth c D z b sc H0 nx0 sn0 Q C hn hs hcl hsl F H locs ls r S lh
  have w := F H locs ls r S lh
  rw [A.1] at w
  exact lv_ldcw C.1 C.2.1 C.2.2.2.1 (C.2.2.2.2.1 _ hc) A.2 w
theorem ok_ldc2 {t : is_M} {k : Nat} {index : Nat} {v : Int64} (hc : Cond.constantLong t.1.cls index v ∈ cb_gw) (A : is_At t k (.ldc2_w index) 3) : is_Ok t k (ia_const (.long v)) := by
  intro L st h k' L' st' h' hf
  unfold ia_const at hf
  cases hf
  refine ⟨Nat.le_refl _, Nat.le_refl _, ?_⟩
  intro p l e R s m args below meth c D z b sc H0 nx0 sn0 Q C hn hs hcl hsl F H locs ls r S lh
  have w := F H locs ls r S lh
  rw [A.1] at w
  exact lv_ldc2 C.1 C.2.1 C.2.2.2.1 (C.2.2.2.2.1 _ hc) A.2 w
theorem ok_iload_n {t : is_M} {k : Nat} {i : Fin 4} {j : Nat} (hj : (i : Nat) = j) (A : is_At t k (.iload_n i) 1) : is_Ok t k (ia_iload j) := by
  intro L st h k' L' st' h' hf
  unfold ia_iload at hf
  split at hf
  · rename_i x hv
    cases hf
    refine ⟨Nat.le_refl _, Nat.le_refl _, ?_⟩
    intro p l e R s m args below meth c D z b sc H0 nx0 sn0 Q C hn hs hcl hsl F H locs ls r S lh
    have w := F H locs ls r S lh
    rw [A.1] at w
    exact lv_iload_n C.1 C.2.1 A.2 hj (lh.2.2.2 _ _ hv (fun g => by cases g)) w
  · cases hf
theorem ok_iload {t : is_M} {k : Nat} {j : Nat} (A : is_At t k (.iload j) 2) : is_Ok t k (ia_iload j) := by
  intro L st h k' L' st' h' hf
  unfold ia_iload at hf
  split at hf
  · rename_i x hv
    cases hf
    refine ⟨Nat.le_refl _, Nat.le_refl _, ?_⟩
    intro p l e R s m args below meth c D z b sc H0 nx0 sn0 Q C hn hs hcl hsl F H locs ls r S lh
    have w := F H locs ls r S lh
    rw [A.1] at w
    exact lv_iload C.1 C.2.1 A.2 (lh.2.2.2 _ _ hv (fun g => by cases g)) w
  · cases hf
theorem ok_lload_n {t : is_M} {k : Nat} {i : Fin 4} {j : Nat} (hj : (i : Nat) = j) (A : is_At t k (.lload_n i) 1) : is_Ok t k (ia_lload j) := by
  intro L st h k' L' st' h' hf
  unfold ia_lload at hf
  split at hf
  · rename_i x hv hv2
    cases hf
    refine ⟨Nat.le_refl _, Nat.le_refl _, ?_⟩
    intro p l e R s m args below meth c D z b sc H0 nx0 sn0 Q C hn hs hcl hsl F H locs ls r S lh
    have w := F H locs ls r S lh
    rw [A.1] at w
    exact lv_lload_n C.1 C.2.1 A.2 hj (lh.2.2.2 _ _ hv (fun _ => hv2)) w
  · cases hf
theorem ok_lload {t : is_M} {k : Nat} {j : Nat} (A : is_At t k (.lload j) 2) : is_Ok t k (ia_lload j) := by
  intro L st h k' L' st' h' hf
  unfold ia_lload at hf
  split at hf
  · rename_i x hv hv2
    cases hf
    refine ⟨Nat.le_refl _, Nat.le_refl _, ?_⟩
    intro p l e R s m args below meth c D z b sc H0 nx0 sn0 Q C hn hs hcl hsl F H locs ls r S lh
    have w := F H locs ls r S lh
    rw [A.1] at w
    exact lv_lload C.1 C.2.1 A.2 (lh.2.2.2 _ _ hv (fun _ => hv2)) w
  · cases hf
theorem ok_aload_n {t : is_M} {k : Nat} {i : Fin 4} {j : Nat} (hj : (i : Nat) = j) (A : is_At t k (.aload_n i) 1) : is_Ok t k (ia_aload j) := by
  intro L st h k' L' st' h' hf
  unfold ia_aload at hf
  split at hf
  · rename_i x hv
    cases hf
    refine ⟨Nat.le_refl _, Nat.le_refl _, ?_⟩
    intro p l e R s m args below meth c D z b sc H0 nx0 sn0 Q C hn hs hcl hsl F H locs ls r S lh
    have w := F H locs ls r S lh
    rw [A.1] at w
    exact lv_aload_n C.1 C.2.1 A.2 hj (lh.2.2.2 _ _ hv (fun g => by cases g)) w
  · rename_i hv
    cases hf
    refine ⟨Nat.le_refl _, Nat.le_refl _, ?_⟩
    intro p l e R s m args below meth c D z b sc H0 nx0 sn0 Q C hn hs hcl hsl F H locs ls r S lh
    have w := F H locs ls r S lh
    rw [A.1] at w
    exact lv_aload_nN C.1 C.2.1 A.2 hj (lh.2.2.2 _ _ hv (fun g => by cases g)) w
  · rename_i x hv
    cases hf
    refine ⟨Nat.le_refl _, Nat.le_refl _, ?_⟩
    intro p l e R s m args below meth c D z b sc H0 nx0 sn0 Q C hn hs hcl hsl F H locs ls r S lh
    have w := F H locs ls r S lh
    rw [A.1] at w
    exact lv_aload_n C.1 C.2.1 A.2 hj (lh.2.2.2 _ _ hv (fun g => by cases g)) w
  · cases hf
theorem ok_aload {t : is_M} {k : Nat} {j : Nat} (A : is_At t k (.aload j) 2) : is_Ok t k (ia_aload j) := by
  intro L st h k' L' st' h' hf
  unfold ia_aload at hf
  split at hf
  · rename_i x hv
    cases hf
    refine ⟨Nat.le_refl _, Nat.le_refl _, ?_⟩
    intro p l e R s m args below meth c D z b sc H0 nx0 sn0 Q C hn hs hcl hsl F H locs ls r S lh
    have w := F H locs ls r S lh
    rw [A.1] at w
    exact lv_aload C.1 C.2.1 A.2 (lh.2.2.2 _ _ hv (fun g => by cases g)) w
  · rename_i hv
    cases hf
    refine ⟨Nat.le_refl _, Nat.le_refl _, ?_⟩
    intro p l e R s m args below meth c D z b sc H0 nx0 sn0 Q C hn hs hcl hsl F H locs ls r S lh
    have w := F H locs ls r S lh
    rw [A.1] at w
    exact lv_aloadN C.1 C.2.1 A.2 (lh.2.2.2 _ _ hv (fun g => by cases g)) w
  · rename_i x hv
    cases hf
    refine ⟨Nat.le_refl _, Nat.le_refl _, ?_⟩
    intro p l e R s m args below meth c D z b sc H0 nx0 sn0 Q C hn hs hcl hsl F H locs ls r S lh
    have w := F H locs ls r S lh
    rw [A.1] at w
    exact lv_aload C.1 C.2.1 A.2 (lh.2.2.2 _ _ hv (fun g => by cases g)) w
  · cases hf
theorem ok_istore_n {t : is_M} {k : Nat} {i : Fin 4} {j : Nat} (hj : (i : Nat) = j) (A : is_At t k (.istore_n i) 1) : is_Ok t k (ia_istore j) := by
  intro L st h k' L' st' h' hf
  unfold ia_istore at hf
  split at hf
  · split at hf
    · rename_i hi
      cases hf
      refine ⟨Nat.le_refl _, Nat.le_refl _, ?_⟩
      intro p l e R s m args below meth c D z b sc H0 nx0 sn0 Q C hn hs hcl hsl F H locs ls r S lh
      refine lv_istore_n C.1 C.2.1 A.2 hj lh.has (by rw [← lh.2.1]; exact hi) rfl (fun ls' h' => ?_)
      have w := F H locs ls' r S (lh.set1 rfl h')
      rw [A.1] at w
      exact w
    · cases hf
  · cases hf
theorem ok_istore {t : is_M} {k : Nat} {j : Nat} (A : is_At t k (.istore j) 2) : is_Ok t k (ia_istore j) := by
  intro L st h k' L' st' h' hf
  unfold ia_istore at hf
  split at hf
  · split at hf
    · rename_i hi
      cases hf
      refine ⟨Nat.le_refl _, Nat.le_refl _, ?_⟩
      intro p l e R s m args below meth c D z b sc H0 nx0 sn0 Q C hn hs hcl hsl F H locs ls r S lh
      refine lv_istore C.1 C.2.1 A.2 lh.has (by rw [← lh.2.1]; exact hi) rfl (fun ls' h' => ?_)
      have w := F H locs ls' r S (lh.set1 rfl h')
      rw [A.1] at w
      exact w
    · cases hf
  · cases hf
theorem ok_lstore_n {t : is_M} {k : Nat} {i : Fin 4} {j : Nat} (hj : (i : Nat) = j) (A : is_At t k (.lstore_n i) 1) : is_Ok t k (ia_lstore j) := by
  intro L st h k' L' st' h' hf
  unfold ia_lstore at hf
  split at hf
  · split at hf
    · rename_i hi
      cases hf
      refine ⟨Nat.le_refl _, Nat.le_refl _, ?_⟩
      intro p l e R s m args below meth c D z b sc H0 nx0 sn0 Q C hn hs hcl hsl F H locs ls r S lh
      refine lv_lstore_n C.1 C.2.1 A.2 hj lh.has (by rw [← lh.2.1]; exact hi) rfl (fun ls' h' => ?_)
      have w := F H locs ls' r S (lh.set2 h')
      rw [A.1] at w
      exact w
    · cases hf
  · cases hf
theorem ok_lstore {t : is_M} {k : Nat} {j : Nat} (A : is_At t k (.lstore j) 2) : is_Ok t k (ia_lstore j) := by
  intro L st h k' L' st' h' hf
  unfold ia_lstore at hf
  split at hf
  · split at hf
    · rename_i hi
      cases hf
      refine ⟨Nat.le_refl _, Nat.le_refl _, ?_⟩
      intro p l e R s m args below meth c D z b sc H0 nx0 sn0 Q C hn hs hcl hsl F H locs ls r S lh
      refine lv_lstore C.1 C.2.1 A.2 lh.has (by rw [← lh.2.1]; exact hi) rfl (fun ls' h' => ?_)
      have w := F H locs ls' r S (lh.set2 h')
      rw [A.1] at w
      exact w
    · cases hf
  · cases hf
theorem ok_astore_n {t : is_M} {k : Nat} {i : Fin 4} {j : Nat} (hj : (i : Nat) = j) (A : is_At t k (.astore_n i) 1) : is_Ok t k (ia_astore j) := by
  intro L st h k' L' st' h' hf
  unfold ia_astore at hf
  split at hf
  · split at hf
    · rename_i hi
      cases hf
      refine ⟨Nat.le_refl _, Nat.le_refl _, ?_⟩
      intro p l e R s m args below meth c D z b sc H0 nx0 sn0 Q C hn hs hcl hsl F H locs ls r S lh
      refine lv_astore_n C.1 C.2.1 A.2 hj lh.has (by rw [← lh.2.1]; exact hi) rfl (fun ls' h' => ?_)
      have w := F H locs ls' r S (lh.set1 rfl h')
      rw [A.1] at w
      exact w
    · cases hf
  · split at hf
    · rename_i hi
      cases hf
      refine ⟨Nat.le_refl _, Nat.le_refl _, ?_⟩
      intro p l e R s m args below meth c D z b sc H0 nx0 sn0 Q C hn hs hcl hsl F H locs ls r S lh
      refine lv_astore_nN C.1 C.2.1 A.2 hj lh.has (by rw [← lh.2.1]; exact hi) rfl (fun ls' h' => ?_)
      have w := F H locs ls' r S (lh.set1 rfl h')
      rw [A.1] at w
      exact w
    · cases hf
  · cases hf
theorem ok_astore {t : is_M} {k : Nat} {j : Nat} (A : is_At t k (.astore j) 2) : is_Ok t k (ia_astore j) := by
  intro L st h k' L' st' h' hf
  unfold ia_astore at hf
  split at hf
  · split at hf
    · rename_i hi
      cases hf
      refine ⟨Nat.le_refl _, Nat.le_refl _, ?_⟩
      intro p l e R s m args below meth c D z b sc H0 nx0 sn0 Q C hn hs hcl hsl F H locs ls r S lh
      refine lv_astore C.1 C.2.1 A.2 lh.has (by rw [← lh.2.1]; exact hi) rfl (fun ls' h' => ?_)
      have w := F H locs ls' r S (lh.set1 rfl h')
      rw [A.1] at w
      exact w
    · cases hf
  · split at hf
    · rename_i hi
      cases hf
      refine ⟨Nat.le_refl _, Nat.le_refl _, ?_⟩
      intro p l e R s m args below meth c D z b sc H0 nx0 sn0 Q C hn hs hcl hsl F H locs ls r S lh
      refine lv_astoreN C.1 C.2.1 A.2 lh.has (by rw [← lh.2.1]; exact hi) rfl (fun ls' h' => ?_)
      have w := F H locs ls' r S (lh.set1 rfl h')
      rw [A.1] at w
      exact w
    · cases hf
  · cases hf
theorem ok_iinc {t : is_M} {k : Nat} {j : Nat} {n : Int} (A : is_At t k (.iinc j n) 3) : is_Ok t k (ia_iinc j n) := by
  intro L st h k' L' st' h' hf
  unfold ia_iinc at hf
  split at hf
  · rename_i x hv
    cases hf
    refine ⟨Nat.le_refl _, Nat.le_refl _, ?_⟩
    intro p l e R s m args below meth c D z b sc H0 nx0 sn0 Q C hn hs hcl hsl F H locs ls r S lh
    obtain ⟨i, hi⟩ := List.getElem?_of_mem (is_lv_of (z := z) (b := b) hv (fun g => by cases g))
    refine lv_iinc C.1 C.2.1 A.2 lh.has hi rfl (by rw [← lh.2.1]; exact (List.getElem?_eq_some_iff.mp hv).1) rfl (fun ls' h' => ?_)
    have w := F H locs ls' r S (lh.set1 (v := .int (x + Int32.ofInt n)) rfl h')
    rw [A.1] at w
    exact w
  · cases hf
theorem ok_dup {t : is_M} {k : Nat} (A : is_At t k .dup 1) : is_Ok t k ia_dup := by
  intro L st h k' L' st' h' hf
  unfold ia_dup at hf
  split at hf
  · split at hf
    · rename_i hc
      cases hf
      refine ⟨Nat.le_refl _, Nat.le_refl _, ?_⟩
      intro p l e R s m args below meth c D z b sc H0 nx0 sn0 Q C hn hs hcl hsl F H locs ls r S lh
      have w := F H locs ls r S lh
      rw [A.1] at w
      exact lv_dup C.1 C.2.1 A.2 ((is_cat z b _).trans hc) w
    · cases hf
  · cases hf
theorem ok_pop {t : is_M} {k : Nat} (A : is_At t k .pop 1) : is_Ok t k ia_pop := by
  intro L st h k' L' st' h' hf
  unfold ia_pop at hf
  split at hf
  · split at hf
    · rename_i hc
      cases hf
      refine ⟨Nat.le_refl _, Nat.le_refl _, ?_⟩
      intro p l e R s m args below meth c D z b sc H0 nx0 sn0 Q C hn hs hcl hsl F H locs ls r S lh
      have w := F H locs ls r S lh
      rw [A.1] at w
      exact lv_pop C.1 C.2.1 A.2 ((is_cat z b _).trans hc) w
    · cases hf
  · cases hf
theorem ok_dupx1 {t : is_M} {k : Nat} (A : is_At t k .dup_x1 1) : is_Ok t k ia_dupx1 := by
  intro L st h k' L' st' h' hf
  unfold ia_dupx1 at hf
  split at hf
  · split at hf
    · rename_i hc
      cases hf
      refine ⟨Nat.le_refl _, Nat.le_refl _, ?_⟩
      intro p l e R s m args below meth c D z b sc H0 nx0 sn0 Q C hn hs hcl hsl F H locs ls r S lh
      have w := F H locs ls r S lh
      rw [A.1] at w
      exact lv_dup_x1 C.1 C.2.1 A.2 ((is_cat z b _).trans hc.1) ((is_cat z b _).trans hc.2) w
    · cases hf
  · cases hf
theorem ok_dup2 {t : is_M} {k : Nat} (A : is_At t k .dup2 1) : is_Ok t k ia_dup2 := by
  intro L st h k' L' st' h' hf
  unfold ia_dup2 at hf
  split at hf
  · split at hf
    · rename_i hc
      cases hf
      refine ⟨Nat.le_refl _, Nat.le_refl _, ?_⟩
      intro p l e R s m args below meth c D z b sc H0 nx0 sn0 Q C hn hs hcl hsl F H locs ls r S lh
      have w := F H locs ls r S lh
      rw [A.1] at w
      exact lv_dup2_11 C.1 C.2.1 A.2 ((is_cat z b _).trans hc.1) ((is_cat z b _).trans hc.2) w
    · cases hf
  · cases hf
theorem ok_goto {t : is_M} {k tgt : Nat} {off : Int} (A : decode (is_cc t) (is_pc t k) = .ok (.goto off, 3)) (J : is_To t k off tgt) : is_Ok t k (ia_goto tgt) := by
  intro L st h k' L' st' h' hf
  unfold ia_goto at hf
  cases hf
  refine ⟨Nat.le_refl _, Nat.le_refl _, ?_⟩
  intro p l e R s m args below meth c D z b sc H0 nx0 sn0 Q C hn hs hcl hsl F H locs ls r S lh
  exact lv_goto C.1 C.2.1 A J (F H locs ls r S lh)
theorem ok_ifeq {t : is_M} {k tgt : Nat} {off : Int} (A : is_At t k (.ifCond .eq off) 3) (J : is_To t k off tgt) : is_Ok t k (ia_ifeq tgt) := by
  intro L st h k' L' st' h' hf
  unfold ia_ifeq at hf
  split at hf
  · cases hf
    refine ⟨Nat.le_refl _, Nat.le_refl _, ?_⟩
    intro p l e R s m args below meth c D z b sc H0 nx0 sn0 Q C hn hs hcl hsl F H locs ls r S lh
    have w := F H locs ls r S lh
    refine lv_if_eq C.1 C.2.1 A.2 J (fun q => ?_) (fun q => ?_)
    · rw [if_pos q] at w
      exact w
    · rw [if_neg q, A.1] at w
      exact w
  · cases hf
theorem ok_ifne {t : is_M} {k tgt : Nat} {off : Int} (A : is_At t k (.ifCond .ne off) 3) (J : is_To t k off tgt) : is_Ok t k (ia_ifne tgt) := by
  intro L st h k' L' st' h' hf
  unfold ia_ifne at hf
  split at hf
  · cases hf
    refine ⟨Nat.le_refl _, Nat.le_refl _, ?_⟩
    intro p l e R s m args below meth c D z b sc H0 nx0 sn0 Q C hn hs hcl hsl F H locs ls r S lh
    have w := F H locs ls r S lh
    refine lv_if_ne C.1 C.2.1 A.2 J (fun q => ?_) (fun q => ?_)
    · rw [if_neg q] at w
      exact w
    · rw [if_pos q, A.1] at w
      exact w
  · cases hf
theorem ok_iflt {t : is_M} {k tgt : Nat} {off : Int} (A : is_At t k (.ifCond .lt off) 3) (J : is_To t k off tgt) : is_Ok t k (ia_iflt tgt) := by
  intro L st h k' L' st' h' hf
  unfold ia_iflt at hf
  split at hf
  · cases hf
    refine ⟨Nat.le_refl _, Nat.le_refl _, ?_⟩
    intro p l e R s m args below meth c D z b sc H0 nx0 sn0 Q C hn hs hcl hsl F H locs ls r S lh
    have w := F H locs ls r S lh
    refine lv_if_lt C.1 C.2.1 A.2 J (fun q => ?_) (fun q => ?_)
    · rw [if_pos q] at w
      exact w
    · rw [if_neg q, A.1] at w
      exact w
  · cases hf
theorem ok_ifge {t : is_M} {k tgt : Nat} {off : Int} (A : is_At t k (.ifCond .ge off) 3) (J : is_To t k off tgt) : is_Ok t k (ia_ifge tgt) := by
  intro L st h k' L' st' h' hf
  unfold ia_ifge at hf
  split at hf
  · cases hf
    refine ⟨Nat.le_refl _, Nat.le_refl _, ?_⟩
    intro p l e R s m args below meth c D z b sc H0 nx0 sn0 Q C hn hs hcl hsl F H locs ls r S lh
    have w := F H locs ls r S lh
    refine lv_if_ge C.1 C.2.1 A.2 J (fun q => ?_) (fun q => ?_)
    · rw [if_pos q] at w
      exact w
    · rw [if_neg q, A.1] at w
      exact w
  · cases hf
theorem ok_ifgt {t : is_M} {k tgt : Nat} {off : Int} (A : is_At t k (.ifCond .gt off) 3) (J : is_To t k off tgt) : is_Ok t k (ia_ifgt tgt) := by
  intro L st h k' L' st' h' hf
  unfold ia_ifgt at hf
  split at hf
  · cases hf
    refine ⟨Nat.le_refl _, Nat.le_refl _, ?_⟩
    intro p l e R s m args below meth c D z b sc H0 nx0 sn0 Q C hn hs hcl hsl F H locs ls r S lh
    have w := F H locs ls r S lh
    refine lv_if_gt C.1 C.2.1 A.2 J (fun q => ?_) (fun q => ?_)
    · rw [if_pos q] at w
      exact w
    · rw [if_neg q, A.1] at w
      exact w
  · cases hf
theorem ok_ifle {t : is_M} {k tgt : Nat} {off : Int} (A : is_At t k (.ifCond .le off) 3) (J : is_To t k off tgt) : is_Ok t k (ia_ifle tgt) := by
  intro L st h k' L' st' h' hf
  unfold ia_ifle at hf
  split at hf
  · cases hf
    refine ⟨Nat.le_refl _, Nat.le_refl _, ?_⟩
    intro p l e R s m args below meth c D z b sc H0 nx0 sn0 Q C hn hs hcl hsl F H locs ls r S lh
    have w := F H locs ls r S lh
    refine lv_if_le C.1 C.2.1 A.2 J (fun q => ?_) (fun q => ?_)
    · rw [if_pos q] at w
      exact w
    · rw [if_neg q, A.1] at w
      exact w
  · cases hf
theorem ok_ieq {t : is_M} {k tgt : Nat} {off : Int} (A : is_At t k (.if_icmp .eq off) 3) (J : is_To t k off tgt) : is_Ok t k (ia_ieq tgt) := by
  intro L st h k' L' st' h' hf
  unfold ia_ieq at hf
  split at hf
  · cases hf
    refine ⟨Nat.le_refl _, Nat.le_refl _, ?_⟩
    intro p l e R s m args below meth c D z b sc H0 nx0 sn0 Q C hn hs hcl hsl F H locs ls r S lh
    have w := F H locs ls r S lh
    refine lv_icmp_eq C.1 C.2.1 A.2 J (fun q => ?_) (fun q => ?_)
    · rw [if_pos q] at w
      exact w
    · rw [if_neg q, A.1] at w
      exact w
  · cases hf
theorem ok_ine {t : is_M} {k tgt : Nat} {off : Int} (A : is_At t k (.if_icmp .ne off) 3) (J : is_To t k off tgt) : is_Ok t k (ia_ine tgt) := by
  intro L st h k' L' st' h' hf
  unfold ia_ine at hf
  split at hf
  · cases hf
    refine ⟨Nat.le_refl _, Nat.le_refl _, ?_⟩
    intro p l e R s m args below meth c D z b sc H0 nx0 sn0 Q C hn hs hcl hsl F H locs ls r S lh
    have w := F H locs ls r S lh
    refine lv_icmp_ne C.1 C.2.1 A.2 J (fun q => ?_) (fun q => ?_)
    · rw [if_neg q] at w
      exact w
    · rw [if_pos q, A.1] at w
      exact w
  · cases hf
theorem ok_ilt {t : is_M} {k tgt : Nat} {off : Int} (A : is_At t k (.if_icmp .lt off) 3) (J : is_To t k off tgt) : is_Ok t k (ia_ilt tgt) := by
  intro L st h k' L' st' h' hf
  unfold ia_ilt at hf
  split at hf
  · cases hf
    refine ⟨Nat.le_refl _, Nat.le_refl _, ?_⟩
    intro p l e R s m args below meth c D z b sc H0 nx0 sn0 Q C hn hs hcl hsl F H locs ls r S lh
    have w := F H locs ls r S lh
    refine lv_icmp_lt C.1 C.2.1 A.2 J (fun q => ?_) (fun q => ?_)
    · rw [if_pos q] at w
      exact w
    · rw [if_neg q, A.1] at w
      exact w
  · cases hf
theorem ok_ige {t : is_M} {k tgt : Nat} {off : Int} (A : is_At t k (.if_icmp .ge off) 3) (J : is_To t k off tgt) : is_Ok t k (ia_ige tgt) := by
  intro L st h k' L' st' h' hf
  unfold ia_ige at hf
  split at hf
  · cases hf
    refine ⟨Nat.le_refl _, Nat.le_refl _, ?_⟩
    intro p l e R s m args below meth c D z b sc H0 nx0 sn0 Q C hn hs hcl hsl F H locs ls r S lh
    have w := F H locs ls r S lh
    refine lv_icmp_ge C.1 C.2.1 A.2 J (fun q => ?_) (fun q => ?_)
    · rw [if_pos q] at w
      exact w
    · rw [if_neg q, A.1] at w
      exact w
  · cases hf
theorem ok_igt {t : is_M} {k tgt : Nat} {off : Int} (A : is_At t k (.if_icmp .gt off) 3) (J : is_To t k off tgt) : is_Ok t k (ia_igt tgt) := by
  intro L st h k' L' st' h' hf
  unfold ia_igt at hf
  split at hf
  · cases hf
    refine ⟨Nat.le_refl _, Nat.le_refl _, ?_⟩
    intro p l e R s m args below meth c D z b sc H0 nx0 sn0 Q C hn hs hcl hsl F H locs ls r S lh
    have w := F H locs ls r S lh
    refine lv_icmp_gt C.1 C.2.1 A.2 J (fun q => ?_) (fun q => ?_)
    · rw [if_pos q] at w
      exact w
    · rw [if_neg q, A.1] at w
      exact w
  · cases hf
theorem ok_ile {t : is_M} {k tgt : Nat} {off : Int} (A : is_At t k (.if_icmp .le off) 3) (J : is_To t k off tgt) : is_Ok t k (ia_ile tgt) := by
  intro L st h k' L' st' h' hf
  unfold ia_ile at hf
  split at hf
  · cases hf
    refine ⟨Nat.le_refl _, Nat.le_refl _, ?_⟩
    intro p l e R s m args below meth c D z b sc H0 nx0 sn0 Q C hn hs hcl hsl F H locs ls r S lh
    have w := F H locs ls r S lh
    refine lv_icmp_le C.1 C.2.1 A.2 J (fun q => ?_) (fun q => ?_)
    · rw [if_pos q] at w
      exact w
    · rw [if_neg q, A.1] at w
      exact w
  · cases hf
theorem ok_nonnull {t : is_M} {k tgt : Nat} {off : Int} (A : is_At t k (.ifnonnull off) 3) (J : is_To t k off tgt) : is_Ok t k (ia_nonnull tgt) := by
  intro L st h k' L' st' h' hf
  unfold ia_nonnull at hf
  split at hf
  · cases hf
    refine ⟨Nat.le_refl _, Nat.le_refl _, ?_⟩
    intro p l e R s m args below meth c D z b sc H0 nx0 sn0 Q C hn hs hcl hsl F H locs ls r S lh
    exact lv_ifnonnull C.1 C.2.1 A.2 J (F H locs ls r S lh)
  · cases hf
    refine ⟨Nat.le_refl _, Nat.le_refl _, ?_⟩
    intro p l e R s m args below meth c D z b sc H0 nx0 sn0 Q C hn hs hcl hsl F H locs ls r S lh
    have w := F H locs ls r S lh
    rw [A.1] at w
    exact lv_ifnonnullN C.1 C.2.1 A.2 w
  · cases hf
theorem ok_sw {t : is_M} {k d n : Nat} {ts : List Nat} {dflt hi : Int} {offs : Array Int} (A : decode (is_cc t) (is_pc t k) = .ok (.tableswitch dflt 0 hi offs, n)) (hh : hi + 1 = ts.length) (Jd : is_To t k dflt d) (J : ∀ j, j < ts.length → ∃ off, offs[j]? = some off ∧ is_To t k off (ts.getD j d)) : is_Ok t k (ia_sw ts d) := by
  intro L st h k' L' st' h' hf
  unfold ia_sw at hf
  split at hf
  · rename_i x st1
    cases hf
    refine ⟨Nat.le_refl _, Nat.le_refl _, ?_⟩
    intro p l e R s m args below meth c D z b sc H0 nx0 sn0 Q C hn hs hcl hsl F H locs ls r S lh
    have w := F H locs ls r S lh
    by_cases hx : x.toInt < 0 ∨ (ts.length : Int) ≤ x.toInt
    · rw [if_pos hx] at w
      exact lv_tableOut C.1 C.2.1 A (by omega) Jd w
    · rw [if_neg hx] at w
      obtain ⟨off, h1, h2⟩ := J x.toInt.toNat (by omega)
      exact lv_tableIn C.1 C.2.1 A (by omega) (by omega) (by rw [Int.sub_zero]; exact h1) h2 w
  · cases hf

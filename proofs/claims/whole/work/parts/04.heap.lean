/-! the heap: what the reading and writing words say -/
theorem is_gI {h : ia_H} {ci a k : Nat} {x : Int32} (hg : ia_gI h ci a k = some x) : ∃ fs : List Value, ia_c h a = .inr (ci, fs) ∧ fs[k]? = some (.int x) := by
  unfold ia_gI at hg
  split at hg
  · rename_i c fs hc
    split at hg
    · rename_i he
      subst he
      split at hg
      · rename_i y hy
        cases hg
        exact ⟨fs, hc, hy⟩
      · cases hg
    · cases hg
  · cases hg
theorem is_gR {h : ia_H} {ci a k : Nat} {x : Nat} (hg : ia_gR h ci a k = some x) : ∃ fs : List Value, ia_c h a = .inr (ci, fs) ∧ fs[k]? = some (.ref x) := by
  unfold ia_gR at hg
  split at hg
  · rename_i c fs hc
    split at hg
    · rename_i he
      subst he
      split at hg
      · rename_i y hy
        cases hg
        exact ⟨fs, hc, hy⟩
      · cases hg
    · cases hg
  · cases hg
theorem is_pF {h h' : ia_H} {ci a k : Nat} {v : Value} (hg : ia_pF h ci a k v = some h') : ∃ fs : List Value, ia_c h a = .inr (ci, fs) ∧ k < fs.length ∧ h' = ia_up h a (.inr (ci, fs.set k v)) := by
  unfold ia_pF at hg
  split at hg
  · rename_i c fs hc
    split at hg
    · rename_i he
      obtain ⟨he, hk⟩ := he
      subst he
      cases hg
      exact ⟨fs, hc, hk, rfl⟩
    · cases hg
  · cases hg
theorem is_ld {h : ia_H} {t a : Nat} {i x : Int32} (hg : ia_ld h t a i = some x) : ∃ (n : Nat) (f : Nat → Int32), ia_c h a = .inl (t, n, .inl f) ∧ vp_in i n ∧ x = f i.toNatClampNeg := by
  unfold ia_ld at hg
  split at hg
  · rename_i t' n f hc
    split at hg
    · rename_i he
      obtain ⟨he, hk⟩ := he
      subst he
      cases hg
      exact ⟨n, f, hc, hk, rfl⟩
    · cases hg
  · cases hg
theorem is_st {h h' : ia_H} {t a : Nat} {i x : Int32} (hg : ia_st h t a i x = some h') : ∃ (n : Nat) (f : Nat → Int32), ia_c h a = .inl (t, n, .inl f) ∧ vp_in i n ∧ h' = ia_up h a (.inl (t, n, .inl (upd f i.toNatClampNeg x))) := by
  unfold ia_st at hg
  split at hg
  · rename_i t' n f hc
    split at hg
    · rename_i he
      obtain ⟨he, hk⟩ := he
      subst he
      cases hg
      exact ⟨n, f, hc, hk, rfl⟩
    · cases hg
  · cases hg
theorem is_ldL {h : ia_H} {a : Nat} {i : Int32} {x : Int64} (hg : ia_ldL h a i = some x) : ∃ (n : Nat) (f : Nat → Int64), ia_c h a = .inl (1, n, .inr (.inl f)) ∧ vp_in i n ∧ x = f i.toNatClampNeg := by
  unfold ia_ldL at hg
  split at hg
  · rename_i t' n f hc
    split at hg
    · rename_i he
      obtain ⟨he, hk⟩ := he
      subst he
      cases hg
      exact ⟨n, f, hc, hk, rfl⟩
    · cases hg
  · cases hg
theorem is_stL {h h' : ia_H} {a : Nat} {i : Int32} {x : Int64} (hg : ia_stL h a i x = some h') : ∃ (n : Nat) (f : Nat → Int64), ia_c h a = .inl (1, n, .inr (.inl f)) ∧ vp_in i n ∧ h' = ia_up h a (.inl (1, n, .inr (.inl (vp_updL f i.toNatClampNeg x)))) := by
  unfold ia_stL at hg
  split at hg
  · rename_i t' n f hc
    split at hg
    · rename_i he
      obtain ⟨he, hk⟩ := he
      subst he
      cases hg
      exact ⟨n, f, hc, hk, rfl⟩
    · cases hg
  · cases hg
theorem is_ldR {h : ia_H} {a : Nat} {i : Int32} {x : Option Nat} (hg : ia_ldR h a i = some x) : ∃ (n : Nat) (f : Nat → Option Nat), ia_c h a = .inl (4, n, .inr (.inr (.inr (.inr f)))) ∧ vp_in i n ∧ x = f i.toNatClampNeg := by
  unfold ia_ldR at hg
  split at hg
  · rename_i t' n f hc
    split at hg
    · rename_i he
      obtain ⟨he, hk⟩ := he
      subst he
      cases hg
      exact ⟨n, f, hc, hk, rfl⟩
    · cases hg
  · cases hg
theorem is_stR {h h' : ia_H} {a v : Nat} {i : Int32} (hg : ia_stR h a i v = some h') : ∃ (n : Nat) (f : Nat → Option Nat) (w : Value) (fs : List Value), ia_c h a = .inl (4, n, .inr (.inr (.inr (.inr f)))) ∧ ia_c h v = .inr (5, w :: fs) ∧ vp_in i n ∧ h' = ia_up h a (.inl (4, n, .inr (.inr (.inr (.inr (va_up f i.toNatClampNeg (some v))))))) := by
  unfold ia_stR at hg
  split at hg
  · rename_i t' n f c w fs hc hv
    split at hg
    · rename_i he
      obtain ⟨he, he2, hk⟩ := he
      subst he
      subst he2
      cases hg
      exact ⟨n, f, w, fs, hc, hv, hk, rfl⟩
    · cases hg
  · cases hg
theorem is_len {h : ia_H} {a : Nat} {x : Int32} (hg : ia_len h a = some x) : ∃ (t : Nat) (q : vp_A), ia_c h a = .inl (t, q) ∧ t < 5 ∧ Int32.ofNat q.1 = x := by
  unfold ia_len at hg
  split at hg
  · rename_i t' n q hc
    split at hg
    · rename_i he
      cases hg
      exact ⟨t', (n, q), hc, he, rfl⟩
    · cases hg
  · cases hg
theorem is_cp {h h' : ia_H} {a a1 : Nat} {sp dp n : Int32} (hg : ia_cp h a a1 sp dp n = some h') : ∃ (n0 n1 : Nat) (f g : Nat → Int32), ia_c h a = .inl (0, n0, .inl f) ∧ ia_c h a1 = .inl (0, n1, .inl g) ∧ ¬ sp < 0 ∧ ¬ dp < 0 ∧ ¬ n < 0 ∧ sp.toNatClampNeg + n.toNatClampNeg ≤ n0 ∧ dp.toNatClampNeg + n.toNatClampNeg ≤ n1 ∧ h' = ia_up h a1 (.inl (0, n1, .inl (va_cpy f g sp.toNatClampNeg dp.toNatClampNeg n.toNatClampNeg))) := by
  unfold ia_cp at hg
  split at hg
  · rename_i t0 n0 f t1 n1 g hc hc1
    split at hg
    · rename_i he
      obtain ⟨e0, e1, q1, q2, q3, q4, q5⟩ := he
      subst e0
      subst e1
      cases hg
      exact ⟨n0, n1, f, g, hc, hc1, q1, q2, q3, q4, q5, rfl⟩
    · cases hg
  · cases hg
/-! the relation -/
theorem is_Rl.lt {D : is_D} {z b : Nat} {sc : Nat × (Nat → Int32)} {h : ia_H} {H : Heap} (r : is_Rl D z b sc h H) {a : Nat} (hd : ia_c h a ≠ ia_dead) : a < h.1 := by
  rcases Nat.lt_or_ge a h.1 with q | q
  · exact q
  · exact absurd (r.2.2.1 a q) hd
theorem is_Rl.at {D : is_D} {z b : Nat} {sc : Nat × (Nat → Int32)} {h : ia_H} {H : Heap} (r : is_Rl D z b sc h H) {a : Nat} {e : ia_E} (he : ia_c h a = e) (hd : e ≠ ia_dead) : va_at D.1 cb_cl (z + a, is_E D z b e) H := by
  subst he
  exact r.2.1 a (r.lt hd)
theorem is_nd1 {q : Nat × vp_A} : (.inl q : ia_E) ≠ ia_dead := fun h => by cases h
theorem is_nd2 {c k : Nat} {fs : List Value} {v : Value} (h : fs[k]? = some v) : (.inr (c, fs) : ia_E) ≠ ia_dead := by
  intro e
  cases e
  cases h
theorem is_nd3 {c k : Nat} {fs : List Value} (h : k < fs.length) : (.inr (c, fs) : ia_E) ≠ ia_dead := by
  intro e
  cases e
  cases h
theorem is_Rl.up {D : is_D} {z b : Nat} {sc : Nat × (Nat → Int32)} {h : ia_H} {H H1 : Heap} (r : is_Rl D z b sc h H) {a : Nat} {e' : ia_E} (ha : a < h.1) (hv : va_at D.1 cb_cl (z + a, is_E D z b e') H1) (hz : H1.size = H.size) (oq : ∀ q : Nat, q ≠ z + a → H1[q]? = H[q]?) : is_Rl D z b sc (ia_up h a e') H1 := by
  refine ⟨hz.trans r.1, fun k hk => ?_, fun k hk => ?_, r.2.2.2⟩
  · by_cases e : k = a
    · subst e
      simp only [ia_c, ia_up, if_true]
      exact hv
    · simp only [ia_c, ia_up, if_neg e]
      exact va_at.kept (r.2.1 k hk) (oq (z + k) (by omega))
  · have : ¬ k = a := by have : h.1 ≤ k := hk; omega
    simp only [ia_c, ia_up, if_neg this]
    exact r.2.2.1 k hk
theorem is_Rl.new {D : is_D} {z b : Nat} {sc : Nat × (Nat → Int32)} {h : ia_H} {H H1 : Heap} (r : is_Rl D z b sc h H) {n : Nat} {e' : ia_E} (hv : va_at D.1 cb_cl (z + h.1, is_E D z b e') H1) (hz : H1.size = H.size + 1) (oq : ∀ q : Nat, q < H.size → H1[q]? = H[q]?) : is_Rl D z b sc (ia_new h n e') H1 := by
  refine ⟨by rw [hz, r.1]; rfl, fun k hk => ?_, fun k hk => ?_, r.2.2.2⟩
  · by_cases e : k = h.1
    · subst e
      simp only [ia_c, ia_new, if_true]
      exact hv
    · have hk' : k < h.1 := by have : k < h.1 + 1 := hk; omega
      simp only [ia_c, ia_new, if_neg e]
      exact va_at.kept (r.2.1 k hk') (oq (z + k) (by rw [r.1]; omega))
  · have hk' : h.1 + 1 ≤ k := hk
    have : ¬ k = h.1 := by omega
    simp only [ia_c, ia_new, if_neg this]
    exact r.2.2.1 k (by omega)
theorem is_S.put {z : Nat} {H0 H H1 : Heap} {locs : List Loc} {a k : Nat} (h : va_S (fun q => z ≤ q) H0 H locs) (hz : H1.size = H.size) (oq : ∀ q : Nat, q ≠ z + a → H1[q]? = H[q]?) : va_S (fun q => z ≤ q) H0 H1 (locs ++ [⟨z + a, k⟩]) := h.put hz oq (Nat.le_add_right z a)
theorem is_S.new {z : Nat} {H0 H H1 : Heap} {locs : List Loc} (h : va_S (fun q => z ≤ q) H0 H locs) (hz : H1.size = H.size + 1) (oq : ∀ q : Nat, q < H.size → H1[q]? = H[q]?) : va_S (fun q => z ≤ q) H0 H1 locs :=
  ⟨Nat.le_trans h.1 (by omega), fun q h1 h2 => (oq q (Nat.lt_of_lt_of_le h1 h.1)).trans (h.2.1 q h1 h2), h.2.2⟩
/-! fields -/
/-- the link of a field: among the good words, or a nest mate's -/
def is_fl (t : is_M) (index : Nat) (q : String × String × String × Bool) : Prop := Cond.fieldLink t.1.cls index q.1 q.2.1 q.2.2.1 ∈ cb_gw ∨ ∃ host, Cond.fieldLinkNest t.1.cls index q.1 q.2.1 q.2.2.1 host ∈ cb_nw
section ISH
variable {t : is_M} {p : Program} {l : Launch} {e : Env} {R : Room} {s : State} {m : MethodId} {args : Array Value} {below : List Frame} {meth : Method} {c : Code} {D : is_D} {z b : Nat} {sc : Nat × (Nat → Int32)} {H0 H : Heap} {locs : List Loc} {cells slots : Nat} {Q : State → Prop} {pc : Nat} {ls : Array Slot} {rest : List Value}
theorem is_get (C : is_Cx t p l R s m args meth c D z b sc H0) {h : ia_H} (r : is_Rl D z b sc h H) {ci a k : Nat} {fs : List Value} {v : Value} (he : ia_c h a = .inr (ci, fs)) (hv : fs[k]? = some v) {Cn : String} {T : u_T} {N index : Nat} (hc : cb_cl[ci]? = some (Cn, T, N)) (hin : ∀ w ∈ u_ws Cn T N, w ∈ cb_gw) (hk : k < N) (hl : is_fl t index (T k)) (hdg : decode (is_cc t) pc = .ok (.getfield index, 3))
    (kk : W p l e R s m args below meth c H locs cells slots Q (F0 m (pc + 3) ls (is_tr z b v :: rest))) : W p l e R s m args below meth c H locs cells slots Q (F0 m pc ls (.ref (z + a) :: rest)) := by
  obtain ⟨hx, hb, hml, hown, hts, hnw, hao, hK, hnm, hX, hbz, hzH, hRf, hRl, hLw⟩ := C
  have hat : va_P D.1 cb_cl [(z + a, .inr (ci, fs.map (is_tr z b)))] H := by
    intro k q hq
    have hz : k < 1 := (List.getElem?_eq_some_iff.mp hq).1
    rw [show k = 0 by omega] at hq
    cases hq
    exact r.at he (is_nd2 hv)
  have hv' : (fs.map (is_tr z b))[k]? = some (is_tr z b v) := by rw [List.getElem?_map, hv]; rfl
  rcases hl with hl | ⟨host, hl⟩
  · exact va_get hx hb hts hin hown hK hat 0 rfl hc k hk (hts _ hl) (fun _ h => h) hv' hdg kk
  · exact va_getN hx hb hts hin hown hK hat 0 rfl hc k hk (va_Nw.use rfl (hnw _ hl)) (fun _ h => h) hv' hdg kk
theorem is_put (C : is_Cx t p l R s m args meth c D z b sc H0) {h : ia_H} (r : is_Rl D z b sc h H) (S : va_S (fun q => z ≤ q) H0 H locs) {ci a k : Nat} {fs : List Value} {v : Value} (he : ia_c h a = .inr (ci, fs)) (hlen : k < fs.length) {Cn : String} {T : u_T} {N index : Nat} (hc : cb_cl[ci]? = some (Cn, T, N)) (hin : ∀ w ∈ u_ws Cn T N, w ∈ cb_gw) (ty0 : Nat → FieldType) (hty : ∀ k, k < N → parseFieldDescriptor (T k).2.2.1 = some (ty0 k)) (hnm : ∀ a, a < N → ∀ b, b < N → a ≠ b → (T a).2.1 ≠ (T b).2.1) (hk : k < N)
    (hl : (is_fl t index (T k) ∧ (T k).2.2.2 = false) ∨ (Cond.fieldLink t.1.cls index (T k).1 (T k).2.1 (T k).2.2.1 ∈ cb_gw ∧ (T k).2.2.2 = true ∧ t.1.name = "<init>" ∧ (T k).1 = t.1.cls)) (hn : narrow (ty0 k) (is_tr z b v) = is_tr z b v) (hfit : fits (ty0 k) (is_tr z b v) = true) (hdg : decode (is_cc t) pc = .ok (.putfield index, 3))
    (kk : ∀ (H1 : Heap) (locs1 : List Loc), is_Rl D z b sc (ia_up h a (.inr (ci, fs.set k v))) H1 → va_S (fun q => z ≤ q) H0 H1 locs1 → W p l e R s m args below meth c H1 locs1 cells slots Q (F0 m (pc + 3) ls rest)) : W p l e R s m args below meth c H locs cells slots Q (F0 m pc ls (is_tr z b v :: .ref (z + a) :: rest)) := by
  obtain ⟨hx, hb, hml, hown, hts, hnw, hao, hK, hname, hX, hbz, hzH, hRf, hRl, hLw⟩ := C
  have hap := va_apart (own := t.1.cls) hts hin ty0 hty hnm hK hc
  have hlt : a < h.1 := r.lt (by rw [he]; exact is_nd3 hlen)
  obtain ⟨r0, h1, cell, q1, q2, q3, q4⟩ := r.at he (is_nd3 hlen)
  have hr : r0 = (Cn, T, N) := Option.some.inj (h1.symm.trans hc)
  subst hr
  obtain ⟨hSl, hfc, kC, hkC, hkind⟩ := hK.1 ci _ hc
  obtain ⟨cf, kf, fi, f, hi, hsl⟩ := hSl k hk
  have hst := (u_facts hfc hkC (u_lays hts hin hk) hi).1
  have hd := hty k hk
  have fin : ∀ H' : Heap, H'[z + a]? = some (cell.setSlot f.slot (is_tr z b v)) → H'.size = H.size → (∀ q, q ≠ z + a → H'[q]? = H[q]?) → W p l e R s m args below meth c H' (locs ++ [⟨z + a, f.slot⟩]) cells slots Q (F0 m (pc + 3) ls rest) := by
    intro H' e1 e2 e3
    refine kk H' _ (r.up hlt ?_ e2 e3) (is_S.put S e2 e3)
    rw [hsl] at e1
    refine ⟨_, hc, t_OB.to (V := updV (vp_V (fs.map (is_tr z b))) k (is_tr z b v)) ⟨_, e1, q2, q3, t_set q4 hap hk _⟩ (fun j _ => ?_)⟩
    rw [vp_updV_set (by rw [List.length_map]; exact hlen), ← List.map_set]
  rcases hl with ⟨hl, hfin⟩ | ⟨hl, hfin, hin2, hdecl⟩
  · have hlay := hts _ (hin _ (u_in_lay hk))
    unfold u_lay at hlay
    rw [if_neg (by rw [hfin]; decide)] at hlay
    have h6 := u_store hfc hkC hkind hlay hi hd hn hfit
    rcases hl with hl | ⟨host, hl⟩
    · exact W.putK hx hb (f := f) ⟨hown, hts _ hl, ⟨_, _, _, hi⟩, hst⟩ (by rw [q2]; exact h6) q1 q3 (by rw [hsl]; exact k2_hasslot (q4 k hk)) rfl rfl hdg fin
    · exact va_WputK hx hb (f := f) hown (va_Nw.use rfl (hnw _ hl)) hi hst (by rw [q2]; exact h6) q1 q3 (by rw [hsl]; exact k2_hasslot (q4 k hk)) rfl rfl hdg fin
  · have hlay := hts _ (hin _ (u_in_lay hk))
    unfold u_lay at hlay
    rw [if_pos hfin] at hlay
    have hcf : m.cls = cf := by
      obtain ⟨_, _, c', _, _, _, -, -, hf', -, -, -, hown2, -⟩ := Cond.laysFinal_spec hlay
      have e1 : c' = cf := by have := hi.symm.trans hf'; simp at this; exact this.1.symm
      rw [hdecl] at hown2
      rw [← e1]; exact Option.some.inj (hown.symm.trans hown2)
    have h6 := u_fits hfc hkC hkind (Or.inr hlay) hi hd hn hfit
    exact W.putFinK hx hb hown (hts _ hl) hi hst hcf (hname.trans hin2) (by rw [q2]; exact h6) q1 q3 (by rw [hsl]; exact k2_hasslot (q4 k hk)) rfl rfl hdg fin
end ISH
theorem ok_getI {t : is_M} {k ci f : Nat} {Cn : String} {T : u_T} {N index : Nat} (hc : cb_cl[ci]? = some (Cn, T, N)) (hin : ∀ w ∈ u_ws Cn T N, w ∈ cb_gw) (hk : f < N) (hl : is_fl t index (T f)) (A : is_At t k (.getfield index) 3) : is_Ok t k (ia_getI ci f) := by
  intro L st h k' L' st' h' hf
  unfold ia_getI at hf
  split at hf
  · obtain ⟨x, hg, hf⟩ := Option.map_eq_some_iff.mp hf
    cases hf
    obtain ⟨fs, h1, h2⟩ := is_gI hg
    refine ⟨Nat.le_refl _, Nat.le_refl _, ?_⟩
    intro p l e R s m args below meth c D z b sc H0 nx0 sn0 Q C hn hs hcl hsl F H locs ls r S lh
    have w := F H locs ls r S lh
    rw [A.1] at w
    exact is_get C r h1 h2 hc hin hk hl A.2 w
  · cases hf
theorem ok_getR {t : is_M} {k ci f : Nat} {Cn : String} {T : u_T} {N index : Nat} (hc : cb_cl[ci]? = some (Cn, T, N)) (hin : ∀ w ∈ u_ws Cn T N, w ∈ cb_gw) (hk : f < N) (hl : is_fl t index (T f)) (A : is_At t k (.getfield index) 3) : is_Ok t k (ia_getR ci f) := by
  intro L st h k' L' st' h' hf
  unfold ia_getR at hf
  split at hf
  · obtain ⟨x, hg, hf⟩ := Option.map_eq_some_iff.mp hf
    cases hf
    obtain ⟨fs, h1, h2⟩ := is_gR hg
    refine ⟨Nat.le_refl _, Nat.le_refl _, ?_⟩
    intro p l e R s m args below meth c D z b sc H0 nx0 sn0 Q C hn hs hcl hsl F H locs ls r S lh
    have w := F H locs ls r S lh
    rw [A.1] at w
    exact is_get C r h1 h2 hc hin hk hl A.2 w
  · cases hf
/-- the link of a field that is written -/
def is_pl (t : is_M) (index : Nat) (q : String × String × String × Bool) : Prop := (is_fl t index q ∧ q.2.2.2 = false) ∨ (Cond.fieldLink t.1.cls index q.1 q.2.1 q.2.2.1 ∈ cb_gw ∧ q.2.2.2 = true ∧ t.1.name = "<init>" ∧ q.1 = t.1.cls)

theorem is_P1 {D : va_G} {cl : List vw_C} {q : Nat × va_E} {H : Heap} (h : va_at D cl q H) : va_P D cl [q] H := by
  intro k q' hq
  have hz : k < 1 := (List.getElem?_eq_some_iff.mp hq).1
  rw [show k = 0 by omega] at hq
  cases hq
  exact h
/-- the words of a stack -/
theorem is_w_sum (z b : Nat) (st : List Value) : ((st.map (is_tr z b)).map fun v => v.category).sum = ia_w st := by
  induction st with
  | nil => rfl
  | cons v st ih =>
    simp only [List.map_cons, List.sum_cons, ia_w, ih, is_cat]
section ISC
variable {p : Program} {l : Launch} {e : Env} {R : Room} {s : State} {m : MethodId} {args : Array Value} {below : List Frame} {meth : Method} {c : Code} {H : Heap} {locs : List Loc} {cells slots : Nat} {Q : State → Prop} {cc : ByteArray} {pc : Nat} {ls : Array Slot} {rest : List Value}
theorem is_copyi (hexec : p.tables.exec = Jvm.exec) (hb : c.code = cc) (hml : c.maxLocals = ls.size) {own : String} {index : Nat} (hown : s.vm.findClass own = some m.cls) (hlink : (Cond.methodLink own index arraycopyName).before args s = true) (hnat : (Cond.native arraycopyName).before args s = true) (hstat : (Cond.static arraycopyName).before args s = true) (hini : (Cond.initialized "java/lang/System").before args s = true)
    {a0 a : Nat} {cI : ClassId} {n0 n1 : Nat} {f g : Nat → Int32} (harr : ArrOfT s cI .int) (hc0 : H[a0]? = some (vp_cell cI (n0, .inl f))) (hc1 : H[a]? = some (vp_cell cI (n1, .inl g)))
    {sp dp n : Int32} (h1 : ¬ sp < 0) (h2 : ¬ dp < 0) (h3 : ¬ n < 0) (h4 : sp.toNatClampNeg + n.toNatClampNeg ≤ n0) (h5 : dp.toNatClampNeg + n.toNatClampNeg ≤ n1)
    (hframes : 1 ≤ R.frames) (hlocals : (rest.map fun v => v.category).sum + (nativeFrameWords "java/lang/System" "arraycopy" 5 + 11) ≤ R.locals) (hdg : decode cc pc = .ok (.invokestatic index, 3))
    (kk : ∀ (H1 : Heap) (L1 : List Loc), H1[a]? = some (vp_cell cI (n1, .inl (va_cpy f g sp.toNatClampNeg dp.toNatClampNeg n.toNatClampNeg))) → H1.size = H.size → (∀ q : Nat, q ≠ a → H1[q]? = H[q]?) → (∀ q ∈ L1, q.base = a) → W p l e R s m args below meth c H1 (locs ++ L1) cells slots Q (F0 m (pc + 3) ls rest)) : W p l e R s m args below meth c H locs cells slots Q (F0 m pc ls (.int n :: .int dp :: .ref a :: .int sp :: .ref a0 :: rest)) := by
  have nn : ∀ z : Int32, ¬ z < 0 → z.toInt = (z.toNatClampNeg : Int) := by
    intro z hz
    have hz0 : (0 : Int) ≤ z.toInt := by
      have := Int32.not_lt.mp hz
      simpa using Int32.le_iff_toInt_le.mp this
    show z.toInt = ((z.toInt.toNat : Nat) : Int)
    omega
  intro T hT X
  obtain ⟨-, k0, hk0, cm0, hkk0⟩ := harr n0 (fun j => .int (f j))
  obtain ⟨-, k1, hk1, cm1, hkk1⟩ := harr n1 (fun j => .int (g j))
  obtain ⟨vm', X', step⟩ := X.arraycopy hexec hown hlink hnat hstat hini (src := a0) (dst := a) (cs := vp_cell cI (n0, .inl f)) (cd := vp_cell cI (n1, .inl g)) (srcPos := sp) (destPos := dp) (n := n) (by rw [hT]; exact hc0) (by rw [hT]; exact hc1)
    (fun _ h => by cases h) (fun _ h => by cases h) (fun h => by cases h) (fun h => by cases h) hk0 hk1 hkk0 hkk1 (by simp [refKind]) h1 h2 h3
    (by rw [nn sp h1, nn n h3]; show ¬ _ > ((arrV cI n0 (fun j => .int (f j))).slots.size : Int); rw [arrV_size]; omega)
    (by rw [nn dp h2, nn n h3]; show ¬ _ > ((arrV cI n1 (fun j => .int (g j))).slots.size : Int); rw [arrV_size]; omega)
    (fun vm₁ _ i hi => by
      have e : (vp_cell cI (n0, .inl f)).slots.getD (sp.toNatClampNeg + i) .null = .int (f (sp.toNatClampNeg + i)) := by
        show (arrV cI n0 (fun j => .int (f j))).slots.getD _ _ = _
        rw [Array.getD_eq_getD_getElem?, arrV_read _ _ (by omega)]
        rfl
      refine ⟨?_, ?_⟩
      · rw [e]
        rfl
      · rw [e]
        exact trivial)
    (g := F0 m pc ls (.int n :: .int dp :: .ref a :: .int sp :: .ref a0 :: rest)) rfl (by rw [hml]) (rest := rest) rfl (by rw [hb]; exact hdg) hframes (by show 2 * 0 + _ + _ ≤ _; omega)
  have e1 : copied (vp_cell cI (n0, .inl f)) (vp_cell cI (n1, .inl g)) sp dp n = vp_cell cI (n1, .inl (va_cpy f g sp.toNatClampNeg dp.toNatClampNeg n.toNatClampNeg)) := va_copied (fun z => .int z) cI cI f g h4
  rw [e1] at X' step
  have hl : a < H.size := (Array.getElem?_eq_some_iff.mp hc1).1
  have hheap : ((T.setVm vm').setCell a (vp_cell cI (n1, .inl (va_cpy f g sp.toNatClampNeg dp.toNatClampNeg n.toNatClampNeg)))).heap = H.setIfInBounds a (vp_cell cI (n1, .inl (va_cpy f g sp.toNatClampNeg dp.toNatClampNeg n.toNatClampNeg))) := by rw [← hT]; rfl
  obtain ⟨t, a1, b1⟩ := kk _ _ (show (H.setIfInBounds a _)[a]? = some _ by simp [Array.getElem?_setIfInBounds, hl]) (by simp) (fun q hq => by simp [Array.getElem?_setIfInBounds, Ne.symm hq]) (fun q hq => by
      obtain ⟨z, -, hz⟩ := List.mem_map.mp hq
      rw [← hz]) _ hheap X'
  exact ⟨t, step t a1, b1⟩
end ISC

theorem ok_putI {t : is_M} {k ci f : Nat} {Cn : String} {T : u_T} {N index : Nat} (hc : cb_cl[ci]? = some (Cn, T, N)) (hin : ∀ w ∈ u_ws Cn T N, w ∈ cb_gw) (ty0 : Nat → FieldType) (hty : ∀ k, k < N → parseFieldDescriptor (T k).2.2.1 = some (ty0 k)) (hnm : ∀ a, a < N → ∀ b, b < N → a ≠ b → (T a).2.1 ≠ (T b).2.1) (hk : f < N) (hl : is_pl t index (T f)) (hy : ty0 f = .int) (A : is_At t k (.putfield index) 3) : is_Ok t k (ia_putI ci f) := by
  intro L st h k' L' st' h' hf
  unfold ia_putI at hf
  split at hf
  · obtain ⟨x, hg, hf⟩ := Option.map_eq_some_iff.mp hf
    cases hf
    obtain ⟨fs, h1, h2, rfl⟩ := is_pF hg
    refine ⟨Nat.le_refl _, Nat.le_refl _, ?_⟩
    intro p l e R s m args below meth c D z b sc H0 nx0 sn0 Q C hn hs hcl hsl F H locs ls r S lh
    refine is_put C r S h1 h2 hc hin ty0 hty hnm hk hl (by rw [hy]; rfl) (by rw [hy]; rfl) A.2 (fun H1 locs1 r1 S1 => ?_)
    have w := F H1 locs1 ls r1 S1 lh
    rw [A.1] at w
    exact w
  · cases hf
theorem ok_putR {t : is_M} {k ci f : Nat} {Cn : String} {T : u_T} {N index : Nat} (hc : cb_cl[ci]? = some (Cn, T, N)) (hin : ∀ w ∈ u_ws Cn T N, w ∈ cb_gw) (ty0 : Nat → FieldType) (hty : ∀ k, k < N → parseFieldDescriptor (T k).2.2.1 = some (ty0 k)) (hnm : ∀ a, a < N → ∀ b, b < N → a ≠ b → (T a).2.1 ≠ (T b).2.1) (hk : f < N) (hl : is_pl t index (T f)) (hy : (∃ C, ty0 f = .object C) ∨ ∃ u, ty0 f = .array u) (A : is_At t k (.putfield index) 3) : is_Ok t k (ia_putR ci f) := by
  intro L st h k' L' st' h' hf
  unfold ia_putR at hf
  split at hf
  · obtain ⟨x, hg, hf⟩ := Option.map_eq_some_iff.mp hf
    cases hf
    obtain ⟨fs, h1, h2, rfl⟩ := is_pF hg
    refine ⟨Nat.le_refl _, Nat.le_refl _, ?_⟩
    intro p l e R s m args below meth c D z b sc H0 nx0 sn0 Q C hn hs hcl hsl F H locs ls r S lh
    refine is_put C r S h1 h2 hc hin ty0 hty hnm hk hl (by rcases hy with ⟨_, hy⟩ | ⟨_, hy⟩ <;> (rw [hy]; rfl)) (by rcases hy with ⟨_, hy⟩ | ⟨_, hy⟩ <;> (rw [hy]; rfl)) A.2 (fun H1 locs1 r1 S1 => ?_)
    have w := F H1 locs1 ls r1 S1 lh
    rw [A.1] at w
    exact w
  · cases hf
theorem ok_putZ {t : is_M} {k ci f : Nat} {Cn : String} {T : u_T} {N index : Nat} (hc : cb_cl[ci]? = some (Cn, T, N)) (hin : ∀ w ∈ u_ws Cn T N, w ∈ cb_gw) (ty0 : Nat → FieldType) (hty : ∀ k, k < N → parseFieldDescriptor (T k).2.2.1 = some (ty0 k)) (hnm : ∀ a, a < N → ∀ b, b < N → a ≠ b → (T a).2.1 ≠ (T b).2.1) (hk : f < N) (hl : is_pl t index (T f)) (hy : ty0 f = .boolean) (A : is_At t k (.putfield index) 3) : is_Ok t k (ia_putZ ci f) := by
  intro L st h k' L' st' h' hf
  unfold ia_putZ at hf
  split at hf
  · split at hf
    · rename_i hz
      obtain ⟨x, hg, hf⟩ := Option.map_eq_some_iff.mp hf
      cases hf
      obtain ⟨fs, h1, h2, rfl⟩ := is_pF hg
      refine ⟨Nat.le_refl _, Nat.le_refl _, ?_⟩
      intro p l e R s m args below meth c D z b sc H0 nx0 sn0 Q C hn hs hcl hsl F H locs ls r S lh
      refine is_put C r S h1 h2 hc hin ty0 hty hnm hk hl (by rw [hy]; rcases hz with rfl | rfl <;> first | exact (show narrow .boolean (Value.int 0) = .int 0 by decide) | exact (show narrow .boolean (Value.int 1) = .int 1 by decide)) (by rw [hy]; rcases hz with rfl | rfl <;> rfl) A.2 (fun H1 locs1 r1 S1 => ?_)
      have w := F H1 locs1 ls r1 S1 lh
      rw [A.1] at w
      exact w
    · cases hf
  · cases hf
theorem ok_iald {t : is_M} {k : Nat} (A : is_At t k .iaload 1) : is_Ok t k ia_iald := by
  intro L st h k' L' st' h' hf
  unfold ia_iald at hf
  split at hf
  · obtain ⟨x, hg, hf⟩ := Option.map_eq_some_iff.mp hf
    cases hf
    obtain ⟨n, f, h1, h2, rfl⟩ := is_ld hg
    refine ⟨Nat.le_refl _, Nat.le_refl _, ?_⟩
    intro p l e R s m args below meth c D z b sc H0 nx0 sn0 Q C hn hs hcl hsl F H locs ls r S lh
    have w := F H locs ls r S lh
    rw [A.1] at w
    obtain ⟨hx, hb, hml, hown, hts, hnw, hao, hK, hnm, hX, hbz, hzH, hRf, hRl, hLw⟩ := C
    have hat := is_P1 (r.at h1 is_nd1)
    exact va_iald hx hb hK hat 0 0 rfl rfl h2 A.2 w
  · split at hf
    · cases hf
    · rename_i hi
      cases hf
      refine ⟨Nat.le_refl _, Nat.le_refl _, ?_⟩
      intro p l e R s m args below meth c D z b sc H0 nx0 sn0 Q C hn hs hcl hsl F H locs ls r S lh
      have w := F H locs ls r S lh
      rw [A.1] at w
      obtain ⟨hx, hb, hml, hown, hts, hnw, hao, hK, hnm, hX, hbz, hzH, hRf, hRl, hLw⟩ := C
      have hsc : h.2.2.1 = sc := r.2.2.2
      rw [hsc] at hi w
      exact va_sld hx hb hX (Nat.lt_of_lt_of_le hbz hzH) (by show ¬ z ≤ b; omega) S hi A.2 w
  · cases hf
theorem ok_bald {t : is_M} {k : Nat} (A : is_At t k .baload 1) : is_Ok t k (ia_ald 3) := by
  intro L st h k' L' st' h' hf
  unfold ia_ald at hf
  split at hf
  · obtain ⟨x, hg, hf⟩ := Option.map_eq_some_iff.mp hf
    cases hf
    obtain ⟨n, f, h1, h2, rfl⟩ := is_ld hg
    refine ⟨Nat.le_refl _, Nat.le_refl _, ?_⟩
    intro p l e R s m args below meth c D z b sc H0 nx0 sn0 Q C hn hs hcl hsl F H locs ls r S lh
    have w := F H locs ls r S lh
    rw [A.1] at w
    obtain ⟨hx, hb, hml, hown, hts, hnw, hao, hK, hnm, hX, hbz, hzH, hRf, hRl, hLw⟩ := C
    have hat := is_P1 (r.at h1 is_nd1)
    exact va_bald hx hb hK hat 0 3 rfl rfl h2 A.2 w
  · cases hf
theorem ok_cald {t : is_M} {k : Nat} (A : is_At t k .caload 1) : is_Ok t k (ia_ald 2) := by
  intro L st h k' L' st' h' hf
  unfold ia_ald at hf
  split at hf
  · obtain ⟨x, hg, hf⟩ := Option.map_eq_some_iff.mp hf
    cases hf
    obtain ⟨n, f, h1, h2, rfl⟩ := is_ld hg
    refine ⟨Nat.le_refl _, Nat.le_refl _, ?_⟩
    intro p l e R s m args below meth c D z b sc H0 nx0 sn0 Q C hn hs hcl hsl F H locs ls r S lh
    have w := F H locs ls r S lh
    rw [A.1] at w
    obtain ⟨hx, hb, hml, hown, hts, hnw, hao, hK, hnm, hX, hbz, hzH, hRf, hRl, hLw⟩ := C
    have hat := is_P1 (r.at h1 is_nd1)
    exact va_cald hx hb hK hat 0 2 rfl rfl h2 A.2 w
  · cases hf
theorem ok_lald {t : is_M} {k : Nat} (A : is_At t k .laload 1) : is_Ok t k ia_lald := by
  intro L st h k' L' st' h' hf
  unfold ia_lald at hf
  split at hf
  · obtain ⟨x, hg, hf⟩ := Option.map_eq_some_iff.mp hf
    cases hf
    obtain ⟨n, f, h1, h2, rfl⟩ := is_ldL hg
    refine ⟨Nat.le_refl _, Nat.le_refl _, ?_⟩
    intro p l e R s m args below meth c D z b sc H0 nx0 sn0 Q C hn hs hcl hsl F H locs ls r S lh
    have w := F H locs ls r S lh
    rw [A.1] at w
    obtain ⟨hx, hb, hml, hown, hts, hnw, hao, hK, hnm, hX, hbz, hzH, hRf, hRl, hLw⟩ := C
    have hat := is_P1 (r.at h1 is_nd1)
    exact va_lald hx hb hK hat 0 1 rfl rfl h2 A.2 w
  · cases hf
theorem ok_rald {t : is_M} {k : Nat} (A : is_At t k .aaload 1) : is_Ok t k ia_rald := by
  intro L st h k' L' st' h' hf
  unfold ia_rald at hf
  split at hf
  · obtain ⟨x, hg, hf⟩ := Option.map_eq_some_iff.mp hf
    cases hf
    obtain ⟨n, f, h1, h2, rfl⟩ := is_ldR hg
    refine ⟨Nat.le_refl _, Nat.le_refl _, ?_⟩
    intro p l e R s m args below meth c D z b sc H0 nx0 sn0 Q C hn hs hcl hsl F H locs ls r S lh
    have w := F H locs ls r S lh
    rw [A.1] at w
    obtain ⟨hx, hb, hml, hown, hts, hnw, hao, hK, hnm, hX, hbz, hzH, hRf, hRl, hLw⟩ := C
    have hat := is_P1 (r.at h1 is_nd1)
    exact va_aldq hx hb hK hat 0 4 rfl rfl h2 A.2 (by
      have e : ∀ q : Option Nat, is_tr z b (va_rf q) = va_rf (q.map (z + ·)) := fun q => by cases q <;> rfl
      rw [List.map_cons, e] at w
      exact w)
  · cases hf
theorem ok_iast {t : is_M} {k : Nat} (A : is_At t k .iastore 1) : is_Ok t k ia_iast := by
  intro L st h k' L' st' h' hf
  unfold ia_iast at hf
  split at hf
  · rename_i x i a st1
    obtain ⟨h2, hg, hf⟩ := Option.map_eq_some_iff.mp hf
    cases hf
    obtain ⟨n, f, h1, hin, rfl⟩ := is_st hg
    refine ⟨Nat.le_refl _, Nat.le_refl _, ?_⟩
    intro p l e R s m args below meth c D z b sc H0 nx0 sn0 Q C hn hs hcl hsl F H locs ls r S lh
    obtain ⟨hx, hb, hml, hown, hts, hnw, hao, hK, hnm, hX, hbz, hzH, hRf, hRl, hLw⟩ := C
    have hat := r.at h1 is_nd1
    refine W.iast hx hb hat ((hK.2 0 _ rfl).1 n (fun j => .int (f j))) (fun q => by cases q) (by show ¬ (i < 0 ∨ (arrV _ _ _).slots.size ≤ _); rw [arrV_size]; exact hin) rfl rfl A.2 fun H1 e1 z1 oq => ?_
    have w := F H1 _ ls (r.up (r.lt (by rw [h1]; exact is_nd1)) ?_ z1 oq) (is_S.put (k := i.toNatClampNeg) S z1 oq) lh
    · rw [A.1] at w
      exact w
    · show H1[z + a]? = some (vp_cell _ _)
      rw [e1]
      show some ((vp_cell (D.2 0) (n, .inl f)).setSlot _ _) = some (vp_cell (D.2 0) (n, .inl _))
      rw [vp_cell_i, vp_cell_i, arrV_store]
      congr 2
      funext q
      by_cases hq : q = i.toNatClampNeg
      · subst hq
        simp [updV, upd, narrow]
      · simp [updV, upd, hq]
  · cases hf
theorem ok_bast {t : is_M} {k : Nat} (A : is_At t k .bastore 1) : is_Ok t k ia_bast := by
  intro L st h k' L' st' h' hf
  unfold ia_bast at hf
  split at hf
  · rename_i x i a st1
    obtain ⟨h2, hg, hf⟩ := Option.map_eq_some_iff.mp hf
    cases hf
    obtain ⟨n, f, h1, hin, rfl⟩ := is_st hg
    refine ⟨Nat.le_refl _, Nat.le_refl _, ?_⟩
    intro p l e R s m args below meth c D z b sc H0 nx0 sn0 Q C hn hs hcl hsl F H locs ls r S lh
    obtain ⟨hx, hb, hml, hown, hts, hnw, hao, hK, hnm, hX, hbz, hzH, hRf, hRl, hLw⟩ := C
    have hat := r.at h1 is_nd1
    refine W.bast hx hb hat ((hK.2 3 _ rfl).1 n (fun j => .int (f j))) (fun q => by cases q) (by show ¬ (i < 0 ∨ (arrV _ _ _).slots.size ≤ _); rw [arrV_size]; exact hin) rfl rfl A.2 fun H1 e1 z1 oq => ?_
    have w := F H1 _ ls (r.up (r.lt (by rw [h1]; exact is_nd1)) ?_ z1 oq) (is_S.put (k := i.toNatClampNeg) S z1 oq) lh
    · rw [A.1] at w
      exact w
    · show H1[z + a]? = some (vp_cell _ _)
      rw [e1]
      show some ((vp_cell (D.2 3) (n, .inl f)).setSlot _ _) = some (vp_cell (D.2 3) (n, .inl _))
      rw [vp_cell_i, vp_cell_i, arrV_store]
      congr 2
      funext q
      by_cases hq : q = i.toNatClampNeg
      · subst hq
        simp [updV, upd, narrow]
      · simp [updV, upd, hq]
  · cases hf
theorem ok_cast {t : is_M} {k : Nat} (A : is_At t k .castore 1) : is_Ok t k ia_cast := by
  intro L st h k' L' st' h' hf
  unfold ia_cast at hf
  split at hf
  · rename_i x i a st1
    obtain ⟨h2, hg, hf⟩ := Option.map_eq_some_iff.mp hf
    cases hf
    obtain ⟨n, f, h1, hin, rfl⟩ := is_st hg
    refine ⟨Nat.le_refl _, Nat.le_refl _, ?_⟩
    intro p l e R s m args below meth c D z b sc H0 nx0 sn0 Q C hn hs hcl hsl F H locs ls r S lh
    obtain ⟨hx, hb, hml, hown, hts, hnw, hao, hK, hnm, hX, hbz, hzH, hRf, hRl, hLw⟩ := C
    have hat := r.at h1 is_nd1
    refine W.cast hx hb hat ((hK.2 2 _ rfl).1 n (fun j => .int (f j))) (fun q => by cases q) (by show ¬ (i < 0 ∨ (arrV _ _ _).slots.size ≤ _); rw [arrV_size]; exact hin) rfl rfl A.2 fun H1 e1 z1 oq => ?_
    have w := F H1 _ ls (r.up (r.lt (by rw [h1]; exact is_nd1)) ?_ z1 oq) (is_S.put (k := i.toNatClampNeg) S z1 oq) lh
    · rw [A.1] at w
      exact w
    · show H1[z + a]? = some (vp_cell _ _)
      rw [e1]
      show some ((vp_cell (D.2 2) (n, .inl f)).setSlot _ _) = some (vp_cell (D.2 2) (n, .inl _))
      rw [vp_cell_i, vp_cell_i, arrV_store]
      congr 2
      funext q
      by_cases hq : q = i.toNatClampNeg
      · subst hq
        simp [updV, upd, narrow]
      · simp [updV, upd, hq]
  · cases hf
theorem ok_last {t : is_M} {k : Nat} (A : is_At t k .lastore 1) : is_Ok t k ia_last := by
  intro L st h k' L' st' h' hf
  unfold ia_last at hf
  split at hf
  · rename_i x i a st1
    obtain ⟨h2, hg, hf⟩ := Option.map_eq_some_iff.mp hf
    cases hf
    obtain ⟨n, f, h1, hin, rfl⟩ := is_stL hg
    refine ⟨Nat.le_refl _, Nat.le_refl _, ?_⟩
    intro p l e R s m args below meth c D z b sc H0 nx0 sn0 Q C hn hs hcl hsl F H locs ls r S lh
    obtain ⟨hx, hb, hml, hown, hts, hnw, hao, hK, hnm, hX, hbz, hzH, hRf, hRl, hLw⟩ := C
    have hat := r.at h1 is_nd1
    refine W.last hx hb hat ((hK.2 1 _ rfl).1 n (fun j => .long (f j))) (fun q => by cases q) (by show ¬ (i < 0 ∨ (arrV _ _ _).slots.size ≤ _); rw [arrV_size]; exact hin) rfl rfl A.2 fun H1 e1 z1 oq => ?_
    have w := F H1 _ ls (r.up (r.lt (by rw [h1]; exact is_nd1)) ?_ z1 oq) (is_S.put (k := i.toNatClampNeg) S z1 oq) lh
    · rw [A.1] at w
      exact w
    · show H1[z + a]? = some (vp_cell _ _)
      rw [e1]
      show some ((vp_cell (D.2 1) (n, .inr (.inl f))).setSlot _ _) = some (vp_cell (D.2 1) (n, .inr (.inl _)))
      rw [vp_cell_l, vp_cell_l, arrV_store]
      congr 2
      funext q
      by_cases hq : q = i.toNatClampNeg
      · subst hq
        simp [updV, vp_updL]
      · simp [updV, vp_updL, hq]
  · cases hf
theorem ok_rast {t : is_M} {k : Nat} (A : is_At t k .aastore 1) : is_Ok t k ia_rast := by
  intro L st h k' L' st' h' hf
  unfold ia_rast at hf
  split at hf
  · rename_i v i a st1
    obtain ⟨h2, hg, hf⟩ := Option.map_eq_some_iff.mp hf
    cases hf
    obtain ⟨n, f, v0, fs, h1, hv, hin, rfl⟩ := is_stR hg
    refine ⟨Nat.le_refl _, Nat.le_refl _, ?_⟩
    intro p l e R s m args below meth c D z b sc H0 nx0 sn0 Q C hn hs hcl hsl F H locs ls r S lh
    obtain ⟨hx, hb, hml, hown, hts, hnw, hao, hK, hnm, hX, hbz, hzH, hRf, hRl, hLw⟩ := C
    have hat := r.at h1 is_nd1
    obtain ⟨r', hr', cellV, g1, g2, g3, -⟩ := r.at hv (is_nd2 (k := 0) rfl)
    have hcls := (hK.1 5 _ rfl).2
    obtain ⟨kA, comp, k1, k2, k3, -⟩ := (hK.2 4 _ rfl).2
    have hcomp : comp = D.1.1 5 := Option.some.inj (k3.symm.trans hcls.1)
    subst hcomp
    obtain ⟨kC, hkC, -⟩ := id hcls.2
    have hlt : i.toNatClampNeg < n := Nat.not_le.mp fun q => hin (Or.inr q)
    refine W.aast hx hb hat (fun q h => by cases h) (fun h => by cases h) k1 k2 rfl hkC ⟨fun q => hin (Or.inl q), by show _ < (arrV _ _ _).slots.size; rw [arrV_size]; exact hlt⟩ g1 (fun q h => by rw [g3] at h; cases h) (by rw [g2]; exact hkC) (by rw [g2]; exact va_assign hcls) rfl rfl A.2 fun H1 e1 z1 oq => ?_
    have w := F H1 _ ls (r.up (r.lt (by rw [h1]; exact is_nd1)) ?_ z1 oq) (is_S.put (k := i.toNatClampNeg) S z1 oq) lh
    · rw [A.1] at w
      exact w
    · show H1[z + a]? = some (vp_cell _ _)
      rw [e1]
      show some ((vp_cell (D.2 4) (n, .inr (.inr (.inr (.inr _))))).setSlot _ _) = some (vp_cell (D.2 4) (n, .inr (.inr (.inr (.inr _)))))
      rw [vp_cell_q, vp_cell_q, arrV_store]
      congr 2
      funext q
      by_cases hq : q = i.toNatClampNeg
      · subst hq
        simp [updV, va_up, va_rf]
      · simp [updV, va_up, hq]
  · cases hf
theorem ok_alen {t : is_M} {k : Nat} (A : is_At t k .arraylength 1) : is_Ok t k ia_alen := by
  intro L st h k' L' st' h' hf
  unfold ia_alen at hf
  split at hf
  · obtain ⟨x, hg, hf⟩ := Option.map_eq_some_iff.mp hf
    cases hf
    obtain ⟨ty, q, h1, h2, h3⟩ := is_len hg
    refine ⟨Nat.le_refl _, Nat.le_refl _, ?_⟩
    intro p l e R s m args below meth c D z b sc H0 nx0 sn0 Q C hn hs hcl hsl F H locs ls r S lh
    have w := F H locs ls r S lh
    rw [A.1] at w
    obtain ⟨hx, hb, hml, hown, hts, hnw, hao, hK, hnm, hX, hbz, hzH, hRf, hRl, hLw⟩ := C
    have hat := is_P1 (r.at h1 is_nd1)
    rcases (show ty = 0 ∨ ty = 1 ∨ ty = 2 ∨ ty = 3 ∨ ty = 4 by omega) with rfl | rfl | rfl | rfl | rfl
    · exact va_alen hx hb hK hat 0 0 rfl rfl h3 A.2 w
    · exact va_alen hx hb hK hat 0 1 rfl rfl h3 A.2 w
    · exact va_alen hx hb hK hat 0 2 rfl rfl h3 A.2 w
    · exact va_alen hx hb hK hat 0 3 rfl rfl h3 A.2 w
    · exact va_alen hx hb hK hat 0 4 rfl rfl h3 A.2 w
  · cases hf
    refine ⟨Nat.le_refl _, Nat.le_refl _, ?_⟩
    intro p l e R s m args below meth c D z b sc H0 nx0 sn0 Q C hn hs hcl hsl F H locs ls r S lh
    have w := F H locs ls r S lh
    rw [A.1] at w
    obtain ⟨hx, hb, hml, hown, hts, hnw, hao, hK, hnm, hX, hbz, hzH, hRf, hRl, hLw⟩ := C
    have hsc : h.2.2.1 = sc := r.2.2.2
    rw [hsc] at w
    exact va_slen hx hb hX (Nat.lt_of_lt_of_le hbz hzH) (by show ¬ z ≤ b; omega) S A.2 w
  · cases hf
theorem ok_newa_int {t : is_M} {k : Nat} (harr : Cond.arrayClass .int ∈ cb_gw) (A : is_At t k (.newarray .int) 2) : is_Ok t k (ia_newa 0) := by
  intro L st h k' L' st' h' hf
  unfold ia_newa at hf
  split at hf
  · rename_i n st1
    split at hf
    · rename_i hc
      obtain ⟨hn0, hn1⟩ := hc
      cases hf
      refine ⟨Nat.le_succ _, Nat.le_add_right _ _, ?_⟩
      intro p l e R s m args below meth c D z b sc H0 nx0 sn0 Q C hn hs hcl hsl F H locs ls r S lh
      have hcl' : h.1 + 1 - nx0 ≤ R.cells := hcl
      have hsl' : h.2.1 + n.toNatClampNeg - sn0 ≤ R.slots := hsl
      obtain ⟨hx, hb, hml, hown, hts, hnw, hao, hK, hnm, hX, hbz, hzH, hRf, hRl, hLw⟩ := C
      refine va_newaK hx hb (atype := .int) (hts _ harr) rfl A.2 rfl hn0 rfl (by show _ * componentBytes .int ≤ _; simp only [componentBytes]; omega) (by omega) (by omega) r.1 fun H1 cA e1 z1 o1 hAr hNm => ?_
      have hcA : cA = D.2 0 := by
        have h2 : s.vm.findClass ("[" ++ (.int : FieldType).toString) = some (D.2 0) := (hK.2 0 _ rfl).2
        exact Option.some.inj (hNm.symm.trans h2)
      subst hcA
      have oq : ∀ q : Nat, q < H.size → H1[q]? = H[q]? := fun q hq => o1 q (by rw [← r.1]; exact hq)
      have w := F H1 locs ls (r.new (n := n.toNatClampNeg) (e' := .inl (0, n.toNatClampNeg, ia_zero 0)) e1 (by rw [z1, r.1]) oq) (is_S.new S (by rw [z1, r.1]) oq) lh
      rw [A.1] at w
      have g1 : (ia_new h n.toNatClampNeg (.inl (0, n.toNatClampNeg, ia_zero 0))).1 - nx0 = h.1 - nx0 + 1 := by show h.1 + 1 - nx0 = _; omega
      have g2 : (ia_new h n.toNatClampNeg (.inl (0, n.toNatClampNeg, ia_zero 0))).2.1 - sn0 = h.2.1 - sn0 + n.toNatClampNeg := by show h.2.1 + n.toNatClampNeg - sn0 = _; omega
      rw [g1, g2] at w
      exact w
    · cases hf
  · cases hf
theorem ok_newa_long {t : is_M} {k : Nat} (harr : Cond.arrayClass .long ∈ cb_gw) (A : is_At t k (.newarray .long) 2) : is_Ok t k (ia_newa 1) := by
  intro L st h k' L' st' h' hf
  unfold ia_newa at hf
  split at hf
  · rename_i n st1
    split at hf
    · rename_i hc
      obtain ⟨hn0, hn1⟩ := hc
      cases hf
      refine ⟨Nat.le_succ _, Nat.le_add_right _ _, ?_⟩
      intro p l e R s m args below meth c D z b sc H0 nx0 sn0 Q C hn hs hcl hsl F H locs ls r S lh
      have hcl' : h.1 + 1 - nx0 ≤ R.cells := hcl
      have hsl' : h.2.1 + n.toNatClampNeg - sn0 ≤ R.slots := hsl
      obtain ⟨hx, hb, hml, hown, hts, hnw, hao, hK, hnm, hX, hbz, hzH, hRf, hRl, hLw⟩ := C
      refine va_newaK hx hb (atype := .long) (hts _ harr) rfl A.2 rfl hn0 rfl (by show _ * componentBytes .long ≤ _; simp only [componentBytes]; omega) (by omega) (by omega) r.1 fun H1 cA e1 z1 o1 hAr hNm => ?_
      have hcA : cA = D.2 1 := by
        have h2 : s.vm.findClass ("[" ++ (.long : FieldType).toString) = some (D.2 1) := (hK.2 1 _ rfl).2
        exact Option.some.inj (hNm.symm.trans h2)
      subst hcA
      have oq : ∀ q : Nat, q < H.size → H1[q]? = H[q]? := fun q hq => o1 q (by rw [← r.1]; exact hq)
      have w := F H1 locs ls (r.new (n := n.toNatClampNeg) (e' := .inl (1, n.toNatClampNeg, ia_zero 1)) e1 (by rw [z1, r.1]) oq) (is_S.new S (by rw [z1, r.1]) oq) lh
      rw [A.1] at w
      have g1 : (ia_new h n.toNatClampNeg (.inl (1, n.toNatClampNeg, ia_zero 1))).1 - nx0 = h.1 - nx0 + 1 := by show h.1 + 1 - nx0 = _; omega
      have g2 : (ia_new h n.toNatClampNeg (.inl (1, n.toNatClampNeg, ia_zero 1))).2.1 - sn0 = h.2.1 - sn0 + n.toNatClampNeg := by show h.2.1 + n.toNatClampNeg - sn0 = _; omega
      rw [g1, g2] at w
      exact w
    · cases hf
  · cases hf
theorem ok_newa_char {t : is_M} {k : Nat} (harr : Cond.arrayClass .char ∈ cb_gw) (A : is_At t k (.newarray .char) 2) : is_Ok t k (ia_newa 2) := by
  intro L st h k' L' st' h' hf
  unfold ia_newa at hf
  split at hf
  · rename_i n st1
    split at hf
    · rename_i hc
      obtain ⟨hn0, hn1⟩ := hc
      cases hf
      refine ⟨Nat.le_succ _, Nat.le_add_right _ _, ?_⟩
      intro p l e R s m args below meth c D z b sc H0 nx0 sn0 Q C hn hs hcl hsl F H locs ls r S lh
      have hcl' : h.1 + 1 - nx0 ≤ R.cells := hcl
      have hsl' : h.2.1 + n.toNatClampNeg - sn0 ≤ R.slots := hsl
      obtain ⟨hx, hb, hml, hown, hts, hnw, hao, hK, hnm, hX, hbz, hzH, hRf, hRl, hLw⟩ := C
      refine va_newaK hx hb (atype := .char) (hts _ harr) rfl A.2 rfl hn0 rfl (by show _ * componentBytes .char ≤ _; simp only [componentBytes]; omega) (by omega) (by omega) r.1 fun H1 cA e1 z1 o1 hAr hNm => ?_
      have hcA : cA = D.2 2 := by
        have h2 : s.vm.findClass ("[" ++ (.char : FieldType).toString) = some (D.2 2) := (hK.2 2 _ rfl).2
        exact Option.some.inj (hNm.symm.trans h2)
      subst hcA
      have oq : ∀ q : Nat, q < H.size → H1[q]? = H[q]? := fun q hq => o1 q (by rw [← r.1]; exact hq)
      have w := F H1 locs ls (r.new (n := n.toNatClampNeg) (e' := .inl (2, n.toNatClampNeg, ia_zero 2)) e1 (by rw [z1, r.1]) oq) (is_S.new S (by rw [z1, r.1]) oq) lh
      rw [A.1] at w
      have g1 : (ia_new h n.toNatClampNeg (.inl (2, n.toNatClampNeg, ia_zero 2))).1 - nx0 = h.1 - nx0 + 1 := by show h.1 + 1 - nx0 = _; omega
      have g2 : (ia_new h n.toNatClampNeg (.inl (2, n.toNatClampNeg, ia_zero 2))).2.1 - sn0 = h.2.1 - sn0 + n.toNatClampNeg := by show h.2.1 + n.toNatClampNeg - sn0 = _; omega
      rw [g1, g2] at w
      exact w
    · cases hf
  · cases hf
theorem ok_newa_byte {t : is_M} {k : Nat} (harr : Cond.arrayClass .byte ∈ cb_gw) (A : is_At t k (.newarray .byte) 2) : is_Ok t k (ia_newa 3) := by
  intro L st h k' L' st' h' hf
  unfold ia_newa at hf
  split at hf
  · rename_i n st1
    split at hf
    · rename_i hc
      obtain ⟨hn0, hn1⟩ := hc
      cases hf
      refine ⟨Nat.le_succ _, Nat.le_add_right _ _, ?_⟩
      intro p l e R s m args below meth c D z b sc H0 nx0 sn0 Q C hn hs hcl hsl F H locs ls r S lh
      have hcl' : h.1 + 1 - nx0 ≤ R.cells := hcl
      have hsl' : h.2.1 + n.toNatClampNeg - sn0 ≤ R.slots := hsl
      obtain ⟨hx, hb, hml, hown, hts, hnw, hao, hK, hnm, hX, hbz, hzH, hRf, hRl, hLw⟩ := C
      refine va_newaK hx hb (atype := .byte) (hts _ harr) rfl A.2 rfl hn0 rfl (by show _ * componentBytes .byte ≤ _; simp only [componentBytes]; omega) (by omega) (by omega) r.1 fun H1 cA e1 z1 o1 hAr hNm => ?_
      have hcA : cA = D.2 3 := by
        have h2 : s.vm.findClass ("[" ++ (.byte : FieldType).toString) = some (D.2 3) := (hK.2 3 _ rfl).2
        exact Option.some.inj (hNm.symm.trans h2)
      subst hcA
      have oq : ∀ q : Nat, q < H.size → H1[q]? = H[q]? := fun q hq => o1 q (by rw [← r.1]; exact hq)
      have w := F H1 locs ls (r.new (n := n.toNatClampNeg) (e' := .inl (3, n.toNatClampNeg, ia_zero 3)) e1 (by rw [z1, r.1]) oq) (is_S.new S (by rw [z1, r.1]) oq) lh
      rw [A.1] at w
      have g1 : (ia_new h n.toNatClampNeg (.inl (3, n.toNatClampNeg, ia_zero 3))).1 - nx0 = h.1 - nx0 + 1 := by show h.1 + 1 - nx0 = _; omega
      have g2 : (ia_new h n.toNatClampNeg (.inl (3, n.toNatClampNeg, ia_zero 3))).2.1 - sn0 = h.2.1 - sn0 + n.toNatClampNeg := by show h.2.1 + n.toNatClampNeg - sn0 = _; omega
      rw [g1, g2] at w
      exact w
    · cases hf
  · cases hf
theorem ok_newr {t : is_M} {k : Nat} {index : Nat} (hlink : Cond.classLink t.1.cls index "CardsAndBans$State" ∈ cb_gw) (A : is_At t k (.anewarray index) 3) : is_Ok t k (ia_newa 4) := by
  intro L st h k' L' st' h' hf
  unfold ia_newa at hf
  split at hf
  · rename_i n st1
    split at hf
    · rename_i hc
      obtain ⟨hn0, hn1⟩ := hc
      cases hf
      refine ⟨Nat.le_succ _, Nat.le_add_right _ _, ?_⟩
      intro p l e R s m args below meth c D z b sc H0 nx0 sn0 Q C hn hs hcl hsl F H locs ls r S lh
      have hcl' : h.1 + 1 - nx0 ≤ R.cells := hcl
      have hsl' : h.2.1 + n.toNatClampNeg - sn0 ≤ R.slots := hsl
      obtain ⟨hx, hb, hml, hown, hts, hnw, hao, hK, hnm, hX, hbz, hzH, hRf, hRl, hLw⟩ := C
      refine W.anew hx hb hown (hts _ hlink) (va_AO.use hao) rfl A.2 rfl hn0 (by omega) (by omega) (by omega) fun cA kA comp e1 e2 e3 e4 => ?_
      have hcA : cA = D.2 4 := by
        obtain ⟨_, _, _, _, _, h2⟩ := (hK.2 4 _ rfl).2
        exact Option.some.inj (e1.symm.trans h2)
      subst hcA
      generalize hH1 : H.push _ = H1
      have z1 : H1.size = H.size + 1 := by rw [← hH1]; simp
      have oq : ∀ q : Nat, q < H.size → H1[q]? = H[q]? := fun q hq => by rw [← hH1, Array.getElem?_push, if_neg (Nat.ne_of_lt hq)]
      have e5 : H1[z + h.1]? = some (vp_cell (D.2 4) (n.toNatClampNeg, .inr (.inr (.inr (.inr fun _ => none))))) := by
        rw [← hH1, ← r.1, vp_cell_q]
        show _ = some (arrV (D.2 4) n.toNatClampNeg (fun _ => .null))
        rw [← arrV_new]
        simp
      have w := F H1 locs ls (r.new (n := n.toNatClampNeg) (e' := .inl (4, n.toNatClampNeg, ia_zero 4)) e5 z1 oq) (is_S.new S z1 oq) lh
      rw [A.1] at w
      have g1 : (ia_new h n.toNatClampNeg (.inl (4, n.toNatClampNeg, ia_zero 4))).1 - nx0 = h.1 - nx0 + 1 := by show h.1 + 1 - nx0 = _; omega
      have g2 : (ia_new h n.toNatClampNeg (.inl (4, n.toNatClampNeg, ia_zero 4))).2.1 - sn0 = h.2.1 - sn0 + n.toNatClampNeg := by show h.2.1 + n.toNatClampNeg - sn0 = _; omega
      rw [g1, g2] at w
      rw [r.1]
      exact w
    · cases hf
  · cases hf
theorem ok_newo {t : is_M} {k ci : Nat} {Cn : String} {T : u_T} {N index : Nat} {fs : List Value} (hc : cb_cl[ci]? = some (Cn, T, N)) (hin : ∀ w ∈ u_ws Cn T N, w ∈ cb_gw) (ty0 : Nat → FieldType) (hty : ∀ k, k < N → parseFieldDescriptor (T k).2.2.1 = some (ty0 k)) (hcl : Cond.classLink t.1.cls index Cn ∈ cb_gw) (hinst : Cond.instantiable Cn N ∈ cb_gw) (hini : Cond.initialized Cn ∈ cb_gw) (hfs : ∀ j, j < N → defaultValue (ty0 j) = vp_V fs j) (hrf : ∀ z b, fs.map (is_tr z b) = fs) (A : is_At t k (.new index) 3) : is_Ok t k (ia_newo ci N fs) := by
  intro L st h k' L' st' h' hf
  unfold ia_newo at hf
  cases hf
  refine ⟨Nat.le_succ _, Nat.le_add_right _ _, ?_⟩
  intro p l e R s m args below meth c D z b sc H0 nx0 sn0 Q C hn hs hcl1 hsl F H locs ls r S lh
  have hcl' : h.1 + 1 - nx0 ≤ R.cells := hcl1
  have hsl' : h.2.1 + N - sn0 ≤ R.slots := hsl
  obtain ⟨hx, hb, hml, hown, hts, hnw, hao, hK, hnm, hX, hbz, hzH, hRf, hRl, hLw⟩ := C
  have hKn := hK.1 ci _ hc
  refine W.newcK hx hb hown (hts _ hcl) (hts _ hinst) (hts _ hini) rfl A.2 (by omega) (by omega) hKn.2.1 r.1 fun H1 kC hkC e1 z1 o1 => ?_
  have oq : ∀ q : Nat, q < H.size → H1[q]? = H[q]? := fun q hq => o1 q (by rw [← r.1]; exact hq)
  have e5 : va_at D.1 cb_cl (z + h.1, is_E D z b (.inr (ci, fs))) H1 := by
    show ∃ r : vw_C, _
    refine ⟨_, hc, ?_⟩
    have := (u_born ty0 hts hin hKn hkC e1 hty).to hfs
    dsimp only [is_E]
    rw [hrf z b]
    exact this
  have w := F H1 locs ls (r.new (n := N) e5 (by rw [z1, r.1]) oq) (is_S.new S (by rw [z1, r.1]) oq) lh
  rw [A.1] at w
  have g1 : (ia_new h N (.inr (ci, fs))).1 - nx0 = h.1 - nx0 + 1 := by show h.1 + 1 - nx0 = _; omega
  have g2 : (ia_new h N (.inr (ci, fs))).2.1 - sn0 = h.2.1 - sn0 + N := by show h.2.1 + N - sn0 = _; omega
  rw [g1, g2] at w
  exact w
theorem ok_oinit {t : is_M} {k index : Nat} (hlink : Cond.methodLink t.1.cls index Lib.objectInit ∈ cb_gw) (hinst : Cond.instanceMethod Lib.objectInit ∈ cb_gw) (hcode : Cond.code Lib.objectInit ⟨#[0xb1]⟩ 1 none ∈ cb_gw) (hF : 1 ≤ is_rF t) (hL : 20 ≤ is_rL t) (A : is_At t k (.invokespecial index) 3) : is_Ok t k ia_oinit := by
  intro L st h k' L' st' h' hf
  unfold ia_oinit at hf
  split at hf
  · rename_i a st1
    split at hf
    · rename_i hw
      cases hf
      refine ⟨Nat.le_refl _, Nat.le_refl _, ?_⟩
      intro p l e R s m args below meth c D z b sc H0 nx0 sn0 Q C hn hs hcl hsl F H locs ls r S lh
      have w := F H locs ls r S lh
      rw [A.1] at w
      obtain ⟨hx, hb, hml, hown, hts, hnw, hao, hK, hnm, hX, hbz, hzH, hRf, hRl, hLw⟩ := C
      refine W.objInit hx hb hown (hts _ hlink) (hts _ hinst) (hts _ hcode) rfl (by rw [hml]; exact lh.1) rfl A.2 (Nat.le_trans hF hRf) ?_ w
      show 2 * 0 + _ + 12 ≤ _
      have := is_w_sum z b st'
      omega
    · cases hf
  · cases hf
theorem ok_min {t : is_M} {k index : Nat} (hlink : Cond.methodLink t.1.cls index Lib.Math.min.name ∈ cb_gw) (hst : Cond.static Lib.Math.min.name ∈ cb_gw) (hini : Cond.initialized "java/lang/Math" ∈ cb_gw) (hcode : Cond.code Lib.Math.min.name Lib.Math.min.code 2 (some .int) ∈ cb_gw) (hF : 1 ≤ is_rF t) (hL : 21 ≤ is_rL t) (A : is_At t k (.invokestatic index) 3) : is_Ok t k ia_min := by
  intro L st h k' L' st' h' hf
  unfold ia_min at hf
  split at hf
  · rename_i y x st1
    split at hf
    · rename_i hw
      cases hf
      refine ⟨Nat.le_refl _, Nat.le_refl _, ?_⟩
      intro p l e R s m args below meth c D z b sc H0 nx0 sn0 Q C hn hs hcl hsl F H locs ls r S lh
      have w := F H locs ls r S lh
      rw [A.1] at w
      obtain ⟨hx, hb, hml, hown, hts, hnw, hao, hK, hnm, hX, hbz, hzH, hRf, hRl, hLw⟩ := C
      have := is_w_sum z b st1
      exact va_mmin hx hb (by rw [hml]; exact lh.1.symm) hown (hts _ hlink) (hts _ hst) (hts _ hini) (hts _ hcode) (Nat.le_trans hF hRf) (by omega) (by omega) (by omega) A.2 w
    · cases hf
  · cases hf
theorem ok_copy {t : is_M} {k index : Nat} (hlink : Cond.methodLink t.1.cls index arraycopyName ∈ cb_gw) (hnat : Cond.native arraycopyName ∈ cb_gw) (hst : Cond.static arraycopyName ∈ cb_gw) (hini : Cond.initialized "java/lang/System" ∈ cb_gw) (hF : 1 ≤ is_rF t) (hL : 8 + (nativeFrameWords "java/lang/System" "arraycopy" 5 + 11) ≤ is_rL t) (A : is_At t k (.invokestatic index) 3) : is_Ok t k ia_copy := by
  intro L st h k' L' st' h' hf
  unfold ia_copy at hf
  split at hf
  · rename_i n dp a1 sp a0 st1
    split at hf
    · rename_i hw
      obtain ⟨h2, hg, hf⟩ := Option.map_eq_some_iff.mp hf
      cases hf
      obtain ⟨n0, n1, f, g, h0, h1, q1, q2, q3, q4, q5, rfl⟩ := is_cp hg
      refine ⟨Nat.le_refl _, Nat.le_refl _, ?_⟩
      intro p l e R s m args below meth c D z b sc H0 nx0 sn0 Q C hn hs hcl hsl F H locs ls r S lh
      obtain ⟨hx, hb, hml, hown, hts, hnw, hao, hK, hnm, hX, hbz, hzH, hRf, hRl, hLw⟩ := C
      have := is_w_sum z b st'
      refine is_copyi hx hb (by rw [hml]; exact lh.1.symm) hown (hts _ hlink) (hts _ hnat) (hts _ hst) (hts _ hini) ((hK.2 0 _ rfl).1) (r.at h0 is_nd1) (r.at h1 is_nd1) q1 q2 q3 q4 q5 (Nat.le_trans hF hRf) (by omega) A.2 fun H1 L1 e1 z1 oq hL1 => ?_
      have w := F H1 (locs ++ L1) ls (r.up (r.lt (by rw [h1]; exact is_nd1)) e1 z1 oq) ⟨by rw [z1]; exact S.1, fun q g1 g2 => (oq q (fun e => g2 (by rw [e]; exact Nat.le_add_right _ _))).trans (S.2.1 q g1 g2), fun q hq => by
        rcases List.mem_append.mp hq with h | h
        · exact S.2.2 q h
        · show z ≤ q.base
          rw [hL1 q h]
          exact Nat.le_add_right _ _⟩ lh
      rw [A.1] at w
      exact w
    · cases hf
  · cases hf

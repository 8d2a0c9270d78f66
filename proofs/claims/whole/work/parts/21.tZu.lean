section TXZu
/-! THE CONSTRUCTORS: a heap as the list of its cells -/
def hl (sc : Nat × (Nat → Int32)) (s : Nat) (cs : List ia_E) : ia_H := (cs.length, s, sc, fun k => cs.getD k ia_dead)
variable {sc : Nat × (Nat → Int32)} {s : Nat}
theorem hl_1 (cs : List ia_E) : (hl sc s cs).1 = cs.length := rfl
theorem hl_at (cs : List ia_E) (a : Nat) : ia_c (hl sc s cs) a = (cs[a]?).getD ia_dead := List.getD_eq_getElem?_getD
theorem hl_ext {cs : List ia_E} {h : ia_H} (h1 : h.1 = cs.length) (h2 : h.2.1 = s) (h3 : h.2.2.1 = sc) (h4 : ∀ k, ia_c h k = (cs[k]?).getD ia_dead) : h = hl sc s cs := by
  obtain ⟨a, b, c, f⟩ := h
  refine Prod.ext h1 (Prod.ext h2 (Prod.ext h3 (funext fun k => ?_)))
  exact (h4 k).trans (List.getD_eq_getElem?_getD).symm
theorem hl_new (cs : List ia_E) (n : Nat) (e : ia_E) : ia_new (hl sc s cs) n e = hl sc (s + n) (cs ++ [e]) := by
  refine hl_ext (by show cs.length + 1 = _; simp) rfl rfl fun k => ?_
  show (if k = cs.length then e else ia_c (hl sc s cs) k) = _
  rw [hl_at]
  by_cases z : k = cs.length
  · subst z
    rw [if_pos rfl]
    simp
  · rw [if_neg z]
    rcases Nat.lt_or_ge k cs.length with y | y
    · rw [List.getElem?_append_left y]
    · rw [List.getElem?_eq_none y, List.getElem?_eq_none (by simp; omega)]
theorem hl_up (cs : List ia_E) {a : Nat} (e : ia_E) (ha : a < cs.length) : ia_up (hl sc s cs) a e = hl sc s (cs.set a e) := by
  refine hl_ext (by show cs.length = _; simp) rfl rfl fun k => ?_
  show (if k = a then e else ia_c (hl sc s cs) k) = _
  rw [hl_at]
  by_cases z : k = a
  · subst z
    rw [if_pos rfl, List.getElem?_set_self ha]
    rfl
  · rw [if_neg z, List.getElem?_set_ne (Ne.symm z)]
theorem hl_c {cs : List ia_E} {a : Nat} {e : ia_E} (h : cs[a]? = some e) : ia_c (hl sc s cs) a = e := by
  rw [hl_at, h]
  rfl
theorem hl_pF {cs : List ia_E} {a ci k : Nat} {fs : List Value} {v : Value} (h : cs[a]? = some (.inr (ci, fs))) (hk : k < fs.length) : ia_pF (hl sc s cs) ci a k v = some (hl sc s (cs.set a (.inr (ci, fs.set k v)))) := by
  have ha := (List.getElem?_eq_some_iff.mp h).1
  unfold ia_pF
  rw [hl_c h]
  show (if ci = ci ∧ k < fs.length then some (ia_up _ a _) else none) = _
  rw [if_pos ⟨rfl, hk⟩, hl_up _ _ ha]
theorem hl_gR {cs : List ia_E} {a ci k r : Nat} {fs : List Value} (h : cs[a]? = some (.inr (ci, fs))) (hk : fs[k]? = some (.ref r)) : ia_gR (hl sc s cs) ci a k = some r := by
  unfold ia_gR
  rw [hl_c h]
  show (if ci = ci then (match fs[k]? with | some (.ref x) => some x | _ => none) else none) = _
  rw [if_pos rfl, hk]
theorem hl_st {cs : List ia_E} {a n i : Nat} {f : Nat → Int32} {v : Int32} (h : cs[a]? = some (.inl (0, n, .inl f))) (hi : i < n) (hn : n < 2 ^ 31) : ia_st (hl sc s cs) 0 a (nI i) v = some (hl sc s (cs.set a (.inl (0, n, .inl (upd f i v))))) := by
  have ha := (List.getElem?_eq_some_iff.mp h).1
  unfold ia_st
  rw [hl_c h]
  show (if 0 = 0 ∧ ¬ (nI i < 0 ∨ n ≤ (nI i).toNatClampNeg) then some (ia_up _ a _) else none) = _
  rw [if_pos ⟨rfl, nI_no hi hn⟩, nI_clamp (by omega), hl_up _ _ ha]
theorem hl_len {cs : List ia_E} {a n : Nat} {f : (Nat → Int32) ⊕ (Nat → Int64) ⊕ (Nat → UInt32) ⊕ (Nat → UInt64) ⊕ (Nat → Option Nat)} (h : cs[a]? = some (.inl (0, n, f))) : ia_len (hl sc s cs) a = some (nI n) := by
  unfold ia_len
  rw [hl_c h]
  rfl
theorem hl_ok {cs : List ia_E} {a ci : Nat} {v : Value} {fs : List Value} {as : List Value} (h : cs[a]? = some (.inr (ci, v :: fs))) (hc : ci < 100) : ia_ok (hl sc s cs) ci (.ref a :: as) = true := by
  unfold ia_ok
  rw [if_neg (by omega)]
  show (if ci = 101 then true else (match ia_c (hl sc s cs) a with | .inr (c, _ :: _) => c == ci | _ => false)) = true
  rw [if_neg (by omega), hl_c h]
  show (ci == ci) = true
  simp
theorem la_get (cs : List ia_E) (e : ia_E) (t : List ia_E) : (cs ++ e :: t)[cs.length]? = some e := by simp
theorem la_get1 (cs : List ia_E) (e e1 : ia_E) (t : List ia_E) : (cs ++ e :: e1 :: t)[cs.length + 1]? = some e1 := by simp
theorem la_set (cs : List ia_E) (e e' : ia_E) (t : List ia_E) : (cs ++ e :: t).set cs.length e' = cs ++ e' :: t := by simp
theorem la_set1 (cs : List ia_E) (e e1 e' : ia_E) (t : List ia_E) : (cs ++ e :: e1 :: t).set (cs.length + 1) e' = cs ++ e :: e' :: t := by simp
theorem hl_p0 {ci k : Nat} {fs : List Value} {t : List ia_E} {v : Value} (hk : k < fs.length) : ia_pF (hl sc s (.inr (ci, fs) :: t)) ci 0 k v = some (hl sc s (.inr (ci, fs.set k v) :: t)) := hl_pF rfl hk
theorem k238 (cs : List ia_E) : cl 238 [.ref (hl sc s cs).1] (ia_new (hl sc s cs) 4 (.inr (1, [.null, .int 0, .int 0, .int 0]))) = some (none, hl sc (s + 4 + 200) (cs ++ [.inr (1, [.ref (cs.length + 1), .int 0, .int 0, .int (-1)]), .inl (2, 200, ia_zero 2)])) := by
  rw [hl_new, q_238, hl_new]
  simp only [hl_1, List.append_assoc, List.cons_append, List.nil_append, List.length_append, List.length_cons, List.length_nil, Nat.zero_add]
  rw [hl_pF (la_get _ _ _) (by decide), Option.bind_some, la_set, hl_pF (la_get _ _ _) (by simp), Option.bind_some, la_set]
  rfl
theorem k176 (cs : List ia_E) : cl 176 [.ref (hl sc s cs).1] (ia_new (hl sc s cs) 2 (.inr (2, [.null, .int 0]))) = some (none, hl sc (s + 2 + 201) (cs ++ [.inr (2, [.ref (cs.length + 1), .int 0]), .inl (0, 201, ia_zero 0)])) := by
  rw [hl_new, q_176, hl_new]
  simp only [hl_1, List.append_assoc, List.cons_append, List.nil_append, List.length_append, List.length_cons, List.length_nil, Nat.zero_add]
  rw [hl_pF (la_get _ _ _) (by decide), Option.bind_some, la_set]
  rfl
theorem k188 (cs : List ia_E) : cl 188 [.ref (hl sc s cs).1] (ia_new (hl sc s cs) 2 (.inr (3, [.null, .int 0]))) = some (none, hl sc (s + 2 + 100) (cs ++ [.inr (3, [.ref (cs.length + 1), .int 0]), .inl (0, 100, ia_zero 0)])) := by
  rw [hl_new, q_188, hl_new]
  simp only [hl_1, List.append_assoc, List.cons_append, List.nil_append, List.length_append, List.length_cons, List.length_nil, Nat.zero_add]
  rw [hl_pF (la_get _ _ _) (by decide), Option.bind_some, la_set]
  rfl
theorem k172 (cs : List ia_E) : cl 172 [.ref (hl sc s cs).1] (ia_new (hl sc s cs) 3 (.inr (6, [.null, .int 0, .int 0]))) = some (none, hl sc (s + 3 + 8) (cs ++ [.inr (6, [.ref (cs.length + 1), .int 0, .int 0]), .inl (4, 8, ia_zero 4)])) := by
  rw [hl_new, q_172, hl_new]
  simp only [hl_1, List.append_assoc, List.cons_append, List.nil_append, List.length_append, List.length_cons, List.length_nil, Nat.zero_add]
  rw [hl_pF (la_get _ _ _) (by decide), Option.bind_some, la_set]
  rfl
theorem k204 (cs : List ia_E) : cl 204 [.ref (hl sc s cs).1] (ia_new (hl sc s cs) 11 (.inr (5, [.int 0, .int 0, .int 0, .int 0, .null, .null, .null, .null, .null, .null, .null]))) = some (none, hl sc (s + 11 + 12 + 48 + 16 + 36 + 12 + 800 + 180) (cs ++ [.inr (5, [.int 0, .int 0, .int 0, .int 0, .ref (cs.length + 1), .ref (cs.length + 2), .ref (cs.length + 3), .ref (cs.length + 4), .ref (cs.length + 5), .ref (cs.length + 6), .ref (cs.length + 7)]), .inl (0, 12, ia_zero 0), .inl (0, 48, ia_zero 0), .inl (0, 16, ia_zero 0), .inl (0, 36, ia_zero 0), .inl (0, 12, ia_zero 0), .inl (0, 800, ia_zero 0), .inl (0, 180, ia_zero 0)])) := by
  have P : ∀ (s : Nat) (cs : List ia_E) (k : Nat) (fs : List Value) (t : List ia_E) (v : Value), k < fs.length → ia_pF (hl sc s (cs ++ .inr (5, fs) :: t)) 5 cs.length k v = some (hl sc s (cs ++ .inr (5, fs.set k v) :: t)) := fun s cs k fs t v hk => by rw [hl_pF (la_get _ _ _) hk, la_set]
  rw [hl_new, q_204]
  simp only [hl_new, hl_1, List.append_assoc, List.cons_append, List.nil_append, List.length_append, List.length_cons, List.length_nil, Nat.zero_add, P, Option.bind_some, List.set_cons_zero, List.set_cons_succ, Nat.reduceAdd, Nat.reduceLT, List.length_set]
/-- the rules of a new object: one match for a red card -/
def r0 : Nat → Int32 := upd (upd (upd (upd (fun _ => 0) 1 1) 13 1) 25 1) 37 1
def q0 : Nat → Int32 := upd (upd (upd (upd (fun _ => 0) 1 1) 5 1) 9 1) 13 1
theorem upd_zz (i : Nat) : upd (fun _ => (0 : Int32)) i 0 = fun _ => 0 := by
  funext k
  by_cases z : k = i
  · subst z
    exact pk_us
  · exact pk_un z
theorem set_same {cs : List ia_E} {a : Nat} {e : ia_E} (h : cs[a]? = some e) : cs.set a e = cs := by
  apply List.ext_getElem?
  intro k
  by_cases z : k = a
  · subst z
    rw [List.getElem?_set_self (List.getElem?_eq_some_iff.mp h).1, h]
  · rw [List.getElem?_set_ne (Ne.symm z)]
theorem fz (cs : List ia_E) {a : Nat} (h : cs[a]? = some (.inl (0, 48, .inl fun _ => 0))) : ∀ n i, i + n = 48 → dn 256 5 [some (.ref a), some (.int 0), some (.int (nI i)), some (.int (nI 48))] [] (hl sc s cs) = some (none, hl sc s cs)
  | 0, i, hi => by
    obtain rfl : i = 48 := by omega
    rw [q_256_5, if_pos (by decide)]
  | n + 1, i, hi => by
    have ih := fz cs h n (i + 1) (by omega)
    rw [q_256_5, if_neg (nI_ge (show i < 48 by omega) (by decide)), hl_st h (show i < 48 by omega) (by decide), Option.bind_some, nI_1, upd_zz, set_same h]
    exact ih
theorem k192 (cs : List ia_E) : cl 192 [.ref (hl sc s cs).1] (ia_new (hl sc s cs) 1 (.inr (4, [.null]))) = some (none, hl sc (s + 1 + 48) (cs ++ [.inr (4, [.ref (cs.length + 1)]), .inl (0, 48, .inl r0)])) := by
  have W1 : ∀ (f : Nat → Int32) (c : Nat) (x : Int32), x = nI c → c < 4 → cl 196 [.ref cs.length, .int x, .int 1, .int 1] (hl sc (s + 1 + 48) (cs ++ [.inr (4, [.ref (cs.length + 1)]), .inl (0, 48, .inl f)])) = some (none, hl sc (s + 1 + 48) (cs ++ [.inr (4, [.ref (cs.length + 1)]), .inl (0, 48, .inl (upd f (12 * c + 1) 1))])) := fun f c x hx hc => by
    subst hx
    rw [q_196, hl_gR (la_get _ _ _) rfl, Option.bind_some, show nI c * 12 + 1 = nI (12 * c + 1) from ix12 c 1, hl_st (la_get1 _ _ _ _) (by omega) (by decide), Option.bind_some, la_set1]
  show cl 192 [.ref cs.length] _ = _
  rw [hl_new, q_192, hl_new]
  simp only [hl_1, List.append_assoc, List.cons_append, List.nil_append, List.length_append, List.length_cons, List.length_nil, Nat.zero_add]
  rw [hl_pF (la_get _ _ _) (by decide), Option.bind_some, la_set, List.set_cons_zero, if_pos (hl_ok (la_get _ _ _) (by decide)), q_193, hl_gR (r := cs.length + 1) (la_get _ _ _) rfl, Option.bind_some, q_256, hl_len (la_get1 _ _ _ _), Option.bind_some]
  have hz : (cs ++ [(Sum.inr (4, [.ref (cs.length + 1)]) : ia_E), .inl (0, 48, ia_zero 0)])[cs.length + 1]? = some (.inl (0, 48, .inl fun _ => 0)) := la_get1 _ _ _ _
  rw [show dn 256 5 [some (.ref (cs.length + 1)), some (.int 0), some (.int 0), some (.int (nI 48))] [] _ = _ from fz (sc := sc) (s := s + 1 + 48) _ hz 48 0 rfl, kxv_s]
  have O : ∀ (f : Nat → Int32) (as : List Value), ia_ok (hl sc (s + 1 + 48) (cs ++ [.inr (4, [.ref (cs.length + 1)]), .inl (0, 48, .inl f)])) 4 (.ref cs.length :: as) = true := fun f as => hl_ok (la_get _ _ _) (by decide)
  show kxv (dn 193 6 [some (.ref cs.length), some (.int 0)] [] (hl sc (s + 1 + 48) (cs ++ [.inr (4, [.ref (cs.length + 1)]), .inl (0, 48, .inl fun _ => 0)]))) _ = _
  rw [q_193_6, if_neg (by decide), if_pos (O _ _), W1 _ 0 0 rfl (by decide), kxv_s, show (0 : Int32) + 1 = 1 by decide]
  rw [q_193_6, if_neg (by decide), if_pos (O _ _), W1 _ 1 1 rfl (by decide), kxv_s, show (1 : Int32) + 1 = 2 by decide]
  rw [q_193_6, if_neg (by decide), if_pos (O _ _), W1 _ 2 2 rfl (by decide), kxv_s, show (2 : Int32) + 1 = 3 by decide]
  rw [q_193_6, if_neg (by decide), if_pos (O _ _), W1 _ 3 3 rfl (by decide), kxv_s, show (3 : Int32) + 1 = 4 by decide]
  rw [q_193_6, if_pos (by decide), kxv_s]
  rfl

def cA : List ia_E := [.inr (1, [.ref 2, .int 0, .int 0, .int (-1)]), .inl (2, 200, ia_zero 2), .inr (1, [.ref 4, .int 0, .int 0, .int (-1)]), .inl (2, 200, ia_zero 2), .inr (2, [.ref 6, .int 0]), .inl (0, 201, ia_zero 0), .inr (3, [.ref 8, .int 0]), .inl (0, 100, ia_zero 0), .inr (4, [.ref 10]), .inl (0, 48, .inl r0), .inr (4, [.ref 12]), .inl (0, 48, .inl r0), .inr (5, [.int 0, .int 0, .int 0, .int 0, .ref 14, .ref 15, .ref 16, .ref 17, .ref 18, .ref 19, .ref 20]), .inl (0, 12, ia_zero 0), .inl (0, 48, ia_zero 0), .inl (0, 16, ia_zero 0), .inl (0, 36, ia_zero 0), .inl (0, 12, ia_zero 0), .inl (0, 800, ia_zero 0), .inl (0, 180, ia_zero 0), .inr (5, [.int 0, .int 0, .int 0, .int 0, .ref 22, .ref 23, .ref 24, .ref 25, .ref 26, .ref 27, .ref 28]), .inl (0, 12, ia_zero 0), .inl (0, 48, ia_zero 0), .inl (0, 16, ia_zero 0), .inl (0, 36, ia_zero 0), .inl (0, 12, ia_zero 0), .inl (0, 800, ia_zero 0), .inl (0, 180, ia_zero 0), .inr (5, [.int 0, .int 0, .int 0, .int 0, .ref 30, .ref 31, .ref 32, .ref 33, .ref 34, .ref 35, .ref 36]), .inl (0, 12, ia_zero 0), .inl (0, 48, ia_zero 0), .inl (0, 16, ia_zero 0), .inl (0, 36, ia_zero 0), .inl (0, 12, ia_zero 0), .inl (0, 800, ia_zero 0), .inl (0, 180, ia_zero 0), .inr (6, [.ref 38, .int 0, .int 0]), .inl (4, 8, ia_zero 4)]
theorem k0 : cl 0 [.ref 0] (hl sc s [.inr (0, [.null, .null, .null, .null, .null, .null, .null, .null, .null, .null, .int 0])]) = some (none, hl sc (s + 4167) (.inr (0, [.ref 1, .ref 3, .ref 5, .ref 7, .ref 9, .ref 11, .ref 13, .ref 21, .ref 29, .ref 37, .int 0]) :: cA)) := by
  rw [q_0]
  simp only [k238, k176, k188, k192, k204, k172, kxv_s, Option.bind_some, hl_p0, List.cons_append, List.nil_append, List.length_cons, List.length_nil, List.set_cons_zero, List.set_cons_succ, Nat.reduceAdd, Nat.zero_add, Nat.reduceLT, Nat.add_assoc]
  rfl
def cM : List ia_E := [.inl (0, 1108, ia_zero 0), .inl (0, 1108, ia_zero 0), .inl (0, 1108, ia_zero 0), .inl (0, 8864, ia_zero 0), .inl (0, 16, .inl q0), .inl (0, 16, ia_zero 0), .inl (0, 16, ia_zero 0), .inl (3, 200, ia_zero 3), .inl (1, 128, ia_zero 1), .inl (0, 200, ia_zero 0), .inl (0, 200, ia_zero 0), .inl (0, 16, ia_zero 0), .inl (0, 16, ia_zero 0), .inl (0, 16, ia_zero 0), .inl (0, 200, ia_zero 0), .inl (0, 200, ia_zero 0), .inl (0, 200, ia_zero 0), .inl (3, 160, ia_zero 3), .inl (0, 64, ia_zero 0), .inl (0, 64, ia_zero 0), .inl (0, 64, ia_zero 0)]
theorem k67a (cs : List ia_E) (hcs : cs.length = 39) : cl 67 [.ref 39] (hl sc s (cs ++ [.inr (8, [.null, .null, .null, .int 0, .null, .int 0, .null, .null, .null, .null, .int 0, .null, .int 0, .int 0, .int 0, .int 0, .null, .null, .int 0, .int 0, .int 0, .int 0, .int 0, .int 0, .null, .null, .null, .null, .null, .null, .null, .int 0, .null, .null, .null, .int 0])])) = dn 67 88 [some (.ref 39), some (.int 0)] [] (hl sc (s + 1108 + 1108 + 1108 + 8864 + 16 + 16 + 16 + 200 + 128 + 200 + 200 + 16 + 16 + 16 + 200 + 200 + 200 + 160 + 64 + 64 + 64) (cs ++ .inr (8, [.ref 40, .ref 41, .ref 42, .int 0, .ref 43, .int 0, .ref 44, .ref 45, .ref 46, .ref 47, .int 0, .ref 48, .int 0, .int 0, .int 0, .int 0, .ref 49, .ref 50, .int 0, .int 0, .int 0, .int 0, .int 0, .int 0, .ref 51, .ref 52, .ref 53, .ref 54, .ref 55, .ref 56, .ref 57, .int 0, .ref 58, .ref 59, .ref 60, .int 0]) :: ([.inl (0, 1108, ia_zero 0), .inl (0, 1108, ia_zero 0), .inl (0, 1108, ia_zero 0), .inl (0, 8864, ia_zero 0)] ++ .inl (0, 16, .inl fun _ => 0) :: [.inl (0, 16, ia_zero 0), .inl (0, 16, ia_zero 0), .inl (3, 200, ia_zero 3), .inl (1, 128, ia_zero 1), .inl (0, 200, ia_zero 0), .inl (0, 200, ia_zero 0), .inl (0, 16, ia_zero 0), .inl (0, 16, ia_zero 0), .inl (0, 16, ia_zero 0), .inl (0, 200, ia_zero 0), .inl (0, 200, ia_zero 0), .inl (0, 200, ia_zero 0), .inl (3, 160, ia_zero 3), .inl (0, 64, ia_zero 0), .inl (0, 64, ia_zero 0), .inl (0, 64, ia_zero 0)]))) := by
  have P : ∀ (s n k : Nat) (fs : List Value) (t : List ia_E) (e : ia_E), k < fs.length → ia_pF (ia_new (hl sc s (cs ++ .inr (8, fs) :: t)) n e) 8 39 k (.ref (hl sc s (cs ++ .inr (8, fs) :: t)).1) = some (hl sc (s + n) (cs ++ .inr (8, fs.set k (.ref (40 + t.length))) :: (t ++ [e]))) := fun s n k fs t e hk => by
    have h0 : (cs ++ (Sum.inr (8, fs) : ia_E) :: t) ++ [e] = cs ++ .inr (8, fs) :: (t ++ [e]) := by simp
    have h1 : (cs ++ (Sum.inr (8, fs) : ia_E) :: (t ++ [e]))[39]? = some (.inr (8, fs)) := by rw [← hcs]; exact la_get _ _ _
    have h2 : ∀ v, (cs ++ (Sum.inr (8, fs) : ia_E) :: (t ++ [e])).set 39 (.inr (8, fs.set k v)) = cs ++ .inr (8, fs.set k v) :: (t ++ [e]) := fun v => by rw [← hcs]; exact la_set _ _ _ _
    have h3 : (hl sc s (cs ++ .inr (8, fs) :: t)).1 = 40 + t.length := by
      show (cs ++ _ :: t).length = _
      rw [List.length_append, List.length_cons, hcs]
      omega
    rw [hl_new, h0, h3, hl_pF h1 hk, h2]
  rw [q_67]
  rw [P _ _ _ _ _ _ (by simp), Option.bind_some, P _ _ _ _ _ _ (by simp), Option.bind_some, P _ _ _ _ _ _ (by simp), Option.bind_some, P _ _ _ _ _ _ (by simp), Option.bind_some, P _ _ _ _ _ _ (by simp), Option.bind_some, P _ _ _ _ _ _ (by simp), Option.bind_some, P _ _ _ _ _ _ (by simp), Option.bind_some, P _ _ _ _ _ _ (by simp), Option.bind_some, P _ _ _ _ _ _ (by simp), Option.bind_some, P _ _ _ _ _ _ (by simp), Option.bind_some, P _ _ _ _ _ _ (by simp), Option.bind_some, P _ _ _ _ _ _ (by simp), Option.bind_some, P _ _ _ _ _ _ (by simp), Option.bind_some, P _ _ _ _ _ _ (by simp), Option.bind_some, P _ _ _ _ _ _ (by simp), Option.bind_some, P _ _ _ _ _ _ (by simp), Option.bind_some, P _ _ _ _ _ _ (by simp), Option.bind_some, P _ _ _ _ _ _ (by simp), Option.bind_some, P _ _ _ _ _ _ (by simp), Option.bind_some, P _ _ _ _ _ _ (by simp), Option.bind_some, P _ _ _ _ _ _ (by simp), Option.bind_some]
  rfl
theorem k67b (s : Nat) (cs : List ia_E) (hcs : cs.length = 39) : dn 67 88 [some (.ref 39), some (.int 0)] [] (hl sc s (cs ++ .inr (8, [.ref 40, .ref 41, .ref 42, .int 0, .ref 43, .int 0, .ref 44, .ref 45, .ref 46, .ref 47, .int 0, .ref 48, .int 0, .int 0, .int 0, .int 0, .ref 49, .ref 50, .int 0, .int 0, .int 0, .int 0, .int 0, .int 0, .ref 51, .ref 52, .ref 53, .ref 54, .ref 55, .ref 56, .ref 57, .int 0, .ref 58, .ref 59, .ref 60, .int 0]) :: ([.inl (0, 1108, ia_zero 0), .inl (0, 1108, ia_zero 0), .inl (0, 1108, ia_zero 0), .inl (0, 8864, ia_zero 0)] ++ .inl (0, 16, .inl fun _ => 0) :: [.inl (0, 16, ia_zero 0), .inl (0, 16, ia_zero 0), .inl (3, 200, ia_zero 3), .inl (1, 128, ia_zero 1), .inl (0, 200, ia_zero 0), .inl (0, 200, ia_zero 0), .inl (0, 16, ia_zero 0), .inl (0, 16, ia_zero 0), .inl (0, 16, ia_zero 0), .inl (0, 200, ia_zero 0), .inl (0, 200, ia_zero 0), .inl (0, 200, ia_zero 0), .inl (3, 160, ia_zero 3), .inl (0, 64, ia_zero 0), .inl (0, 64, ia_zero 0), .inl (0, 64, ia_zero 0)]))) = some (none, hl sc s (cs ++ .inr (8, [.ref 40, .ref 41, .ref 42, .int 0, .ref 43, .int 0, .ref 44, .ref 45, .ref 46, .ref 47, .int 0, .ref 48, .int 0, .int 0, .int 0, .int 0, .ref 49, .ref 50, .int 0, .int 0, .int 0, .int 0, .int 0, .int 0, .ref 51, .ref 52, .ref 53, .ref 54, .ref 55, .ref 56, .ref 57, .int 0, .ref 58, .ref 59, .ref 60, .int 0]) :: ([.inl (0, 1108, ia_zero 0), .inl (0, 1108, ia_zero 0), .inl (0, 1108, ia_zero 0), .inl (0, 8864, ia_zero 0)] ++ .inl (0, 16, .inl q0) :: [.inl (0, 16, ia_zero 0), .inl (0, 16, ia_zero 0), .inl (3, 200, ia_zero 3), .inl (1, 128, ia_zero 1), .inl (0, 200, ia_zero 0), .inl (0, 200, ia_zero 0), .inl (0, 16, ia_zero 0), .inl (0, 16, ia_zero 0), .inl (0, 16, ia_zero 0), .inl (0, 200, ia_zero 0), .inl (0, 200, ia_zero 0), .inl (0, 200, ia_zero 0), .inl (3, 160, ia_zero 3), .inl (0, 64, ia_zero 0), .inl (0, 64, ia_zero 0), .inl (0, 64, ia_zero 0)]))) := by
  have G : ∀ (s : Nat) (A B : List ia_E) (fs : List Value) (f : Nat → Int32), A.length = 4 → fs[6]? = some (.ref 44) → ∀ (c : Nat) (x : Int32), x = nI c → c < 4 → dn 67 88 [some (.ref 39), some (.int x)] [] (hl sc s (cs ++ .inr (8, fs) :: (A ++ .inl (0, 16, .inl f) :: B))) = dn 67 88 [some (.ref 39), some (.int (nI (c + 1)))] [] (hl sc s (cs ++ .inr (8, fs) :: (A ++ .inl (0, 16, .inl (upd f (4 * c + 1) 1)) :: B))) := fun s A B fs f hA hf c x hx hc => by
    subst hx
    have h1 : (cs ++ (Sum.inr (8, fs) : ia_E) :: (A ++ .inl (0, 16, .inl f) :: B))[39]? = some (.inr (8, fs)) := by rw [← hcs]; exact la_get _ _ _
    have h0 : ∀ e : ia_E, cs ++ (Sum.inr (8, fs) : ia_E) :: (A ++ e :: B) = (cs ++ (Sum.inr (8, fs) : ia_E) :: A) ++ e :: B := fun e => by simp
    have hl44 : (cs ++ (Sum.inr (8, fs) : ia_E) :: A).length = 44 := by simp [hcs, hA]
    have h2 : (cs ++ (Sum.inr (8, fs) : ia_E) :: (A ++ .inl (0, 16, .inl f) :: B))[44]? = some (.inl (0, 16, .inl f)) := by rw [h0, ← hl44]; exact la_get _ _ _
    have h3 : ∀ e, (cs ++ (Sum.inr (8, fs) : ia_E) :: (A ++ .inl (0, 16, .inl f) :: B)).set 44 e = cs ++ (Sum.inr (8, fs) : ia_E) :: (A ++ e :: B) := fun e => by rw [h0, h0, ← hl44]; exact la_set _ _ _ _
    rw [q_67_88, if_neg (show ¬ ((4 : Int32) ≤ nI c) from nI_ge (b := 4) hc (by decide)), hl_gR h1 hf, Option.bind_some, mul4, nI_1, hl_st h2 (by omega) (by decide), Option.bind_some, h3, nI_1]
  rw [G _ _ _ _ _ rfl rfl 0 0 rfl (by decide), G _ _ _ _ _ rfl rfl 1 (nI (0 + 1)) rfl (by decide), G _ _ _ _ _ rfl rfl 2 (nI (1 + 1)) rfl (by decide), G _ _ _ _ _ rfl rfl 3 (nI (2 + 1)) rfl (by decide), q_67_88, if_pos (by decide)]
  rfl
theorem k67 (cs : List ia_E) (hcs : cs.length = 39) : cl 67 [.ref 39] (hl sc s (cs ++ [.inr (8, [.null, .null, .null, .int 0, .null, .int 0, .null, .null, .null, .null, .int 0, .null, .int 0, .int 0, .int 0, .int 0, .null, .null, .int 0, .int 0, .int 0, .int 0, .int 0, .int 0, .null, .null, .null, .null, .null, .null, .null, .int 0, .null, .null, .null, .int 0])])) = some (none, hl sc (s + 1108 + 1108 + 1108 + 8864 + 16 + 16 + 16 + 200 + 128 + 200 + 200 + 16 + 16 + 16 + 200 + 200 + 200 + 160 + 64 + 64 + 64) (cs ++ .inr (8, [.ref 40, .ref 41, .ref 42, .int 0, .ref 43, .int 0, .ref 44, .ref 45, .ref 46, .ref 47, .int 0, .ref 48, .int 0, .int 0, .int 0, .int 0, .ref 49, .ref 50, .int 0, .int 0, .int 0, .int 0, .int 0, .int 0, .ref 51, .ref 52, .ref 53, .ref 54, .ref 55, .ref 56, .ref 57, .int 0, .ref 58, .ref 59, .ref 60, .int 0]) :: cM)) := (k67a cs hcs).trans (k67b _ cs hcs)

def sH0 : List tm_S := [.inl (0, [some 1, some 3, some 5, some 7, some 9, some 11, some 13, some 21, some 29, some 37, none]), .inl (1, [some 2, none, none, none]), .inr (2, 200), .inl (1, [some 4, none, none, none]), .inr (2, 200), .inl (2, [some 6, none]), .inr (0, 201), .inl (3, [some 8, none]), .inr (0, 100), .inl (4, [some 10]), .inr (0, 48), .inl (4, [some 12]), .inr (0, 48), .inl (5, [none, none, none, none, some 14, some 15, some 16, some 17, some 18, some 19, some 20]), .inr (0, 12), .inr (0, 48), .inr (0, 16), .inr (0, 36), .inr (0, 12), .inr (0, 800), .inr (0, 180), .inl (5, [none, none, none, none, some 22, some 23, some 24, some 25, some 26, some 27, some 28]), .inr (0, 12), .inr (0, 48), .inr (0, 16), .inr (0, 36), .inr (0, 12), .inr (0, 800), .inr (0, 180), .inl (5, [none, none, none, none, some 30, some 31, some 32, some 33, some 34, some 35, some 36]), .inr (0, 12), .inr (0, 48), .inr (0, 16), .inr (0, 36), .inr (0, 12), .inr (0, 800), .inr (0, 180), .inl (6, [some 38, none, none]), .inr (4, 8), .inl (8, [some 40, some 41, some 42, none, some 43, none, some 44, some 45, some 46, some 47, none, some 48, none, none, none, none, some 49, some 50, none, none, none, none, none, none, some 51, some 52, some 53, some 54, some 55, some 56, some 57, none, some 58, some 59, some 60, none]), .inr (0, 1108), .inr (0, 1108), .inr (0, 1108), .inr (0, 8864), .inr (0, 16), .inr (0, 16), .inr (0, 16), .inr (3, 200), .inr (1, 128), .inr (0, 200), .inr (0, 200), .inr (0, 16), .inr (0, 16), .inr (0, 16), .inr (0, 200), .inr (0, 200), .inr (0, 200), .inr (3, 160), .inr (0, 64), .inr (0, 64), .inr (0, 64), .inr (1, 1)]
def W0 (sc : Nat × (Nat → Int32)) : tm_W := (62, 18179, sc, fun a => sH0.getD a (.inl (99, [])), fun _ _ => none)
def t0 : Nat → Int32 := fun k => if k = 3 then -1 else 0
def M0 : Nat → Nat → Int32 := m1 (m1 (m1 (m1 (m1 (fun _ _ => 0) 1 t0) 3 t0) 10 r0) 12 r0) 44 q0
theorem hl_tm : hl sc 18179 (.inr (0, [.ref 1, .ref 3, .ref 5, .ref 7, .ref 9, .ref 11, .ref 13, .ref 21, .ref 29, .ref 37, .int 0]) :: (cA ++ .inr (8, [.ref 40, .ref 41, .ref 42, .int 0, .ref 43, .int 0, .ref 44, .ref 45, .ref 46, .ref 47, .int 0, .ref 48, .int 0, .int 0, .int 0, .int 0, .ref 49, .ref 50, .int 0, .int 0, .int 0, .int 0, .int 0, .int 0, .ref 51, .ref 52, .ref 53, .ref 54, .ref 55, .ref 56, .ref 57, .int 0, .ref 58, .ref 59, .ref 60, .int 0]) :: (cM ++ [.inl (1, 1, ia_zero 1)]))) = tm (W0 sc) M0 (fun _ _ => 0) := by
  refine tm_ext rfl rfl rfl fun a => ?_
  rw [hl_at]
  exact match a with
    | 0 => rfl
    | 1 => rfl
    | 2 => rfl
    | 3 => rfl
    | 4 => rfl
    | 5 => rfl
    | 6 => rfl
    | 7 => rfl
    | 8 => rfl
    | 9 => rfl
    | 10 => rfl
    | 11 => rfl
    | 12 => rfl
    | 13 => rfl
    | 14 => rfl
    | 15 => rfl
    | 16 => rfl
    | 17 => rfl
    | 18 => rfl
    | 19 => rfl
    | 20 => rfl
    | 21 => rfl
    | 22 => rfl
    | 23 => rfl
    | 24 => rfl
    | 25 => rfl
    | 26 => rfl
    | 27 => rfl
    | 28 => rfl
    | 29 => rfl
    | 30 => rfl
    | 31 => rfl
    | 32 => rfl
    | 33 => rfl
    | 34 => rfl
    | 35 => rfl
    | 36 => rfl
    | 37 => rfl
    | 38 => rfl
    | 39 => rfl
    | 40 => rfl
    | 41 => rfl
    | 42 => rfl
    | 43 => rfl
    | 44 => rfl
    | 45 => rfl
    | 46 => rfl
    | 47 => rfl
    | 48 => rfl
    | 49 => rfl
    | 50 => rfl
    | 51 => rfl
    | 52 => rfl
    | 53 => rfl
    | 54 => rfl
    | 55 => rfl
    | 56 => rfl
    | 57 => rfl
    | 58 => rfl
    | 59 => rfl
    | 60 => rfl
    | 61 => rfl
    | _ + 62 => rfl
theorem isC_0 : isC (W0 sc) := by
  unfold isC isSt
  repeat' (first | rfl | apply And.intro)
theorem isM_0 : isM (W0 sc) := by
  unfold isM
  repeat' (first | rfl | apply And.intro)
theorem M0_z {a : Nat} (h1 : a ≠ 1) (h2 : a ≠ 3) (h3 : a ≠ 10) (h4 : a ≠ 12) (h5 : a ≠ 44) : M0 a = fun _ => 0 := by
  unfold M0
  rw [m1_a _ _ h5, m1_a _ _ h4, m1_a _ _ h3, m1_a _ _ h2, m1_a _ _ h1]
theorem M0_w {a : Nat} (h : a = 40 ∨ (13 ≤ a ∧ a < 44)) : M0 a = fun _ => 0 := M0_z (by omega) (by omega) (by omega) (by omega) (by omega)
theorem vw_0 : vw M0 13 = fun _ => 0 := by
  funext i
  unfold vw
  simp only [M0_w (a := 13 + 1) (by omega), M0_w (a := 13 + 2) (by omega), M0_w (a := 13 + 3) (by omega), M0_w (a := 13 + 4) (by omega), M0_w (a := 13 + 5) (by omega), M0_w (a := 13 + 6) (by omega), M0_w (a := 13 + 7) (by omega), M0_w (a := 13) (by omega), ite_self]
theorem r0_at : ∀ c, c < 4 → r0 (12 * c) = 0 ∧ r0 (12 * c + 1) = 1 ∧ r0 (12 * c + 2) = 0 ∧ r0 (12 * c + 3) = 0 := by decide
theorem q0_at : ∀ c, c < 4 → q0 (4 * c) = 0 ∧ q0 (4 * c + 1) = 1 ∧ q0 (4 * c + 2) = 0 ∧ q0 (4 * c + 3) = 0 := by decide
theorem Inv_0 : Inv 0 (W0 sc) M0 (fun _ _ => 0) := by
  have e40 : M0 40 = fun _ => 0 := M0_w (by omega)
  refine ⟨⟨isC_0, isM_0, rfl, (show 62 ≤ 62 by decide), (show 62 ≤ 200 + 10 * 0 by decide), (show 18179 ≤ 30000 + 1200 * 0 by decide)⟩, ⟨0, 0, 0, ?_, ?_, by decide, fun i _ => ⟨0, by decide, by rw [e40]; rfl⟩⟩, ⟨rfl, Or.inl rfl⟩, ⟨0, 0, by decide, by decide, rfl, rfl, rfl, fun i a _ h => (by cases h), fun i k a b _ _ _ h => (by cases h), fun k hk => by omega⟩, fun c hc => ?_, iTxt_0 rfl rfl, ⟨0, by decide, rfl, rfl, fun i hi => by omega⟩⟩
  · rw [vw_0, e40]
    exact ⟨by decide, by decide, rfl, rfl, rfl, rfl, rfl, rfl, rfl, fun _ _ => rfl, fun _ _ _ => rfl, fun _ _ => rfl, fun _ _ => rfl⟩
  · exact ⟨fun p hp => by omega, fun b hb => by omega, fun e he => by simp at he⟩
  · obtain ⟨a1, a2, a3, a4⟩ := r0_at c hc
    obtain ⟨b1, b2, b3, b4⟩ := q0_at c hc
    exact iRul_V okV_0 ⟨a1, a2, a3, a4, fun k e he => by simp [v0] at he⟩ ⟨b1, b2, b3, b4, fun k e he => by simp [v0] at he⟩
end TXZu

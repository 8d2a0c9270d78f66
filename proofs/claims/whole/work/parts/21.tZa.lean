section TXZa
variable {W : tm_W} {m : Nat → Nat → Int32} {l : Nat → Nat → Int64} {f g : Nat → Int32}
theorem fB_e {v : Nat} (h : v < 128) : fB v = nI v := by128 v h
theorem b_written {j : Nat} (h : Inv j W m l) (x : Int32) : Both j W m l 6 138 [.int x] [.int x] := by
  obtain ⟨⟨C, M, h61, g1, g2, g3⟩, -, -, -, R, hT, hrow⟩ := id h
  obtain ⟨L, hL⟩ : ∃ L, L = pagL (m 44) (m 45) (m 46) 4 0 := ⟨_, rfl⟩
  have hlen : L.length ≤ 132 := by
    rw [hL]
    exact pagL_len _ _ _ 4 0 fun c' _ hc' => by
      obtain ⟨-, -, -, s, s1, s2, s3, -, -⟩ := R c' (by omega)
      rw [vN_e s3 (by omega)]
      exact s1
  have hb : ∀ v ∈ L, v < 128 := by
    rw [hL]
    exact pagL_b R 4 0 (by omega)
  obtain ⟨mp, hmp⟩ : ∃ mp, mp = m2 m 3 1 0 := ⟨_, rfl⟩
  have po : ∀ {a : Nat}, a ≠ 3 → mp a = m a := fun ha => by rw [hmp, m2_r _ _ _ ha]
  have e243 : cl 243 [.ref 3] (tm W m l) = some (none, tm W mp l) := by rw [q_243, tm_pI C.t3 rfl, Option.bind_some, hmp]
  have e66 : cl 66 [.ref 0] (tm W m l) = some (none, tm W (pgC mp L) l) := by
    have e := d66 (m := mp) (l := l) C (by rw [hmp, m2_s]) (fun c hc => by rw [po (by decide), po (by decide), po (by decide), po (by decide)]; exact R c hc) 4 0 [] none (by omega) (by simp)
    rw [List.nil_append, po (by decide), po (by decide), po (by decide), ← hL] at e
    rw [q_66, xR1 C, Option.bind_some, if_pos (p_ok C _), e243, kxv_s]
    exact e
  obtain ⟨mr, hmr⟩ : ∃ mr, mr = m2 (m2 (pgC mp L) 39 13 0) 39 31 0 := ⟨_, rfl⟩
  have ro : ∀ {a : Nat}, a ≠ 39 → a ≠ 3 → a ≠ 4 → mr a = m a := fun h1 h2 h3 => by rw [hmr, m2_r _ _ _ h1, m2_r _ _ _ h1, pgC_o _ h2 h3, po h2]
  have e138 : cl 138 [.ref 39, .int x] (tm W (pgC mp L) l) = dn 138 8 [some (.ref 39), some (.int x), some (.int (nI 4))] [] (tm W (pgR mr L) l) := by
    have e := d138 (m := mr) (l := l) (r := m 10) M x (by rw [hmr, m2_s]) (fun c hc => by rw [ro (by decide) (by decide) (by decide), ro (by decide) (by decide) (by decide), ro (by decide) (by decide) (by decide)]; exact R c hc) 4 0 [] (by omega) (by simp)
    rw [List.nil_append, ro (by decide) (by decide) (by decide), ro (by decide) (by decide) (by decide), ro (by decide) (by decide) (by decide), ← hL] at e
    rw [q_138, ru13 M, Option.bind_some, ru31 M, Option.bind_some, ← hmr]
    exact e
  have c1 : pgC mp L 3 1 = nI L.length := by
    have e := apM_f (φ := fC) (o := 3) (fd := 1) (r := 4) L 0 mp (by rw [hmp, m2_s]; rfl)
    rw [Nat.zero_add] at e
    exact e
  have c31 : pgR mr L 39 31 = nI L.length := by
    have e := apM_f (φ := fB) (o := 39) (fd := 31) (r := 57) L 0 mr (by rw [hmr, m2_s]; rfl)
    rw [Nat.zero_add] at e
    exact e
  have fo' : ∀ {a : Nat}, a ≠ 39 → a ≠ 57 → a ≠ 3 → a ≠ 4 → pgR mr L a = m a := fun h1 h2 h3 h4 => by rw [pgR_o _ h1 h2, ro h1 h3 h4]
  have f39 : ∀ {k : Nat}, k ≠ 31 → k ≠ 13 → pgR mr L 39 k = m 39 k := fun h1 h2 => by
    rw [pgR, apM_k h1 (by decide), hmr, m2_k _ _ _ _ h1, m2_k _ _ _ _ h2, pgC_o _ (by decide) (by decide), po (by decide)]
  have inv : Inv (j + 1) W (pgR mr L) l := Inv_t h (fun a ha => fo' (by omega) (by omega) (by omega) (by omega)) (by rw [fo' (by decide) (by decide) (by decide) (by decide)]) (by rw [fo' (by decide) (by decide) (by decide) (by decide)]) (by rw [fo' (by decide) (by decide) (by decide) (by decide)]) (f39 (by decide) (by decide)) (f39 (by decide) (by decide)) (by
      obtain ⟨n, n1, n2, n3, n4⟩ := hT
      exact ⟨n, n1, by rw [fo' (by decide) (by decide) (by decide) (by decide)]; exact n2, by rw [f39 (by decide) (by decide)]; exact n3, fun i hi => by rw [fo' (by decide) (by decide) (by decide) (by decide), fo' (by decide) (by decide) (by decide) (by decide)]; exact n4 i hi⟩) (iRow_fr hrow (by rw [fo' (by decide) (by decide) (by decide) (by decide)]) (fo' (by decide) (by decide) (by decide) (by decide)) (f39 (by decide) (by decide)))
  have fin : ∀ v : Int32, cl 6 [.ref 0, .int x] (tm W m l) = some (some (.int v), tm W (pgC mp L) l) → cl 138 [.ref 39, .int x] (tm W (pgC mp L) l) = some (some (.int v), tm W (pgR mr L) l) → Both j W m l 6 138 [.int x] [.int x] := fun v h1 h2 => ⟨v, W, pgC mp L, l, W, pgR mr L, l, h1, h2, rfl, rfl, rfl, rfl, inv⟩
  have q4 : (4 : Int32) ≤ nI 4 := by decide
  have g31 : ia_gI (tm W (pgC mp L) l) 1 3 1 = some (nI L.length) := by rw [tm_gI C.t3 rfl, c1]
  by_cases hx : x = -1
  · refine fin (nI L.length) ?_ ?_
    · simp only [q_6, xok C, e66, eq_true hx, xR1 C, g31, Option.bind_some, kxv_s, if_true]
    · rw [e138, q_138_8, if_pos q4, if_pos hx, rI31 M, Option.bind_some, c31]
  · rcases arg x L.length (by omega) with ⟨k, hk, rfl⟩ | hn
    · have hv := hb _ (List.getElem_mem hk)
      have a1 : pgC mp L 4 k = nI L[k] := by
        have e := apM_at (φ := fC) (o := 3) (fd := 1) (r := 4) (by decide) L 0 mp k _ (List.getElem?_eq_getElem hk)
        rw [Nat.zero_add] at e
        exact e
      have a2 : pgR mr L 57 k = nI L[k] := by
        have e := apM_at (φ := fB) (o := 39) (fd := 31) (r := 57) (by decide) L 0 mr k _ (List.getElem?_eq_getElem hk)
        rw [Nat.zero_add] at e
        exact e.trans (fB_e hv)
      have d1 : ia_ld (tm W (pgC mp L) l) 2 4 (nI k) = some (nI L[k]) := by rw [tm_ld C.t4 (by decide) (by decide) (by omega) (by decide), a1]
      have e244 : cl 244 [.ref 3, .int (nI k)] (tm W (pgC mp L) l) = some (some (.int (nI L[k])), tm W (pgC mp L) l) := by
        rw [q_244, if_neg (nI_pos (by omega)), g31, Option.bind_some, if_neg (nI_ge hk (by omega)), tm_gR C.t3 rfl, Option.bind_some, d1, Option.bind_some]
      refine fin (nI L[k]) ?_ ?_
      · simp only [q_6, xok C, e66, eq_false hx, xR1 C, p_ok C, e244, Option.bind_some, kxv_s, kxi_s, if_true, if_false]
      · have e69 : cl 69 [.long (nI k).toInt64, .long 0, .long (nI L.length - 1).toInt64] (tm W (pgR mr L) l) = some (some (.int 1), tm W (pgR mr L) l) := in_y hk (by omega) _
        rw [e138, q_138_8, if_pos q4, if_neg hx, rI31 M, Option.bind_some, c31, e69, kxi_s, if_neg (by decide), rR30 M, Option.bind_some, rl57 M (by omega), Option.bind_some, a2]
    · refine fin (-1) ?_ ?_
      · have e244 : cl 244 [.ref 3, .int x] (tm W (pgC mp L) l) = some (some (.int (-1)), tm W (pgC mp L) l) := by
          rw [q_244]
          rcases hn with hn | hn
          · rw [if_pos hn]
          · by_cases h0 : x < 0
            · rw [if_pos h0]
            · rw [if_neg h0, g31, Option.bind_some, if_pos hn]
        simp only [q_6, xok C, e66, eq_false hx, xR1 C, p_ok C, e244, Option.bind_some, kxv_s, kxi_s, if_true, if_false]
      · have e69 : cl 69 [.long x.toInt64, .long 0, .long (nI L.length - 1).toInt64] (tm W (pgR mr L) l) = some (some (.int 0), tm W (pgR mr L) l) := in_n hn (by omega) _
        rw [e138, q_138_8, if_pos q4, if_neg hx, rI31 M, Option.bind_some, c31, e69, kxi_s, if_pos rfl]
end TXZa

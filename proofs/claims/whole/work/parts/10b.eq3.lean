/-! equations of the methods 195 to 258, by program (wip/whole/dec.py) -/
theorem q_195 (ab : Nat) (ac : Int32) (ad : Int32) (h : ia_H) : cl 195 [.ref ab, .int ac, .int ad] h = ((ia_gR h 4 ab 0).bind fun a1 => ((ia_ld h 0 a1 ((ac * 12) + ad)).bind fun v2 => some (some (.int v2), h))) := by
  refine (dq rfl rfl).trans ?_
  refine (dq_getR rfl).trans (bn_c (fun a1 => ?_))
  refine (dq rfl rfl).trans ?_
  refine (dq rfl rfl).trans ?_
  refine (dq rfl rfl).trans ?_
  refine (dq rfl rfl).trans ?_
  refine (dq rfl rfl).trans ?_
  refine (dq_iald rfl).trans (bn_c (fun v2 => ?_))
  exact dq_ret1 rfl
theorem q_196 (ab : Nat) (ac : Int32) (ad : Int32) (ae : Int32) (h : ia_H) : cl 196 [.ref ab, .int ac, .int ad, .int ae] h = ((ia_gR h 4 ab 0).bind fun a1 => ((ia_st h 0 a1 ((ac * 12) + ad) ae).bind fun h2 => some (none, h2))) := by
  refine (dq rfl rfl).trans ?_
  refine (dq_getR rfl).trans (bn_c (fun a1 => ?_))
  refine (dq rfl rfl).trans ?_
  refine (dq rfl rfl).trans ?_
  refine (dq rfl rfl).trans ?_
  refine (dq rfl rfl).trans ?_
  refine (dq rfl rfl).trans ?_
  refine (dq rfl rfl).trans ?_
  refine (dq_iast rfl).trans (bn_c (fun h2 => ?_))
  exact dq_ret0 rfl
theorem q_197 (ab : Nat) (ac : Int32) (h : ia_H) : cl 197 [.ref ab, .int ac] h = (if ia_ok h 4 [.ref ab, .int ac, .int 3] = true then kxi (cl 195 [.ref ab, .int ac, .int 3] h) (fun r2 h1 => some (some (.int r2), h1)) else none) := by
  refine (dq rfl rfl).trans ?_
  refine (dq rfl rfl).trans ?_
  refine (dq rfl rfl).trans ?_
  refine (dq_kxi (z := 195) rfl (lq rfl) (lq rfl) (lq rfl) kd_195).trans (it_c (kxi_c (fun r2 h1 => ?_)))
  exact dq_ret1 rfl
theorem q_198 (ab : Nat) (ac : Int32) (ad : Int32) (h : ia_H) : cl 198 [.ref ab, .int ac, .int ad] h = (if ia_ok h 4 [.ref ab, .int ac, .int (4 + (2 * ad))] = true then kxi (cl 195 [.ref ab, .int ac, .int (4 + (2 * ad))] h) (fun r2 h1 => some (some (.int r2), h1)) else none) := by
  refine (dq rfl rfl).trans ?_
  refine (dq rfl rfl).trans ?_
  refine (dq rfl rfl).trans ?_
  refine (dq rfl rfl).trans ?_
  refine (dq rfl rfl).trans ?_
  refine (dq rfl rfl).trans ?_
  refine (dq rfl rfl).trans ?_
  refine (dq_kxi (z := 195) rfl (lq rfl) (lq rfl) (lq rfl) kd_195).trans (it_c (kxi_c (fun r2 h1 => ?_)))
  exact dq_ret1 rfl
theorem q_199 (ab : Nat) (ac : Int32) (ad : Int32) (h : ia_H) : cl 199 [.ref ab, .int ac, .int ad] h = (if ia_ok h 4 [.ref ab, .int ac, .int ((4 + (2 * ad)) + 1)] = true then kxi (cl 195 [.ref ab, .int ac, .int ((4 + (2 * ad)) + 1)] h) (fun r2 h1 => some (some (.int r2), h1)) else none) := by
  refine (dq rfl rfl).trans ?_
  refine (dq rfl rfl).trans ?_
  refine (dq rfl rfl).trans ?_
  refine (dq rfl rfl).trans ?_
  refine (dq rfl rfl).trans ?_
  refine (dq rfl rfl).trans ?_
  refine (dq rfl rfl).trans ?_
  refine (dq rfl rfl).trans ?_
  refine (dq rfl rfl).trans ?_
  refine (dq_kxi (z := 195) rfl (lq rfl) (lq rfl) (lq rfl) kd_195).trans (it_c (kxi_c (fun r2 h1 => ?_)))
  exact dq_ret1 rfl
theorem q_200 (ab : Nat) (ac : Int32) (ad : Int32) (ae : Int32) (h : ia_H) : cl 200 [.ref ab, .int ac, .int ad, .int ae] h = (if ia_ok h 4 [.ref ab, .int ac] = true then kxi (cl 197 [.ref ab, .int ac] h) (fun r2 h1 => (if 4 ≤ r2 then some (none, h1) else (if ia_ok h1 4 [.ref ab, .int ac, .int (4 + (2 * r2)), .int ad] = true then kxv (cl 196 [.ref ab, .int ac, .int (4 + (2 * r2)), .int ad] h1) (fun h3 => (if ia_ok h3 4 [.ref ab, .int ac, .int ((4 + (2 * r2)) + 1), .int ae] = true then kxv (cl 196 [.ref ab, .int ac, .int ((4 + (2 * r2)) + 1), .int ae] h3) (fun h4 => (if ia_ok h4 4 [.ref ab, .int ac, .int 3, .int (r2 + 1)] = true then kxv (cl 196 [.ref ab, .int ac, .int 3, .int (r2 + 1)] h4) (fun h5 => some (none, h5)) else none)) else none)) else none))) else none) := by
  refine (dq rfl rfl).trans ?_
  refine (dq rfl rfl).trans ?_
  refine (dq_kxi (z := 197) rfl (lq rfl) (lq rfl) (lq rfl) kd_197).trans (it_c (kxi_c (fun r2 h1 => ?_)))
  refine (dq rfl rfl).trans ?_
  refine (dq rfl rfl).trans ?_
  refine (dq rfl rfl).trans ?_
  refine (dq_ige rfl).trans (ie_c ?_ ?_)
  · exact dq_ret0 rfl
  · refine (dq rfl rfl).trans ?_
    refine (dq rfl rfl).trans ?_
    refine (dq rfl rfl).trans ?_
    refine (dq rfl rfl).trans ?_
    refine (dq rfl rfl).trans ?_
    refine (dq rfl rfl).trans ?_
    refine (dq rfl rfl).trans ?_
    refine (dq rfl rfl).trans ?_
    refine (dq_kxv (z := 196) rfl (lq rfl) (lq rfl) (lq rfl) kd_196).trans (it_c (kxv_c (fun h3 => ?_)))
    refine (dq rfl rfl).trans ?_
    refine (dq rfl rfl).trans ?_
    refine (dq rfl rfl).trans ?_
    refine (dq rfl rfl).trans ?_
    refine (dq rfl rfl).trans ?_
    refine (dq rfl rfl).trans ?_
    refine (dq rfl rfl).trans ?_
    refine (dq rfl rfl).trans ?_
    refine (dq rfl rfl).trans ?_
    refine (dq rfl rfl).trans ?_
    refine (dq_kxv (z := 196) rfl (lq rfl) (lq rfl) (lq rfl) kd_196).trans (it_c (kxv_c (fun h4 => ?_)))
    refine (dq rfl rfl).trans ?_
    refine (dq rfl rfl).trans ?_
    refine (dq rfl rfl).trans ?_
    refine (dq rfl rfl).trans ?_
    refine (dq rfl rfl).trans ?_
    refine (dq rfl rfl).trans ?_
    refine (dq_kxv (z := 196) rfl (lq rfl) (lq rfl) (lq rfl) kd_196).trans (it_c (kxv_c (fun h5 => ?_)))
    exact dq_ret0 rfl
theorem q_201 (ab : Nat) (ac : Int32) (ad : Int32) (h : ia_H) : cl 201 [.ref ab, .int ac, .int ad] h = dn 201 2 [some (.ref ab), some (.int ac), some (.int ad), some (.int 0)] [] h := by
  refine (dq rfl rfl).trans ?_
  refine (dq rfl rfl).trans ?_
  rfl
theorem q_201_2 (x0 : Nat) (x1 : Int32) (x2 : Int32) (x3 : Int32) (h : ia_H) : dn 201 2 [some (.ref x0), some (.int x1), some (.int x2), some (.int x3)] [] h = (if ia_ok h 4 [.ref x0, .int x1] = true then kxi (cl 197 [.ref x0, .int x1] h) (fun r2 h1 => (if r2 ≤ x3 then some (some (.int 0), h1) else (if ia_ok h1 4 [.ref x0, .int x1, .int x3] = true then kxi (cl 198 [.ref x0, .int x1, .int x3] h1) (fun r4 h3 => (if r4 = x2 then (if ia_ok h3 4 [.ref x0, .int x1, .int x3] = true then kxi (cl 199 [.ref x0, .int x1, .int x3] h3) (fun r6 h5 => some (some (.int r6), h5)) else none) else dn 201 2 [some (.ref x0), some (.int x1), some (.int x2), some (.int (x3 + 1))] [] h3)) else none))) else none) := by
  refine (dq rfl rfl).trans ?_
  refine (dq rfl rfl).trans ?_
  refine (dq rfl rfl).trans ?_
  refine (dq_kxi (z := 197) rfl (lq rfl) (lq rfl) (lq rfl) kd_197).trans (it_c (kxi_c (fun r2 h1 => ?_)))
  refine (dq_ige rfl).trans (ie_c ?_ ?_)
  · refine (dq rfl rfl).trans ?_
    exact dq_ret1 rfl
  · refine (dq rfl rfl).trans ?_
    refine (dq rfl rfl).trans ?_
    refine (dq rfl rfl).trans ?_
    refine (dq_kxi (z := 198) rfl (lq rfl) (lq rfl) (lq rfl) kd_198).trans (it_c (kxi_c (fun r4 h3 => ?_)))
    refine (dq rfl rfl).trans ?_
    refine (dq_ine rfl).trans (ie_c ?_ ?_)
    · refine (dq rfl rfl).trans ?_
      refine (dq rfl rfl).trans ?_
      refine (dq rfl rfl).trans ?_
      refine (dq_kxi (z := 199) rfl (lq rfl) (lq rfl) (lq rfl) kd_199).trans (it_c (kxi_c (fun r6 h5 => ?_)))
      exact dq_ret1 rfl
    · refine (dq_iinc (v := 1) rfl rfl (by decide)).trans ?_
      refine (dq rfl rfl).trans ?_
      rfl
theorem q_202 (ab : Nat) (ac : Int32) (ad : Int32) (h : ia_H) : cl 202 [.ref ab, .int ac, .int ad] h = dn 202 2 [some (.ref ab), some (.int ac), some (.int ad), some (.int 0)] [] h := by
  refine (dq rfl rfl).trans ?_
  refine (dq rfl rfl).trans ?_
  rfl
theorem q_202_2 (x0 : Nat) (x1 : Int32) (x2 : Int32) (x3 : Int32) (h : ia_H) : dn 202 2 [some (.ref x0), some (.int x1), some (.int x2), some (.int x3)] [] h = (if ia_ok h 4 [.ref x0, .int x1] = true then kxi (cl 197 [.ref x0, .int x1] h) (fun r2 h1 => (if r2 ≤ x3 then some (some (.int (-1)), h1) else (if ia_ok h1 4 [.ref x0, .int x1, .int x3] = true then kxi (cl 198 [.ref x0, .int x1, .int x3] h1) (fun r4 h3 => (if r4 ≤ x2 then dn 202 2 [some (.ref x0), some (.int x1), some (.int x2), some (.int (x3 + 1))] [] h3 else some (some (.int x3), h3))) else none))) else none) := by
  refine (dq rfl rfl).trans ?_
  refine (dq rfl rfl).trans ?_
  refine (dq rfl rfl).trans ?_
  refine (dq_kxi (z := 197) rfl (lq rfl) (lq rfl) (lq rfl) kd_197).trans (it_c (kxi_c (fun r2 h1 => ?_)))
  refine (dq_ige rfl).trans (ie_c ?_ ?_)
  · refine (dq rfl rfl).trans ?_
    exact dq_ret1 rfl
  · refine (dq rfl rfl).trans ?_
    refine (dq rfl rfl).trans ?_
    refine (dq rfl rfl).trans ?_
    refine (dq_kxi (z := 198) rfl (lq rfl) (lq rfl) (lq rfl) kd_198).trans (it_c (kxi_c (fun r4 h3 => ?_)))
    refine (dq rfl rfl).trans ?_
    refine (dq_ile rfl).trans (ie_c ?_ ?_)
    · refine (dq_iinc (v := 1) rfl rfl (by decide)).trans ?_
      refine (dq rfl rfl).trans ?_
      rfl
    · refine (dq rfl rfl).trans ?_
      exact dq_ret1 rfl
theorem q_203 (ab : Nat) (ac : Int32) (ad : Int32) (h : ia_H) : cl 203 [.ref ab, .int ac, .int ad] h = (if ad ≤ 0 then some (some (.int 0), h) else (if ia_ok h 4 [.ref ab, .int ac, .int 2] = true then kxi (cl 195 [.ref ab, .int ac, .int 2] h) (fun r2 h1 => (if ad = r2 then some (some (.int 1), h1) else some (some (.int 0), h1))) else none)) := by
  refine (dq rfl rfl).trans ?_
  refine (dq_ifle rfl).trans (ie_c ?_ ?_)
  · refine (dq rfl rfl).trans ?_
    exact dq_ret20 rfl
  · refine (dq rfl rfl).trans ?_
    refine (dq rfl rfl).trans ?_
    refine (dq rfl rfl).trans ?_
    refine (dq rfl rfl).trans ?_
    refine (dq_kxi (z := 195) rfl (lq rfl) (lq rfl) (lq rfl) kd_195).trans (it_c (kxi_c (fun r2 h1 => ?_)))
    refine (dq_ine rfl).trans (ie_c ?_ ?_)
    · refine (dq rfl rfl).trans ?_
      refine (dq rfl rfl).trans ?_
      exact dq_ret21 rfl
    · refine (dq rfl rfl).trans ?_
      exact dq_ret20 rfl
theorem q_204 (ab : Nat) (h : ia_H) : cl 204 [.ref ab] h = ((ia_pF (ia_new h 12 (.inl (0, 12, ia_zero 0))) 5 ab 4 (.ref (h.1))).bind fun h1 => ((ia_pF (ia_new h1 48 (.inl (0, 48, ia_zero 0))) 5 ab 5 (.ref (h1.1))).bind fun h2 => ((ia_pF (ia_new h2 16 (.inl (0, 16, ia_zero 0))) 5 ab 6 (.ref (h2.1))).bind fun h3 => ((ia_pF (ia_new h3 36 (.inl (0, 36, ia_zero 0))) 5 ab 7 (.ref (h3.1))).bind fun h4 => ((ia_pF (ia_new h4 12 (.inl (0, 12, ia_zero 0))) 5 ab 8 (.ref (h4.1))).bind fun h5 => ((ia_pF (ia_new h5 800 (.inl (0, 800, ia_zero 0))) 5 ab 9 (.ref (h5.1))).bind fun h6 => ((ia_pF (ia_new h6 180 (.inl (0, 180, ia_zero 0))) 5 ab 10 (.ref (h6.1))).bind fun h7 => some (none, h7)))))))) := by
  refine (dq rfl rfl).trans ?_
  refine (dq rfl rfl).trans ?_
  refine (dq rfl rfl).trans ?_
  refine (dq rfl rfl).trans ?_
  refine (dq_newa (n := 12) rfl (by decide +kernel)).trans ?_
  refine (dq_putR rfl).trans (bn_c (fun h1 => ?_))
  refine (dq rfl rfl).trans ?_
  refine (dq rfl rfl).trans ?_
  refine (dq_newa (n := 48) rfl (by decide +kernel)).trans ?_
  refine (dq_putR rfl).trans (bn_c (fun h2 => ?_))
  refine (dq rfl rfl).trans ?_
  refine (dq rfl rfl).trans ?_
  refine (dq_newa (n := 16) rfl (by decide +kernel)).trans ?_
  refine (dq_putR rfl).trans (bn_c (fun h3 => ?_))
  refine (dq rfl rfl).trans ?_
  refine (dq rfl rfl).trans ?_
  refine (dq_newa (n := 36) rfl (by decide +kernel)).trans ?_
  refine (dq_putR rfl).trans (bn_c (fun h4 => ?_))
  refine (dq rfl rfl).trans ?_
  refine (dq rfl rfl).trans ?_
  refine (dq_newa (n := 12) rfl (by decide +kernel)).trans ?_
  refine (dq_putR rfl).trans (bn_c (fun h5 => ?_))
  refine (dq rfl rfl).trans ?_
  refine (dq rfl rfl).trans ?_
  refine (dq_newa (n := 800) rfl (by decide +kernel)).trans ?_
  refine (dq_putR rfl).trans (bn_c (fun h6 => ?_))
  refine (dq rfl rfl).trans ?_
  refine (dq rfl rfl).trans ?_
  refine (dq_newa (n := 180) rfl (by decide +kernel)).trans ?_
  refine (dq_putR rfl).trans (bn_c (fun h7 => ?_))
  exact dq_ret0 rfl
theorem q_205 (ab : Nat) (ac : Nat) (h : ia_H) : cl 205 [.ref ab, .ref ac] h = ((ia_gI h 5 ac 0).bind fun v1 => ((ia_pF h 5 ab 0 (.int v1)).bind fun h2 => ((ia_gI h2 5 ac 1).bind fun v3 => ((ia_pF h2 5 ab 1 (.int v3)).bind fun h4 => ((ia_gI h4 5 ac 2).bind fun v5 => ((ia_pF h4 5 ab 2 (.int v5)).bind fun h6 => ((ia_gI h6 5 ac 3).bind fun v7 => ((ia_pF h6 5 ab 3 (.int v7)).bind fun h8 => ((ia_gR h8 5 ac 4).bind fun a9 => ((ia_gR h8 5 ab 4).bind fun a10 => ((ia_gR h8 5 ab 4).bind fun a11 => ((ia_len h8 a11).bind fun v12 => ((ia_cp h8 a9 a10 0 0 v12).bind fun h13 => ((ia_gR h13 5 ac 5).bind fun a14 => ((ia_gR h13 5 ab 5).bind fun a15 => ((ia_gR h13 5 ab 5).bind fun a16 => ((ia_len h13 a16).bind fun v17 => ((ia_cp h13 a14 a15 0 0 v17).bind fun h18 => ((ia_gR h18 5 ac 6).bind fun a19 => ((ia_gR h18 5 ab 6).bind fun a20 => ((ia_gR h18 5 ab 6).bind fun a21 => ((ia_len h18 a21).bind fun v22 => ((ia_cp h18 a19 a20 0 0 v22).bind fun h23 => ((ia_gR h23 5 ac 7).bind fun a24 => ((ia_gR h23 5 ab 7).bind fun a25 => ((ia_gR h23 5 ab 7).bind fun a26 => ((ia_len h23 a26).bind fun v27 => ((ia_cp h23 a24 a25 0 0 v27).bind fun h28 => ((ia_gR h28 5 ac 8).bind fun a29 => ((ia_gR h28 5 ab 8).bind fun a30 => ((ia_gR h28 5 ab 8).bind fun a31 => ((ia_len h28 a31).bind fun v32 => ((ia_cp h28 a29 a30 0 0 v32).bind fun h33 => ((ia_gR h33 5 ac 9).bind fun a34 => ((ia_gR h33 5 ab 9).bind fun a35 => ((ia_gR h33 5 ab 9).bind fun a36 => ((ia_len h33 a36).bind fun v37 => ((ia_cp h33 a34 a35 0 0 v37).bind fun h38 => ((ia_gR h38 5 ac 10).bind fun a39 => ((ia_gR h38 5 ab 10).bind fun a40 => ((ia_gR h38 5 ab 10).bind fun a41 => ((ia_len h38 a41).bind fun v42 => ((ia_cp h38 a39 a40 0 0 v42).bind fun h43 => some (none, h43)))))))))))))))))))))))))))))))))))))))))))) := by
  refine (dq rfl rfl).trans ?_
  refine (dq rfl rfl).trans ?_
  refine (dq_getI rfl).trans (bn_c (fun v1 => ?_))
  refine (dq_putI rfl).trans (bn_c (fun h2 => ?_))
  refine (dq rfl rfl).trans ?_
  refine (dq rfl rfl).trans ?_
  refine (dq_getI rfl).trans (bn_c (fun v3 => ?_))
  refine (dq_putI rfl).trans (bn_c (fun h4 => ?_))
  refine (dq rfl rfl).trans ?_
  refine (dq rfl rfl).trans ?_
  refine (dq_getI rfl).trans (bn_c (fun v5 => ?_))
  refine (dq_putI rfl).trans (bn_c (fun h6 => ?_))
  refine (dq rfl rfl).trans ?_
  refine (dq rfl rfl).trans ?_
  refine (dq_getI rfl).trans (bn_c (fun v7 => ?_))
  refine (dq_putI rfl).trans (bn_c (fun h8 => ?_))
  refine (dq rfl rfl).trans ?_
  refine (dq_getR rfl).trans (bn_c (fun a9 => ?_))
  refine (dq rfl rfl).trans ?_
  refine (dq rfl rfl).trans ?_
  refine (dq_getR rfl).trans (bn_c (fun a10 => ?_))
  refine (dq rfl rfl).trans ?_
  refine (dq rfl rfl).trans ?_
  refine (dq_getR rfl).trans (bn_c (fun a11 => ?_))
  refine (dq_alen rfl).trans (bn_c (fun v12 => ?_))
  refine (dq_copy rfl (lq rfl)).trans (bn_c (fun h13 => ?_))
  refine (dq rfl rfl).trans ?_
  refine (dq_getR rfl).trans (bn_c (fun a14 => ?_))
  refine (dq rfl rfl).trans ?_
  refine (dq rfl rfl).trans ?_
  refine (dq_getR rfl).trans (bn_c (fun a15 => ?_))
  refine (dq rfl rfl).trans ?_
  refine (dq rfl rfl).trans ?_
  refine (dq_getR rfl).trans (bn_c (fun a16 => ?_))
  refine (dq_alen rfl).trans (bn_c (fun v17 => ?_))
  refine (dq_copy rfl (lq rfl)).trans (bn_c (fun h18 => ?_))
  refine (dq rfl rfl).trans ?_
  refine (dq_getR rfl).trans (bn_c (fun a19 => ?_))
  refine (dq rfl rfl).trans ?_
  refine (dq rfl rfl).trans ?_
  refine (dq_getR rfl).trans (bn_c (fun a20 => ?_))
  refine (dq rfl rfl).trans ?_
  refine (dq rfl rfl).trans ?_
  refine (dq_getR rfl).trans (bn_c (fun a21 => ?_))
  refine (dq_alen rfl).trans (bn_c (fun v22 => ?_))
  refine (dq_copy rfl (lq rfl)).trans (bn_c (fun h23 => ?_))
  refine (dq rfl rfl).trans ?_
  refine (dq_getR rfl).trans (bn_c (fun a24 => ?_))
  refine (dq rfl rfl).trans ?_
  refine (dq rfl rfl).trans ?_
  refine (dq_getR rfl).trans (bn_c (fun a25 => ?_))
  refine (dq rfl rfl).trans ?_
  refine (dq rfl rfl).trans ?_
  refine (dq_getR rfl).trans (bn_c (fun a26 => ?_))
  refine (dq_alen rfl).trans (bn_c (fun v27 => ?_))
  refine (dq_copy rfl (lq rfl)).trans (bn_c (fun h28 => ?_))
  refine (dq rfl rfl).trans ?_
  refine (dq_getR rfl).trans (bn_c (fun a29 => ?_))
  refine (dq rfl rfl).trans ?_
  refine (dq rfl rfl).trans ?_
  refine (dq_getR rfl).trans (bn_c (fun a30 => ?_))
  refine (dq rfl rfl).trans ?_
  refine (dq rfl rfl).trans ?_
  refine (dq_getR rfl).trans (bn_c (fun a31 => ?_))
  refine (dq_alen rfl).trans (bn_c (fun v32 => ?_))
  refine (dq_copy rfl (lq rfl)).trans (bn_c (fun h33 => ?_))
  refine (dq rfl rfl).trans ?_
  refine (dq_getR rfl).trans (bn_c (fun a34 => ?_))
  refine (dq rfl rfl).trans ?_
  refine (dq rfl rfl).trans ?_
  refine (dq_getR rfl).trans (bn_c (fun a35 => ?_))
  refine (dq rfl rfl).trans ?_
  refine (dq rfl rfl).trans ?_
  refine (dq_getR rfl).trans (bn_c (fun a36 => ?_))
  refine (dq_alen rfl).trans (bn_c (fun v37 => ?_))
  refine (dq_copy rfl (lq rfl)).trans (bn_c (fun h38 => ?_))
  refine (dq rfl rfl).trans ?_
  refine (dq_getR rfl).trans (bn_c (fun a39 => ?_))
  refine (dq rfl rfl).trans ?_
  refine (dq rfl rfl).trans ?_
  refine (dq_getR rfl).trans (bn_c (fun a40 => ?_))
  refine (dq rfl rfl).trans ?_
  refine (dq rfl rfl).trans ?_
  refine (dq_getR rfl).trans (bn_c (fun a41 => ?_))
  refine (dq_alen rfl).trans (bn_c (fun v42 => ?_))
  refine (dq_copy rfl (lq rfl)).trans (bn_c (fun h43 => ?_))
  exact dq_ret0 rfl
theorem q_206 (ab : Nat) (ac : Nat) (h : ia_H) : cl 206 [.ref ab, .ref ac] h = ((ia_gI h 2 ac 1).bind fun v1 => ((ia_pF h 5 ab 0 (.int (if 12 < v1 then 12 else v1))).bind fun h2 => dn 206 8 [some (.ref ab), some (.ref ac), some (.int 0)] [] h2)) := by
  refine (dq rfl rfl).trans ?_
  refine (dq rfl rfl).trans ?_
  refine (dq_getI rfl).trans (bn_c (fun v1 => ?_))
  refine (dq rfl rfl).trans ?_
  refine (dq rfl rfl).trans ?_
  refine (dq_putI rfl).trans (bn_c (fun h2 => ?_))
  refine (dq rfl rfl).trans ?_
  refine (dq rfl rfl).trans ?_
  rfl
theorem q_206_8 (x0 : Nat) (x1 : Nat) (x2 : Int32) (h : ia_H) : dn 206 8 [some (.ref x0), some (.ref x1), some (.int x2)] [] h = ((ia_gI h 5 x0 0).bind fun v1 => (if v1 ≤ x2 then ((ia_pF h 5 x0 1 (.int 0)).bind fun h2 => ((ia_pF h2 5 x0 2 (.int 0)).bind fun h3 => ((ia_pF h3 5 x0 3 (.int 0)).bind fun h4 => ((ia_gR h4 5 x0 5).bind fun a5 => kxv (cl 256 [.ref a5, .int 0] h4) (fun h6 => ((ia_gR h6 5 x0 6).bind fun a7 => kxv (cl 256 [.ref a7, .int 0] h6) (fun h8 => ((ia_gR h8 5 x0 7).bind fun a9 => kxv (cl 256 [.ref a9, .int 0] h8) (fun h10 => ((ia_gR h10 5 x0 8).bind fun a11 => kxv (cl 256 [.ref a11, .int 0] h10) (fun h12 => some (none, h12)))))))))))) else ((ia_gR h 5 x0 4).bind fun a13 => (if ia_ok h 2 [.ref x1, .int x2] = true then kxi (cl 179 [.ref x1, .int x2] h) (fun r15 h14 => ((ia_st h14 0 a13 x2 r15).bind fun h16 => dn 206 8 [some (.ref x0), some (.ref x1), some (.int (x2 + 1))] [] h16)) else none)))) := by
  refine (dq rfl rfl).trans ?_
  refine (dq rfl rfl).trans ?_
  refine (dq_getI rfl).trans (bn_c (fun v1 => ?_))
  refine (dq_ige rfl).trans (ie_c ?_ ?_)
  · refine (dq rfl rfl).trans ?_
    refine (dq rfl rfl).trans ?_
    refine (dq_putI rfl).trans (bn_c (fun h2 => ?_))
    refine (dq rfl rfl).trans ?_
    refine (dq rfl rfl).trans ?_
    refine (dq_putI rfl).trans (bn_c (fun h3 => ?_))
    refine (dq rfl rfl).trans ?_
    refine (dq rfl rfl).trans ?_
    refine (dq_putI rfl).trans (bn_c (fun h4 => ?_))
    refine (dq rfl rfl).trans ?_
    refine (dq_getR rfl).trans (bn_c (fun a5 => ?_))
    refine (dq rfl rfl).trans ?_
    refine (dq_kxv0 (z := 256) rfl (lq rfl) (lq rfl) (lq rfl) kd_256).trans (kxv_c (fun h6 => ?_))
    refine (dq rfl rfl).trans ?_
    refine (dq_getR rfl).trans (bn_c (fun a7 => ?_))
    refine (dq rfl rfl).trans ?_
    refine (dq_kxv0 (z := 256) rfl (lq rfl) (lq rfl) (lq rfl) kd_256).trans (kxv_c (fun h8 => ?_))
    refine (dq rfl rfl).trans ?_
    refine (dq_getR rfl).trans (bn_c (fun a9 => ?_))
    refine (dq rfl rfl).trans ?_
    refine (dq_kxv0 (z := 256) rfl (lq rfl) (lq rfl) (lq rfl) kd_256).trans (kxv_c (fun h10 => ?_))
    refine (dq rfl rfl).trans ?_
    refine (dq_getR rfl).trans (bn_c (fun a11 => ?_))
    refine (dq rfl rfl).trans ?_
    refine (dq_kxv0 (z := 256) rfl (lq rfl) (lq rfl) (lq rfl) kd_256).trans (kxv_c (fun h12 => ?_))
    exact dq_ret0 rfl
  · refine (dq rfl rfl).trans ?_
    refine (dq_getR rfl).trans (bn_c (fun a13 => ?_))
    refine (dq rfl rfl).trans ?_
    refine (dq rfl rfl).trans ?_
    refine (dq rfl rfl).trans ?_
    refine (dq_kxi (z := 179) rfl (lq rfl) (lq rfl) (lq rfl) kd_179).trans (it_c (kxi_c (fun r15 h14 => ?_)))
    refine (dq_iast rfl).trans (bn_c (fun h16 => ?_))
    refine (dq_iinc (v := 1) rfl rfl (by decide)).trans ?_
    refine (dq rfl rfl).trans ?_
    rfl
theorem q_207 (ab : Nat) (ac : Int32) (h : ia_H) : cl 207 [.ref ab, .int ac] h = dn 207 4 [some (.ref ab), some (.int ac), some (.int 0), some (.int 0)] [] h := by
  refine (dq rfl rfl).trans ?_
  refine (dq rfl rfl).trans ?_
  refine (dq rfl rfl).trans ?_
  refine (dq rfl rfl).trans ?_
  rfl
theorem q_207_4 (x0 : Nat) (x1 : Int32) (x2 : Int32) (x3 : Int32) (h : ia_H) : dn 207 4 [some (.ref x0), some (.int x1), some (.int x2), some (.int x3)] [] h = ((ia_gI h 5 x0 0).bind fun v1 => (if v1 ≤ x3 then some (some (.int x2), h) else ((ia_gR h 5 x0 4).bind fun a2 => ((ia_ld h 0 a2 x3).bind fun v3 => (if v3 = x1 then kxi (cl 54 [.int x3] h) (fun r5 h4 => dn 207 4 [some (.ref x0), some (.int x1), some (.int (x2 ||| r5)), some (.int (x3 + 1))] [] h4) else dn 207 4 [some (.ref x0), some (.int x1), some (.int x2), some (.int (x3 + 1))] [] h))))) := by
  refine (dq rfl rfl).trans ?_
  refine (dq rfl rfl).trans ?_
  refine (dq_getI rfl).trans (bn_c (fun v1 => ?_))
  refine (dq_ige rfl).trans (ie_c ?_ ?_)
  · refine (dq rfl rfl).trans ?_
    exact dq_ret1 rfl
  · refine (dq rfl rfl).trans ?_
    refine (dq_getR rfl).trans (bn_c (fun a2 => ?_))
    refine (dq rfl rfl).trans ?_
    refine (dq_iald rfl).trans (bn_c (fun v3 => ?_))
    refine (dq rfl rfl).trans ?_
    refine (dq_ine rfl).trans (ie_c ?_ ?_)
    · refine (dq rfl rfl).trans ?_
      refine (dq rfl rfl).trans ?_
      refine (dq_kxi0 (z := 54) rfl (lq rfl) (lq rfl) (lq rfl) kd_54).trans (kxi_c (fun r5 h4 => ?_))
      refine (dq rfl rfl).trans ?_
      refine (dq rfl rfl).trans ?_
      refine (dq_iinc (v := 1) rfl rfl (by decide)).trans ?_
      refine (dq rfl rfl).trans ?_
      rfl
    · refine (dq_iinc (v := 1) rfl rfl (by decide)).trans ?_
      refine (dq rfl rfl).trans ?_
      rfl
theorem q_208 (ab : Nat) (ac : Int32) (ad : Int32) (h : ia_H) : cl 208 [.ref ab, .int ac, .int ad] h = ((ia_gR h 5 ab 5).bind fun a1 => ((ia_ld h 0 a1 ((ac * 4) + ad)).bind fun v2 => some (some (.int v2), h))) := by
  refine (dq rfl rfl).trans ?_
  refine (dq_getR rfl).trans (bn_c (fun a1 => ?_))
  refine (dq rfl rfl).trans ?_
  refine (dq rfl rfl).trans ?_
  refine (dq rfl rfl).trans ?_
  refine (dq rfl rfl).trans ?_
  refine (dq rfl rfl).trans ?_
  refine (dq_iald rfl).trans (bn_c (fun v2 => ?_))
  exact dq_ret1 rfl
theorem q_209 (ab : Nat) (ac : Int32) (ad : Int32) (ae : Int32) (h : ia_H) : cl 209 [.ref ab, .int ac, .int ad, .int ae] h = ((ia_gR h 5 ab 5).bind fun a1 => ((ia_ld h 0 a1 ((ac * 4) + ad)).bind fun v2 => ((ia_st h 0 a1 ((ac * 4) + ad) (v2 + ae)).bind fun h3 => some (none, h3)))) := by
  refine (dq rfl rfl).trans ?_
  refine (dq_getR rfl).trans (bn_c (fun a1 => ?_))
  refine (dq rfl rfl).trans ?_
  refine (dq rfl rfl).trans ?_
  refine (dq rfl rfl).trans ?_
  refine (dq rfl rfl).trans ?_
  refine (dq rfl rfl).trans ?_
  refine (dq rfl rfl).trans ?_
  refine (dq_iald rfl).trans (bn_c (fun v2 => ?_))
  refine (dq rfl rfl).trans ?_
  refine (dq rfl rfl).trans ?_
  refine (dq_iast rfl).trans (bn_c (fun h3 => ?_))
  exact dq_ret0 rfl
theorem q_210 (ab : Nat) (h : ia_H) : cl 210 [.ref ab] h = dn 210 4 [some (.ref ab), some (.int 0), some (.int 0)] [] h := by
  refine (dq rfl rfl).trans ?_
  refine (dq rfl rfl).trans ?_
  refine (dq rfl rfl).trans ?_
  refine (dq rfl rfl).trans ?_
  rfl
theorem q_210_4 (x0 : Nat) (x1 : Int32) (x2 : Int32) (h : ia_H) : dn 210 4 [some (.ref x0), some (.int x1), some (.int x2)] [] h = ((ia_gR h 5 x0 5).bind fun a1 => ((ia_len h a1).bind fun v2 => (if v2 ≤ x2 then some (some (.int x1), h) else ((ia_gR h 5 x0 5).bind fun a3 => ((ia_ld h 0 a3 x2).bind fun v4 => dn 210 4 [some (.ref x0), some (.int (x1 + v4)), some (.int (x2 + 1))] [] h))))) := by
  refine (dq rfl rfl).trans ?_
  refine (dq rfl rfl).trans ?_
  refine (dq_getR rfl).trans (bn_c (fun a1 => ?_))
  refine (dq_alen rfl).trans (bn_c (fun v2 => ?_))
  refine (dq_ige rfl).trans (ie_c ?_ ?_)
  · refine (dq rfl rfl).trans ?_
    exact dq_ret1 rfl
  · refine (dq rfl rfl).trans ?_
    refine (dq rfl rfl).trans ?_
    refine (dq_getR rfl).trans (bn_c (fun a3 => ?_))
    refine (dq rfl rfl).trans ?_
    refine (dq_iald rfl).trans (bn_c (fun v4 => ?_))
    refine (dq rfl rfl).trans ?_
    refine (dq rfl rfl).trans ?_
    refine (dq_iinc (v := 1) rfl rfl (by decide)).trans ?_
    refine (dq rfl rfl).trans ?_
    rfl
theorem q_211 (ab : Nat) (ac : Int32) (ad : Int32) (h : ia_H) : cl 211 [.ref ab, .int ac, .int ad] h = ((ia_gR h 5 ab 6).bind fun a1 => ((ia_ld h 0 a1 ((ac * 4) + ad)).bind fun v2 => some (some (.int v2), h))) := by
  refine (dq rfl rfl).trans ?_
  refine (dq_getR rfl).trans (bn_c (fun a1 => ?_))
  refine (dq rfl rfl).trans ?_
  refine (dq rfl rfl).trans ?_
  refine (dq rfl rfl).trans ?_
  refine (dq rfl rfl).trans ?_
  refine (dq rfl rfl).trans ?_
  refine (dq_iald rfl).trans (bn_c (fun v2 => ?_))
  exact dq_ret1 rfl
theorem q_212 (ab : Nat) (ac : Int32) (ad : Int32) (h : ia_H) : cl 212 [.ref ab, .int ac, .int ad] h = ((ia_gR h 5 ab 6).bind fun a1 => ((ia_ld h 0 a1 ((ac * 4) + ad)).bind fun v2 => ((ia_st h 0 a1 ((ac * 4) + ad) (v2 + 1)).bind fun h3 => (if ia_ok h3 5 [.ref ab, .int ac, .int ad] = true then kxi (cl 211 [.ref ab, .int ac, .int ad] h3) (fun r5 h4 => some (some (.int r5), h4)) else none)))) := by
  refine (dq rfl rfl).trans ?_
  refine (dq_getR rfl).trans (bn_c (fun a1 => ?_))
  refine (dq rfl rfl).trans ?_
  refine (dq rfl rfl).trans ?_
  refine (dq rfl rfl).trans ?_
  refine (dq rfl rfl).trans ?_
  refine (dq rfl rfl).trans ?_
  refine (dq rfl rfl).trans ?_
  refine (dq_iald rfl).trans (bn_c (fun v2 => ?_))
  refine (dq rfl rfl).trans ?_
  refine (dq rfl rfl).trans ?_
  refine (dq_iast rfl).trans (bn_c (fun h3 => ?_))
  refine (dq rfl rfl).trans ?_
  refine (dq rfl rfl).trans ?_
  refine (dq rfl rfl).trans ?_
  refine (dq_kxi (z := 211) rfl (lq rfl) (lq rfl) (lq rfl) kd_211).trans (it_c (kxi_c (fun r5 h4 => ?_)))
  exact dq_ret1 rfl
theorem q_213 (ab : Nat) (ac : Int32) (ad : Int32) (h : ia_H) : cl 213 [.ref ab, .int ac, .int ad] h = dn 213 2 [some (.ref ab), some (.int ac), some (.int ad), some (.int 0)] [] h := by
  refine (dq rfl rfl).trans ?_
  refine (dq rfl rfl).trans ?_
  rfl
theorem q_213_2 (x0 : Nat) (x1 : Int32) (x2 : Int32) (x3 : Int32) (h : ia_H) : dn 213 2 [some (.ref x0), some (.int x1), some (.int x2), some (.int x3)] [] h = ((ia_gI h 5 x0 0).bind fun v1 => (if v1 ≤ x3 then some (none, h) else ((ia_gR h 5 x0 4).bind fun a2 => ((ia_ld h 0 a2 x3).bind fun v3 => (if v3 = x1 then ((ia_gR h 5 x0 5).bind fun a4 => ((ia_st h 0 a4 ((x3 * 4) + x2) 0).bind fun h5 => dn 213 2 [some (.ref x0), some (.int x1), some (.int x2), some (.int (x3 + 1))] [] h5)) else dn 213 2 [some (.ref x0), some (.int x1), some (.int x2), some (.int (x3 + 1))] [] h))))) := by
  refine (dq rfl rfl).trans ?_
  refine (dq rfl rfl).trans ?_
  refine (dq_getI rfl).trans (bn_c (fun v1 => ?_))
  refine (dq_ige rfl).trans (ie_c ?_ ?_)
  · exact dq_ret0 rfl
  · refine (dq rfl rfl).trans ?_
    refine (dq_getR rfl).trans (bn_c (fun a2 => ?_))
    refine (dq rfl rfl).trans ?_
    refine (dq_iald rfl).trans (bn_c (fun v3 => ?_))
    refine (dq rfl rfl).trans ?_
    refine (dq_ine rfl).trans (ie_c ?_ ?_)
    · refine (dq rfl rfl).trans ?_
      refine (dq_getR rfl).trans (bn_c (fun a4 => ?_))
      refine (dq rfl rfl).trans ?_
      refine (dq rfl rfl).trans ?_
      refine (dq rfl rfl).trans ?_
      refine (dq rfl rfl).trans ?_
      refine (dq rfl rfl).trans ?_
      refine (dq rfl rfl).trans ?_
      refine (dq_iast rfl).trans (bn_c (fun h5 => ?_))
      refine (dq_iinc (v := 1) rfl rfl (by decide)).trans ?_
      refine (dq rfl rfl).trans ?_
      rfl
    · refine (dq_iinc (v := 1) rfl rfl (by decide)).trans ?_
      refine (dq rfl rfl).trans ?_
      rfl
theorem q_214 (ab : Nat) (ac : Int32) (ad : Int32) (h : ia_H) : cl 214 [.ref ab, .int ac, .int ad] h = ((ia_gR h 5 ab 7).bind fun a1 => ((ia_ld h 0 a1 ((ac * 3) + ad)).bind fun v2 => ((ia_st h 0 a1 ((ac * 3) + ad) (v2 + 1)).bind fun h3 => ((ia_gR h3 5 ab 8).bind fun a4 => ((ia_gR h3 5 ab 4).bind fun a5 => ((ia_ld h3 0 a5 ac).bind fun v6 => ((ia_ld h3 0 a4 ((v6 * 3) + ad)).bind fun v7 => ((ia_st h3 0 a4 ((v6 * 3) + ad) (v7 + 1)).bind fun h8 => some (none, h8))))))))) := by
  refine (dq rfl rfl).trans ?_
  refine (dq_getR rfl).trans (bn_c (fun a1 => ?_))
  refine (dq rfl rfl).trans ?_
  refine (dq rfl rfl).trans ?_
  refine (dq rfl rfl).trans ?_
  refine (dq rfl rfl).trans ?_
  refine (dq rfl rfl).trans ?_
  refine (dq rfl rfl).trans ?_
  refine (dq_iald rfl).trans (bn_c (fun v2 => ?_))
  refine (dq rfl rfl).trans ?_
  refine (dq rfl rfl).trans ?_
  refine (dq_iast rfl).trans (bn_c (fun h3 => ?_))
  refine (dq rfl rfl).trans ?_
  refine (dq_getR rfl).trans (bn_c (fun a4 => ?_))
  refine (dq rfl rfl).trans ?_
  refine (dq_getR rfl).trans (bn_c (fun a5 => ?_))
  refine (dq rfl rfl).trans ?_
  refine (dq_iald rfl).trans (bn_c (fun v6 => ?_))
  refine (dq rfl rfl).trans ?_
  refine (dq rfl rfl).trans ?_
  refine (dq rfl rfl).trans ?_
  refine (dq rfl rfl).trans ?_
  refine (dq rfl rfl).trans ?_
  refine (dq_iald rfl).trans (bn_c (fun v7 => ?_))
  refine (dq rfl rfl).trans ?_
  refine (dq rfl rfl).trans ?_
  refine (dq_iast rfl).trans (bn_c (fun h8 => ?_))
  exact dq_ret0 rfl
theorem q_215 (ab : Nat) (ac : Int32) (h : ia_H) : cl 215 [.ref ab, .int ac] h = ((ia_gR h 5 ab 8).bind fun a1 => ((ia_ld h 0 a1 ((ac * 3) + 0)).bind fun v2 => ((ia_gR h 5 ab 8).bind fun a3 => ((ia_ld h 0 a3 ((ac * 3) + 1)).bind fun v4 => some (some (.int (v2 + (3 * v4))), h))))) := by
  refine (dq rfl rfl).trans ?_
  refine (dq rfl rfl).trans ?_
  refine (dq rfl rfl).trans ?_
  refine (dq rfl rfl).trans ?_
  refine (dq rfl rfl).trans ?_
  refine (dq_getR rfl).trans (bn_c (fun a1 => ?_))
  refine (dq rfl rfl).trans ?_
  refine (dq rfl rfl).trans ?_
  refine (dq rfl rfl).trans ?_
  refine (dq_iald rfl).trans (bn_c (fun v2 => ?_))
  refine (dq rfl rfl).trans ?_
  refine (dq rfl rfl).trans ?_
  refine (dq_getR rfl).trans (bn_c (fun a3 => ?_))
  refine (dq rfl rfl).trans ?_
  refine (dq rfl rfl).trans ?_
  refine (dq rfl rfl).trans ?_
  refine (dq_iald rfl).trans (bn_c (fun v4 => ?_))
  refine (dq rfl rfl).trans ?_
  refine (dq rfl rfl).trans ?_
  exact dq_ret1 rfl
theorem q_216 (ab : Nat) (ac : Int32) (ad : Int32) (h : ia_H) : cl 216 [.ref ab, .int ac, .int ad] h = ((ia_gR h 5 ab 9).bind fun a1 => ((ia_ld h 0 a1 ((ac * 8) + ad)).bind fun v2 => some (some (.int v2), h))) := by
  refine (dq rfl rfl).trans ?_
  refine (dq_getR rfl).trans (bn_c (fun a1 => ?_))
  refine (dq rfl rfl).trans ?_
  refine (dq rfl rfl).trans ?_
  refine (dq rfl rfl).trans ?_
  refine (dq rfl rfl).trans ?_
  refine (dq rfl rfl).trans ?_
  refine (dq_iald rfl).trans (bn_c (fun v2 => ?_))
  exact dq_ret1 rfl
theorem q_217 (ab : Nat) (ac : Int32) (ad : Int32) (ae : Int32) (h : ia_H) : cl 217 [.ref ab, .int ac, .int ad, .int ae] h = ((ia_gR h 5 ab 9).bind fun a1 => ((ia_st h 0 a1 ((ac * 8) + ad) ae).bind fun h2 => some (none, h2))) := by
  refine (dq rfl rfl).trans ?_
  refine (dq_getR rfl).trans (bn_c (fun a1 => ?_))
  refine (dq rfl rfl).trans ?_
  refine (dq rfl rfl).trans ?_
  refine (dq rfl rfl).trans ?_
  refine (dq rfl rfl).trans ?_
  refine (dq rfl rfl).trans ?_
  refine (dq rfl rfl).trans ?_
  refine (dq_iast rfl).trans (bn_c (fun h2 => ?_))
  exact dq_ret0 rfl
theorem q_218 (ab : Nat) (ac : Int32) (h : ia_H) : cl 218 [.ref ab, .int ac] h = (if ia_ok h 5 [.ref ab, .int ac, .int 2] = true then kxi (cl 216 [.ref ab, .int ac, .int 2] h) (fun r2 h1 => (if r2 ≤ 0 then some (some (.int 0), h1) else some (some (.int 1), h1))) else none) := by
  refine (dq rfl rfl).trans ?_
  refine (dq rfl rfl).trans ?_
  refine (dq rfl rfl).trans ?_
  refine (dq_kxi (z := 216) rfl (lq rfl) (lq rfl) (lq rfl) kd_216).trans (it_c (kxi_c (fun r2 h1 => ?_)))
  refine (dq_ifle rfl).trans (ie_c ?_ ?_)
  · refine (dq rfl rfl).trans ?_
    exact dq_ret20 rfl
  · refine (dq rfl rfl).trans ?_
    refine (dq rfl rfl).trans ?_
    exact dq_ret21 rfl
theorem q_219 (ab : Nat) (ac : Int32) (h : ia_H) : cl 219 [.ref ab, .int ac] h = (if ia_ok h 5 [.ref ab, .int ac, .int 4] = true then kxi (cl 216 [.ref ab, .int ac, .int 4] h) (fun r2 h1 => (if r2 = 1 then some (some (.int 1), h1) else some (some (.int 0), h1))) else none) := by
  refine (dq rfl rfl).trans ?_
  refine (dq rfl rfl).trans ?_
  refine (dq rfl rfl).trans ?_
  refine (dq_kxi (z := 216) rfl (lq rfl) (lq rfl) (lq rfl) kd_216).trans (it_c (kxi_c (fun r2 h1 => ?_)))
  refine (dq rfl rfl).trans ?_
  refine (dq_ine rfl).trans (ie_c ?_ ?_)
  · refine (dq rfl rfl).trans ?_
    refine (dq rfl rfl).trans ?_
    exact dq_ret21 rfl
  · refine (dq rfl rfl).trans ?_
    exact dq_ret20 rfl
theorem q_220 (ab : Nat) (ac : Int32) (ad : Int32) (ae : Int32) (h : ia_H) : cl 220 [.ref ab, .int ac, .int ad, .int ae] h = (if ia_ok h 5 [.ref ab, .int ac, .int 0] = true then kxi (cl 216 [.ref ab, .int ac, .int 0] h) (fun r2 h1 => (if r2 = ad then (if ia_ok h1 5 [.ref ab, .int ac, .int 2] = true then kxi (cl 216 [.ref ab, .int ac, .int 2] h1) (fun r4 h3 => (if r4 ≤ 0 then some (some (.int 0), h3) else (if ia_ok h3 5 [.ref ab, .int ac, .int 3] = true then kxi (cl 216 [.ref ab, .int ac, .int 3] h3) (fun r6 h5 => (if r6 = 1 then some (some (.int 1), h5) else (if ia_ok h5 5 [.ref ab, .int ac, .int 1] = true then kxi (cl 216 [.ref ab, .int ac, .int 1] h5) (fun r8 h7 => (if r8 = ae then some (some (.int 1), h7) else some (some (.int 0), h7))) else none))) else none))) else none) else some (some (.int 0), h1))) else none) := by
  refine (dq rfl rfl).trans ?_
  refine (dq rfl rfl).trans ?_
  refine (dq rfl rfl).trans ?_
  refine (dq_kxi (z := 216) rfl (lq rfl) (lq rfl) (lq rfl) kd_216).trans (it_c (kxi_c (fun r2 h1 => ?_)))
  refine (dq rfl rfl).trans ?_
  refine (dq_ine rfl).trans (ie_c ?_ ?_)
  · refine (dq rfl rfl).trans ?_
    refine (dq rfl rfl).trans ?_
    refine (dq rfl rfl).trans ?_
    refine (dq_kxi (z := 216) rfl (lq rfl) (lq rfl) (lq rfl) kd_216).trans (it_c (kxi_c (fun r4 h3 => ?_)))
    refine (dq_ifle rfl).trans (ie_c ?_ ?_)
    · refine (dq rfl rfl).trans ?_
      exact dq_ret20 rfl
    · refine (dq rfl rfl).trans ?_
      refine (dq rfl rfl).trans ?_
      refine (dq rfl rfl).trans ?_
      refine (dq_kxi (z := 216) rfl (lq rfl) (lq rfl) (lq rfl) kd_216).trans (it_c (kxi_c (fun r6 h5 => ?_)))
      refine (dq rfl rfl).trans ?_
      refine (dq_ieq rfl).trans (ie_c ?_ ?_)
      · refine (dq rfl rfl).trans ?_
        refine (dq rfl rfl).trans ?_
        exact dq_ret21 rfl
      · refine (dq rfl rfl).trans ?_
        refine (dq rfl rfl).trans ?_
        refine (dq rfl rfl).trans ?_
        refine (dq_kxi (z := 216) rfl (lq rfl) (lq rfl) (lq rfl) kd_216).trans (it_c (kxi_c (fun r8 h7 => ?_)))
        refine (dq rfl rfl).trans ?_
        refine (dq_ine rfl).trans (ie_c ?_ ?_)
        · refine (dq rfl rfl).trans ?_
          refine (dq rfl rfl).trans ?_
          exact dq_ret21 rfl
        · refine (dq rfl rfl).trans ?_
          exact dq_ret20 rfl
  · refine (dq rfl rfl).trans ?_
    exact dq_ret20 rfl
theorem q_221 (ab : Nat) (ac : Int32) (ad : Int32) (ae : Int32) (h : ia_H) : cl 221 [.ref ab, .int ac, .int ad, .int ae] h = (if ia_ok h 5 [.ref ab, .int ac, .int ad, .int ae] = true then kxi (cl 220 [.ref ab, .int ac, .int ad, .int ae] h) (fun r2 h1 => (if r2 = 0 then some (some (.int 0), h1) else (if ia_ok h1 5 [.ref ab, .int ac] = true then kxi (cl 219 [.ref ab, .int ac] h1) (fun r4 h3 => (if r4 = 0 then some (some (.int 1), h3) else some (some (.int 0), h3))) else none))) else none) := by
  refine (dq rfl rfl).trans ?_
  refine (dq rfl rfl).trans ?_
  refine (dq rfl rfl).trans ?_
  refine (dq rfl rfl).trans ?_
  refine (dq_kxi (z := 220) rfl (lq rfl) (lq rfl) (lq rfl) kd_220).trans (it_c (kxi_c (fun r2 h1 => ?_)))
  refine (dq_ifeq rfl).trans (ie_c ?_ ?_)
  · refine (dq rfl rfl).trans ?_
    exact dq_ret20 rfl
  · refine (dq rfl rfl).trans ?_
    refine (dq rfl rfl).trans ?_
    refine (dq_kxi (z := 219) rfl (lq rfl) (lq rfl) (lq rfl) kd_219).trans (it_c (kxi_c (fun r4 h3 => ?_)))
    refine (dq_ifne rfl).trans (ie_c ?_ ?_)
    · refine (dq rfl rfl).trans ?_
      refine (dq rfl rfl).trans ?_
      exact dq_ret21 rfl
    · refine (dq rfl rfl).trans ?_
      exact dq_ret20 rfl
theorem q_222 (ab : Nat) (ac : Int32) (ad : Int32) (h : ia_H) : cl 222 [.ref ab, .int ac, .int ad] h = dn 222 2 [some (.ref ab), some (.int ac), some (.int ad), some (.int 0)] [] h := by
  refine (dq rfl rfl).trans ?_
  refine (dq rfl rfl).trans ?_
  rfl
theorem q_222_2 (x0 : Nat) (x1 : Int32) (x2 : Int32) (x3 : Int32) (h : ia_H) : dn 222 2 [some (.ref x0), some (.int x1), some (.int x2), some (.int x3)] [] h = ((ia_gI h 5 x0 2).bind fun v1 => (if v1 ≤ x3 then some (some (.int (-1)), h) else (if ia_ok h 5 [.ref x0, .int x3, .int x1, .int x2] = true then kxi (cl 221 [.ref x0, .int x3, .int x1, .int x2] h) (fun r3 h2 => (if r3 = 0 then dn 222 2 [some (.ref x0), some (.int x1), some (.int x2), some (.int (x3 + 1))] [] h2 else some (some (.int x3), h2))) else none))) := by
  refine (dq rfl rfl).trans ?_
  refine (dq rfl rfl).trans ?_
  refine (dq_getI rfl).trans (bn_c (fun v1 => ?_))
  refine (dq_ige rfl).trans (ie_c ?_ ?_)
  · refine (dq rfl rfl).trans ?_
    exact dq_ret1 rfl
  · refine (dq rfl rfl).trans ?_
    refine (dq rfl rfl).trans ?_
    refine (dq rfl rfl).trans ?_
    refine (dq rfl rfl).trans ?_
    refine (dq_kxi (z := 221) rfl (lq rfl) (lq rfl) (lq rfl) kd_221).trans (it_c (kxi_c (fun r3 h2 => ?_)))
    refine (dq_ifeq rfl).trans (ie_c ?_ ?_)
    · refine (dq_iinc (v := 1) rfl rfl (by decide)).trans ?_
      refine (dq rfl rfl).trans ?_
      rfl
    · refine (dq rfl rfl).trans ?_
      exact dq_ret1 rfl
theorem q_223 (ab : Nat) (ac : Int32) (ad : Int32) (h : ia_H) : cl 223 [.ref ab, .int ac, .int ad] h = dn 223 4 [some (.ref ab), some (.int ac), some (.int ad), some (.int 0), some (.int 0)] [] h := by
  refine (dq rfl rfl).trans ?_
  refine (dq rfl rfl).trans ?_
  refine (dq rfl rfl).trans ?_
  refine (dq rfl rfl).trans ?_
  rfl
theorem q_223_4 (x0 : Nat) (x1 : Int32) (x2 : Int32) (x3 : Int32) (x4 : Int32) (h : ia_H) : dn 223 4 [some (.ref x0), some (.int x1), some (.int x2), some (.int x3), some (.int x4)] [] h = ((ia_gI h 5 x0 2).bind fun v1 => (if v1 ≤ x4 then some (some (.int x3), h) else (if ia_ok h 5 [.ref x0, .int x4, .int x1, .int x2] = true then kxi (cl 221 [.ref x0, .int x4, .int x1, .int x2] h) (fun r3 h2 => (if r3 = 0 then dn 223 4 [some (.ref x0), some (.int x1), some (.int x2), some (.int (x3 + 0)), some (.int (x4 + 1))] [] h2 else (if ia_ok h2 5 [.ref x0, .int x4, .int 2] = true then kxi (cl 216 [.ref x0, .int x4, .int 2] h2) (fun r5 h4 => dn 223 4 [some (.ref x0), some (.int x1), some (.int x2), some (.int (x3 + r5)), some (.int (x4 + 1))] [] h4) else none))) else none))) := by
  refine (dq rfl rfl).trans ?_
  refine (dq rfl rfl).trans ?_
  refine (dq_getI rfl).trans (bn_c (fun v1 => ?_))
  refine (dq_ige rfl).trans (ie_c ?_ ?_)
  · refine (dq rfl rfl).trans ?_
    exact dq_ret1 rfl
  · refine (dq rfl rfl).trans ?_
    refine (dq rfl rfl).trans ?_
    refine (dq rfl rfl).trans ?_
    refine (dq rfl rfl).trans ?_
    refine (dq rfl rfl).trans ?_
    refine (dq_kxi (z := 221) rfl (lq rfl) (lq rfl) (lq rfl) kd_221).trans (it_c (kxi_c (fun r3 h2 => ?_)))
    refine (dq_ifeq rfl).trans (ie_c ?_ ?_)
    · refine (dq rfl rfl).trans ?_
      refine (dq rfl rfl).trans ?_
      refine (dq rfl rfl).trans ?_
      refine (dq_iinc (v := 1) rfl rfl (by decide)).trans ?_
      refine (dq rfl rfl).trans ?_
      rfl
    · refine (dq rfl rfl).trans ?_
      refine (dq rfl rfl).trans ?_
      refine (dq rfl rfl).trans ?_
      refine (dq_kxi (z := 216) rfl (lq rfl) (lq rfl) (lq rfl) kd_216).trans (it_c (kxi_c (fun r5 h4 => ?_)))
      refine (dq rfl rfl).trans ?_
      refine (dq rfl rfl).trans ?_
      refine (dq rfl rfl).trans ?_
      refine (dq_iinc (v := 1) rfl rfl (by decide)).trans ?_
      refine (dq rfl rfl).trans ?_
      rfl
theorem q_224 (ab : Nat) (ac : Int32) (ad : Int32) (h : ia_H) : cl 224 [.ref ab, .int ac, .int ad] h = dn 224 4 [some (.ref ab), some (.int ac), some (.int ad), some (.int 0), some (.int 0)] [] h := by
  refine (dq rfl rfl).trans ?_
  refine (dq rfl rfl).trans ?_
  refine (dq rfl rfl).trans ?_
  refine (dq rfl rfl).trans ?_
  rfl
theorem q_224_4 (x0 : Nat) (x1 : Int32) (x2 : Int32) (x3 : Int32) (x4 : Int32) (h : ia_H) : dn 224 4 [some (.ref x0), some (.int x1), some (.int x2), some (.int x3), some (.int x4)] [] h = ((ia_gI h 5 x0 2).bind fun v1 => (if v1 ≤ x4 then some (some (.int x3), h) else (if ia_ok h 5 [.ref x0, .int x4, .int x1, .int x2] = true then kxi (cl 220 [.ref x0, .int x4, .int x1, .int x2] h) (fun r3 h2 => (if r3 = 0 then dn 224 4 [some (.ref x0), some (.int x1), some (.int x2), some (.int (x3 + 0)), some (.int (x4 + 1))] [] h2 else (if ia_ok h2 5 [.ref x0, .int x4] = true then kxi (cl 219 [.ref x0, .int x4] h2) (fun r5 h4 => (if r5 = 0 then dn 224 4 [some (.ref x0), some (.int x1), some (.int x2), some (.int (x3 + 0)), some (.int (x4 + 1))] [] h4 else (if ia_ok h4 5 [.ref x0, .int x4, .int 2] = true then kxi (cl 216 [.ref x0, .int x4, .int 2] h4) (fun r7 h6 => dn 224 4 [some (.ref x0), some (.int x1), some (.int x2), some (.int (x3 + r7)), some (.int (x4 + 1))] [] h6) else none))) else none))) else none))) := by
  refine (dq rfl rfl).trans ?_
  refine (dq rfl rfl).trans ?_
  refine (dq_getI rfl).trans (bn_c (fun v1 => ?_))
  refine (dq_ige rfl).trans (ie_c ?_ ?_)
  · refine (dq rfl rfl).trans ?_
    exact dq_ret1 rfl
  · refine (dq rfl rfl).trans ?_
    refine (dq rfl rfl).trans ?_
    refine (dq rfl rfl).trans ?_
    refine (dq rfl rfl).trans ?_
    refine (dq rfl rfl).trans ?_
    refine (dq_kxi (z := 220) rfl (lq rfl) (lq rfl) (lq rfl) kd_220).trans (it_c (kxi_c (fun r3 h2 => ?_)))
    refine (dq_ifeq rfl).trans (ie_c ?_ ?_)
    · refine (dq rfl rfl).trans ?_
      refine (dq rfl rfl).trans ?_
      refine (dq rfl rfl).trans ?_
      refine (dq_iinc (v := 1) rfl rfl (by decide)).trans ?_
      refine (dq rfl rfl).trans ?_
      rfl
    · refine (dq rfl rfl).trans ?_
      refine (dq rfl rfl).trans ?_
      refine (dq_kxi (z := 219) rfl (lq rfl) (lq rfl) (lq rfl) kd_219).trans (it_c (kxi_c (fun r5 h4 => ?_)))
      refine (dq_ifeq rfl).trans (ie_c ?_ ?_)
      · refine (dq rfl rfl).trans ?_
        refine (dq rfl rfl).trans ?_
        refine (dq rfl rfl).trans ?_
        refine (dq_iinc (v := 1) rfl rfl (by decide)).trans ?_
        refine (dq rfl rfl).trans ?_
        rfl
      · refine (dq rfl rfl).trans ?_
        refine (dq rfl rfl).trans ?_
        refine (dq rfl rfl).trans ?_
        refine (dq_kxi (z := 216) rfl (lq rfl) (lq rfl) (lq rfl) kd_216).trans (it_c (kxi_c (fun r7 h6 => ?_)))
        refine (dq rfl rfl).trans ?_
        refine (dq rfl rfl).trans ?_
        refine (dq rfl rfl).trans ?_
        refine (dq_iinc (v := 1) rfl rfl (by decide)).trans ?_
        refine (dq rfl rfl).trans ?_
        rfl
theorem q_225 (ab : Nat) (ac : Int32) (h : ia_H) : cl 225 [.ref ab, .int ac] h = dn 225 4 [some (.ref ab), some (.int ac), some (.int 0), some (.int 0)] [] h := by
  refine (dq rfl rfl).trans ?_
  refine (dq rfl rfl).trans ?_
  refine (dq rfl rfl).trans ?_
  refine (dq rfl rfl).trans ?_
  rfl
theorem q_225_4 (x0 : Nat) (x1 : Int32) (x2 : Int32) (x3 : Int32) (h : ia_H) : dn 225 4 [some (.ref x0), some (.int x1), some (.int x2), some (.int x3)] [] h = ((ia_gI h 5 x0 2).bind fun v1 => (if v1 ≤ x3 then some (some (.int x2), h) else (if ia_ok h 5 [.ref x0, .int x3, .int 0] = true then kxi (cl 216 [.ref x0, .int x3, .int 0] h) (fun r3 h2 => (if r3 = x1 then (if ia_ok h2 5 [.ref x0, .int x3, .int 2] = true then kxi (cl 216 [.ref x0, .int x3, .int 2] h2) (fun r5 h4 => dn 225 4 [some (.ref x0), some (.int x1), some (.int (x2 + r5)), some (.int (x3 + 1))] [] h4) else none) else dn 225 4 [some (.ref x0), some (.int x1), some (.int (x2 + 0)), some (.int (x3 + 1))] [] h2)) else none))) := by
  refine (dq rfl rfl).trans ?_
  refine (dq rfl rfl).trans ?_
  refine (dq_getI rfl).trans (bn_c (fun v1 => ?_))
  refine (dq_ige rfl).trans (ie_c ?_ ?_)
  · refine (dq rfl rfl).trans ?_
    exact dq_ret1 rfl
  · refine (dq rfl rfl).trans ?_
    refine (dq rfl rfl).trans ?_
    refine (dq rfl rfl).trans ?_
    refine (dq rfl rfl).trans ?_
    refine (dq_kxi (z := 216) rfl (lq rfl) (lq rfl) (lq rfl) kd_216).trans (it_c (kxi_c (fun r3 h2 => ?_)))
    refine (dq rfl rfl).trans ?_
    refine (dq_ine rfl).trans (ie_c ?_ ?_)
    · refine (dq rfl rfl).trans ?_
      refine (dq rfl rfl).trans ?_
      refine (dq rfl rfl).trans ?_
      refine (dq_kxi (z := 216) rfl (lq rfl) (lq rfl) (lq rfl) kd_216).trans (it_c (kxi_c (fun r5 h4 => ?_)))
      refine (dq rfl rfl).trans ?_
      refine (dq rfl rfl).trans ?_
      refine (dq rfl rfl).trans ?_
      refine (dq_iinc (v := 1) rfl rfl (by decide)).trans ?_
      refine (dq rfl rfl).trans ?_
      rfl
    · refine (dq rfl rfl).trans ?_
      refine (dq rfl rfl).trans ?_
      refine (dq rfl rfl).trans ?_
      refine (dq_iinc (v := 1) rfl rfl (by decide)).trans ?_
      refine (dq rfl rfl).trans ?_
      rfl
theorem q_226 (ab : Nat) (ac : Int32) (ad : Int32) (h : ia_H) : cl 226 [.ref ab, .int ac, .int ad] h = dn 226 4 [some (.ref ab), some (.int ac), some (.int ad), some (.int 0), some (.int 0)] [] h := by
  refine (dq rfl rfl).trans ?_
  refine (dq rfl rfl).trans ?_
  refine (dq rfl rfl).trans ?_
  refine (dq rfl rfl).trans ?_
  rfl
theorem q_226_4 (x0 : Nat) (x1 : Int32) (x2 : Int32) (x3 : Int32) (x4 : Int32) (h : ia_H) : dn 226 4 [some (.ref x0), some (.int x1), some (.int x2), some (.int x3), some (.int x4)] [] h = ((ia_gI h 5 x0 0).bind fun v1 => (if v1 ≤ x4 then some (some (.int x3), h) else ((ia_gR h 5 x0 4).bind fun a2 => ((ia_ld h 0 a2 x4).bind fun v3 => (if v3 = x1 then (if ia_ok h 5 [.ref x0, .int x4, .int x2] = true then kxi (cl 222 [.ref x0, .int x4, .int x2] h) (fun r5 h4 => (if r5 = (-1) then dn 226 4 [some (.ref x0), some (.int x1), some (.int x2), some (.int x3), some (.int (x4 + 1))] [] h4 else kxi (cl 54 [.int x4] h4) (fun r7 h6 => dn 226 4 [some (.ref x0), some (.int x1), some (.int x2), some (.int (x3 ||| r7)), some (.int (x4 + 1))] [] h6))) else none) else dn 226 4 [some (.ref x0), some (.int x1), some (.int x2), some (.int x3), some (.int (x4 + 1))] [] h))))) := by
  refine (dq rfl rfl).trans ?_
  refine (dq rfl rfl).trans ?_
  refine (dq_getI rfl).trans (bn_c (fun v1 => ?_))
  refine (dq_ige rfl).trans (ie_c ?_ ?_)
  · refine (dq rfl rfl).trans ?_
    exact dq_ret1 rfl
  · refine (dq rfl rfl).trans ?_
    refine (dq_getR rfl).trans (bn_c (fun a2 => ?_))
    refine (dq rfl rfl).trans ?_
    refine (dq_iald rfl).trans (bn_c (fun v3 => ?_))
    refine (dq rfl rfl).trans ?_
    refine (dq_ine rfl).trans (ie_c ?_ ?_)
    · refine (dq rfl rfl).trans ?_
      refine (dq rfl rfl).trans ?_
      refine (dq rfl rfl).trans ?_
      refine (dq_kxi (z := 222) rfl (lq rfl) (lq rfl) (lq rfl) kd_222).trans (it_c (kxi_c (fun r5 h4 => ?_)))
      refine (dq rfl rfl).trans ?_
      refine (dq_ieq rfl).trans (ie_c ?_ ?_)
      · refine (dq_iinc (v := 1) rfl rfl (by decide)).trans ?_
        refine (dq rfl rfl).trans ?_
        rfl
      · refine (dq rfl rfl).trans ?_
        refine (dq rfl rfl).trans ?_
        refine (dq_kxi0 (z := 54) rfl (lq rfl) (lq rfl) (lq rfl) kd_54).trans (kxi_c (fun r7 h6 => ?_))
        refine (dq rfl rfl).trans ?_
        refine (dq rfl rfl).trans ?_
        refine (dq_iinc (v := 1) rfl rfl (by decide)).trans ?_
        refine (dq rfl rfl).trans ?_
        rfl
    · refine (dq_iinc (v := 1) rfl rfl (by decide)).trans ?_
      refine (dq rfl rfl).trans ?_
      rfl
theorem q_227 (ab : Nat) (h : ia_H) : cl 227 [.ref ab] h = dn 227 4 [some (.ref ab), some (.int 0), some (.int 0), none] [] h := by
  refine (dq rfl rfl).trans ?_
  refine (dq rfl rfl).trans ?_
  refine (dq rfl rfl).trans ?_
  refine (dq rfl rfl).trans ?_
  rfl
theorem q_227_4 (x0 : Nat) (x1 : Int32) (x2 : Int32) (l3 : Option Value) (h : ia_H) : dn 227 4 [some (.ref x0), some (.int x1), some (.int x2), l3] [] h = ((ia_gI h 5 x0 0).bind fun v1 => (if v1 ≤ x2 then some (some (.int x1), h) else dn 227 10 [some (.ref x0), some (.int x1), some (.int x2), some (.int 0)] [] h)) := by
  refine (dq rfl rfl).trans ?_
  refine (dq rfl rfl).trans ?_
  refine (dq_getI rfl).trans (bn_c (fun v1 => ?_))
  refine (dq_ige rfl).trans (ie_c ?_ ?_)
  · refine (dq rfl rfl).trans ?_
    exact dq_ret1 rfl
  · refine (dq rfl rfl).trans ?_
    refine (dq rfl rfl).trans ?_
    rfl
theorem q_227_10 (x0 : Nat) (x1 : Int32) (x2 : Int32) (x3 : Int32) (h : ia_H) : dn 227 10 [some (.ref x0), some (.int x1), some (.int x2), some (.int x3)] [] h = (if 4 ≤ x3 then dn 227 4 [some (.ref x0), some (.int x1), some (.int (x2 + 1)), some (.int x3)] [] h else (if ia_ok h 5 [.ref x0, .int x2, .int x3] = true then kxi (cl 222 [.ref x0, .int x2, .int x3] h) (fun r2 h1 => (if r2 = (-1) then dn 227 10 [some (.ref x0), some (.int (x1 ||| 0)), some (.int x2), some (.int (x3 + 1))] [] h1 else kxi (cl 54 [.int x2] h1) (fun r4 h3 => dn 227 10 [some (.ref x0), some (.int (x1 ||| r4)), some (.int x2), some (.int (x3 + 1))] [] h3))) else none)) := by
  refine (dq rfl rfl).trans ?_
  refine (dq rfl rfl).trans ?_
  refine (dq_ige rfl).trans (ie_c ?_ ?_)
  · refine (dq_iinc (v := 1) rfl rfl (by decide)).trans ?_
    refine (dq rfl rfl).trans ?_
    rfl
  · refine (dq rfl rfl).trans ?_
    refine (dq rfl rfl).trans ?_
    refine (dq rfl rfl).trans ?_
    refine (dq rfl rfl).trans ?_
    refine (dq_kxi (z := 222) rfl (lq rfl) (lq rfl) (lq rfl) kd_222).trans (it_c (kxi_c (fun r2 h1 => ?_)))
    refine (dq rfl rfl).trans ?_
    refine (dq_ieq rfl).trans (ie_c ?_ ?_)
    · refine (dq rfl rfl).trans ?_
      refine (dq rfl rfl).trans ?_
      refine (dq rfl rfl).trans ?_
      refine (dq_iinc (v := 1) rfl rfl (by decide)).trans ?_
      refine (dq rfl rfl).trans ?_
      rfl
    · refine (dq rfl rfl).trans ?_
      refine (dq_kxi0 (z := 54) rfl (lq rfl) (lq rfl) (lq rfl) kd_54).trans (kxi_c (fun r4 h3 => ?_))
      refine (dq rfl rfl).trans ?_
      refine (dq rfl rfl).trans ?_
      refine (dq rfl rfl).trans ?_
      refine (dq_iinc (v := 1) rfl rfl (by decide)).trans ?_
      refine (dq rfl rfl).trans ?_
      rfl
theorem q_228 (ab : Nat) (h : ia_H) : cl 228 [.ref ab] h = dn 228 4 [some (.ref ab), some (.int 0), some (.int 0)] [] h := by
  refine (dq rfl rfl).trans ?_
  refine (dq rfl rfl).trans ?_
  refine (dq rfl rfl).trans ?_
  refine (dq rfl rfl).trans ?_
  rfl
theorem q_228_4 (x0 : Nat) (x1 : Int32) (x2 : Int32) (h : ia_H) : dn 228 4 [some (.ref x0), some (.int x1), some (.int x2)] [] h = ((ia_gI h 5 x0 2).bind fun v1 => (if v1 ≤ x2 then some (some (.int x1), h) else (if ia_ok h 5 [.ref x0, .int x2] = true then kxi (cl 218 [.ref x0, .int x2] h) (fun r3 h2 => (if r3 = 0 then dn 228 4 [some (.ref x0), some (.int (x1 + 0)), some (.int (x2 + 1))] [] h2 else dn 228 4 [some (.ref x0), some (.int (x1 + 1)), some (.int (x2 + 1))] [] h2)) else none))) := by
  refine (dq rfl rfl).trans ?_
  refine (dq rfl rfl).trans ?_
  refine (dq_getI rfl).trans (bn_c (fun v1 => ?_))
  refine (dq_ige rfl).trans (ie_c ?_ ?_)
  · refine (dq rfl rfl).trans ?_
    exact dq_ret1 rfl
  · refine (dq rfl rfl).trans ?_
    refine (dq rfl rfl).trans ?_
    refine (dq rfl rfl).trans ?_
    refine (dq_kxi (z := 218) rfl (lq rfl) (lq rfl) (lq rfl) kd_218).trans (it_c (kxi_c (fun r3 h2 => ?_)))
    refine (dq_ifeq rfl).trans (ie_c ?_ ?_)
    · refine (dq rfl rfl).trans ?_
      refine (dq rfl rfl).trans ?_
      refine (dq rfl rfl).trans ?_
      refine (dq_iinc (v := 1) rfl rfl (by decide)).trans ?_
      refine (dq rfl rfl).trans ?_
      rfl
    · refine (dq rfl rfl).trans ?_
      refine (dq rfl rfl).trans ?_
      refine (dq rfl rfl).trans ?_
      refine (dq rfl rfl).trans ?_
      refine (dq_iinc (v := 1) rfl rfl (by decide)).trans ?_
      refine (dq rfl rfl).trans ?_
      rfl
theorem q_229 (ab : Nat) (h : ia_H) : cl 229 [.ref ab] h = dn 229 4 [some (.ref ab), some (.int 0), some (.int 0)] [] h := by
  refine (dq rfl rfl).trans ?_
  refine (dq rfl rfl).trans ?_
  refine (dq rfl rfl).trans ?_
  refine (dq rfl rfl).trans ?_
  rfl
theorem q_229_4 (x0 : Nat) (x1 : Int32) (x2 : Int32) (h : ia_H) : dn 229 4 [some (.ref x0), some (.int x1), some (.int x2)] [] h = ((ia_gI h 5 x0 2).bind fun v1 => (if v1 ≤ x2 then some (some (.int x1), h) else (if ia_ok h 5 [.ref x0, .int x2] = true then kxi (cl 219 [.ref x0, .int x2] h) (fun r3 h2 => (if r3 = 0 then dn 229 4 [some (.ref x0), some (.int (x1 + 0)), some (.int (x2 + 1))] [] h2 else dn 229 4 [some (.ref x0), some (.int (x1 + 1)), some (.int (x2 + 1))] [] h2)) else none))) := by
  refine (dq rfl rfl).trans ?_
  refine (dq rfl rfl).trans ?_
  refine (dq_getI rfl).trans (bn_c (fun v1 => ?_))
  refine (dq_ige rfl).trans (ie_c ?_ ?_)
  · refine (dq rfl rfl).trans ?_
    exact dq_ret1 rfl
  · refine (dq rfl rfl).trans ?_
    refine (dq rfl rfl).trans ?_
    refine (dq rfl rfl).trans ?_
    refine (dq_kxi (z := 219) rfl (lq rfl) (lq rfl) (lq rfl) kd_219).trans (it_c (kxi_c (fun r3 h2 => ?_)))
    refine (dq_ifeq rfl).trans (ie_c ?_ ?_)
    · refine (dq rfl rfl).trans ?_
      refine (dq rfl rfl).trans ?_
      refine (dq rfl rfl).trans ?_
      refine (dq_iinc (v := 1) rfl rfl (by decide)).trans ?_
      refine (dq rfl rfl).trans ?_
      rfl
    · refine (dq rfl rfl).trans ?_
      refine (dq rfl rfl).trans ?_
      refine (dq rfl rfl).trans ?_
      refine (dq rfl rfl).trans ?_
      refine (dq_iinc (v := 1) rfl rfl (by decide)).trans ?_
      refine (dq rfl rfl).trans ?_
      rfl
theorem q_230 (ab : Nat) (ac : Int32) (ad : Int32) (ae : Int32) (af : Int32) (h : ia_H) : cl 230 [.ref ab, .int ac, .int ad, .int ae, .int af] h = ((ia_gI h 5 ab 2).bind fun v1 => (if v1 < 100 then ((ia_gI h 5 ab 2).bind fun v2 => ((ia_gI h 5 ab 2).bind fun v3 => ((ia_pF h 5 ab 2 (.int (v3 + 1))).bind fun h4 => (if ia_ok h4 5 [.ref ab, .int v2, .int 0, .int ac] = true then kxv (cl 217 [.ref ab, .int v2, .int 0, .int ac] h4) (fun h5 => (if ia_ok h5 5 [.ref ab, .int v2, .int 1, .int ad] = true then kxv (cl 217 [.ref ab, .int v2, .int 1, .int ad] h5) (fun h6 => (if ia_ok h6 5 [.ref ab, .int v2, .int 2, .int ae] = true then kxv (cl 217 [.ref ab, .int v2, .int 2, .int ae] h6) (fun h7 => (if ia_ok h7 5 [.ref ab, .int v2, .int 3, .int af] = true then kxv (cl 217 [.ref ab, .int v2, .int 3, .int af] h7) (fun h8 => (if ia_ok h8 5 [.ref ab, .int v2, .int 4, .int 0] = true then kxv (cl 217 [.ref ab, .int v2, .int 4, .int 0] h8) (fun h9 => (if ia_ok h9 5 [.ref ab, .int v2, .int 5, .int ae] = true then kxv (cl 217 [.ref ab, .int v2, .int 5, .int ae] h9) (fun h10 => ((ia_gI h10 5 ab 1).bind fun v11 => (if ia_ok h10 5 [.ref ab, .int v2, .int 6, .int v11] = true then kxv (cl 217 [.ref ab, .int v2, .int 6, .int v11] h10) (fun h12 => (if ia_ok h12 5 [.ref ab, .int v2, .int 7, .int 0] = true then kxv (cl 217 [.ref ab, .int v2, .int 7, .int 0] h12) (fun h13 => (if ia_ok h13 5 [.ref ab, .int 0, .int v2] = true then kxv (cl 234 [.ref ab, .int 0, .int v2] h13) (fun h14 => some (some (.int v2), h14)) else none)) else none)) else none))) else none)) else none)) else none)) else none)) else none)) else none)))) else some (some (.int (-1)), h))) := by
  refine (dq rfl rfl).trans ?_
  refine (dq_getI rfl).trans (bn_c (fun v1 => ?_))
  refine (dq rfl rfl).trans ?_
  refine (dq_ilt rfl).trans (ie_c ?_ ?_)
  · refine (dq rfl rfl).trans ?_
    refine (dq_getI rfl).trans (bn_c (fun v2 => ?_))
    refine (dq rfl rfl).trans ?_
    refine (dq rfl rfl).trans ?_
    refine (dq rfl rfl).trans ?_
    refine (dq_getI rfl).trans (bn_c (fun v3 => ?_))
    refine (dq rfl rfl).trans ?_
    refine (dq rfl rfl).trans ?_
    refine (dq_putI rfl).trans (bn_c (fun h4 => ?_))
    refine (dq rfl rfl).trans ?_
    refine (dq rfl rfl).trans ?_
    refine (dq rfl rfl).trans ?_
    refine (dq rfl rfl).trans ?_
    refine (dq_kxv (z := 217) rfl (lq rfl) (lq rfl) (lq rfl) kd_217).trans (it_c (kxv_c (fun h5 => ?_)))
    refine (dq rfl rfl).trans ?_
    refine (dq rfl rfl).trans ?_
    refine (dq rfl rfl).trans ?_
    refine (dq rfl rfl).trans ?_
    refine (dq_kxv (z := 217) rfl (lq rfl) (lq rfl) (lq rfl) kd_217).trans (it_c (kxv_c (fun h6 => ?_)))
    refine (dq rfl rfl).trans ?_
    refine (dq rfl rfl).trans ?_
    refine (dq rfl rfl).trans ?_
    refine (dq rfl rfl).trans ?_
    refine (dq_kxv (z := 217) rfl (lq rfl) (lq rfl) (lq rfl) kd_217).trans (it_c (kxv_c (fun h7 => ?_)))
    refine (dq rfl rfl).trans ?_
    refine (dq rfl rfl).trans ?_
    refine (dq rfl rfl).trans ?_
    refine (dq rfl rfl).trans ?_
    refine (dq_kxv (z := 217) rfl (lq rfl) (lq rfl) (lq rfl) kd_217).trans (it_c (kxv_c (fun h8 => ?_)))
    refine (dq rfl rfl).trans ?_
    refine (dq rfl rfl).trans ?_
    refine (dq rfl rfl).trans ?_
    refine (dq rfl rfl).trans ?_
    refine (dq_kxv (z := 217) rfl (lq rfl) (lq rfl) (lq rfl) kd_217).trans (it_c (kxv_c (fun h9 => ?_)))
    refine (dq rfl rfl).trans ?_
    refine (dq rfl rfl).trans ?_
    refine (dq rfl rfl).trans ?_
    refine (dq rfl rfl).trans ?_
    refine (dq_kxv (z := 217) rfl (lq rfl) (lq rfl) (lq rfl) kd_217).trans (it_c (kxv_c (fun h10 => ?_)))
    refine (dq rfl rfl).trans ?_
    refine (dq rfl rfl).trans ?_
    refine (dq rfl rfl).trans ?_
    refine (dq rfl rfl).trans ?_
    refine (dq_getI rfl).trans (bn_c (fun v11 => ?_))
    refine (dq_kxv (z := 217) rfl (lq rfl) (lq rfl) (lq rfl) kd_217).trans (it_c (kxv_c (fun h12 => ?_)))
    refine (dq rfl rfl).trans ?_
    refine (dq rfl rfl).trans ?_
    refine (dq rfl rfl).trans ?_
    refine (dq rfl rfl).trans ?_
    refine (dq_kxv (z := 217) rfl (lq rfl) (lq rfl) (lq rfl) kd_217).trans (it_c (kxv_c (fun h13 => ?_)))
    refine (dq rfl rfl).trans ?_
    refine (dq rfl rfl).trans ?_
    refine (dq rfl rfl).trans ?_
    refine (dq_kxv (z := 234) rfl (lq rfl) (lq rfl) (lq rfl) kd_234).trans (it_c (kxv_c (fun h14 => ?_)))
    refine (dq rfl rfl).trans ?_
    exact dq_ret1 rfl
  · refine (dq rfl rfl).trans ?_
    exact dq_ret1 rfl
theorem q_231 (ab : Nat) (ac : Int32) (ad : Int32) (h : ia_H) : cl 231 [.ref ab, .int ac, .int ad] h = (if ia_ok h 5 [.ref ab, .int ac, .int ad] = true then kxi (cl 222 [.ref ab, .int ac, .int ad] h) (fun r2 h1 => (if r2 = (-1) then some (some (.int 0), h1) else (if ia_ok h1 5 [.ref ab, .int r2, .int 2] = true then kxi (cl 216 [.ref ab, .int r2, .int 2] h1) (fun r4 h3 => (if ia_ok h3 5 [.ref ab, .int r2, .int 2, .int (r4 - 1)] = true then kxv (cl 217 [.ref ab, .int r2, .int 2, .int (r4 - 1)] h3) (fun h5 => (if ia_ok h5 5 [.ref ab, .int r2, .int 7] = true then kxi (cl 216 [.ref ab, .int r2, .int 7] h5) (fun r7 h6 => (if ia_ok h6 5 [.ref ab, .int r2, .int 7, .int (r7 + 1)] = true then kxv (cl 217 [.ref ab, .int r2, .int 7, .int (r7 + 1)] h6) (fun h8 => (if ia_ok h8 5 [.ref ab, .int 1, .int r2] = true then kxv (cl 234 [.ref ab, .int 1, .int r2] h8) (fun h9 => (if ia_ok h9 5 [.ref ab, .int r2] = true then kxi (cl 218 [.ref ab, .int r2] h9) (fun r11 h10 => (if r11 = 0 then (if ia_ok h10 5 [.ref ab, .int 2, .int r2] = true then kxv (cl 234 [.ref ab, .int 2, .int r2] h10) (fun h12 => some (some (.int 1), h12)) else none) else some (some (.int 1), h10))) else none)) else none)) else none)) else none)) else none)) else none))) else none) := by
  refine (dq rfl rfl).trans ?_
  refine (dq rfl rfl).trans ?_
  refine (dq rfl rfl).trans ?_
  refine (dq_kxi (z := 222) rfl (lq rfl) (lq rfl) (lq rfl) kd_222).trans (it_c (kxi_c (fun r2 h1 => ?_)))
  refine (dq rfl rfl).trans ?_
  refine (dq rfl rfl).trans ?_
  refine (dq rfl rfl).trans ?_
  refine (dq_ine rfl).trans (ie_c ?_ ?_)
  · refine (dq rfl rfl).trans ?_
    exact dq_ret20 rfl
  · refine (dq rfl rfl).trans ?_
    refine (dq rfl rfl).trans ?_
    refine (dq rfl rfl).trans ?_
    refine (dq rfl rfl).trans ?_
    refine (dq rfl rfl).trans ?_
    refine (dq rfl rfl).trans ?_
    refine (dq_kxi (z := 216) rfl (lq rfl) (lq rfl) (lq rfl) kd_216).trans (it_c (kxi_c (fun r4 h3 => ?_)))
    refine (dq rfl rfl).trans ?_
    refine (dq rfl rfl).trans ?_
    refine (dq_kxv (z := 217) rfl (lq rfl) (lq rfl) (lq rfl) kd_217).trans (it_c (kxv_c (fun h5 => ?_)))
    refine (dq rfl rfl).trans ?_
    refine (dq rfl rfl).trans ?_
    refine (dq rfl rfl).trans ?_
    refine (dq rfl rfl).trans ?_
    refine (dq rfl rfl).trans ?_
    refine (dq rfl rfl).trans ?_
    refine (dq_kxi (z := 216) rfl (lq rfl) (lq rfl) (lq rfl) kd_216).trans (it_c (kxi_c (fun r7 h6 => ?_)))
    refine (dq rfl rfl).trans ?_
    refine (dq rfl rfl).trans ?_
    refine (dq_kxv (z := 217) rfl (lq rfl) (lq rfl) (lq rfl) kd_217).trans (it_c (kxv_c (fun h8 => ?_)))
    refine (dq rfl rfl).trans ?_
    refine (dq rfl rfl).trans ?_
    refine (dq rfl rfl).trans ?_
    refine (dq_kxv (z := 234) rfl (lq rfl) (lq rfl) (lq rfl) kd_234).trans (it_c (kxv_c (fun h9 => ?_)))
    refine (dq rfl rfl).trans ?_
    refine (dq rfl rfl).trans ?_
    refine (dq_kxi (z := 218) rfl (lq rfl) (lq rfl) (lq rfl) kd_218).trans (it_c (kxi_c (fun r11 h10 => ?_)))
    refine (dq_ifne rfl).trans (ie_c ?_ ?_)
    · refine (dq rfl rfl).trans ?_
      refine (dq rfl rfl).trans ?_
      refine (dq rfl rfl).trans ?_
      refine (dq_kxv (z := 234) rfl (lq rfl) (lq rfl) (lq rfl) kd_234).trans (it_c (kxv_c (fun h12 => ?_)))
      refine (dq rfl rfl).trans ?_
      exact dq_ret21 rfl
    · refine (dq rfl rfl).trans ?_
      exact dq_ret21 rfl
theorem q_232 (ab : Nat) (ac : Int32) (ad : Int32) (ae : Int32) (h : ia_H) : cl 232 [.ref ab, .int ac, .int ad, .int ae] h = (if ia_ok h 5 [.ref ab, .int ac, .int 4, .int 2] = true then kxv (cl 217 [.ref ab, .int ac, .int 4, .int 2] h) (fun h1 => (if ad = 0 then (if ia_ok h1 5 [.ref ab, .int ac, .int 2] = true then kxi (cl 216 [.ref ab, .int ac, .int 2] h1) (fun r3 h2 => (if ia_ok h2 5 [.ref ab, .int ac, .int 2, .int (r3 + ae)] = true then kxv (cl 217 [.ref ab, .int ac, .int 2, .int (r3 + ae)] h2) (fun h4 => (if ad = 0 then (if ia_ok h4 5 [.ref ab, .int 5, .int ac] = true then kxv (cl 234 [.ref ab, .int 5, .int ac] h4) (fun h5 => some (none, h5)) else none) else (if ia_ok h4 5 [.ref ab, .int 3, .int ac] = true then kxv (cl 234 [.ref ab, .int 3, .int ac] h4) (fun h6 => some (none, h6)) else none))) else none)) else none) else (if ia_ok h1 5 [.ref ab, .int ac, .int 2, .int 0] = true then kxv (cl 217 [.ref ab, .int ac, .int 2, .int 0] h1) (fun h7 => (if ad = 0 then (if ia_ok h7 5 [.ref ab, .int 5, .int ac] = true then kxv (cl 234 [.ref ab, .int 5, .int ac] h7) (fun h8 => some (none, h8)) else none) else (if ia_ok h7 5 [.ref ab, .int 3, .int ac] = true then kxv (cl 234 [.ref ab, .int 3, .int ac] h7) (fun h9 => some (none, h9)) else none))) else none))) else none) := by
  refine (dq rfl rfl).trans ?_
  refine (dq rfl rfl).trans ?_
  refine (dq rfl rfl).trans ?_
  refine (dq rfl rfl).trans ?_
  refine (dq_kxv (z := 217) rfl (lq rfl) (lq rfl) (lq rfl) kd_217).trans (it_c (kxv_c (fun h1 => ?_)))
  refine (dq rfl rfl).trans ?_
  refine (dq rfl rfl).trans ?_
  refine (dq rfl rfl).trans ?_
  refine (dq rfl rfl).trans ?_
  refine (dq_ifeq rfl).trans (ie_c ?_ ?_)
  · refine (dq rfl rfl).trans ?_
    refine (dq rfl rfl).trans ?_
    refine (dq rfl rfl).trans ?_
    refine (dq_kxi (z := 216) rfl (lq rfl) (lq rfl) (lq rfl) kd_216).trans (it_c (kxi_c (fun r3 h2 => ?_)))
    refine (dq rfl rfl).trans ?_
    refine (dq rfl rfl).trans ?_
    refine (dq_kxv (z := 217) rfl (lq rfl) (lq rfl) (lq rfl) kd_217).trans (it_c (kxv_c (fun h4 => ?_)))
    refine (dq rfl rfl).trans ?_
    refine (dq rfl rfl).trans ?_
    refine (dq_ifeq rfl).trans (ie_c ?_ ?_)
    · refine (dq rfl rfl).trans ?_
      refine (dq rfl rfl).trans ?_
      refine (dq_kxv (z := 234) rfl (lq rfl) (lq rfl) (lq rfl) kd_234).trans (it_c (kxv_c (fun h5 => ?_)))
      exact dq_ret0 rfl
    · refine (dq rfl rfl).trans ?_
      refine (dq rfl rfl).trans ?_
      refine (dq rfl rfl).trans ?_
      refine (dq_kxv (z := 234) rfl (lq rfl) (lq rfl) (lq rfl) kd_234).trans (it_c (kxv_c (fun h6 => ?_)))
      exact dq_ret0 rfl
  · refine (dq rfl rfl).trans ?_
    refine (dq rfl rfl).trans ?_
    refine (dq_kxv (z := 217) rfl (lq rfl) (lq rfl) (lq rfl) kd_217).trans (it_c (kxv_c (fun h7 => ?_)))
    refine (dq rfl rfl).trans ?_
    refine (dq rfl rfl).trans ?_
    refine (dq_ifeq rfl).trans (ie_c ?_ ?_)
    · refine (dq rfl rfl).trans ?_
      refine (dq rfl rfl).trans ?_
      refine (dq_kxv (z := 234) rfl (lq rfl) (lq rfl) (lq rfl) kd_234).trans (it_c (kxv_c (fun h8 => ?_)))
      exact dq_ret0 rfl
    · refine (dq rfl rfl).trans ?_
      refine (dq rfl rfl).trans ?_
      refine (dq rfl rfl).trans ?_
      refine (dq_kxv (z := 234) rfl (lq rfl) (lq rfl) (lq rfl) kd_234).trans (it_c (kxv_c (fun h9 => ?_)))
      exact dq_ret0 rfl
theorem q_233 (ab : Nat) (ac : Int32) (ad : Int32) (h : ia_H) : cl 233 [.ref ab, .int ac, .int ad] h = (if ia_ok h 5 [.ref ab, .int ac, .int 2] = true then kxi (cl 216 [.ref ab, .int ac, .int 2] h) (fun r2 h1 => (if ia_ok h1 5 [.ref ab, .int ac, .int 2, .int (r2 - ad)] = true then kxv (cl 217 [.ref ab, .int ac, .int 2, .int (r2 - ad)] h1) (fun h3 => (if ia_ok h3 5 [.ref ab, .int ac] = true then kxi (cl 218 [.ref ab, .int ac] h3) (fun r5 h4 => (if r5 = 0 then (if ia_ok h4 5 [.ref ab, .int ac] = true then kxi (cl 219 [.ref ab, .int ac] h4) (fun r7 h6 => (if r7 = 0 then (if ia_ok h6 5 [.ref ab, .int 3, .int ac] = true then kxv (cl 234 [.ref ab, .int 3, .int ac] h6) (fun h8 => some (none, h8)) else none) else (if ia_ok h6 5 [.ref ab, .int ac, .int 4, .int 2] = true then kxv (cl 217 [.ref ab, .int ac, .int 4, .int 2] h6) (fun h9 => (if ia_ok h9 5 [.ref ab, .int 3, .int ac] = true then kxv (cl 234 [.ref ab, .int 3, .int ac] h9) (fun h10 => some (none, h10)) else none)) else none))) else none) else some (none, h4))) else none)) else none)) else none) := by
  refine (dq rfl rfl).trans ?_
  refine (dq rfl rfl).trans ?_
  refine (dq rfl rfl).trans ?_
  refine (dq rfl rfl).trans ?_
  refine (dq rfl rfl).trans ?_
  refine (dq rfl rfl).trans ?_
  refine (dq_kxi (z := 216) rfl (lq rfl) (lq rfl) (lq rfl) kd_216).trans (it_c (kxi_c (fun r2 h1 => ?_)))
  refine (dq rfl rfl).trans ?_
  refine (dq rfl rfl).trans ?_
  refine (dq_kxv (z := 217) rfl (lq rfl) (lq rfl) (lq rfl) kd_217).trans (it_c (kxv_c (fun h3 => ?_)))
  refine (dq rfl rfl).trans ?_
  refine (dq rfl rfl).trans ?_
  refine (dq_kxi (z := 218) rfl (lq rfl) (lq rfl) (lq rfl) kd_218).trans (it_c (kxi_c (fun r5 h4 => ?_)))
  refine (dq_ifeq rfl).trans (ie_c ?_ ?_)
  · refine (dq rfl rfl).trans ?_
    refine (dq rfl rfl).trans ?_
    refine (dq_kxi (z := 219) rfl (lq rfl) (lq rfl) (lq rfl) kd_219).trans (it_c (kxi_c (fun r7 h6 => ?_)))
    refine (dq_ifeq rfl).trans (ie_c ?_ ?_)
    · refine (dq rfl rfl).trans ?_
      refine (dq rfl rfl).trans ?_
      refine (dq rfl rfl).trans ?_
      refine (dq_kxv (z := 234) rfl (lq rfl) (lq rfl) (lq rfl) kd_234).trans (it_c (kxv_c (fun h8 => ?_)))
      exact dq_ret0 rfl
    · refine (dq rfl rfl).trans ?_
      refine (dq rfl rfl).trans ?_
      refine (dq rfl rfl).trans ?_
      refine (dq rfl rfl).trans ?_
      refine (dq_kxv (z := 217) rfl (lq rfl) (lq rfl) (lq rfl) kd_217).trans (it_c (kxv_c (fun h9 => ?_)))
      refine (dq rfl rfl).trans ?_
      refine (dq rfl rfl).trans ?_
      refine (dq rfl rfl).trans ?_
      refine (dq_kxv (z := 234) rfl (lq rfl) (lq rfl) (lq rfl) kd_234).trans (it_c (kxv_c (fun h10 => ?_)))
      exact dq_ret0 rfl
  · exact dq_ret0 rfl
theorem q_234 (ab : Nat) (ac : Int32) (ad : Int32) (h : ia_H) : cl 234 [.ref ab, .int ac, .int ad] h = ((ia_gI h 5 ab 3).bind fun v1 => ((ia_gR h 5 ab 10).bind fun a2 => ((ia_st h 0 a2 ((v1 - v1 / 60 * 60) * 3) ac).bind fun h3 => ((ia_gR h3 5 ab 10).bind fun a4 => ((ia_st h3 0 a4 (((v1 - v1 / 60 * 60) * 3) + 1) ad).bind fun h5 => ((ia_gR h5 5 ab 10).bind fun a6 => ((ia_gI h5 5 ab 1).bind fun v7 => ((ia_st h5 0 a6 (((v1 - v1 / 60 * 60) * 3) + 2) v7).bind fun h8 => ((ia_gI h8 5 ab 3).bind fun v9 => ((ia_pF h8 5 ab 3 (.int (v9 + 1))).bind fun h10 => some (none, h10))))))))))) := by
  refine (dq rfl rfl).trans ?_
  refine (dq_getI rfl).trans (bn_c (fun v1 => ?_))
  refine (dq rfl rfl).trans ?_
  refine (dq_i2zl rfl (by decide)).trans ?_
  refine (dq rfl rfl).trans ?_
  refine (dq rfl rfl).trans ?_
  refine (dq rfl rfl).trans ?_
  refine (dq rfl rfl).trans ?_
  refine (dq_getR rfl).trans (bn_c (fun a2 => ?_))
  refine (dq rfl rfl).trans ?_
  refine (dq rfl rfl).trans ?_
  refine (dq_iast rfl).trans (bn_c (fun h3 => ?_))
  refine (dq rfl rfl).trans ?_
  refine (dq_getR rfl).trans (bn_c (fun a4 => ?_))
  refine (dq rfl rfl).trans ?_
  refine (dq rfl rfl).trans ?_
  refine (dq rfl rfl).trans ?_
  refine (dq rfl rfl).trans ?_
  refine (dq_iast rfl).trans (bn_c (fun h5 => ?_))
  refine (dq rfl rfl).trans ?_
  refine (dq_getR rfl).trans (bn_c (fun a6 => ?_))
  refine (dq rfl rfl).trans ?_
  refine (dq rfl rfl).trans ?_
  refine (dq rfl rfl).trans ?_
  refine (dq rfl rfl).trans ?_
  refine (dq_getI rfl).trans (bn_c (fun v7 => ?_))
  refine (dq_iast rfl).trans (bn_c (fun h8 => ?_))
  refine (dq rfl rfl).trans ?_
  refine (dq rfl rfl).trans ?_
  refine (dq_getI rfl).trans (bn_c (fun v9 => ?_))
  refine (dq rfl rfl).trans ?_
  refine (dq rfl rfl).trans ?_
  refine (dq_putI rfl).trans (bn_c (fun h10 => ?_))
  exact dq_ret0 rfl
theorem q_235 (ab : Nat) (h : ia_H) : cl 235 [.ref ab] h = ((ia_gI h 5 ab 3).bind fun v1 => some (some (.int (if 60 < v1 then 60 else v1)), h)) := by
  refine (dq rfl rfl).trans ?_
  refine (dq_getI rfl).trans (bn_c (fun v1 => ?_))
  refine (dq rfl rfl).trans ?_
  refine (dq rfl rfl).trans ?_
  exact dq_ret1 rfl
theorem q_236 (ab : Nat) (ac : Int32) (ad : Int32) (h : ia_H) : cl 236 [.ref ab, .int ac, .int ad] h = ((ia_gR h 5 ab 10).bind fun a1 => ((ia_gI h 5 ab 3).bind fun v2 => ((ia_ld h 0 a1 (((((v2 - 1) - ac) - ((v2 - 1) - ac) / 60 * 60) * 3) + ad)).bind fun v3 => some (some (.int v3), h)))) := by
  refine (dq rfl rfl).trans ?_
  refine (dq_getR rfl).trans (bn_c (fun a1 => ?_))
  refine (dq rfl rfl).trans ?_
  refine (dq_getI rfl).trans (bn_c (fun v2 => ?_))
  refine (dq rfl rfl).trans ?_
  refine (dq rfl rfl).trans ?_
  refine (dq rfl rfl).trans ?_
  refine (dq rfl rfl).trans ?_
  refine (dq rfl rfl).trans ?_
  refine (dq_i2zl rfl (by decide)).trans ?_
  refine (dq rfl rfl).trans ?_
  refine (dq rfl rfl).trans ?_
  refine (dq rfl rfl).trans ?_
  refine (dq rfl rfl).trans ?_
  refine (dq_iald rfl).trans (bn_c (fun v3 => ?_))
  exact dq_ret1 rfl
theorem q_237 (ab : Nat) (ac : Int32) (ad : Int32) (h : ia_H) : cl 237 [.ref ab, .int ac, .int ad] h = dn 237 4 [some (.ref ab), some (.int ac), some (.int ad), some (.int 0), some (.int 0)] [] h := by
  refine (dq rfl rfl).trans ?_
  refine (dq rfl rfl).trans ?_
  refine (dq rfl rfl).trans ?_
  refine (dq rfl rfl).trans ?_
  rfl
theorem q_237_4 (x0 : Nat) (x1 : Int32) (x2 : Int32) (x3 : Int32) (x4 : Int32) (h : ia_H) : dn 237 4 [some (.ref x0), some (.int x1), some (.int x2), some (.int x3), some (.int x4)] [] h = (if ia_ok h 5 [.ref x0] = true then kxi (cl 235 [.ref x0] h) (fun r2 h1 => (if r2 ≤ x4 then some (some (.int x3), h1) else (if ia_ok h1 5 [.ref x0, .int x4, .int 0] = true then kxi (cl 236 [.ref x0, .int x4, .int 0] h1) (fun r4 h3 => (if r4 = x2 then (if ia_ok h3 5 [.ref x0, .int x4, .int 1] = true then kxi (cl 236 [.ref x0, .int x4, .int 1] h3) (fun r6 h5 => (if ia_ok h5 5 [.ref x0, .int r6, .int 0] = true then kxi (cl 216 [.ref x0, .int r6, .int 0] h5) (fun r8 h7 => (if r8 = x1 then dn 237 4 [some (.ref x0), some (.int x1), some (.int x2), some (.int (x3 + 1)), some (.int (x4 + 1))] [] h7 else dn 237 4 [some (.ref x0), some (.int x1), some (.int x2), some (.int x3), some (.int (x4 + 1))] [] h7)) else none)) else none) else dn 237 4 [some (.ref x0), some (.int x1), some (.int x2), some (.int x3), some (.int (x4 + 1))] [] h3)) else none))) else none) := by
  refine (dq rfl rfl).trans ?_
  refine (dq rfl rfl).trans ?_
  refine (dq_kxi (z := 235) rfl (lq rfl) (lq rfl) (lq rfl) kd_235).trans (it_c (kxi_c (fun r2 h1 => ?_)))
  refine (dq_ige rfl).trans (ie_c ?_ ?_)
  · refine (dq rfl rfl).trans ?_
    exact dq_ret1 rfl
  · refine (dq rfl rfl).trans ?_
    refine (dq rfl rfl).trans ?_
    refine (dq rfl rfl).trans ?_
    refine (dq_kxi (z := 236) rfl (lq rfl) (lq rfl) (lq rfl) kd_236).trans (it_c (kxi_c (fun r4 h3 => ?_)))
    refine (dq rfl rfl).trans ?_
    refine (dq_ine rfl).trans (ie_c ?_ ?_)
    · refine (dq rfl rfl).trans ?_
      refine (dq rfl rfl).trans ?_
      refine (dq rfl rfl).trans ?_
      refine (dq rfl rfl).trans ?_
      refine (dq_kxi (z := 236) rfl (lq rfl) (lq rfl) (lq rfl) kd_236).trans (it_c (kxi_c (fun r6 h5 => ?_)))
      refine (dq rfl rfl).trans ?_
      refine (dq_kxi (z := 216) rfl (lq rfl) (lq rfl) (lq rfl) kd_216).trans (it_c (kxi_c (fun r8 h7 => ?_)))
      refine (dq rfl rfl).trans ?_
      refine (dq_ine rfl).trans (ie_c ?_ ?_)
      · refine (dq_iinc (v := 1) rfl rfl (by decide)).trans ?_
        refine (dq_iinc (v := 1) rfl rfl (by decide)).trans ?_
        refine (dq rfl rfl).trans ?_
        rfl
      · refine (dq_iinc (v := 1) rfl rfl (by decide)).trans ?_
        refine (dq rfl rfl).trans ?_
        rfl
    · refine (dq_iinc (v := 1) rfl rfl (by decide)).trans ?_
      refine (dq rfl rfl).trans ?_
      rfl
theorem q_238 (ab : Nat) (h : ia_H) : cl 238 [.ref ab] h = ((ia_pF (ia_new h 200 (.inl (2, 200, ia_zero 2))) 1 ab 0 (.ref (h.1))).bind fun h1 => ((ia_pF h1 1 ab 3 (.int (-1))).bind fun h2 => some (none, h2))) := by
  refine (dq rfl rfl).trans ?_
  refine (dq rfl rfl).trans ?_
  refine (dq rfl rfl).trans ?_
  refine (dq rfl rfl).trans ?_
  refine (dq_newa (n := 200) rfl (by decide +kernel)).trans ?_
  refine (dq_putR rfl).trans (bn_c (fun h1 => ?_))
  refine (dq rfl rfl).trans ?_
  refine (dq rfl rfl).trans ?_
  refine (dq_putI rfl).trans (bn_c (fun h2 => ?_))
  exact dq_ret0 rfl
theorem q_239 (ab : Nat) (ac : Int32) (h : ia_H) : cl 239 [.ref ab, .int ac] h = ((ia_gI h 1 ab 1).bind fun v1 => (if (v1 + 4) ≤ 200 then dn 239 10 [some (.ref ab), some (.int ac), some (.int 24)] [] h else some (some (.int 0), h))) := by
  refine (dq rfl rfl).trans ?_
  refine (dq_getI rfl).trans (bn_c (fun v1 => ?_))
  refine (dq rfl rfl).trans ?_
  refine (dq rfl rfl).trans ?_
  refine (dq rfl rfl).trans ?_
  refine (dq_ile rfl).trans (ie_c ?_ ?_)
  · refine (dq rfl rfl).trans ?_
    refine (dq rfl rfl).trans ?_
    rfl
  · refine (dq rfl rfl).trans ?_
    exact dq_ret20 rfl
theorem q_239_10 (x0 : Nat) (x1 : Int32) (x2 : Int32) (h : ia_H) : dn 239 10 [some (.ref x0), some (.int x1), some (.int x2)] [] h = (if x2 < 0 then some (some (.int 1), h) else (if ia_ok h 1 [.ref x0, .int (((((x1.toUInt32 >>> (x2.toUInt32 &&& Int32.toUInt32 31)).toInt32) &&& 255).toUInt32 % 65536).toInt32)] = true then kxv (cl 240 [.ref x0, .int (((((x1.toUInt32 >>> (x2.toUInt32 &&& Int32.toUInt32 31)).toInt32) &&& 255).toUInt32 % 65536).toInt32)] h) (fun h1 => dn 239 10 [some (.ref x0), some (.int x1), some (.int (x2 + (-8)))] [] h1) else none)) := by
  refine (dq rfl rfl).trans ?_
  refine (dq_iflt rfl).trans (ie_c ?_ ?_)
  · refine (dq rfl rfl).trans ?_
    exact dq_ret21 rfl
  · refine (dq rfl rfl).trans ?_
    refine (dq rfl rfl).trans ?_
    refine (dq rfl rfl).trans ?_
    refine (dq rfl rfl).trans ?_
    refine (dq rfl rfl).trans ?_
    refine (dq rfl rfl).trans ?_
    refine (dq rfl rfl).trans ?_
    refine (dq_kxv (z := 240) rfl (lq rfl) (lq rfl) (lq rfl) kd_240).trans (it_c (kxv_c (fun h1 => ?_)))
    refine (dq_iinc (v := -8) rfl rfl (by decide)).trans ?_
    refine (dq rfl rfl).trans ?_
    rfl
theorem q_240 (ab : Nat) (ac : Int32) (h : ia_H) : cl 240 [.ref ab, .int ac] h = ((ia_gI h 1 ab 1).bind fun v1 => (if 200 ≤ v1 then some (none, h) else ((ia_gR h 1 ab 0).bind fun a2 => ((ia_gI h 1 ab 1).bind fun v3 => ((ia_st h 2 a2 v3 (ac.toUInt32.toUInt16.toUInt32.toInt32)).bind fun h4 => ((ia_gI h4 1 ab 1).bind fun v5 => ((ia_pF h4 1 ab 1 (.int (v5 + 1))).bind fun h6 => some (none, h6)))))))) := by
  refine (dq rfl rfl).trans ?_
  refine (dq_getI rfl).trans (bn_c (fun v1 => ?_))
  refine (dq rfl rfl).trans ?_
  refine (dq_ige rfl).trans (ie_c ?_ ?_)
  · exact dq_ret0 rfl
  · refine (dq rfl rfl).trans ?_
    refine (dq_getR rfl).trans (bn_c (fun a2 => ?_))
    refine (dq rfl rfl).trans ?_
    refine (dq_getI rfl).trans (bn_c (fun v3 => ?_))
    refine (dq rfl rfl).trans ?_
    refine (dq_cast rfl).trans (bn_c (fun h4 => ?_))
    refine (dq rfl rfl).trans ?_
    refine (dq rfl rfl).trans ?_
    refine (dq_getI rfl).trans (bn_c (fun v5 => ?_))
    refine (dq rfl rfl).trans ?_
    refine (dq rfl rfl).trans ?_
    refine (dq_putI rfl).trans (bn_c (fun h6 => ?_))
    exact dq_ret0 rfl
theorem q_241 (ab : Nat) (ac : Int32) (h : ia_H) : cl 241 [.ref ab, .int ac] h = (if ac < 10 then (if ia_ok h 1 [.ref ab, .int (((48 + (ac - ac / 10 * 10)).toUInt32 % 65536).toInt32)] = true then kxv (cl 240 [.ref ab, .int (((48 + (ac - ac / 10 * 10)).toUInt32 % 65536).toInt32)] h) (fun h1 => some (none, h1)) else none) else (if ia_ok h 1 [.ref ab, .int (((48 + ((ac / 10) - (ac / 10) / 10 * 10)).toUInt32 % 65536).toInt32)] = true then kxv (cl 240 [.ref ab, .int (((48 + ((ac / 10) - (ac / 10) / 10 * 10)).toUInt32 % 65536).toInt32)] h) (fun h2 => (if ia_ok h2 1 [.ref ab, .int (((48 + (ac - ac / 10 * 10)).toUInt32 % 65536).toInt32)] = true then kxv (cl 240 [.ref ab, .int (((48 + (ac - ac / 10 * 10)).toUInt32 % 65536).toInt32)] h2) (fun h3 => some (none, h3)) else none)) else none)) := by
  refine (dq rfl rfl).trans ?_
  refine (dq rfl rfl).trans ?_
  refine (dq_ilt rfl).trans (ie_c ?_ ?_)
  · refine (dq rfl rfl).trans ?_
    refine (dq rfl rfl).trans ?_
    refine (dq rfl rfl).trans ?_
    refine (dq rfl rfl).trans ?_
    refine (dq_i2zl rfl (by decide)).trans ?_
    refine (dq rfl rfl).trans ?_
    refine (dq rfl rfl).trans ?_
    refine (dq_kxv (z := 240) rfl (lq rfl) (lq rfl) (lq rfl) kd_240).trans (it_c (kxv_c (fun h1 => ?_)))
    exact dq_ret0 rfl
  · refine (dq rfl rfl).trans ?_
    refine (dq rfl rfl).trans ?_
    refine (dq rfl rfl).trans ?_
    refine (dq rfl rfl).trans ?_
    refine (dq_i2zl rfl (by decide)).trans ?_
    refine (dq rfl rfl).trans ?_
    refine (dq_i2zl rfl (by decide)).trans ?_
    refine (dq rfl rfl).trans ?_
    refine (dq rfl rfl).trans ?_
    refine (dq_kxv (z := 240) rfl (lq rfl) (lq rfl) (lq rfl) kd_240).trans (it_c (kxv_c (fun h2 => ?_)))
    refine (dq rfl rfl).trans ?_
    refine (dq rfl rfl).trans ?_
    refine (dq rfl rfl).trans ?_
    refine (dq rfl rfl).trans ?_
    refine (dq_i2zl rfl (by decide)).trans ?_
    refine (dq rfl rfl).trans ?_
    refine (dq rfl rfl).trans ?_
    refine (dq_kxv (z := 240) rfl (lq rfl) (lq rfl) (lq rfl) kd_240).trans (it_c (kxv_c (fun h3 => ?_)))
    exact dq_ret0 rfl
theorem q_242 (ab : Nat) (ac : Int32) (h : ia_H) : cl 242 [.ref ab, .int ac] h = (if ac < 0 then some (some (.int 0), h) else ((ia_gI h 1 ab 1).bind fun v1 => (if ac ≤ v1 then ((ia_pF h 1 ab 1 (.int ac)).bind fun h2 => some (some (.int 1), h2)) else some (some (.int 0), h)))) := by
  refine (dq rfl rfl).trans ?_
  refine (dq_iflt rfl).trans (ie_c ?_ ?_)
  · refine (dq rfl rfl).trans ?_
    exact dq_ret20 rfl
  · refine (dq rfl rfl).trans ?_
    refine (dq rfl rfl).trans ?_
    refine (dq_getI rfl).trans (bn_c (fun v1 => ?_))
    refine (dq_ile rfl).trans (ie_c ?_ ?_)
    · refine (dq rfl rfl).trans ?_
      refine (dq rfl rfl).trans ?_
      refine (dq_putI rfl).trans (bn_c (fun h2 => ?_))
      refine (dq rfl rfl).trans ?_
      exact dq_ret21 rfl
    · refine (dq rfl rfl).trans ?_
      exact dq_ret20 rfl
theorem q_243 (ab : Nat) (h : ia_H) : cl 243 [.ref ab] h = ((ia_pF h 1 ab 1 (.int 0)).bind fun h1 => some (none, h1)) := by
  refine (dq rfl rfl).trans ?_
  refine (dq rfl rfl).trans ?_
  refine (dq_putI rfl).trans (bn_c (fun h1 => ?_))
  exact dq_ret0 rfl
theorem q_244 (ab : Nat) (ac : Int32) (h : ia_H) : cl 244 [.ref ab, .int ac] h = (if ac < 0 then some (some (.int (-1)), h) else ((ia_gI h 1 ab 1).bind fun v1 => (if v1 ≤ ac then some (some (.int (-1)), h) else ((ia_gR h 1 ab 0).bind fun a2 => ((ia_ld h 2 a2 ac).bind fun v3 => some (some (.int v3), h)))))) := by
  refine (dq rfl rfl).trans ?_
  refine (dq_iflt rfl).trans (ie_c ?_ ?_)
  · refine (dq rfl rfl).trans ?_
    exact dq_ret1 rfl
  · refine (dq rfl rfl).trans ?_
    refine (dq rfl rfl).trans ?_
    refine (dq_getI rfl).trans (bn_c (fun v1 => ?_))
    refine (dq_ige rfl).trans (ie_c ?_ ?_)
    · refine (dq rfl rfl).trans ?_
      exact dq_ret1 rfl
    · refine (dq rfl rfl).trans ?_
      refine (dq_getR rfl).trans (bn_c (fun a2 => ?_))
      refine (dq rfl rfl).trans ?_
      refine (dq_ald rfl).trans (bn_c (fun v3 => ?_))
      refine (dq rfl rfl).trans ?_
      exact dq_ret1 rfl
theorem q_245 (ab : Nat) (h : ia_H) : cl 245 [.ref ab] h = ((ia_pF h 1 ab 2 (.int 0)).bind fun h1 => ((ia_pF h1 1 ab 3 (.int (-1))).bind fun h2 => ((ia_gI h2 1 ab 1).bind fun v3 => (if v3 ≤ 0 then some (some (.int 0), h2) else some (some (.int 1), h2))))) := by
  refine (dq rfl rfl).trans ?_
  refine (dq rfl rfl).trans ?_
  refine (dq_putI rfl).trans (bn_c (fun h1 => ?_))
  refine (dq rfl rfl).trans ?_
  refine (dq rfl rfl).trans ?_
  refine (dq_putI rfl).trans (bn_c (fun h2 => ?_))
  refine (dq rfl rfl).trans ?_
  refine (dq_getI rfl).trans (bn_c (fun v3 => ?_))
  refine (dq_ifle rfl).trans (ie_c ?_ ?_)
  · refine (dq rfl rfl).trans ?_
    exact dq_ret20 rfl
  · refine (dq rfl rfl).trans ?_
    refine (dq rfl rfl).trans ?_
    exact dq_ret21 rfl
theorem q_246 (ab : Nat) (h : ia_H) : cl 246 [.ref ab] h = ((ia_gI h 1 ab 3).bind fun v1 => (if v1 = (-1) then some (some (.int 1), h) else some (some (.int 0), h))) := by
  refine (dq rfl rfl).trans ?_
  refine (dq_getI rfl).trans (bn_c (fun v1 => ?_))
  refine (dq rfl rfl).trans ?_
  refine (dq_ine rfl).trans (ie_c ?_ ?_)
  · refine (dq rfl rfl).trans ?_
    refine (dq rfl rfl).trans ?_
    exact dq_ret21 rfl
  · refine (dq rfl rfl).trans ?_
    exact dq_ret20 rfl
theorem q_247 (ab : Nat) (h : ia_H) : cl 247 [.ref ab] h = ((ia_gI h 1 ab 2).bind fun v1 => ((ia_gI h 1 ab 1).bind fun v2 => (if v1 < v2 then some (some (.int 0), h) else some (some (.int 1), h)))) := by
  refine (dq rfl rfl).trans ?_
  refine (dq_getI rfl).trans (bn_c (fun v1 => ?_))
  refine (dq rfl rfl).trans ?_
  refine (dq_getI rfl).trans (bn_c (fun v2 => ?_))
  refine (dq_ilt rfl).trans (ie_c ?_ ?_)
  · refine (dq rfl rfl).trans ?_
    exact dq_ret20 rfl
  · refine (dq rfl rfl).trans ?_
    refine (dq rfl rfl).trans ?_
    exact dq_ret21 rfl
theorem q_248 (ab : Nat) (h : ia_H) : cl 248 [.ref ab] h = ((ia_gI h 1 ab 2).bind fun v1 => (if v1 < 0 then some (some (.int (-1)), h) else ((ia_gI h 1 ab 2).bind fun v2 => ((ia_gI h 1 ab 1).bind fun v3 => (if v3 ≤ v2 then some (some (.int (-1)), h) else ((ia_gR h 1 ab 0).bind fun a4 => ((ia_gI h 1 ab 2).bind fun v5 => ((ia_ld h 2 a4 v5).bind fun v6 => some (some (.int v6), h))))))))) := by
  refine (dq rfl rfl).trans ?_
  refine (dq_getI rfl).trans (bn_c (fun v1 => ?_))
  refine (dq_iflt rfl).trans (ie_c ?_ ?_)
  · refine (dq rfl rfl).trans ?_
    exact dq_ret1 rfl
  · refine (dq rfl rfl).trans ?_
    refine (dq_getI rfl).trans (bn_c (fun v2 => ?_))
    refine (dq rfl rfl).trans ?_
    refine (dq_getI rfl).trans (bn_c (fun v3 => ?_))
    refine (dq_ige rfl).trans (ie_c ?_ ?_)
    · refine (dq rfl rfl).trans ?_
      exact dq_ret1 rfl
    · refine (dq rfl rfl).trans ?_
      refine (dq_getR rfl).trans (bn_c (fun a4 => ?_))
      refine (dq rfl rfl).trans ?_
      refine (dq_getI rfl).trans (bn_c (fun v5 => ?_))
      refine (dq_ald rfl).trans (bn_c (fun v6 => ?_))
      refine (dq rfl rfl).trans ?_
      exact dq_ret1 rfl
theorem q_249 (ab : Nat) (ac : Int32) (h : ia_H) : cl 249 [.ref ab, .int ac] h = ((ia_gI h 1 ab 3).bind fun v1 => (if v1 = (-1) then ((ia_pF h 1 ab 3 (.int ac)).bind fun h2 => some (none, h2)) else some (none, h))) := by
  refine (dq rfl rfl).trans ?_
  refine (dq_getI rfl).trans (bn_c (fun v1 => ?_))
  refine (dq rfl rfl).trans ?_
  refine (dq_ine rfl).trans (ie_c ?_ ?_)
  · refine (dq rfl rfl).trans ?_
    refine (dq rfl rfl).trans ?_
    refine (dq_putI rfl).trans (bn_c (fun h2 => ?_))
    exact dq_ret0 rfl
  · exact dq_ret0 rfl
theorem q_250 (ab : Nat) (ac : Int32) (h : ia_H) : cl 250 [.ref ab, .int ac] h = (if ia_ok h 1 [.ref ab, .int ac, .int ac] = true then kxi (cl 251 [.ref ab, .int ac, .int ac] h) (fun r2 h1 => some (none, h1)) else none) := by
  refine (dq rfl rfl).trans ?_
  refine (dq rfl rfl).trans ?_
  refine (dq rfl rfl).trans ?_
  refine (dq_kxi (z := 251) rfl (lq rfl) (lq rfl) (lq rfl) kd_251).trans (it_c (kxi_c (fun r2 h1 => ?_)))
  refine (dq rfl rfl).trans ?_
  exact dq_ret0 rfl
theorem q_251 (ab : Nat) (ac : Int32) (ad : Int32) (h : ia_H) : cl 251 [.ref ab, .int ac, .int ad] h = (if ia_ok h 1 [.ref ab] = true then kxi (cl 248 [.ref ab] h) (fun r2 h1 => (if ia_ok h1 1 [.ref ab] = true then kxi (cl 246 [.ref ab] h1) (fun r4 h3 => (if r4 = 0 then ((ia_gI h3 1 ab 2).bind fun v5 => (if ia_ok h3 1 [.ref ab, .int v5] = true then kxv (cl 249 [.ref ab, .int v5] h3) (fun h6 => some (some (.int (-1)), h6)) else none)) else (if r2 = ac then ((ia_gI h3 1 ab 2).bind fun v7 => ((ia_pF h3 1 ab 2 (.int (v7 + 1))).bind fun h8 => some (some (.int r2), h8))) else (if r2 = ad then ((ia_gI h3 1 ab 2).bind fun v9 => ((ia_pF h3 1 ab 2 (.int (v9 + 1))).bind fun h10 => some (some (.int r2), h10))) else ((ia_gI h3 1 ab 2).bind fun v11 => (if ia_ok h3 1 [.ref ab, .int v11] = true then kxv (cl 249 [.ref ab, .int v11] h3) (fun h12 => some (some (.int (-1)), h12)) else none)))))) else none)) else none) := by
  refine (dq rfl rfl).trans ?_
  refine (dq_kxi (z := 248) rfl (lq rfl) (lq rfl) (lq rfl) kd_248).trans (it_c (kxi_c (fun r2 h1 => ?_)))
  refine (dq rfl rfl).trans ?_
  refine (dq rfl rfl).trans ?_
  refine (dq_kxi (z := 246) rfl (lq rfl) (lq rfl) (lq rfl) kd_246).trans (it_c (kxi_c (fun r4 h3 => ?_)))
  refine (dq_ifeq rfl).trans (ie_c ?_ ?_)
  · refine (dq rfl rfl).trans ?_
    refine (dq rfl rfl).trans ?_
    refine (dq_getI rfl).trans (bn_c (fun v5 => ?_))
    refine (dq_kxv (z := 249) rfl (lq rfl) (lq rfl) (lq rfl) kd_249).trans (it_c (kxv_c (fun h6 => ?_)))
    refine (dq rfl rfl).trans ?_
    exact dq_ret1 rfl
  · refine (dq rfl rfl).trans ?_
    refine (dq rfl rfl).trans ?_
    refine (dq_ieq rfl).trans (ie_c ?_ ?_)
    · refine (dq rfl rfl).trans ?_
      refine (dq rfl rfl).trans ?_
      refine (dq_getI rfl).trans (bn_c (fun v7 => ?_))
      refine (dq rfl rfl).trans ?_
      refine (dq rfl rfl).trans ?_
      refine (dq_putI rfl).trans (bn_c (fun h8 => ?_))
      refine (dq rfl rfl).trans ?_
      exact dq_ret1 rfl
    · refine (dq rfl rfl).trans ?_
      refine (dq rfl rfl).trans ?_
      refine (dq_ieq rfl).trans (ie_c ?_ ?_)
      · refine (dq rfl rfl).trans ?_
        refine (dq rfl rfl).trans ?_
        refine (dq_getI rfl).trans (bn_c (fun v9 => ?_))
        refine (dq rfl rfl).trans ?_
        refine (dq rfl rfl).trans ?_
        refine (dq_putI rfl).trans (bn_c (fun h10 => ?_))
        refine (dq rfl rfl).trans ?_
        exact dq_ret1 rfl
      · refine (dq rfl rfl).trans ?_
        refine (dq rfl rfl).trans ?_
        refine (dq_getI rfl).trans (bn_c (fun v11 => ?_))
        refine (dq_kxv (z := 249) rfl (lq rfl) (lq rfl) (lq rfl) kd_249).trans (it_c (kxv_c (fun h12 => ?_)))
        refine (dq rfl rfl).trans ?_
        exact dq_ret1 rfl
theorem q_252 (ab : Nat) (h : ia_H) : cl 252 [.ref ab] h = (if ia_ok h 1 [.ref ab] = true then kxi (cl 248 [.ref ab] h) (fun r2 h1 => (if r2 < 48 then some (some (.int 0), h1) else (if 57 < r2 then some (some (.int 0), h1) else some (some (.int 1), h1)))) else none) := by
  refine (dq rfl rfl).trans ?_
  refine (dq_kxi (z := 248) rfl (lq rfl) (lq rfl) (lq rfl) kd_248).trans (it_c (kxi_c (fun r2 h1 => ?_)))
  refine (dq rfl rfl).trans ?_
  refine (dq rfl rfl).trans ?_
  refine (dq rfl rfl).trans ?_
  refine (dq_ilt rfl).trans (ie_c ?_ ?_)
  · refine (dq rfl rfl).trans ?_
    exact dq_ret20 rfl
  · refine (dq rfl rfl).trans ?_
    refine (dq rfl rfl).trans ?_
    refine (dq_igt rfl).trans (ie_c ?_ ?_)
    · refine (dq rfl rfl).trans ?_
      exact dq_ret20 rfl
    · refine (dq rfl rfl).trans ?_
      refine (dq rfl rfl).trans ?_
      exact dq_ret21 rfl
theorem q_253 (ab : Nat) (ac : Int32) (ad : Int32) (h : ia_H) : cl 253 [.ref ab, .int ac, .int ad] h = (if ia_ok h 1 [.ref ab] = true then kxi (cl 248 [.ref ab] h) (fun r2 h1 => (if ia_ok h1 1 [.ref ab] = true then kxi (cl 246 [.ref ab] h1) (fun r4 h3 => (if r4 = 0 then ((ia_gI h3 1 ab 2).bind fun v5 => (if ia_ok h3 1 [.ref ab, .int v5] = true then kxv (cl 249 [.ref ab, .int v5] h3) (fun h6 => some (some (.int (-1)), h6)) else none)) else (if (r2 - 48) < ac then ((ia_gI h3 1 ab 2).bind fun v7 => (if ia_ok h3 1 [.ref ab, .int v7] = true then kxv (cl 249 [.ref ab, .int v7] h3) (fun h8 => some (some (.int (-1)), h8)) else none)) else (if (r2 - 48) ≤ ad then ((ia_gI h3 1 ab 2).bind fun v9 => ((ia_pF h3 1 ab 2 (.int (v9 + 1))).bind fun h10 => some (some (.int (r2 - 48)), h10))) else ((ia_gI h3 1 ab 2).bind fun v11 => (if ia_ok h3 1 [.ref ab, .int v11] = true then kxv (cl 249 [.ref ab, .int v11] h3) (fun h12 => some (some (.int (-1)), h12)) else none)))))) else none)) else none) := by
  refine (dq rfl rfl).trans ?_
  refine (dq_kxi (z := 248) rfl (lq rfl) (lq rfl) (lq rfl) kd_248).trans (it_c (kxi_c (fun r2 h1 => ?_)))
  refine (dq rfl rfl).trans ?_
  refine (dq rfl rfl).trans ?_
  refine (dq rfl rfl).trans ?_
  refine (dq rfl rfl).trans ?_
  refine (dq_kxi (z := 246) rfl (lq rfl) (lq rfl) (lq rfl) kd_246).trans (it_c (kxi_c (fun r4 h3 => ?_)))
  refine (dq_ifeq rfl).trans (ie_c ?_ ?_)
  · refine (dq rfl rfl).trans ?_
    refine (dq rfl rfl).trans ?_
    refine (dq_getI rfl).trans (bn_c (fun v5 => ?_))
    refine (dq_kxv (z := 249) rfl (lq rfl) (lq rfl) (lq rfl) kd_249).trans (it_c (kxv_c (fun h6 => ?_)))
    refine (dq rfl rfl).trans ?_
    exact dq_ret1 rfl
  · refine (dq rfl rfl).trans ?_
    refine (dq rfl rfl).trans ?_
    refine (dq_ilt rfl).trans (ie_c ?_ ?_)
    · refine (dq rfl rfl).trans ?_
      refine (dq rfl rfl).trans ?_
      refine (dq_getI rfl).trans (bn_c (fun v7 => ?_))
      refine (dq_kxv (z := 249) rfl (lq rfl) (lq rfl) (lq rfl) kd_249).trans (it_c (kxv_c (fun h8 => ?_)))
      refine (dq rfl rfl).trans ?_
      exact dq_ret1 rfl
    · refine (dq rfl rfl).trans ?_
      refine (dq rfl rfl).trans ?_
      refine (dq_ile rfl).trans (ie_c ?_ ?_)
      · refine (dq rfl rfl).trans ?_
        refine (dq rfl rfl).trans ?_
        refine (dq_getI rfl).trans (bn_c (fun v9 => ?_))
        refine (dq rfl rfl).trans ?_
        refine (dq rfl rfl).trans ?_
        refine (dq_putI rfl).trans (bn_c (fun h10 => ?_))
        refine (dq rfl rfl).trans ?_
        exact dq_ret1 rfl
      · refine (dq rfl rfl).trans ?_
        refine (dq rfl rfl).trans ?_
        refine (dq_getI rfl).trans (bn_c (fun v11 => ?_))
        refine (dq_kxv (z := 249) rfl (lq rfl) (lq rfl) (lq rfl) kd_249).trans (it_c (kxv_c (fun h12 => ?_)))
        refine (dq rfl rfl).trans ?_
        exact dq_ret1 rfl
theorem q_254 (ab : Nat) (ac : Int32) (ad : Int32) (h : ia_H) : cl 254 [.ref ab, .int ac, .int ad] h = (if ia_ok h 1 [.ref ab, .int 0, .int 9] = true then kxi (cl 253 [.ref ab, .int 0, .int 9] h) (fun r2 h1 => (if r2 ≤ 0 then dn 254 19 [some (.ref ab), some (.int ac), some (.int ad), some (.int r2)] [] h1 else (if ia_ok h1 1 [.ref ab] = true then kxi (cl 252 [.ref ab] h1) (fun r4 h3 => (if r4 = 0 then dn 254 19 [some (.ref ab), some (.int ac), some (.int ad), some (.int r2)] [] h3 else (if ia_ok h3 1 [.ref ab, .int 0, .int 9] = true then kxi (cl 253 [.ref ab, .int 0, .int 9] h3) (fun r6 h5 => dn 254 19 [some (.ref ab), some (.int ac), some (.int ad), some (.int ((10 * r2) + r6))] [] h5) else none))) else none))) else none) := by
  refine (dq rfl rfl).trans ?_
  refine (dq rfl rfl).trans ?_
  refine (dq rfl rfl).trans ?_
  refine (dq_kxi (z := 253) rfl (lq rfl) (lq rfl) (lq rfl) kd_253).trans (it_c (kxi_c (fun r2 h1 => ?_)))
  refine (dq rfl rfl).trans ?_
  refine (dq rfl rfl).trans ?_
  refine (dq_ifle rfl).trans (ie_c ?_ ?_)
  · rfl
  · refine (dq rfl rfl).trans ?_
    refine (dq_kxi (z := 252) rfl (lq rfl) (lq rfl) (lq rfl) kd_252).trans (it_c (kxi_c (fun r4 h3 => ?_)))
    refine (dq_ifeq rfl).trans (ie_c ?_ ?_)
    · rfl
    · refine (dq rfl rfl).trans ?_
      refine (dq rfl rfl).trans ?_
      refine (dq rfl rfl).trans ?_
      refine (dq rfl rfl).trans ?_
      refine (dq rfl rfl).trans ?_
      refine (dq rfl rfl).trans ?_
      refine (dq_kxi (z := 253) rfl (lq rfl) (lq rfl) (lq rfl) kd_253).trans (it_c (kxi_c (fun r6 h5 => ?_)))
      refine (dq rfl rfl).trans ?_
      refine (dq rfl rfl).trans ?_
      rfl
theorem q_254_19 (x0 : Nat) (x1 : Int32) (x2 : Int32) (x3 : Int32) (h : ia_H) : dn 254 19 [some (.ref x0), some (.int x1), some (.int x2), some (.int x3)] [] h = (if ia_ok h 1 [.ref x0] = true then kxi (cl 246 [.ref x0] h) (fun r2 h1 => (if r2 = 0 then (if ia_ok h1 1 [.ref x0] = true then kxi (cl 246 [.ref x0] h1) (fun r4 h3 => (if r4 = 0 then some (some (.int (-1)), h3) else some (some (.int x3), h3))) else none) else (if x3 < x1 then dn 254 28 [some (.ref x0), some (.int x1), some (.int x2), some (.int x3)] [] h1 else (if x3 ≤ x2 then (if ia_ok h1 1 [.ref x0] = true then kxi (cl 246 [.ref x0] h1) (fun r6 h5 => (if r6 = 0 then some (some (.int (-1)), h5) else some (some (.int x3), h5))) else none) else dn 254 28 [some (.ref x0), some (.int x1), some (.int x2), some (.int x3)] [] h1)))) else none) := by
  refine (dq rfl rfl).trans ?_
  refine (dq_kxi (z := 246) rfl (lq rfl) (lq rfl) (lq rfl) kd_246).trans (it_c (kxi_c (fun r2 h1 => ?_)))
  refine (dq_ifeq rfl).trans (ie_c ?_ ?_)
  · refine (dq rfl rfl).trans ?_
    refine (dq_kxi (z := 246) rfl (lq rfl) (lq rfl) (lq rfl) kd_246).trans (it_c (kxi_c (fun r4 h3 => ?_)))
    refine (dq_ifeq rfl).trans (ie_c ?_ ?_)
    · refine (dq rfl rfl).trans ?_
      exact dq_ret1 rfl
    · refine (dq rfl rfl).trans ?_
      refine (dq rfl rfl).trans ?_
      exact dq_ret1 rfl
  · refine (dq rfl rfl).trans ?_
    refine (dq rfl rfl).trans ?_
    refine (dq_ilt rfl).trans (ie_c ?_ ?_)
    · rfl
    · refine (dq rfl rfl).trans ?_
      refine (dq rfl rfl).trans ?_
      refine (dq_ile rfl).trans (ie_c ?_ ?_)
      · refine (dq rfl rfl).trans ?_
        refine (dq_kxi (z := 246) rfl (lq rfl) (lq rfl) (lq rfl) kd_246).trans (it_c (kxi_c (fun r6 h5 => ?_)))
        refine (dq_ifeq rfl).trans (ie_c ?_ ?_)
        · refine (dq rfl rfl).trans ?_
          exact dq_ret1 rfl
        · refine (dq rfl rfl).trans ?_
          refine (dq rfl rfl).trans ?_
          exact dq_ret1 rfl
      · rfl
theorem q_254_28 (x0 : Nat) (x1 : Int32) (x2 : Int32) (x3 : Int32) (h : ia_H) : dn 254 28 [some (.ref x0), some (.int x1), some (.int x2), some (.int x3)] [] h = ((ia_gI h 1 x0 2).bind fun v1 => (if ia_ok h 1 [.ref x0, .int (v1 - 1)] = true then kxv (cl 249 [.ref x0, .int (v1 - 1)] h) (fun h2 => (if ia_ok h2 1 [.ref x0] = true then kxi (cl 246 [.ref x0] h2) (fun r4 h3 => (if r4 = 0 then some (some (.int (-1)), h3) else some (some (.int x3), h3))) else none)) else none)) := by
  refine (dq rfl rfl).trans ?_
  refine (dq rfl rfl).trans ?_
  refine (dq_getI rfl).trans (bn_c (fun v1 => ?_))
  refine (dq rfl rfl).trans ?_
  refine (dq rfl rfl).trans ?_
  refine (dq_kxv (z := 249) rfl (lq rfl) (lq rfl) (lq rfl) kd_249).trans (it_c (kxv_c (fun h2 => ?_)))
  refine (dq rfl rfl).trans ?_
  refine (dq_kxi (z := 246) rfl (lq rfl) (lq rfl) (lq rfl) kd_246).trans (it_c (kxi_c (fun r4 h3 => ?_)))
  refine (dq_ifeq rfl).trans (ie_c ?_ ?_)
  · refine (dq rfl rfl).trans ?_
    exact dq_ret1 rfl
  · refine (dq rfl rfl).trans ?_
    refine (dq rfl rfl).trans ?_
    exact dq_ret1 rfl
theorem q_255 (ab : Nat) (ac : Int32) (h : ia_H) : cl 255 [.ref ab, .int ac] h = (if ia_ok h 1 [.ref ab] = true then kxi (cl 246 [.ref ab] h) (fun r2 h1 => (if r2 = 0 then some (some (.int 0), h1) else (if ia_ok h1 1 [.ref ab] = true then kxi (cl 247 [.ref ab] h1) (fun r4 h3 => (if r4 = 0 then (if ia_ok h3 1 [.ref ab, .int ac] = true then kxv (cl 250 [.ref ab, .int ac] h3) (fun h5 => (if ia_ok h5 1 [.ref ab] = true then kxi (cl 246 [.ref ab] h5) (fun r7 h6 => (if r7 = 0 ∨ r7 = 1 then some (some (.int r7), h6) else none)) else none)) else none) else some (some (.int 0), h3))) else none))) else none) := by
  refine (dq rfl rfl).trans ?_
  refine (dq_kxi (z := 246) rfl (lq rfl) (lq rfl) (lq rfl) kd_246).trans (it_c (kxi_c (fun r2 h1 => ?_)))
  refine (dq_ifeq rfl).trans (ie_c ?_ ?_)
  · refine (dq rfl rfl).trans ?_
    exact dq_ret20 rfl
  · refine (dq rfl rfl).trans ?_
    refine (dq_kxi (z := 247) rfl (lq rfl) (lq rfl) (lq rfl) kd_247).trans (it_c (kxi_c (fun r4 h3 => ?_)))
    refine (dq_ifeq rfl).trans (ie_c ?_ ?_)
    · refine (dq rfl rfl).trans ?_
      refine (dq rfl rfl).trans ?_
      refine (dq_kxv (z := 250) rfl (lq rfl) (lq rfl) (lq rfl) kd_250).trans (it_c (kxv_c (fun h5 => ?_)))
      refine (dq rfl rfl).trans ?_
      refine (dq_kxi (z := 246) rfl (lq rfl) (lq rfl) (lq rfl) kd_246).trans (it_c (kxi_c (fun r7 h6 => ?_)))
      exact dq_ret2 rfl
    · refine (dq rfl rfl).trans ?_
      exact dq_ret20 rfl
theorem q_256 (ab : Nat) (ac : Int32) (h : ia_H) : cl 256 [.ref ab, .int ac] h = ((ia_len h ab).bind fun v1 => dn 256 5 [some (.ref ab), some (.int ac), some (.int 0), some (.int v1)] [] h) := by
  refine (dq rfl rfl).trans ?_
  refine (dq rfl rfl).trans ?_
  refine (dq rfl rfl).trans ?_
  refine (dq_alen rfl).trans (bn_c (fun v1 => ?_))
  refine (dq rfl rfl).trans ?_
  rfl
theorem q_256_5 (x0 : Nat) (x1 : Int32) (x2 : Int32) (x3 : Int32) (h : ia_H) : dn 256 5 [some (.ref x0), some (.int x1), some (.int x2), some (.int x3)] [] h = (if x3 ≤ x2 then some (none, h) else ((ia_st h 0 x0 x2 x1).bind fun h1 => dn 256 5 [some (.ref x0), some (.int x1), some (.int (x2 + 1)), some (.int x3)] [] h1)) := by
  refine (dq rfl rfl).trans ?_
  refine (dq rfl rfl).trans ?_
  refine (dq_ige rfl).trans (ie_c ?_ ?_)
  · exact dq_ret0 rfl
  · refine (dq rfl rfl).trans ?_
    refine (dq rfl rfl).trans ?_
    refine (dq rfl rfl).trans ?_
    refine (dq_iast rfl).trans (bn_c (fun h1 => ?_))
    refine (dq_iinc (v := 1) rfl rfl (by decide)).trans ?_
    refine (dq rfl rfl).trans ?_
    rfl
theorem q_257 (ab : Int32) (h : ia_H) : cl 257 [.int ab] h = dn 257 8 [some (.int (ab - (((ab.toUInt32 >>> ((1 : Int32).toUInt32 &&& Int32.toUInt32 31)).toInt32) &&& 1431655765)))] [] h := by
  refine (dq rfl rfl).trans ?_
  refine (dq rfl rfl).trans ?_
  refine (dq rfl rfl).trans ?_
  refine (dq rfl rfl).trans ?_
  refine (dq rfl rfl).trans ?_
  refine (dq rfl rfl).trans ?_
  refine (dq rfl rfl).trans ?_
  refine (dq rfl rfl).trans ?_
  rfl
theorem q_257_8 (x0 : Int32) (h : ia_H) : dn 257 8 [some (.int x0)] [] h = dn 257 18 [some (.int ((x0 &&& 858993459) + (((x0.toUInt32 >>> ((2 : Int32).toUInt32 &&& Int32.toUInt32 31)).toInt32) &&& 858993459)))] [] h := by
  refine (dq rfl rfl).trans ?_
  refine (dq rfl rfl).trans ?_
  refine (dq rfl rfl).trans ?_
  refine (dq rfl rfl).trans ?_
  refine (dq rfl rfl).trans ?_
  refine (dq rfl rfl).trans ?_
  refine (dq rfl rfl).trans ?_
  refine (dq rfl rfl).trans ?_
  refine (dq rfl rfl).trans ?_
  refine (dq rfl rfl).trans ?_
  rfl
theorem q_257_18 (x0 : Int32) (h : ia_H) : dn 257 18 [some (.int x0)] [] h = dn 257 26 [some (.int ((x0 + ((x0.toUInt32 >>> ((4 : Int32).toUInt32 &&& Int32.toUInt32 31)).toInt32)) &&& 252645135))] [] h := by
  refine (dq rfl rfl).trans ?_
  refine (dq rfl rfl).trans ?_
  refine (dq rfl rfl).trans ?_
  refine (dq rfl rfl).trans ?_
  refine (dq rfl rfl).trans ?_
  refine (dq rfl rfl).trans ?_
  refine (dq rfl rfl).trans ?_
  refine (dq rfl rfl).trans ?_
  rfl
theorem q_257_26 (x0 : Int32) (h : ia_H) : dn 257 26 [some (.int x0)] [] h = dn 257 32 [some (.int (x0 + ((x0.toUInt32 >>> ((8 : Int32).toUInt32 &&& Int32.toUInt32 31)).toInt32)))] [] h := by
  refine (dq rfl rfl).trans ?_
  refine (dq rfl rfl).trans ?_
  refine (dq rfl rfl).trans ?_
  refine (dq rfl rfl).trans ?_
  refine (dq rfl rfl).trans ?_
  refine (dq rfl rfl).trans ?_
  rfl
theorem q_257_32 (x0 : Int32) (h : ia_H) : dn 257 32 [some (.int x0)] [] h = dn 257 38 [some (.int (x0 + ((x0.toUInt32 >>> ((16 : Int32).toUInt32 &&& Int32.toUInt32 31)).toInt32)))] [] h := by
  refine (dq rfl rfl).trans ?_
  refine (dq rfl rfl).trans ?_
  refine (dq rfl rfl).trans ?_
  refine (dq rfl rfl).trans ?_
  refine (dq rfl rfl).trans ?_
  refine (dq rfl rfl).trans ?_
  rfl
theorem q_257_38 (x0 : Int32) (h : ia_H) : dn 257 38 [some (.int x0)] [] h = some (some (.int (x0 &&& 63)), h) := by
  refine (dq rfl rfl).trans ?_
  refine (dq rfl rfl).trans ?_
  refine (dq rfl rfl).trans ?_
  exact dq_ret1 rfl
theorem q_258 (ab : Int64) (h : ia_H) : cl 258 [.long ab] h = dn 258 8 [some (.long (ab - (((ab.toUInt64 >>> ((1 : Int32).toInt64.toUInt64 &&& Int64.toUInt64 63)).toInt64) &&& 6148914691236517205))), none] [] h := by
  refine (dq rfl rfl).trans ?_
  refine (dq rfl rfl).trans ?_
  refine (dq rfl rfl).trans ?_
  refine (dq rfl rfl).trans ?_
  refine (dq rfl rfl).trans ?_
  refine (dq rfl rfl).trans ?_
  refine (dq rfl rfl).trans ?_
  refine (dq rfl rfl).trans ?_
  rfl
theorem q_258_8 (x0 : Int64) (h : ia_H) : dn 258 8 [some (.long x0), none] [] h = dn 258 18 [some (.long ((x0 &&& 3689348814741910323) + (((x0.toUInt64 >>> ((2 : Int32).toInt64.toUInt64 &&& Int64.toUInt64 63)).toInt64) &&& 3689348814741910323))), none] [] h := by
  refine (dq rfl rfl).trans ?_
  refine (dq rfl rfl).trans ?_
  refine (dq rfl rfl).trans ?_
  refine (dq rfl rfl).trans ?_
  refine (dq rfl rfl).trans ?_
  refine (dq rfl rfl).trans ?_
  refine (dq rfl rfl).trans ?_
  refine (dq rfl rfl).trans ?_
  refine (dq rfl rfl).trans ?_
  refine (dq rfl rfl).trans ?_
  rfl
theorem q_258_18 (x0 : Int64) (h : ia_H) : dn 258 18 [some (.long x0), none] [] h = dn 258 26 [some (.long ((x0 + ((x0.toUInt64 >>> ((4 : Int32).toInt64.toUInt64 &&& Int64.toUInt64 63)).toInt64)) &&& 1085102592571150095)), none] [] h := by
  refine (dq rfl rfl).trans ?_
  refine (dq rfl rfl).trans ?_
  refine (dq rfl rfl).trans ?_
  refine (dq rfl rfl).trans ?_
  refine (dq rfl rfl).trans ?_
  refine (dq rfl rfl).trans ?_
  refine (dq rfl rfl).trans ?_
  refine (dq rfl rfl).trans ?_
  rfl
theorem q_258_26 (x0 : Int64) (h : ia_H) : dn 258 26 [some (.long x0), none] [] h = dn 258 32 [some (.long (x0 + ((x0.toUInt64 >>> ((8 : Int32).toInt64.toUInt64 &&& Int64.toUInt64 63)).toInt64))), none] [] h := by
  refine (dq rfl rfl).trans ?_
  refine (dq rfl rfl).trans ?_
  refine (dq rfl rfl).trans ?_
  refine (dq rfl rfl).trans ?_
  refine (dq rfl rfl).trans ?_
  refine (dq rfl rfl).trans ?_
  rfl
theorem q_258_32 (x0 : Int64) (h : ia_H) : dn 258 32 [some (.long x0), none] [] h = dn 258 38 [some (.long (x0 + ((x0.toUInt64 >>> ((16 : Int32).toInt64.toUInt64 &&& Int64.toUInt64 63)).toInt64))), none] [] h := by
  refine (dq rfl rfl).trans ?_
  refine (dq rfl rfl).trans ?_
  refine (dq rfl rfl).trans ?_
  refine (dq rfl rfl).trans ?_
  refine (dq rfl rfl).trans ?_
  refine (dq rfl rfl).trans ?_
  rfl
theorem q_258_38 (x0 : Int64) (h : ia_H) : dn 258 38 [some (.long x0), none] [] h = dn 258 44 [some (.long (x0 + ((x0.toUInt64 >>> ((32 : Int32).toInt64.toUInt64 &&& Int64.toUInt64 63)).toInt64))), none] [] h := by
  refine (dq rfl rfl).trans ?_
  refine (dq rfl rfl).trans ?_
  refine (dq rfl rfl).trans ?_
  refine (dq rfl rfl).trans ?_
  refine (dq rfl rfl).trans ?_
  refine (dq rfl rfl).trans ?_
  rfl
theorem q_258_44 (x0 : Int64) (h : ia_H) : dn 258 44 [some (.long x0), none] [] h = some (some (.int ((x0.toInt32) &&& 127)), h) := by
  refine (dq rfl rfl).trans ?_
  refine (dq rfl rfl).trans ?_
  refine (dq rfl rfl).trans ?_
  refine (dq rfl rfl).trans ?_
  exact dq_ret1 rfl

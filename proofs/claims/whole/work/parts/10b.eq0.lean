/-! equations of the methods 0 to 64, by program (wip/whole/dec.py) -/
theorem q_0 (ab : Nat) (h : ia_H) : cl 0 [.ref ab] h = kxv (cl 238 [.ref (h.1)] (ia_new h 4 (.inr (1, [.null, .int 0, .int 0, .int 0])))) (fun h1 => ((ia_pF h1 0 ab 0 (.ref (h.1))).bind fun h2 => kxv (cl 238 [.ref (h2.1)] (ia_new h2 4 (.inr (1, [.null, .int 0, .int 0, .int 0])))) (fun h3 => ((ia_pF h3 0 ab 1 (.ref (h2.1))).bind fun h4 => kxv (cl 176 [.ref (h4.1)] (ia_new h4 2 (.inr (2, [.null, .int 0])))) (fun h5 => ((ia_pF h5 0 ab 2 (.ref (h4.1))).bind fun h6 => kxv (cl 188 [.ref (h6.1)] (ia_new h6 2 (.inr (3, [.null, .int 0])))) (fun h7 => ((ia_pF h7 0 ab 3 (.ref (h6.1))).bind fun h8 => kxv (cl 192 [.ref (h8.1)] (ia_new h8 1 (.inr (4, [.null])))) (fun h9 => ((ia_pF h9 0 ab 4 (.ref (h8.1))).bind fun h10 => kxv (cl 192 [.ref (h10.1)] (ia_new h10 1 (.inr (4, [.null])))) (fun h11 => ((ia_pF h11 0 ab 5 (.ref (h10.1))).bind fun h12 => kxv (cl 204 [.ref (h12.1)] (ia_new h12 11 (.inr (5, [.int 0, .int 0, .int 0, .int 0, .null, .null, .null, .null, .null, .null, .null])))) (fun h13 => ((ia_pF h13 0 ab 6 (.ref (h12.1))).bind fun h14 => kxv (cl 204 [.ref (h14.1)] (ia_new h14 11 (.inr (5, [.int 0, .int 0, .int 0, .int 0, .null, .null, .null, .null, .null, .null, .null])))) (fun h15 => ((ia_pF h15 0 ab 7 (.ref (h14.1))).bind fun h16 => kxv (cl 204 [.ref (h16.1)] (ia_new h16 11 (.inr (5, [.int 0, .int 0, .int 0, .int 0, .null, .null, .null, .null, .null, .null, .null])))) (fun h17 => ((ia_pF h17 0 ab 8 (.ref (h16.1))).bind fun h18 => kxv (cl 172 [.ref (h18.1)] (ia_new h18 3 (.inr (6, [.null, .int 0, .int 0])))) (fun h19 => ((ia_pF h19 0 ab 9 (.ref (h18.1))).bind fun h20 => ((ia_pF h20 0 ab 10 (.int 0)).bind fun h21 => some (none, h21)))))))))))))))))))))) := by
  refine (dq rfl rfl).trans ?_
  refine (dq rfl rfl).trans ?_
  refine (dq rfl rfl).trans ?_
  refine (dq rfl rfl).trans ?_
  refine (dq rfl rfl).trans ?_
  refine (dq_kxv1 (z := 238) rfl (lq rfl) (lq rfl) (lq rfl) kd_238 rfl).trans (kxv_c (fun h1 => ?_))
  refine (dq_putR rfl).trans (bn_c (fun h2 => ?_))
  refine (dq rfl rfl).trans ?_
  refine (dq rfl rfl).trans ?_
  refine (dq rfl rfl).trans ?_
  refine (dq_kxv1 (z := 238) rfl (lq rfl) (lq rfl) (lq rfl) kd_238 rfl).trans (kxv_c (fun h3 => ?_))
  refine (dq_putR rfl).trans (bn_c (fun h4 => ?_))
  refine (dq rfl rfl).trans ?_
  refine (dq rfl rfl).trans ?_
  refine (dq rfl rfl).trans ?_
  refine (dq_kxv1 (z := 176) rfl (lq rfl) (lq rfl) (lq rfl) kd_176 rfl).trans (kxv_c (fun h5 => ?_))
  refine (dq_putR rfl).trans (bn_c (fun h6 => ?_))
  refine (dq rfl rfl).trans ?_
  refine (dq rfl rfl).trans ?_
  refine (dq rfl rfl).trans ?_
  refine (dq_kxv1 (z := 188) rfl (lq rfl) (lq rfl) (lq rfl) kd_188 rfl).trans (kxv_c (fun h7 => ?_))
  refine (dq_putR rfl).trans (bn_c (fun h8 => ?_))
  refine (dq rfl rfl).trans ?_
  refine (dq rfl rfl).trans ?_
  refine (dq rfl rfl).trans ?_
  refine (dq_kxv1 (z := 192) rfl (lq rfl) (lq rfl) (lq rfl) kd_192 rfl).trans (kxv_c (fun h9 => ?_))
  refine (dq_putR rfl).trans (bn_c (fun h10 => ?_))
  refine (dq rfl rfl).trans ?_
  refine (dq rfl rfl).trans ?_
  refine (dq rfl rfl).trans ?_
  refine (dq_kxv1 (z := 192) rfl (lq rfl) (lq rfl) (lq rfl) kd_192 rfl).trans (kxv_c (fun h11 => ?_))
  refine (dq_putR rfl).trans (bn_c (fun h12 => ?_))
  refine (dq rfl rfl).trans ?_
  refine (dq rfl rfl).trans ?_
  refine (dq rfl rfl).trans ?_
  refine (dq_kxv1 (z := 204) rfl (lq rfl) (lq rfl) (lq rfl) kd_204 rfl).trans (kxv_c (fun h13 => ?_))
  refine (dq_putR rfl).trans (bn_c (fun h14 => ?_))
  refine (dq rfl rfl).trans ?_
  refine (dq rfl rfl).trans ?_
  refine (dq rfl rfl).trans ?_
  refine (dq_kxv1 (z := 204) rfl (lq rfl) (lq rfl) (lq rfl) kd_204 rfl).trans (kxv_c (fun h15 => ?_))
  refine (dq_putR rfl).trans (bn_c (fun h16 => ?_))
  refine (dq rfl rfl).trans ?_
  refine (dq rfl rfl).trans ?_
  refine (dq rfl rfl).trans ?_
  refine (dq_kxv1 (z := 204) rfl (lq rfl) (lq rfl) (lq rfl) kd_204 rfl).trans (kxv_c (fun h17 => ?_))
  refine (dq_putR rfl).trans (bn_c (fun h18 => ?_))
  refine (dq rfl rfl).trans ?_
  refine (dq rfl rfl).trans ?_
  refine (dq rfl rfl).trans ?_
  refine (dq_kxv1 (z := 172) rfl (lq rfl) (lq rfl) (lq rfl) kd_172 rfl).trans (kxv_c (fun h19 => ?_))
  refine (dq_putR rfl).trans (bn_c (fun h20 => ?_))
  refine (dq rfl rfl).trans ?_
  refine (dq rfl rfl).trans ?_
  refine (dq_putZ0 rfl).trans (bn_c (fun h21 => ?_))
  exact dq_ret0 rfl
theorem q_1 (ab : Nat) (ac : Int32) (h : ia_H) : cl 1 [.ref ab, .int ac] h = ((ia_gR h 0 ab 0).bind fun a1 => (if ia_ok h 1 [.ref a1, .int ac] = true then kxi (cl 239 [.ref a1, .int ac] h) (fun r3 h2 => (if r3 = 0 then some (some (.int (-1)), h2) else ((ia_gR h2 0 ab 0).bind fun a4 => ((ia_gI h2 1 a4 1).bind fun v5 => some (some (.int v5), h2))))) else none)) := by
  refine (dq rfl rfl).trans ?_
  refine (dq_getR rfl).trans (bn_c (fun a1 => ?_))
  refine (dq rfl rfl).trans ?_
  refine (dq_kxi (z := 239) rfl (lq rfl) (lq rfl) (lq rfl) kd_239).trans (it_c (kxi_c (fun r3 h2 => ?_)))
  refine (dq_ifeq rfl).trans (ie_c ?_ ?_)
  · refine (dq rfl rfl).trans ?_
    exact dq_ret1 rfl
  · refine (dq rfl rfl).trans ?_
    refine (dq_getR rfl).trans (bn_c (fun a4 => ?_))
    refine (dq_getI rfl).trans (bn_c (fun v5 => ?_))
    refine (dq rfl rfl).trans ?_
    exact dq_ret1 rfl
theorem q_2 (ab : Nat) (ac : Int32) (h : ia_H) : cl 2 [.ref ab, .int ac] h = ((ia_gR h 0 ab 0).bind fun a1 => (if ia_ok h 1 [.ref a1, .int ac] = true then kxi (cl 242 [.ref a1, .int ac] h) (fun r3 h2 => (if r3 = 0 ∨ r3 = 1 then some (some (.int r3), h2) else none)) else none)) := by
  refine (dq rfl rfl).trans ?_
  refine (dq_getR rfl).trans (bn_c (fun a1 => ?_))
  refine (dq rfl rfl).trans ?_
  refine (dq_kxi (z := 242) rfl (lq rfl) (lq rfl) (lq rfl) kd_242).trans (it_c (kxi_c (fun r3 h2 => ?_)))
  exact dq_ret2 rfl
theorem q_3 (ab : Nat) (h : ia_H) : cl 3 [.ref ab] h = (if ia_ok h 0 [.ref ab] = true then kxi (cl 59 [.ref ab] h) (fun r2 h1 => ((ia_gR h1 0 ab 0).bind fun a3 => (if ia_ok h1 1 [.ref a3] = true then kxv (cl 243 [.ref a3] h1) (fun h4 => ((ia_gR h4 0 ab 0).bind fun a5 => (if ia_ok h4 1 [.ref a5] = true then kxi (cl 246 [.ref a5] h4) (fun r7 h6 => (if r7 = 0 then (if ia_ok h6 0 [.ref ab] = true then kxi (cl 58 [.ref ab] h6) (fun r12 h11 => some (some (.int r12), h11)) else none) else ((ia_gR h6 0 ab 4).bind fun a8 => ((ia_gR h6 0 ab 5).bind fun a9 => (if ia_ok h6 4 [.ref a8, .ref a9] = true then kxv (cl 194 [.ref a8, .ref a9] h6) (fun h10 => some (some (.int r2), h10)) else none))))) else none))) else none))) else none) := by
  refine (dq rfl rfl).trans ?_
  refine (dq_kxi (z := 59) rfl (lq rfl) (lq rfl) (lq rfl) kd_59).trans (it_c (kxi_c (fun r2 h1 => ?_)))
  refine (dq rfl rfl).trans ?_
  refine (dq rfl rfl).trans ?_
  refine (dq_getR rfl).trans (bn_c (fun a3 => ?_))
  refine (dq_kxv (z := 243) rfl (lq rfl) (lq rfl) (lq rfl) kd_243).trans (it_c (kxv_c (fun h4 => ?_)))
  refine (dq rfl rfl).trans ?_
  refine (dq_getR rfl).trans (bn_c (fun a5 => ?_))
  refine (dq_kxi (z := 246) rfl (lq rfl) (lq rfl) (lq rfl) kd_246).trans (it_c (kxi_c (fun r7 h6 => ?_)))
  refine (dq_ifne rfl).trans (ie_c ?_ ?_)
  · refine (dq rfl rfl).trans ?_
    refine (dq_kxi (z := 58) rfl (lq rfl) (lq rfl) (lq rfl) kd_58).trans (it_c (kxi_c (fun r12 h11 => ?_)))
    exact dq_ret1 rfl
  · refine (dq rfl rfl).trans ?_
    refine (dq_getR rfl).trans (bn_c (fun a8 => ?_))
    refine (dq rfl rfl).trans ?_
    refine (dq_getR rfl).trans (bn_c (fun a9 => ?_))
    refine (dq_kxv (z := 194) rfl (lq rfl) (lq rfl) (lq rfl) kd_194).trans (it_c (kxv_c (fun h10 => ?_)))
    refine (dq rfl rfl).trans ?_
    exact dq_ret1 rfl
theorem q_4 (ab : Nat) (h : ia_H) : cl 4 [.ref ab] h = (if ia_ok h 0 [.ref ab] = true then kxv (cl 62 [.ref ab] h) (fun h1 => ((ia_gR h1 0 ab 0).bind fun a2 => (if ia_ok h1 1 [.ref a2] = true then kxv (cl 243 [.ref a2] h1) (fun h3 => ((ia_gR h3 0 ab 0).bind fun a4 => (if ia_ok h3 1 [.ref a4] = true then kxi (cl 246 [.ref a4] h3) (fun r6 h5 => (if r6 = 0 then (if ia_ok h5 0 [.ref ab] = true then kxi (cl 58 [.ref ab] h5) (fun r16 h15 => some (some (.int r16), h15)) else none) else ((ia_gR h5 0 ab 6).bind fun a7 => ((ia_gR h5 0 ab 2).bind fun a8 => (if ia_ok h5 5 [.ref a7, .ref a8] = true then kxv (cl 206 [.ref a7, .ref a8] h5) (fun h9 => ((ia_gR h9 0 ab 9).bind fun a10 => (if ia_ok h9 6 [.ref a10] = true then kxv (cl 173 [.ref a10] h9) (fun h11 => ((ia_pF h11 0 ab 10 (.int 0)).bind fun h12 => ((ia_gR h12 0 ab 6).bind fun a13 => ((ia_gI h12 5 a13 0).bind fun v14 => some (some (.int v14), h12))))) else none))) else none))))) else none))) else none))) else none) := by
  refine (dq rfl rfl).trans ?_
  refine (dq_kxv (z := 62) rfl (lq rfl) (lq rfl) (lq rfl) kd_62).trans (it_c (kxv_c (fun h1 => ?_)))
  refine (dq rfl rfl).trans ?_
  refine (dq_getR rfl).trans (bn_c (fun a2 => ?_))
  refine (dq_kxv (z := 243) rfl (lq rfl) (lq rfl) (lq rfl) kd_243).trans (it_c (kxv_c (fun h3 => ?_)))
  refine (dq rfl rfl).trans ?_
  refine (dq_getR rfl).trans (bn_c (fun a4 => ?_))
  refine (dq_kxi (z := 246) rfl (lq rfl) (lq rfl) (lq rfl) kd_246).trans (it_c (kxi_c (fun r6 h5 => ?_)))
  refine (dq_ifne rfl).trans (ie_c ?_ ?_)
  · refine (dq rfl rfl).trans ?_
    refine (dq_kxi (z := 58) rfl (lq rfl) (lq rfl) (lq rfl) kd_58).trans (it_c (kxi_c (fun r16 h15 => ?_)))
    exact dq_ret1 rfl
  · refine (dq rfl rfl).trans ?_
    refine (dq_getR rfl).trans (bn_c (fun a7 => ?_))
    refine (dq rfl rfl).trans ?_
    refine (dq_getR rfl).trans (bn_c (fun a8 => ?_))
    refine (dq_kxv (z := 206) rfl (lq rfl) (lq rfl) (lq rfl) kd_206).trans (it_c (kxv_c (fun h9 => ?_)))
    refine (dq rfl rfl).trans ?_
    refine (dq_getR rfl).trans (bn_c (fun a10 => ?_))
    refine (dq_kxv (z := 173) rfl (lq rfl) (lq rfl) (lq rfl) kd_173).trans (it_c (kxv_c (fun h11 => ?_)))
    refine (dq rfl rfl).trans ?_
    refine (dq rfl rfl).trans ?_
    refine (dq_putZ0 rfl).trans (bn_c (fun h12 => ?_))
    refine (dq rfl rfl).trans ?_
    refine (dq_getR rfl).trans (bn_c (fun a13 => ?_))
    refine (dq_getI rfl).trans (bn_c (fun v14 => ?_))
    exact dq_ret1 rfl
theorem q_5 (ab : Nat) (ac : Int32) (ad : Int32) (h : ia_H) : cl 5 [.ref ab, .int ac, .int ad] h = kxi (cl 49 [.int ac] h) (fun r2 h1 => (if r2 = 0 then some (some (.int (-1)), h1) else (if ad < 0 then some (some (.int (-1)), h1) else ((ia_gR h1 0 ab 4).bind fun a3 => (if ia_ok h1 4 [.ref a3, .int ac] = true then kxi (cl 197 [.ref a3, .int ac] h1) (fun r5 h4 => (if ad < (4 + (2 * r5)) then ((ia_gR h4 0 ab 4).bind fun a6 => (if ia_ok h4 4 [.ref a6, .int ac, .int ad] = true then kxi (cl 195 [.ref a6, .int ac, .int ad] h4) (fun r8 h7 => some (some (.int r8), h7)) else none)) else some (some (.int (-1)), h4))) else none))))) := by
  refine (dq rfl rfl).trans ?_
  refine (dq_kxi0 (z := 49) rfl (lq rfl) (lq rfl) (lq rfl) kd_49).trans (kxi_c (fun r2 h1 => ?_))
  refine (dq_ifeq rfl).trans (ie_c ?_ ?_)
  · refine (dq rfl rfl).trans ?_
    exact dq_ret1 rfl
  · refine (dq rfl rfl).trans ?_
    refine (dq_iflt rfl).trans (ie_c ?_ ?_)
    · refine (dq rfl rfl).trans ?_
      exact dq_ret1 rfl
    · refine (dq rfl rfl).trans ?_
      refine (dq rfl rfl).trans ?_
      refine (dq rfl rfl).trans ?_
      refine (dq rfl rfl).trans ?_
      refine (dq_getR rfl).trans (bn_c (fun a3 => ?_))
      refine (dq rfl rfl).trans ?_
      refine (dq_kxi (z := 197) rfl (lq rfl) (lq rfl) (lq rfl) kd_197).trans (it_c (kxi_c (fun r5 h4 => ?_)))
      refine (dq rfl rfl).trans ?_
      refine (dq rfl rfl).trans ?_
      refine (dq_ilt rfl).trans (ie_c ?_ ?_)
      · refine (dq rfl rfl).trans ?_
        refine (dq_getR rfl).trans (bn_c (fun a6 => ?_))
        refine (dq rfl rfl).trans ?_
        refine (dq rfl rfl).trans ?_
        refine (dq_kxi (z := 195) rfl (lq rfl) (lq rfl) (lq rfl) kd_195).trans (it_c (kxi_c (fun r8 h7 => ?_)))
        exact dq_ret1 rfl
      · refine (dq rfl rfl).trans ?_
        exact dq_ret1 rfl
theorem q_6 (ab : Nat) (ac : Int32) (h : ia_H) : cl 6 [.ref ab, .int ac] h = (if ia_ok h 0 [.ref ab] = true then kxv (cl 66 [.ref ab] h) (fun h1 => (if ac = (-1) then ((ia_gR h1 0 ab 1).bind fun a5 => ((ia_gI h1 1 a5 1).bind fun v6 => some (some (.int v6), h1))) else ((ia_gR h1 0 ab 1).bind fun a2 => (if ia_ok h1 1 [.ref a2, .int ac] = true then kxi (cl 244 [.ref a2, .int ac] h1) (fun r4 h3 => some (some (.int r4), h3)) else none)))) else none) := by
  refine (dq rfl rfl).trans ?_
  refine (dq_kxv (z := 66) rfl (lq rfl) (lq rfl) (lq rfl) kd_66).trans (it_c (kxv_c (fun h1 => ?_)))
  refine (dq rfl rfl).trans ?_
  refine (dq rfl rfl).trans ?_
  refine (dq_ine rfl).trans (ie_c ?_ ?_)
  · refine (dq rfl rfl).trans ?_
    refine (dq_getR rfl).trans (bn_c (fun a5 => ?_))
    refine (dq_getI rfl).trans (bn_c (fun v6 => ?_))
    exact dq_ret1 rfl
  · refine (dq rfl rfl).trans ?_
    refine (dq_getR rfl).trans (bn_c (fun a2 => ?_))
    refine (dq rfl rfl).trans ?_
    refine (dq_kxi (z := 244) rfl (lq rfl) (lq rfl) (lq rfl) kd_244).trans (it_c (kxi_c (fun r4 h3 => ?_)))
    exact dq_ret1 rfl
theorem q_7 (ab : Nat) (ac : Int32) (h : ia_H) : cl 7 [.ref ab, .int ac] h = (if ia_ok h 0 [.ref ab, .int ac] = true then kxi (cl 52 [.ref ab, .int ac] h) (fun r2 h1 => (if r2 = 0 then some (some (.int (-1)), h1) else dn 7 12 [some (.ref ab), some (.int ac), some (.int 0), some (.int 0), some (.int 0)] [] h1)) else none) := by
  refine (dq rfl rfl).trans ?_
  refine (dq rfl rfl).trans ?_
  refine (dq_kxi (z := 52) rfl (lq rfl) (lq rfl) (lq rfl) kd_52).trans (it_c (kxi_c (fun r2 h1 => ?_)))
  refine (dq_ifne rfl).trans (ie_c ?_ ?_)
  · refine (dq rfl rfl).trans ?_
    exact dq_ret1 rfl
  · refine (dq rfl rfl).trans ?_
    refine (dq rfl rfl).trans ?_
    refine (dq rfl rfl).trans ?_
    refine (dq rfl rfl).trans ?_
    refine (dq rfl rfl).trans ?_
    refine (dq rfl rfl).trans ?_
    rfl
theorem q_7_12 (x0 : Nat) (x1 : Int32) (x2 : Int32) (x3 : Int32) (x4 : Int32) (h : ia_H) : dn 7 12 [some (.ref x0), some (.int x1), some (.int x2), some (.int x3), some (.int x4)] [] h = ((ia_gR h 0 x0 6).bind fun a1 => ((ia_gI h 5 a1 2).bind fun v2 => (if v2 ≤ x4 then ((ia_gR h 0 x0 3).bind fun a3 => (if ia_ok h 3 [.ref a3] = true then kxr (cl 189 [.ref a3] h) (fun r5 h4 => (if ia_ok h4 3 [.ref r5, .int x3] = true then kxr (cl 190 [.ref r5, .int x3] h4) (fun r7 h6 => (if ia_ok h6 3 [.ref r7, .int x2] = true then kxr (cl 190 [.ref r7, .int x2] h6) (fun r9 h8 => ((ia_gR h8 0 x0 6).bind fun a10 => ((ia_gR h8 5 a10 4).bind fun a11 => ((ia_ld h8 0 a11 x1).bind fun v12 => some (some (.int v12), h8))))) else none)) else none)) else none)) else ((ia_gR h 0 x0 6).bind fun a13 => (if ia_ok h 5 [.ref a13, .int x4, .int 0] = true then kxi (cl 216 [.ref a13, .int x4, .int 0] h) (fun r15 h14 => (if r15 = x1 then ((ia_gR h14 0 x0 6).bind fun a16 => (if ia_ok h14 5 [.ref a16, .int x4] = true then kxi (cl 218 [.ref a16, .int x4] h14) (fun r18 h17 => (if r18 = 0 then dn 7 12 [some (.ref x0), some (.int x1), some (.int (x2 + 1)), some (.int (x3 + 0)), some (.int (x4 + 1))] [] h17 else dn 7 12 [some (.ref x0), some (.int x1), some (.int (x2 + 1)), some (.int (x3 + 1)), some (.int (x4 + 1))] [] h17)) else none)) else dn 7 12 [some (.ref x0), some (.int x1), some (.int x2), some (.int x3), some (.int (x4 + 1))] [] h14)) else none))))) := by
  refine (dq rfl rfl).trans ?_
  refine (dq rfl rfl).trans ?_
  refine (dq_getR rfl).trans (bn_c (fun a1 => ?_))
  refine (dq_getI rfl).trans (bn_c (fun v2 => ?_))
  refine (dq_ige rfl).trans (ie_c ?_ ?_)
  · refine (dq rfl rfl).trans ?_
    refine (dq_getR rfl).trans (bn_c (fun a3 => ?_))
    refine (dq_kxr (z := 189) rfl (lq rfl) (lq rfl) (lq rfl) kd_189).trans (it_c (kxr_c (fun r5 h4 => ?_)))
    refine (dq rfl rfl).trans ?_
    refine (dq_kxr (z := 190) rfl (lq rfl) (lq rfl) (lq rfl) kd_190).trans (it_c (kxr_c (fun r7 h6 => ?_)))
    refine (dq rfl rfl).trans ?_
    refine (dq_kxr (z := 190) rfl (lq rfl) (lq rfl) (lq rfl) kd_190).trans (it_c (kxr_c (fun r9 h8 => ?_)))
    refine (dq rfl rfl).trans ?_
    refine (dq rfl rfl).trans ?_
    refine (dq_getR rfl).trans (bn_c (fun a10 => ?_))
    refine (dq_getR rfl).trans (bn_c (fun a11 => ?_))
    refine (dq rfl rfl).trans ?_
    refine (dq_iald rfl).trans (bn_c (fun v12 => ?_))
    exact dq_ret1 rfl
  · refine (dq rfl rfl).trans ?_
    refine (dq_getR rfl).trans (bn_c (fun a13 => ?_))
    refine (dq rfl rfl).trans ?_
    refine (dq rfl rfl).trans ?_
    refine (dq_kxi (z := 216) rfl (lq rfl) (lq rfl) (lq rfl) kd_216).trans (it_c (kxi_c (fun r15 h14 => ?_)))
    refine (dq rfl rfl).trans ?_
    refine (dq_ine rfl).trans (ie_c ?_ ?_)
    · refine (dq_iinc (v := 1) rfl rfl (by decide)).trans ?_
      refine (dq rfl rfl).trans ?_
      refine (dq rfl rfl).trans ?_
      refine (dq_getR rfl).trans (bn_c (fun a16 => ?_))
      refine (dq rfl rfl).trans ?_
      refine (dq_kxi (z := 218) rfl (lq rfl) (lq rfl) (lq rfl) kd_218).trans (it_c (kxi_c (fun r18 h17 => ?_)))
      refine (dq_ifeq rfl).trans (ie_c ?_ ?_)
      · refine (dq rfl rfl).trans ?_
        refine (dq rfl rfl).trans ?_
        refine (dq rfl rfl).trans ?_
        refine (dq_iinc (v := 1) rfl rfl (by decide)).trans ?_
        refine (dq rfl rfl).trans ?_
        rfl
      · refine (dq rfl rfl).trans ?_
        refine (dq rfl rfl).trans ?_
        refine (dq rfl rfl).trans ?_
        refine (dq rfl rfl).trans ?_
        refine (dq_iinc (v := 1) rfl rfl (by decide)).trans ?_
        refine (dq rfl rfl).trans ?_
        rfl
    · refine (dq_iinc (v := 1) rfl rfl (by decide)).trans ?_
      refine (dq rfl rfl).trans ?_
      rfl
theorem q_8 (ab : Nat) (ac : Int32) (h : ia_H) : cl 8 [.ref ab, .int ac] h = kxi (cl 50 [.int ac] h) (fun r2 h1 => (if r2 = 0 then some (some (.int (-1)), h1) else ((ia_gR h1 0 ab 6).bind fun a3 => (if ia_ok h1 5 [.ref a3, .int ac] = true then kxi (cl 207 [.ref a3, .int ac] h1) (fun r5 h4 => ((ia_gR h4 0 ab 3).bind fun a6 => (if ia_ok h4 3 [.ref a6] = true then kxr (cl 189 [.ref a6] h4) (fun r8 h7 => kxi (cl 257 [.int r5] h7) (fun r10 h9 => (if ia_ok h9 3 [.ref r8, .int r10] = true then kxr (cl 190 [.ref r8, .int r10] h9) (fun r12 h11 => some (some (.int r5), h11)) else none))) else none))) else none)))) := by
  refine (dq rfl rfl).trans ?_
  refine (dq_kxi0 (z := 50) rfl (lq rfl) (lq rfl) (lq rfl) kd_50).trans (kxi_c (fun r2 h1 => ?_))
  refine (dq_ifne rfl).trans (ie_c ?_ ?_)
  · refine (dq rfl rfl).trans ?_
    exact dq_ret1 rfl
  · refine (dq rfl rfl).trans ?_
    refine (dq_getR rfl).trans (bn_c (fun a3 => ?_))
    refine (dq rfl rfl).trans ?_
    refine (dq_kxi (z := 207) rfl (lq rfl) (lq rfl) (lq rfl) kd_207).trans (it_c (kxi_c (fun r5 h4 => ?_)))
    refine (dq rfl rfl).trans ?_
    refine (dq rfl rfl).trans ?_
    refine (dq_getR rfl).trans (bn_c (fun a6 => ?_))
    refine (dq_kxr (z := 189) rfl (lq rfl) (lq rfl) (lq rfl) kd_189).trans (it_c (kxr_c (fun r8 h7 => ?_)))
    refine (dq rfl rfl).trans ?_
    refine (dq_kxi0 (z := 257) rfl (lq rfl) (lq rfl) (lq rfl) kd_257).trans (kxi_c (fun r10 h9 => ?_))
    refine (dq_kxr (z := 190) rfl (lq rfl) (lq rfl) (lq rfl) kd_190).trans (it_c (kxr_c (fun r12 h11 => ?_)))
    refine (dq rfl rfl).trans ?_
    refine (dq rfl rfl).trans ?_
    exact dq_ret1 rfl
theorem q_9 (ab : Nat) (ac : Int32) (ad : Int32) (ae : Int32) (h : ia_H) : cl 9 [.ref ab, .int ac, .int ad, .int ae] h = (if ia_ok h 0 [.ref ab] = true then kxv (cl 63 [.ref ab] h) (fun h1 => ((ia_gR h1 0 ab 0).bind fun a2 => (if ia_ok h1 1 [.ref a2] = true then kxv (cl 243 [.ref a2] h1) (fun h3 => ((ia_gR h3 0 ab 0).bind fun a4 => (if ia_ok h3 1 [.ref a4] = true then kxi (cl 246 [.ref a4] h3) (fun r6 h5 => (if r6 = 0 then (if ia_ok h5 0 [.ref ab] = true then kxi (cl 58 [.ref ab] h5) (fun r20 h19 => some (some (.int r20), h19)) else none) else kxi (cl 49 [.int ac] h5) (fun r8 h7 => (if r8 = 0 then some (some (.int (-1)), h7) else kxi (cl 51 [.int ad, .int ae] h7) (fun r10 h9 => (if r10 = 0 then some (some (.int (-1)), h9) else ((ia_gR h9 0 ab 7).bind fun a11 => ((ia_gR h9 0 ab 6).bind fun a12 => (if ia_ok h9 5 [.ref a11, .ref a12] = true then kxv (cl 205 [.ref a11, .ref a12] h9) (fun h13 => ((ia_gR (ia_new h13 8 (.inr (7, [.null, .null, .int 0, .int 0, .int 0, .int 0, .int 0, .int 0]))) 0 ab 7).bind fun a14 => ((ia_gR (ia_new h13 8 (.inr (7, [.null, .null, .int 0, .int 0, .int 0, .int 0, .int 0, .int 0]))) 0 ab 4).bind fun a15 => kxv (cl 182 [.ref (h13.1), .ref a14, .ref a15, .int ac, .int ad, .int ae] (ia_new h13 8 (.inr (7, [.null, .null, .int 0, .int 0, .int 0, .int 0, .int 0, .int 0])))) (fun h16 => (if ia_ok h16 7 [.ref (h13.1)] = true then kxi (cl 183 [.ref (h13.1)] h16) (fun r18 h17 => dn 9 42 [some (.ref ab), some (.int ac), some (.int ad), some (.int ae), some (.ref (h13.1)), some (.int r18), some (.int 0), none] [] h17) else none))))) else none))))))))) else none))) else none))) else none) := by
  refine (dq rfl rfl).trans ?_
  refine (dq_kxv (z := 63) rfl (lq rfl) (lq rfl) (lq rfl) kd_63).trans (it_c (kxv_c (fun h1 => ?_)))
  refine (dq rfl rfl).trans ?_
  refine (dq_getR rfl).trans (bn_c (fun a2 => ?_))
  refine (dq_kxv (z := 243) rfl (lq rfl) (lq rfl) (lq rfl) kd_243).trans (it_c (kxv_c (fun h3 => ?_)))
  refine (dq rfl rfl).trans ?_
  refine (dq_getR rfl).trans (bn_c (fun a4 => ?_))
  refine (dq_kxi (z := 246) rfl (lq rfl) (lq rfl) (lq rfl) kd_246).trans (it_c (kxi_c (fun r6 h5 => ?_)))
  refine (dq_ifne rfl).trans (ie_c ?_ ?_)
  · refine (dq rfl rfl).trans ?_
    refine (dq_kxi (z := 58) rfl (lq rfl) (lq rfl) (lq rfl) kd_58).trans (it_c (kxi_c (fun r20 h19 => ?_)))
    exact dq_ret1 rfl
  · refine (dq rfl rfl).trans ?_
    refine (dq_kxi0 (z := 49) rfl (lq rfl) (lq rfl) (lq rfl) kd_49).trans (kxi_c (fun r8 h7 => ?_))
    refine (dq_ifeq rfl).trans (ie_c ?_ ?_)
    · refine (dq rfl rfl).trans ?_
      exact dq_ret1 rfl
    · refine (dq rfl rfl).trans ?_
      refine (dq rfl rfl).trans ?_
      refine (dq_kxi0 (z := 51) rfl (lq rfl) (lq rfl) (lq rfl) kd_51).trans (kxi_c (fun r10 h9 => ?_))
      refine (dq_ifne rfl).trans (ie_c ?_ ?_)
      · refine (dq rfl rfl).trans ?_
        exact dq_ret1 rfl
      · refine (dq rfl rfl).trans ?_
        refine (dq_getR rfl).trans (bn_c (fun a11 => ?_))
        refine (dq rfl rfl).trans ?_
        refine (dq_getR rfl).trans (bn_c (fun a12 => ?_))
        refine (dq_kxv (z := 205) rfl (lq rfl) (lq rfl) (lq rfl) kd_205).trans (it_c (kxv_c (fun h13 => ?_)))
        refine (dq rfl rfl).trans ?_
        refine (dq rfl rfl).trans ?_
        refine (dq rfl rfl).trans ?_
        refine (dq_getR rfl).trans (bn_c (fun a14 => ?_))
        refine (dq rfl rfl).trans ?_
        refine (dq_getR rfl).trans (bn_c (fun a15 => ?_))
        refine (dq rfl rfl).trans ?_
        refine (dq rfl rfl).trans ?_
        refine (dq rfl rfl).trans ?_
        refine (dq_kxv1 (z := 182) rfl (lq rfl) (lq rfl) (lq rfl) kd_182 rfl).trans (kxv_c (fun h16 => ?_))
        refine (dq rfl rfl).trans ?_
        refine (dq rfl rfl).trans ?_
        refine (dq_kxi (z := 183) rfl (lq rfl) (lq rfl) (lq rfl) kd_183).trans (it_c (kxi_c (fun r18 h17 => ?_)))
        refine (dq rfl rfl).trans ?_
        refine (dq rfl rfl).trans ?_
        refine (dq rfl rfl).trans ?_
        rfl
theorem q_9_42 (x0 : Nat) (x1 : Int32) (x2 : Int32) (x3 : Int32) (x4 : Nat) (x5 : Int32) (x6 : Int32) (l7 : Option Value) (h : ia_H) : dn 9 42 [some (.ref x0), some (.int x1), some (.int x2), some (.int x3), some (.ref x4), some (.int x5), some (.int x6), l7] [] h = ((ia_gR h 0 x0 2).bind fun a1 => ((ia_gI h 2 a1 1).bind fun v2 => (if v2 ≤ x6 then (if ia_ok h 7 [.ref x4] = true then kxv (cl 186 [.ref x4] h) (fun h3 => ((ia_gR h3 0 x0 9).bind fun a4 => ((ia_gR h3 0 x0 6).bind fun a5 => (if ia_ok h3 6 [.ref a4, .ref a5] = true then kxv (cl 174 [.ref a4, .ref a5] h3) (fun h6 => ((ia_gR h6 0 x0 7).bind fun a7 => ((ia_gI h6 5 a7 2).bind fun v8 => ((ia_gR h6 0 x0 6).bind fun a9 => ((ia_gI h6 5 a9 2).bind fun v10 => ((ia_gR h6 0 x0 6).bind fun a11 => ((ia_gR h6 0 x0 7).bind fun a12 => (if ia_ok h6 5 [.ref a11, .ref a12] = true then kxv (cl 205 [.ref a11, .ref a12] h6) (fun h13 => ((ia_gR h13 0 x0 3).bind fun a14 => (if ia_ok h13 3 [.ref a14] = true then kxr (cl 189 [.ref a14] h13) (fun r16 h15 => ((ia_gR h15 0 x0 6).bind fun a17 => ((ia_gI h15 5 a17 1).bind fun v18 => (if ia_ok h15 3 [.ref r16, .int v18] = true then kxr (cl 190 [.ref r16, .int v18] h15) (fun r20 h19 => (if ia_ok h19 3 [.ref r20, .int x5] = true then kxr (cl 190 [.ref r20, .int x5] h19) (fun r22 h21 => ((ia_gI h21 7 x4 5).bind fun v23 => (if ia_ok h21 3 [.ref r22, .int v23] = true then kxr (cl 190 [.ref r22, .int v23] h21) (fun r25 h24 => some (some (.int (v8 - v10)), h24)) else none))) else none)) else none)))) else none))) else none)))))))) else none)))) else none) else ((ia_gR h 0 x0 2).bind fun a26 => (if ia_ok h 2 [.ref a26, .int x6] = true then kxi (cl 179 [.ref a26, .int x6] h) (fun r28 h27 => ((ia_gR h27 0 x0 2).bind fun a29 => (if ia_ok h27 2 [.ref a29, .int x6] = true then kxi (cl 180 [.ref a29, .int x6] h27) (fun r31 h30 => (if ia_ok h30 7 [.ref x4, .int r28, .int r31] = true then kxi (cl 184 [.ref x4, .int r28, .int r31] h30) (fun r33 h32 => (if 0 ≤ r33 then dn 9 42 [some (.ref x0), some (.int x1), some (.int x2), some (.int x3), some (.ref x4), some (.int x5), some (.int (x6 + 1)), some (.int r33)] [] h32 else some (some (.int r33), h32))) else none)) else none))) else none))))) := by
  refine (dq rfl rfl).trans ?_
  refine (dq rfl rfl).trans ?_
  refine (dq_getR rfl).trans (bn_c (fun a1 => ?_))
  refine (dq_getI rfl).trans (bn_c (fun v2 => ?_))
  refine (dq_ige rfl).trans (ie_c ?_ ?_)
  · refine (dq rfl rfl).trans ?_
    refine (dq_kxv (z := 186) rfl (lq rfl) (lq rfl) (lq rfl) kd_186).trans (it_c (kxv_c (fun h3 => ?_)))
    refine (dq rfl rfl).trans ?_
    refine (dq_getR rfl).trans (bn_c (fun a4 => ?_))
    refine (dq rfl rfl).trans ?_
    refine (dq_getR rfl).trans (bn_c (fun a5 => ?_))
    refine (dq_kxv (z := 174) rfl (lq rfl) (lq rfl) (lq rfl) kd_174).trans (it_c (kxv_c (fun h6 => ?_)))
    refine (dq rfl rfl).trans ?_
    refine (dq_getR rfl).trans (bn_c (fun a7 => ?_))
    refine (dq_getI rfl).trans (bn_c (fun v8 => ?_))
    refine (dq rfl rfl).trans ?_
    refine (dq_getR rfl).trans (bn_c (fun a9 => ?_))
    refine (dq_getI rfl).trans (bn_c (fun v10 => ?_))
    refine (dq rfl rfl).trans ?_
    refine (dq rfl rfl).trans ?_
    refine (dq rfl rfl).trans ?_
    refine (dq_getR rfl).trans (bn_c (fun a11 => ?_))
    refine (dq rfl rfl).trans ?_
    refine (dq_getR rfl).trans (bn_c (fun a12 => ?_))
    refine (dq_kxv (z := 205) rfl (lq rfl) (lq rfl) (lq rfl) kd_205).trans (it_c (kxv_c (fun h13 => ?_)))
    refine (dq rfl rfl).trans ?_
    refine (dq_getR rfl).trans (bn_c (fun a14 => ?_))
    refine (dq_kxr (z := 189) rfl (lq rfl) (lq rfl) (lq rfl) kd_189).trans (it_c (kxr_c (fun r16 h15 => ?_)))
    refine (dq rfl rfl).trans ?_
    refine (dq_getR rfl).trans (bn_c (fun a17 => ?_))
    refine (dq_getI rfl).trans (bn_c (fun v18 => ?_))
    refine (dq_kxr (z := 190) rfl (lq rfl) (lq rfl) (lq rfl) kd_190).trans (it_c (kxr_c (fun r20 h19 => ?_)))
    refine (dq rfl rfl).trans ?_
    refine (dq_kxr (z := 190) rfl (lq rfl) (lq rfl) (lq rfl) kd_190).trans (it_c (kxr_c (fun r22 h21 => ?_)))
    refine (dq rfl rfl).trans ?_
    refine (dq_getI rfl).trans (bn_c (fun v23 => ?_))
    refine (dq_kxr (z := 190) rfl (lq rfl) (lq rfl) (lq rfl) kd_190).trans (it_c (kxr_c (fun r25 h24 => ?_)))
    refine (dq rfl rfl).trans ?_
    refine (dq rfl rfl).trans ?_
    exact dq_ret1 rfl
  · refine (dq rfl rfl).trans ?_
    refine (dq rfl rfl).trans ?_
    refine (dq_getR rfl).trans (bn_c (fun a26 => ?_))
    refine (dq rfl rfl).trans ?_
    refine (dq_kxi (z := 179) rfl (lq rfl) (lq rfl) (lq rfl) kd_179).trans (it_c (kxi_c (fun r28 h27 => ?_)))
    refine (dq rfl rfl).trans ?_
    refine (dq_getR rfl).trans (bn_c (fun a29 => ?_))
    refine (dq rfl rfl).trans ?_
    refine (dq_kxi (z := 180) rfl (lq rfl) (lq rfl) (lq rfl) kd_180).trans (it_c (kxi_c (fun r31 h30 => ?_)))
    refine (dq_kxi (z := 184) rfl (lq rfl) (lq rfl) (lq rfl) kd_184).trans (it_c (kxi_c (fun r33 h32 => ?_)))
    refine (dq rfl rfl).trans ?_
    refine (dq rfl rfl).trans ?_
    refine (dq_ifge rfl).trans (ie_c ?_ ?_)
    · refine (dq_iinc (v := 1) rfl rfl (by decide)).trans ?_
      refine (dq rfl rfl).trans ?_
      rfl
    · refine (dq rfl rfl).trans ?_
      exact dq_ret1 rfl
theorem q_10 (ab : Nat) (ac : Int32) (ad : Int32) (h : ia_H) : cl 10 [.ref ab, .int ac, .int ad] h = (if ia_ok h 0 [.ref ab, .int ac] = true then kxi (cl 52 [.ref ab, .int ac] h) (fun r2 h1 => (if r2 = 0 then some (some (.int (-1)), h1) else kxi (cl 50 [.int ad] h1) (fun r4 h3 => (if r4 = 0 then some (some (.int (-1)), h3) else ((ia_gR h3 0 ab 6).bind fun a5 => ((ia_gR h3 5 a5 4).bind fun a6 => ((ia_ld h3 0 a6 ac).bind fun v7 => (if v7 = ad then some (some (.int (-2)), h3) else ((ia_gR h3 0 ab 9).bind fun a8 => ((ia_gR h3 0 ab 6).bind fun a9 => (if ia_ok h3 6 [.ref a8, .ref a9] = true then kxv (cl 174 [.ref a8, .ref a9] h3) (fun h10 => ((ia_gR h10 0 ab 6).bind fun a11 => ((ia_gR h10 5 a11 4).bind fun a12 => ((ia_st h10 0 a12 ac ad).bind fun h13 => some (some (.int v7), h13))))) else none))))))))))) else none) := by
  refine (dq rfl rfl).trans ?_
  refine (dq rfl rfl).trans ?_
  refine (dq_kxi (z := 52) rfl (lq rfl) (lq rfl) (lq rfl) kd_52).trans (it_c (kxi_c (fun r2 h1 => ?_)))
  refine (dq_ifeq rfl).trans (ie_c ?_ ?_)
  · refine (dq rfl rfl).trans ?_
    exact dq_ret1 rfl
  · refine (dq rfl rfl).trans ?_
    refine (dq_kxi0 (z := 50) rfl (lq rfl) (lq rfl) (lq rfl) kd_50).trans (kxi_c (fun r4 h3 => ?_))
    refine (dq_ifne rfl).trans (ie_c ?_ ?_)
    · refine (dq rfl rfl).trans ?_
      exact dq_ret1 rfl
    · refine (dq rfl rfl).trans ?_
      refine (dq_getR rfl).trans (bn_c (fun a5 => ?_))
      refine (dq_getR rfl).trans (bn_c (fun a6 => ?_))
      refine (dq rfl rfl).trans ?_
      refine (dq_iald rfl).trans (bn_c (fun v7 => ?_))
      refine (dq rfl rfl).trans ?_
      refine (dq rfl rfl).trans ?_
      refine (dq rfl rfl).trans ?_
      refine (dq_ine rfl).trans (ie_c ?_ ?_)
      · refine (dq rfl rfl).trans ?_
        exact dq_ret1 rfl
      · refine (dq rfl rfl).trans ?_
        refine (dq_getR rfl).trans (bn_c (fun a8 => ?_))
        refine (dq rfl rfl).trans ?_
        refine (dq_getR rfl).trans (bn_c (fun a9 => ?_))
        refine (dq_kxv (z := 174) rfl (lq rfl) (lq rfl) (lq rfl) kd_174).trans (it_c (kxv_c (fun h10 => ?_)))
        refine (dq rfl rfl).trans ?_
        refine (dq_getR rfl).trans (bn_c (fun a11 => ?_))
        refine (dq_getR rfl).trans (bn_c (fun a12 => ?_))
        refine (dq rfl rfl).trans ?_
        refine (dq rfl rfl).trans ?_
        refine (dq_iast rfl).trans (bn_c (fun h13 => ?_))
        refine (dq rfl rfl).trans ?_
        exact dq_ret1 rfl
theorem q_11 (ab : Nat) (ac : Int32) (ad : Int32) (h : ia_H) : cl 11 [.ref ab, .int ac, .int ad] h = (if ia_ok h 0 [.ref ab, .int ac] = true then kxi (cl 52 [.ref ab, .int ac] h) (fun r2 h1 => (if r2 = 0 then some (some (.int (-1)), h1) else (if ia_ok h1 0 [.ref ab, .int ad] = true then kxi (cl 52 [.ref ab, .int ad] h1) (fun r4 h3 => (if r4 = 0 then some (some (.int (-1)), h3) else ((ia_gR h3 0 ab 6).bind fun a5 => ((ia_gR h3 5 a5 4).bind fun a6 => ((ia_ld h3 0 a6 ac).bind fun v7 => ((ia_gR h3 0 ab 6).bind fun a8 => ((ia_gR h3 5 a8 4).bind fun a9 => ((ia_ld h3 0 a9 ad).bind fun v10 => (if v7 = v10 then some (some (.int (-2)), h3) else ((ia_gR h3 0 ab 9).bind fun a11 => ((ia_gR h3 0 ab 6).bind fun a12 => (if ia_ok h3 6 [.ref a11, .ref a12] = true then kxv (cl 174 [.ref a11, .ref a12] h3) (fun h13 => ((ia_gR h13 0 ab 6).bind fun a14 => ((ia_gR h13 5 a14 4).bind fun a15 => ((ia_st h13 0 a15 ac v10).bind fun h16 => ((ia_gR h16 0 ab 6).bind fun a17 => ((ia_gR h16 5 a17 4).bind fun a18 => ((ia_st h16 0 a18 ad v7).bind fun h19 => some (some (.int v10), h19)))))))) else none)))))))))))) else none))) else none) := by
  refine (dq rfl rfl).trans ?_
  refine (dq rfl rfl).trans ?_
  refine (dq_kxi (z := 52) rfl (lq rfl) (lq rfl) (lq rfl) kd_52).trans (it_c (kxi_c (fun r2 h1 => ?_)))
  refine (dq_ifeq rfl).trans (ie_c ?_ ?_)
  · refine (dq rfl rfl).trans ?_
    exact dq_ret1 rfl
  · refine (dq rfl rfl).trans ?_
    refine (dq rfl rfl).trans ?_
    refine (dq_kxi (z := 52) rfl (lq rfl) (lq rfl) (lq rfl) kd_52).trans (it_c (kxi_c (fun r4 h3 => ?_)))
    refine (dq_ifne rfl).trans (ie_c ?_ ?_)
    · refine (dq rfl rfl).trans ?_
      exact dq_ret1 rfl
    · refine (dq rfl rfl).trans ?_
      refine (dq_getR rfl).trans (bn_c (fun a5 => ?_))
      refine (dq_getR rfl).trans (bn_c (fun a6 => ?_))
      refine (dq rfl rfl).trans ?_
      refine (dq_iald rfl).trans (bn_c (fun v7 => ?_))
      refine (dq rfl rfl).trans ?_
      refine (dq rfl rfl).trans ?_
      refine (dq_getR rfl).trans (bn_c (fun a8 => ?_))
      refine (dq_getR rfl).trans (bn_c (fun a9 => ?_))
      refine (dq rfl rfl).trans ?_
      refine (dq_iald rfl).trans (bn_c (fun v10 => ?_))
      refine (dq rfl rfl).trans ?_
      refine (dq rfl rfl).trans ?_
      refine (dq rfl rfl).trans ?_
      refine (dq_ine rfl).trans (ie_c ?_ ?_)
      · refine (dq rfl rfl).trans ?_
        exact dq_ret1 rfl
      · refine (dq rfl rfl).trans ?_
        refine (dq_getR rfl).trans (bn_c (fun a11 => ?_))
        refine (dq rfl rfl).trans ?_
        refine (dq_getR rfl).trans (bn_c (fun a12 => ?_))
        refine (dq_kxv (z := 174) rfl (lq rfl) (lq rfl) (lq rfl) kd_174).trans (it_c (kxv_c (fun h13 => ?_)))
        refine (dq rfl rfl).trans ?_
        refine (dq_getR rfl).trans (bn_c (fun a14 => ?_))
        refine (dq_getR rfl).trans (bn_c (fun a15 => ?_))
        refine (dq rfl rfl).trans ?_
        refine (dq rfl rfl).trans ?_
        refine (dq_iast rfl).trans (bn_c (fun h16 => ?_))
        refine (dq rfl rfl).trans ?_
        refine (dq_getR rfl).trans (bn_c (fun a17 => ?_))
        refine (dq_getR rfl).trans (bn_c (fun a18 => ?_))
        refine (dq rfl rfl).trans ?_
        refine (dq rfl rfl).trans ?_
        refine (dq_iast rfl).trans (bn_c (fun h19 => ?_))
        refine (dq rfl rfl).trans ?_
        exact dq_ret1 rfl
theorem q_12 (ab : Nat) (ac : Int32) (ad : Int32) (ae : Int32) (h : ia_H) : cl 12 [.ref ab, .int ac, .int ad, .int ae] h = (if ia_ok h 0 [.ref ab, .int ac] = true then kxi (cl 52 [.ref ab, .int ac] h) (fun r2 h1 => (if r2 = 0 then some (some (.int (-1)), h1) else kxi (cl 49 [.int ad] h1) (fun r4 h3 => (if r4 = 0 then some (some (.int (-1)), h3) else (if ae < 1 then some (some (.int (-1)), h3) else (if ae ≤ 9 then ((ia_gR h3 0 ab 6).bind fun a5 => ((ia_gI h3 5 a5 2).bind fun v6 => (if v6 < 100 then ((ia_gR h3 0 ab 9).bind fun a7 => ((ia_gR h3 0 ab 6).bind fun a8 => (if ia_ok h3 6 [.ref a7, .ref a8] = true then kxv (cl 174 [.ref a7, .ref a8] h3) (fun h9 => ((ia_gR h9 0 ab 6).bind fun a10 => ((ia_gR h9 0 ab 4).bind fun a11 => (if ia_ok h9 4 [.ref a11, .int ad, .int 0] = true then kxi (cl 195 [.ref a11, .int ad, .int 0] h9) (fun r13 h12 => (if ia_ok h12 5 [.ref a10, .int ac, .int ad, .int ae, .int r13] = true then kxi (cl 230 [.ref a10, .int ac, .int ad, .int ae, .int r13] h12) (fun r15 h14 => some (some (.int r15), h14)) else none)) else none)))) else none))) else some (some (.int (-4)), h3)))) else some (some (.int (-1)), h3))))))) else none) := by
  refine (dq rfl rfl).trans ?_
  refine (dq rfl rfl).trans ?_
  refine (dq_kxi (z := 52) rfl (lq rfl) (lq rfl) (lq rfl) kd_52).trans (it_c (kxi_c (fun r2 h1 => ?_)))
  refine (dq_ifeq rfl).trans (ie_c ?_ ?_)
  · refine (dq rfl rfl).trans ?_
    exact dq_ret1 rfl
  · refine (dq rfl rfl).trans ?_
    refine (dq_kxi0 (z := 49) rfl (lq rfl) (lq rfl) (lq rfl) kd_49).trans (kxi_c (fun r4 h3 => ?_))
    refine (dq_ifeq rfl).trans (ie_c ?_ ?_)
    · refine (dq rfl rfl).trans ?_
      exact dq_ret1 rfl
    · refine (dq rfl rfl).trans ?_
      refine (dq rfl rfl).trans ?_
      refine (dq_ilt rfl).trans (ie_c ?_ ?_)
      · refine (dq rfl rfl).trans ?_
        exact dq_ret1 rfl
      · refine (dq rfl rfl).trans ?_
        refine (dq rfl rfl).trans ?_
        refine (dq_ile rfl).trans (ie_c ?_ ?_)
        · refine (dq rfl rfl).trans ?_
          refine (dq_getR rfl).trans (bn_c (fun a5 => ?_))
          refine (dq_getI rfl).trans (bn_c (fun v6 => ?_))
          refine (dq rfl rfl).trans ?_
          refine (dq_ilt rfl).trans (ie_c ?_ ?_)
          · refine (dq rfl rfl).trans ?_
            refine (dq_getR rfl).trans (bn_c (fun a7 => ?_))
            refine (dq rfl rfl).trans ?_
            refine (dq_getR rfl).trans (bn_c (fun a8 => ?_))
            refine (dq_kxv (z := 174) rfl (lq rfl) (lq rfl) (lq rfl) kd_174).trans (it_c (kxv_c (fun h9 => ?_)))
            refine (dq rfl rfl).trans ?_
            refine (dq_getR rfl).trans (bn_c (fun a10 => ?_))
            refine (dq rfl rfl).trans ?_
            refine (dq rfl rfl).trans ?_
            refine (dq rfl rfl).trans ?_
            refine (dq rfl rfl).trans ?_
            refine (dq_getR rfl).trans (bn_c (fun a11 => ?_))
            refine (dq rfl rfl).trans ?_
            refine (dq rfl rfl).trans ?_
            refine (dq_kxi (z := 195) rfl (lq rfl) (lq rfl) (lq rfl) kd_195).trans (it_c (kxi_c (fun r13 h12 => ?_)))
            refine (dq_kxi (z := 230) rfl (lq rfl) (lq rfl) (lq rfl) kd_230).trans (it_c (kxi_c (fun r15 h14 => ?_)))
            exact dq_ret1 rfl
          · refine (dq rfl rfl).trans ?_
            exact dq_ret1 rfl
        · refine (dq rfl rfl).trans ?_
          exact dq_ret1 rfl
theorem q_13 (ab : Nat) (h : ia_H) : cl 13 [.ref ab] h = (if ia_ok h 0 [.ref ab] = true then kxv (cl 64 [.ref ab] h) (fun h1 => ((ia_gR h1 0 ab 0).bind fun a2 => (if ia_ok h1 1 [.ref a2] = true then kxv (cl 243 [.ref a2] h1) (fun h3 => ((ia_gR h3 0 ab 0).bind fun a4 => (if ia_ok h3 1 [.ref a4] = true then kxi (cl 246 [.ref a4] h3) (fun r6 h5 => (if r6 = 0 then (if ia_ok h5 0 [.ref ab] = true then kxi (cl 58 [.ref ab] h5) (fun r15 h14 => some (some (.int r15), h14)) else none) else ((ia_gR h5 0 ab 6).bind fun a7 => ((ia_gI h5 5 a7 2).bind fun v8 => ((ia_gR h5 0 ab 2).bind fun a9 => ((ia_gI h5 2 a9 1).bind fun v10 => (if (v8 + v10) ≤ 100 then ((ia_gR h5 0 ab 9).bind fun a11 => ((ia_gR h5 0 ab 6).bind fun a12 => (if ia_ok h5 6 [.ref a11, .ref a12] = true then kxv (cl 174 [.ref a11, .ref a12] h5) (fun h13 => dn 13 30 [some (.ref ab), some (.int 0), none] [] h13) else none))) else some (some (.int (-4)), h5)))))))) else none))) else none))) else none) := by
  refine (dq rfl rfl).trans ?_
  refine (dq_kxv (z := 64) rfl (lq rfl) (lq rfl) (lq rfl) kd_64).trans (it_c (kxv_c (fun h1 => ?_)))
  refine (dq rfl rfl).trans ?_
  refine (dq_getR rfl).trans (bn_c (fun a2 => ?_))
  refine (dq_kxv (z := 243) rfl (lq rfl) (lq rfl) (lq rfl) kd_243).trans (it_c (kxv_c (fun h3 => ?_)))
  refine (dq rfl rfl).trans ?_
  refine (dq_getR rfl).trans (bn_c (fun a4 => ?_))
  refine (dq_kxi (z := 246) rfl (lq rfl) (lq rfl) (lq rfl) kd_246).trans (it_c (kxi_c (fun r6 h5 => ?_)))
  refine (dq_ifne rfl).trans (ie_c ?_ ?_)
  · refine (dq rfl rfl).trans ?_
    refine (dq_kxi (z := 58) rfl (lq rfl) (lq rfl) (lq rfl) kd_58).trans (it_c (kxi_c (fun r15 h14 => ?_)))
    exact dq_ret1 rfl
  · refine (dq rfl rfl).trans ?_
    refine (dq_getR rfl).trans (bn_c (fun a7 => ?_))
    refine (dq_getI rfl).trans (bn_c (fun v8 => ?_))
    refine (dq rfl rfl).trans ?_
    refine (dq_getR rfl).trans (bn_c (fun a9 => ?_))
    refine (dq_getI rfl).trans (bn_c (fun v10 => ?_))
    refine (dq rfl rfl).trans ?_
    refine (dq rfl rfl).trans ?_
    refine (dq_ile rfl).trans (ie_c ?_ ?_)
    · refine (dq rfl rfl).trans ?_
      refine (dq_getR rfl).trans (bn_c (fun a11 => ?_))
      refine (dq rfl rfl).trans ?_
      refine (dq_getR rfl).trans (bn_c (fun a12 => ?_))
      refine (dq_kxv (z := 174) rfl (lq rfl) (lq rfl) (lq rfl) kd_174).trans (it_c (kxv_c (fun h13 => ?_)))
      refine (dq rfl rfl).trans ?_
      refine (dq rfl rfl).trans ?_
      rfl
    · refine (dq rfl rfl).trans ?_
      exact dq_ret1 rfl
theorem q_13_30 (x0 : Nat) (x1 : Int32) (l2 : Option Value) (h : ia_H) : dn 13 30 [some (.ref x0), some (.int x1), l2] [] h = ((ia_gR h 0 x0 2).bind fun a1 => ((ia_gI h 2 a1 1).bind fun v2 => (if v2 ≤ x1 then ((ia_gR h 0 x0 2).bind fun a3 => ((ia_gI h 2 a3 1).bind fun v4 => some (some (.int v4), h))) else ((ia_gR h 0 x0 2).bind fun a5 => (if ia_ok h 2 [.ref a5, .int x1] = true then kxi (cl 180 [.ref a5, .int x1] h) (fun r7 h6 => ((ia_gR h6 0 x0 6).bind fun a8 => ((ia_gR h6 0 x0 2).bind fun a9 => (if ia_ok h6 2 [.ref a9, .int x1] = true then kxi (cl 179 [.ref a9, .int x1] h6) (fun r11 h10 => ((ia_gR h10 0 x0 2).bind fun a12 => (if ia_ok h10 2 [.ref a12, .int x1] = true then kxi (cl 181 [.ref a12, .int x1] h10) (fun r14 h13 => ((ia_gR h13 0 x0 4).bind fun a15 => (if ia_ok h13 4 [.ref a15, .int r7, .int 0] = true then kxi (cl 195 [.ref a15, .int r7, .int 0] h13) (fun r17 h16 => (if ia_ok h16 5 [.ref a8, .int r11, .int r7, .int r14, .int r17] = true then kxi (cl 230 [.ref a8, .int r11, .int r7, .int r14, .int r17] h16) (fun r19 h18 => dn 13 30 [some (.ref x0), some (.int (x1 + 1)), some (.int r7)] [] h18) else none)) else none))) else none))) else none)))) else none))))) := by
  refine (dq rfl rfl).trans ?_
  refine (dq rfl rfl).trans ?_
  refine (dq_getR rfl).trans (bn_c (fun a1 => ?_))
  refine (dq_getI rfl).trans (bn_c (fun v2 => ?_))
  refine (dq_ige rfl).trans (ie_c ?_ ?_)
  · refine (dq rfl rfl).trans ?_
    refine (dq_getR rfl).trans (bn_c (fun a3 => ?_))
    refine (dq_getI rfl).trans (bn_c (fun v4 => ?_))
    exact dq_ret1 rfl
  · refine (dq rfl rfl).trans ?_
    refine (dq_getR rfl).trans (bn_c (fun a5 => ?_))
    refine (dq rfl rfl).trans ?_
    refine (dq_kxi (z := 180) rfl (lq rfl) (lq rfl) (lq rfl) kd_180).trans (it_c (kxi_c (fun r7 h6 => ?_)))
    refine (dq rfl rfl).trans ?_
    refine (dq rfl rfl).trans ?_
    refine (dq_getR rfl).trans (bn_c (fun a8 => ?_))
    refine (dq rfl rfl).trans ?_
    refine (dq_getR rfl).trans (bn_c (fun a9 => ?_))
    refine (dq rfl rfl).trans ?_
    refine (dq_kxi (z := 179) rfl (lq rfl) (lq rfl) (lq rfl) kd_179).trans (it_c (kxi_c (fun r11 h10 => ?_)))
    refine (dq rfl rfl).trans ?_
    refine (dq rfl rfl).trans ?_
    refine (dq_getR rfl).trans (bn_c (fun a12 => ?_))
    refine (dq rfl rfl).trans ?_
    refine (dq_kxi (z := 181) rfl (lq rfl) (lq rfl) (lq rfl) kd_181).trans (it_c (kxi_c (fun r14 h13 => ?_)))
    refine (dq rfl rfl).trans ?_
    refine (dq_getR rfl).trans (bn_c (fun a15 => ?_))
    refine (dq rfl rfl).trans ?_
    refine (dq rfl rfl).trans ?_
    refine (dq_kxi (z := 195) rfl (lq rfl) (lq rfl) (lq rfl) kd_195).trans (it_c (kxi_c (fun r17 h16 => ?_)))
    refine (dq_kxi (z := 230) rfl (lq rfl) (lq rfl) (lq rfl) kd_230).trans (it_c (kxi_c (fun r19 h18 => ?_)))
    refine (dq rfl rfl).trans ?_
    refine (dq_iinc (v := 1) rfl rfl (by decide)).trans ?_
    refine (dq rfl rfl).trans ?_
    rfl
theorem q_14 (ab : Nat) (ac : Int32) (h : ia_H) : cl 14 [.ref ab, .int ac] h = (if ia_ok h 0 [.ref ab, .int ac] = true then kxi (cl 53 [.ref ab, .int ac] h) (fun r2 h1 => (if r2 = 0 then some (some (.int (-1)), h1) else ((ia_gR h1 0 ab 6).bind fun a3 => (if ia_ok h1 5 [.ref a3, .int ac] = true then kxi (cl 218 [.ref a3, .int ac] h1) (fun r5 h4 => (if r5 = 0 then some (some (.int (-2)), h4) else ((ia_gR h4 0 ab 6).bind fun a6 => (if ia_ok h4 5 [.ref a6, .int ac, .int 4] = true then kxi (cl 216 [.ref a6, .int ac, .int 4] h4) (fun r8 h7 => (if r8 = 0 then ((ia_gR h7 0 ab 9).bind fun a9 => ((ia_gR h7 0 ab 6).bind fun a10 => (if ia_ok h7 6 [.ref a9, .ref a10] = true then kxv (cl 174 [.ref a9, .ref a10] h7) (fun h11 => ((ia_gR h11 0 ab 6).bind fun a12 => (if ia_ok h11 5 [.ref a12, .int ac, .int 4, .int 1] = true then kxv (cl 217 [.ref a12, .int ac, .int 4, .int 1] h11) (fun h13 => ((ia_gR h13 0 ab 6).bind fun a14 => (if ia_ok h13 5 [.ref a14, .int 4, .int ac] = true then kxv (cl 234 [.ref a14, .int 4, .int ac] h13) (fun h15 => ((ia_gR h15 0 ab 6).bind fun a16 => (if ia_ok h15 5 [.ref a16, .int ac, .int 2] = true then kxi (cl 216 [.ref a16, .int ac, .int 2] h15) (fun r18 h17 => some (some (.int r18), h17)) else none))) else none))) else none))) else none))) else some (some (.int (-3)), h7))) else none)))) else none)))) else none) := by
  refine (dq rfl rfl).trans ?_
  refine (dq rfl rfl).trans ?_
  refine (dq_kxi (z := 53) rfl (lq rfl) (lq rfl) (lq rfl) kd_53).trans (it_c (kxi_c (fun r2 h1 => ?_)))
  refine (dq_ifne rfl).trans (ie_c ?_ ?_)
  · refine (dq rfl rfl).trans ?_
    exact dq_ret1 rfl
  · refine (dq rfl rfl).trans ?_
    refine (dq_getR rfl).trans (bn_c (fun a3 => ?_))
    refine (dq rfl rfl).trans ?_
    refine (dq_kxi (z := 218) rfl (lq rfl) (lq rfl) (lq rfl) kd_218).trans (it_c (kxi_c (fun r5 h4 => ?_)))
    refine (dq_ifne rfl).trans (ie_c ?_ ?_)
    · refine (dq rfl rfl).trans ?_
      exact dq_ret1 rfl
    · refine (dq rfl rfl).trans ?_
      refine (dq_getR rfl).trans (bn_c (fun a6 => ?_))
      refine (dq rfl rfl).trans ?_
      refine (dq rfl rfl).trans ?_
      refine (dq_kxi (z := 216) rfl (lq rfl) (lq rfl) (lq rfl) kd_216).trans (it_c (kxi_c (fun r8 h7 => ?_)))
      refine (dq_ifeq rfl).trans (ie_c ?_ ?_)
      · refine (dq rfl rfl).trans ?_
        refine (dq_getR rfl).trans (bn_c (fun a9 => ?_))
        refine (dq rfl rfl).trans ?_
        refine (dq_getR rfl).trans (bn_c (fun a10 => ?_))
        refine (dq_kxv (z := 174) rfl (lq rfl) (lq rfl) (lq rfl) kd_174).trans (it_c (kxv_c (fun h11 => ?_)))
        refine (dq rfl rfl).trans ?_
        refine (dq_getR rfl).trans (bn_c (fun a12 => ?_))
        refine (dq rfl rfl).trans ?_
        refine (dq rfl rfl).trans ?_
        refine (dq rfl rfl).trans ?_
        refine (dq_kxv (z := 217) rfl (lq rfl) (lq rfl) (lq rfl) kd_217).trans (it_c (kxv_c (fun h13 => ?_)))
        refine (dq rfl rfl).trans ?_
        refine (dq_getR rfl).trans (bn_c (fun a14 => ?_))
        refine (dq rfl rfl).trans ?_
        refine (dq rfl rfl).trans ?_
        refine (dq_kxv (z := 234) rfl (lq rfl) (lq rfl) (lq rfl) kd_234).trans (it_c (kxv_c (fun h15 => ?_)))
        refine (dq rfl rfl).trans ?_
        refine (dq_getR rfl).trans (bn_c (fun a16 => ?_))
        refine (dq rfl rfl).trans ?_
        refine (dq rfl rfl).trans ?_
        refine (dq_kxi (z := 216) rfl (lq rfl) (lq rfl) (lq rfl) kd_216).trans (it_c (kxi_c (fun r18 h17 => ?_)))
        exact dq_ret1 rfl
      · refine (dq rfl rfl).trans ?_
        exact dq_ret1 rfl
theorem q_15 (ab : Nat) (ac : Int32) (ad : Int32) (ae : Int32) (h : ia_H) : cl 15 [.ref ab, .int ac, .int ad, .int ae] h = (if ad = 0 then dn 15 5 [some (.ref ab), some (.int ac), some (.int ad), some (.int ae), none] [.int 3] h else dn 15 5 [some (.ref ab), some (.int ac), some (.int ad), some (.int ae), none] [.int 0] h) := by
  refine (dq rfl rfl).trans ?_
  refine (dq_ifeq rfl).trans (ie_c ?_ ?_)
  · refine (dq rfl rfl).trans ?_
    rfl
  · refine (dq rfl rfl).trans ?_
    refine (dq rfl rfl).trans ?_
    rfl
theorem q_15_5 (x0 : Nat) (x1 : Int32) (x2 : Int32) (x3 : Int32) (l4 : Option Value) (s0 : Int32) (h : ia_H) : dn 15 5 [some (.ref x0), some (.int x1), some (.int x2), some (.int x3), l4] [.int s0] h = (if ia_ok h 0 [.ref x0, .int x1] = true then kxi (cl 53 [.ref x0, .int x1] h) (fun r2 h1 => (if r2 = 0 then some (some (.int (-1)), h1) else (if x3 < 0 then some (some (.int (-1)), h1) else (if x3 ≤ s0 then ((ia_gR h1 0 x0 6).bind fun a3 => (if ia_ok h1 5 [.ref a3, .int x1] = true then kxi (cl 219 [.ref a3, .int x1] h1) (fun r5 h4 => (if r5 = 0 then some (some (.int (-2)), h4) else ((ia_gR h4 0 x0 9).bind fun a6 => ((ia_gR h4 0 x0 6).bind fun a7 => (if ia_ok h4 6 [.ref a6, .ref a7] = true then kxv (cl 174 [.ref a6, .ref a7] h4) (fun h8 => ((ia_gR h8 0 x0 6).bind fun a9 => (if ia_ok h8 5 [.ref a9, .int x1, .int x2, .int x3] = true then kxv (cl 232 [.ref a9, .int x1, .int x2, .int x3] h8) (fun h10 => ((ia_gR h10 0 x0 6).bind fun a11 => (if ia_ok h10 5 [.ref a11, .int x1, .int 2] = true then kxi (cl 216 [.ref a11, .int x1, .int 2] h10) (fun r13 h12 => some (some (.int r13), h12)) else none))) else none))) else none))))) else none)) else some (some (.int (-1)), h1))))) else none) := by
  refine (dq rfl rfl).trans ?_
  refine (dq rfl rfl).trans ?_
  refine (dq rfl rfl).trans ?_
  refine (dq_kxi (z := 53) rfl (lq rfl) (lq rfl) (lq rfl) kd_53).trans (it_c (kxi_c (fun r2 h1 => ?_)))
  refine (dq_ifeq rfl).trans (ie_c ?_ ?_)
  · refine (dq rfl rfl).trans ?_
    exact dq_ret1 rfl
  · refine (dq rfl rfl).trans ?_
    refine (dq_iflt rfl).trans (ie_c ?_ ?_)
    · refine (dq rfl rfl).trans ?_
      exact dq_ret1 rfl
    · refine (dq rfl rfl).trans ?_
      refine (dq rfl rfl).trans ?_
      refine (dq_ile rfl).trans (ie_c ?_ ?_)
      · refine (dq rfl rfl).trans ?_
        refine (dq_getR rfl).trans (bn_c (fun a3 => ?_))
        refine (dq rfl rfl).trans ?_
        refine (dq_kxi (z := 219) rfl (lq rfl) (lq rfl) (lq rfl) kd_219).trans (it_c (kxi_c (fun r5 h4 => ?_)))
        refine (dq_ifne rfl).trans (ie_c ?_ ?_)
        · refine (dq rfl rfl).trans ?_
          exact dq_ret1 rfl
        · refine (dq rfl rfl).trans ?_
          refine (dq_getR rfl).trans (bn_c (fun a6 => ?_))
          refine (dq rfl rfl).trans ?_
          refine (dq_getR rfl).trans (bn_c (fun a7 => ?_))
          refine (dq_kxv (z := 174) rfl (lq rfl) (lq rfl) (lq rfl) kd_174).trans (it_c (kxv_c (fun h8 => ?_)))
          refine (dq rfl rfl).trans ?_
          refine (dq_getR rfl).trans (bn_c (fun a9 => ?_))
          refine (dq rfl rfl).trans ?_
          refine (dq rfl rfl).trans ?_
          refine (dq rfl rfl).trans ?_
          refine (dq_kxv (z := 232) rfl (lq rfl) (lq rfl) (lq rfl) kd_232).trans (it_c (kxv_c (fun h10 => ?_)))
          refine (dq rfl rfl).trans ?_
          refine (dq_getR rfl).trans (bn_c (fun a11 => ?_))
          refine (dq rfl rfl).trans ?_
          refine (dq rfl rfl).trans ?_
          refine (dq_kxi (z := 216) rfl (lq rfl) (lq rfl) (lq rfl) kd_216).trans (it_c (kxi_c (fun r13 h12 => ?_)))
          exact dq_ret1 rfl
      · refine (dq rfl rfl).trans ?_
        exact dq_ret1 rfl
theorem q_16 (ab : Nat) (ac : Int32) (h : ia_H) : cl 16 [.ref ab, .int ac] h = ((ia_gR h 0 ab 6).bind fun a1 => (if ia_ok h 5 [.ref a1] = true then kxi (cl 229 [.ref a1] h) (fun r3 h2 => (if r3 = 0 then some (some (.int (-2)), h2) else ((ia_gR h2 0 ab 9).bind fun a4 => ((ia_gR h2 0 ab 6).bind fun a5 => (if ia_ok h2 6 [.ref a4, .ref a5] = true then kxv (cl 174 [.ref a4, .ref a5] h2) (fun h6 => dn 16 15 [some (.ref ab), some (.int ac), some (.int r3), some (.int 0)] [] h6) else none))))) else none)) := by
  refine (dq rfl rfl).trans ?_
  refine (dq_getR rfl).trans (bn_c (fun a1 => ?_))
  refine (dq_kxi (z := 229) rfl (lq rfl) (lq rfl) (lq rfl) kd_229).trans (it_c (kxi_c (fun r3 h2 => ?_)))
  refine (dq rfl rfl).trans ?_
  refine (dq rfl rfl).trans ?_
  refine (dq_ifne rfl).trans (ie_c ?_ ?_)
  · refine (dq rfl rfl).trans ?_
    exact dq_ret1 rfl
  · refine (dq rfl rfl).trans ?_
    refine (dq_getR rfl).trans (bn_c (fun a4 => ?_))
    refine (dq rfl rfl).trans ?_
    refine (dq_getR rfl).trans (bn_c (fun a5 => ?_))
    refine (dq_kxv (z := 174) rfl (lq rfl) (lq rfl) (lq rfl) kd_174).trans (it_c (kxv_c (fun h6 => ?_)))
    refine (dq rfl rfl).trans ?_
    refine (dq rfl rfl).trans ?_
    rfl
theorem q_16_15 (x0 : Nat) (x1 : Int32) (x2 : Int32) (x3 : Int32) (h : ia_H) : dn 16 15 [some (.ref x0), some (.int x1), some (.int x2), some (.int x3)] [] h = ((ia_gR h 0 x0 6).bind fun a1 => ((ia_gI h 5 a1 2).bind fun v2 => (if v2 ≤ x3 then some (some (.int x2), h) else ((ia_gR h 0 x0 6).bind fun a3 => (if ia_ok h 5 [.ref a3, .int x3] = true then kxi (cl 219 [.ref a3, .int x3] h) (fun r5 h4 => (if r5 = 0 then dn 16 15 [some (.ref x0), some (.int x1), some (.int x2), some (.int (x3 + 1))] [] h4 else ((ia_gR h4 0 x0 6).bind fun a6 => (if ia_ok h4 5 [.ref a6, .int x3, .int x1, .int 0] = true then kxv (cl 232 [.ref a6, .int x3, .int x1, .int 0] h4) (fun h7 => dn 16 15 [some (.ref x0), some (.int x1), some (.int x2), some (.int (x3 + 1))] [] h7) else none)))) else none))))) := by
  refine (dq rfl rfl).trans ?_
  refine (dq rfl rfl).trans ?_
  refine (dq_getR rfl).trans (bn_c (fun a1 => ?_))
  refine (dq_getI rfl).trans (bn_c (fun v2 => ?_))
  refine (dq_ige rfl).trans (ie_c ?_ ?_)
  · refine (dq rfl rfl).trans ?_
    exact dq_ret1 rfl
  · refine (dq rfl rfl).trans ?_
    refine (dq_getR rfl).trans (bn_c (fun a3 => ?_))
    refine (dq rfl rfl).trans ?_
    refine (dq_kxi (z := 219) rfl (lq rfl) (lq rfl) (lq rfl) kd_219).trans (it_c (kxi_c (fun r5 h4 => ?_)))
    refine (dq_ifeq rfl).trans (ie_c ?_ ?_)
    · refine (dq_iinc (v := 1) rfl rfl (by decide)).trans ?_
      refine (dq rfl rfl).trans ?_
      rfl
    · refine (dq rfl rfl).trans ?_
      refine (dq_getR rfl).trans (bn_c (fun a6 => ?_))
      refine (dq rfl rfl).trans ?_
      refine (dq rfl rfl).trans ?_
      refine (dq rfl rfl).trans ?_
      refine (dq_kxv (z := 232) rfl (lq rfl) (lq rfl) (lq rfl) kd_232).trans (it_c (kxv_c (fun h7 => ?_)))
      refine (dq_iinc (v := 1) rfl rfl (by decide)).trans ?_
      refine (dq rfl rfl).trans ?_
      rfl
theorem q_17 (ab : Nat) (ac : Int32) (ad : Int32) (h : ia_H) : cl 17 [.ref ab, .int ac, .int ad] h = (if ia_ok h 0 [.ref ab, .int ac] = true then kxi (cl 53 [.ref ab, .int ac] h) (fun r2 h1 => (if r2 = 0 then some (some (.int (-1)), h1) else (if 1 ≤ ad then ((ia_gR h1 0 ab 6).bind fun a3 => (if ia_ok h1 5 [.ref a3, .int ac] = true then kxi (cl 218 [.ref a3, .int ac] h1) (fun r5 h4 => (if r5 = 0 then some (some (.int (-2)), h4) else ((ia_gR h4 0 ab 6).bind fun a6 => (if ia_ok h4 5 [.ref a6, .int ac, .int 2] = true then kxi (cl 216 [.ref a6, .int ac, .int 2] h4) (fun r8 h7 => (if ad ≤ r8 then ((ia_gR h7 0 ab 9).bind fun a9 => ((ia_gR h7 0 ab 6).bind fun a10 => (if ia_ok h7 6 [.ref a9, .ref a10] = true then kxv (cl 174 [.ref a9, .ref a10] h7) (fun h11 => ((ia_gR h11 0 ab 6).bind fun a12 => (if ia_ok h11 5 [.ref a12, .int ac, .int ad] = true then kxv (cl 233 [.ref a12, .int ac, .int ad] h11) (fun h13 => ((ia_gR h13 0 ab 6).bind fun a14 => (if ia_ok h13 5 [.ref a14, .int ac, .int 2] = true then kxi (cl 216 [.ref a14, .int ac, .int 2] h13) (fun r16 h15 => some (some (.int r16), h15)) else none))) else none))) else none))) else some (some (.int (-1)), h7))) else none)))) else none)) else some (some (.int (-1)), h1)))) else none) := by
  refine (dq rfl rfl).trans ?_
  refine (dq rfl rfl).trans ?_
  refine (dq_kxi (z := 53) rfl (lq rfl) (lq rfl) (lq rfl) kd_53).trans (it_c (kxi_c (fun r2 h1 => ?_)))
  refine (dq_ifeq rfl).trans (ie_c ?_ ?_)
  · refine (dq rfl rfl).trans ?_
    exact dq_ret1 rfl
  · refine (dq rfl rfl).trans ?_
    refine (dq rfl rfl).trans ?_
    refine (dq_ige rfl).trans (ie_c ?_ ?_)
    · refine (dq rfl rfl).trans ?_
      refine (dq_getR rfl).trans (bn_c (fun a3 => ?_))
      refine (dq rfl rfl).trans ?_
      refine (dq_kxi (z := 218) rfl (lq rfl) (lq rfl) (lq rfl) kd_218).trans (it_c (kxi_c (fun r5 h4 => ?_)))
      refine (dq_ifne rfl).trans (ie_c ?_ ?_)
      · refine (dq rfl rfl).trans ?_
        exact dq_ret1 rfl
      · refine (dq rfl rfl).trans ?_
        refine (dq rfl rfl).trans ?_
        refine (dq_getR rfl).trans (bn_c (fun a6 => ?_))
        refine (dq rfl rfl).trans ?_
        refine (dq rfl rfl).trans ?_
        refine (dq_kxi (z := 216) rfl (lq rfl) (lq rfl) (lq rfl) kd_216).trans (it_c (kxi_c (fun r8 h7 => ?_)))
        refine (dq_ile rfl).trans (ie_c ?_ ?_)
        · refine (dq rfl rfl).trans ?_
          refine (dq_getR rfl).trans (bn_c (fun a9 => ?_))
          refine (dq rfl rfl).trans ?_
          refine (dq_getR rfl).trans (bn_c (fun a10 => ?_))
          refine (dq_kxv (z := 174) rfl (lq rfl) (lq rfl) (lq rfl) kd_174).trans (it_c (kxv_c (fun h11 => ?_)))
          refine (dq rfl rfl).trans ?_
          refine (dq_getR rfl).trans (bn_c (fun a12 => ?_))
          refine (dq rfl rfl).trans ?_
          refine (dq rfl rfl).trans ?_
          refine (dq_kxv (z := 233) rfl (lq rfl) (lq rfl) (lq rfl) kd_233).trans (it_c (kxv_c (fun h13 => ?_)))
          refine (dq rfl rfl).trans ?_
          refine (dq_getR rfl).trans (bn_c (fun a14 => ?_))
          refine (dq rfl rfl).trans ?_
          refine (dq rfl rfl).trans ?_
          refine (dq_kxi (z := 216) rfl (lq rfl) (lq rfl) (lq rfl) kd_216).trans (it_c (kxi_c (fun r16 h15 => ?_)))
          exact dq_ret1 rfl
        · refine (dq rfl rfl).trans ?_
          exact dq_ret1 rfl
    · refine (dq rfl rfl).trans ?_
      exact dq_ret1 rfl
theorem q_18 (ab : Nat) (h : ia_H) : cl 18 [.ref ab] h = ((ia_gR h 0 ab 6).bind fun a1 => (if ia_ok h 5 [.ref a1] = true then kxi (cl 210 [.ref a1] h) (fun r3 h2 => ((ia_gR h2 0 ab 9).bind fun a4 => ((ia_gR h2 0 ab 6).bind fun a5 => (if ia_ok h2 6 [.ref a4, .ref a5] = true then kxv (cl 174 [.ref a4, .ref a5] h2) (fun h6 => ((ia_gR h6 0 ab 6).bind fun a7 => ((ia_gR h6 5 a7 5).bind fun a8 => kxv (cl 256 [.ref a8, .int 0] h6) (fun h9 => ((ia_gR h9 0 ab 6).bind fun a10 => ((ia_gR h9 5 a10 6).bind fun a11 => kxv (cl 256 [.ref a11, .int 0] h9) (fun h12 => some (some (.int r3), h12)))))))) else none)))) else none)) := by
  refine (dq rfl rfl).trans ?_
  refine (dq_getR rfl).trans (bn_c (fun a1 => ?_))
  refine (dq_kxi (z := 210) rfl (lq rfl) (lq rfl) (lq rfl) kd_210).trans (it_c (kxi_c (fun r3 h2 => ?_)))
  refine (dq rfl rfl).trans ?_
  refine (dq rfl rfl).trans ?_
  refine (dq_getR rfl).trans (bn_c (fun a4 => ?_))
  refine (dq rfl rfl).trans ?_
  refine (dq_getR rfl).trans (bn_c (fun a5 => ?_))
  refine (dq_kxv (z := 174) rfl (lq rfl) (lq rfl) (lq rfl) kd_174).trans (it_c (kxv_c (fun h6 => ?_)))
  refine (dq rfl rfl).trans ?_
  refine (dq_getR rfl).trans (bn_c (fun a7 => ?_))
  refine (dq_getR rfl).trans (bn_c (fun a8 => ?_))
  refine (dq rfl rfl).trans ?_
  refine (dq_kxv0 (z := 256) rfl (lq rfl) (lq rfl) (lq rfl) kd_256).trans (kxv_c (fun h9 => ?_))
  refine (dq rfl rfl).trans ?_
  refine (dq_getR rfl).trans (bn_c (fun a10 => ?_))
  refine (dq_getR rfl).trans (bn_c (fun a11 => ?_))
  refine (dq rfl rfl).trans ?_
  refine (dq_kxv0 (z := 256) rfl (lq rfl) (lq rfl) (lq rfl) kd_256).trans (kxv_c (fun h12 => ?_))
  refine (dq rfl rfl).trans ?_
  exact dq_ret1 rfl
theorem q_19 (ab : Nat) (ac : Int32) (ad : Int32) (h : ia_H) : cl 19 [.ref ab, .int ac, .int ad] h = (if ia_ok h 0 [.ref ab, .int ac] = true then kxi (cl 52 [.ref ab, .int ac] h) (fun r2 h1 => (if r2 = 0 then some (some (.int (-1)), h1) else kxi (cl 49 [.int ad] h1) (fun r4 h3 => (if r4 = 0 then some (some (.int (-1)), h3) else ((ia_gR h3 0 ab 6).bind fun a5 => (if ia_ok h3 5 [.ref a5, .int ac, .int ad] = true then kxi (cl 222 [.ref a5, .int ac, .int ad] h3) (fun r7 h6 => ((ia_gR h6 0 ab 3).bind fun a8 => (if ia_ok h6 3 [.ref a8] = true then kxr (cl 189 [.ref a8] h6) (fun r10 h9 => (if ia_ok h9 3 [.ref r10, .int r7] = true then kxr (cl 190 [.ref r10, .int r7] h9) (fun r12 h11 => (if r7 = (-1) then some (some (.int 1), h11) else some (some (.int 0), h11))) else none)) else none))) else none)))))) else none) := by
  refine (dq rfl rfl).trans ?_
  refine (dq rfl rfl).trans ?_
  refine (dq_kxi (z := 52) rfl (lq rfl) (lq rfl) (lq rfl) kd_52).trans (it_c (kxi_c (fun r2 h1 => ?_)))
  refine (dq_ifeq rfl).trans (ie_c ?_ ?_)
  · refine (dq rfl rfl).trans ?_
    exact dq_ret1 rfl
  · refine (dq rfl rfl).trans ?_
    refine (dq_kxi0 (z := 49) rfl (lq rfl) (lq rfl) (lq rfl) kd_49).trans (kxi_c (fun r4 h3 => ?_))
    refine (dq_ifne rfl).trans (ie_c ?_ ?_)
    · refine (dq rfl rfl).trans ?_
      exact dq_ret1 rfl
    · refine (dq rfl rfl).trans ?_
      refine (dq_getR rfl).trans (bn_c (fun a5 => ?_))
      refine (dq rfl rfl).trans ?_
      refine (dq rfl rfl).trans ?_
      refine (dq_kxi (z := 222) rfl (lq rfl) (lq rfl) (lq rfl) kd_222).trans (it_c (kxi_c (fun r7 h6 => ?_)))
      refine (dq rfl rfl).trans ?_
      refine (dq rfl rfl).trans ?_
      refine (dq_getR rfl).trans (bn_c (fun a8 => ?_))
      refine (dq_kxr (z := 189) rfl (lq rfl) (lq rfl) (lq rfl) kd_189).trans (it_c (kxr_c (fun r10 h9 => ?_)))
      refine (dq rfl rfl).trans ?_
      refine (dq_kxr (z := 190) rfl (lq rfl) (lq rfl) (lq rfl) kd_190).trans (it_c (kxr_c (fun r12 h11 => ?_)))
      refine (dq rfl rfl).trans ?_
      refine (dq rfl rfl).trans ?_
      refine (dq rfl rfl).trans ?_
      refine (dq_ine rfl).trans (ie_c ?_ ?_)
      · refine (dq rfl rfl).trans ?_
        refine (dq rfl rfl).trans ?_
        exact dq_ret1 rfl
      · refine (dq rfl rfl).trans ?_
        exact dq_ret1 rfl
theorem q_20 (ab : Nat) (ac : Int32) (ad : Int32) (h : ia_H) : cl 20 [.ref ab, .int ac, .int ad] h = kxi (cl 50 [.int ac] h) (fun r2 h1 => (if r2 = 0 then some (some (.int (-1)), h1) else kxi (cl 49 [.int ad] h1) (fun r4 h3 => (if r4 = 0 then some (some (.int (-1)), h3) else ((ia_gR h3 0 ab 6).bind fun a5 => (if ia_ok h3 5 [.ref a5, .int ac, .int ad] = true then kxi (cl 226 [.ref a5, .int ac, .int ad] h3) (fun r7 h6 => ((ia_gR h6 0 ab 3).bind fun a8 => (if ia_ok h6 3 [.ref a8] = true then kxr (cl 189 [.ref a8] h6) (fun r10 h9 => kxi (cl 257 [.int r7] h9) (fun r12 h11 => (if ia_ok h11 3 [.ref r10, .int r12] = true then kxr (cl 190 [.ref r10, .int r12] h11) (fun r14 h13 => dn 20 23 [some (.ref ab), some (.int ac), some (.int ad), some (.int r7), some (.int 0)] [] h13) else none))) else none))) else none)))))) := by
  refine (dq rfl rfl).trans ?_
  refine (dq_kxi0 (z := 50) rfl (lq rfl) (lq rfl) (lq rfl) kd_50).trans (kxi_c (fun r2 h1 => ?_))
  refine (dq_ifeq rfl).trans (ie_c ?_ ?_)
  · refine (dq rfl rfl).trans ?_
    exact dq_ret1 rfl
  · refine (dq rfl rfl).trans ?_
    refine (dq_kxi0 (z := 49) rfl (lq rfl) (lq rfl) (lq rfl) kd_49).trans (kxi_c (fun r4 h3 => ?_))
    refine (dq_ifne rfl).trans (ie_c ?_ ?_)
    · refine (dq rfl rfl).trans ?_
      exact dq_ret1 rfl
    · refine (dq rfl rfl).trans ?_
      refine (dq_getR rfl).trans (bn_c (fun a5 => ?_))
      refine (dq rfl rfl).trans ?_
      refine (dq rfl rfl).trans ?_
      refine (dq_kxi (z := 226) rfl (lq rfl) (lq rfl) (lq rfl) kd_226).trans (it_c (kxi_c (fun r7 h6 => ?_)))
      refine (dq rfl rfl).trans ?_
      refine (dq rfl rfl).trans ?_
      refine (dq_getR rfl).trans (bn_c (fun a8 => ?_))
      refine (dq_kxr (z := 189) rfl (lq rfl) (lq rfl) (lq rfl) kd_189).trans (it_c (kxr_c (fun r10 h9 => ?_)))
      refine (dq rfl rfl).trans ?_
      refine (dq_kxi0 (z := 257) rfl (lq rfl) (lq rfl) (lq rfl) kd_257).trans (kxi_c (fun r12 h11 => ?_))
      refine (dq_kxr (z := 190) rfl (lq rfl) (lq rfl) (lq rfl) kd_190).trans (it_c (kxr_c (fun r14 h13 => ?_)))
      refine (dq rfl rfl).trans ?_
      refine (dq rfl rfl).trans ?_
      refine (dq rfl rfl).trans ?_
      rfl
theorem q_20_23 (x0 : Nat) (x1 : Int32) (x2 : Int32) (x3 : Int32) (x4 : Int32) (h : ia_H) : dn 20 23 [some (.ref x0), some (.int x1), some (.int x2), some (.int x3), some (.int x4)] [] h = ((ia_gR h 0 x0 6).bind fun a1 => ((ia_gI h 5 a1 0).bind fun v2 => (if v2 ≤ x4 then some (some (.int x3), h) else kxi (cl 55 [.int x3, .int x4] h) (fun r4 h3 => (if r4 = 0 then dn 20 23 [some (.ref x0), some (.int x1), some (.int x2), some (.int x3), some (.int (x4 + 1))] [] h3 else ((ia_gR h3 0 x0 3).bind fun a5 => ((ia_gR h3 0 x0 6).bind fun a6 => (if ia_ok h3 5 [.ref a6, .int x4, .int x2] = true then kxi (cl 223 [.ref a6, .int x4, .int x2] h3) (fun r8 h7 => (if ia_ok h7 3 [.ref a5, .int r8] = true then kxr (cl 190 [.ref a5, .int r8] h7) (fun r10 h9 => dn 20 23 [some (.ref x0), some (.int x1), some (.int x2), some (.int x3), some (.int (x4 + 1))] [] h9) else none)) else none)))))))) := by
  refine (dq rfl rfl).trans ?_
  refine (dq rfl rfl).trans ?_
  refine (dq_getR rfl).trans (bn_c (fun a1 => ?_))
  refine (dq_getI rfl).trans (bn_c (fun v2 => ?_))
  refine (dq_ige rfl).trans (ie_c ?_ ?_)
  · refine (dq rfl rfl).trans ?_
    exact dq_ret1 rfl
  · refine (dq rfl rfl).trans ?_
    refine (dq rfl rfl).trans ?_
    refine (dq_kxi0 (z := 55) rfl (lq rfl) (lq rfl) (lq rfl) kd_55).trans (kxi_c (fun r4 h3 => ?_))
    refine (dq_ifeq rfl).trans (ie_c ?_ ?_)
    · refine (dq_iinc (v := 1) rfl rfl (by decide)).trans ?_
      refine (dq rfl rfl).trans ?_
      rfl
    · refine (dq rfl rfl).trans ?_
      refine (dq_getR rfl).trans (bn_c (fun a5 => ?_))
      refine (dq rfl rfl).trans ?_
      refine (dq_getR rfl).trans (bn_c (fun a6 => ?_))
      refine (dq rfl rfl).trans ?_
      refine (dq rfl rfl).trans ?_
      refine (dq_kxi (z := 223) rfl (lq rfl) (lq rfl) (lq rfl) kd_223).trans (it_c (kxi_c (fun r8 h7 => ?_)))
      refine (dq_kxr (z := 190) rfl (lq rfl) (lq rfl) (lq rfl) kd_190).trans (it_c (kxr_c (fun r10 h9 => ?_)))
      refine (dq rfl rfl).trans ?_
      refine (dq_iinc (v := 1) rfl rfl (by decide)).trans ?_
      refine (dq rfl rfl).trans ?_
      rfl
theorem q_21 (ab : Nat) (ac : Int32) (ad : Int32) (h : ia_H) : cl 21 [.ref ab, .int ac, .int ad] h = (if ia_ok h 0 [.ref ab, .int ac] = true then kxi (cl 52 [.ref ab, .int ac] h) (fun r2 h1 => (if r2 = 0 then some (some (.int (-1)), h1) else kxi (cl 49 [.int ad] h1) (fun r4 h3 => (if r4 = 0 then some (some (.int (-1)), h3) else ((ia_gR h3 0 ab 6).bind fun a5 => (if ia_ok h3 5 [.ref a5, .int ac, .int ad] = true then kxi (cl 223 [.ref a5, .int ac, .int ad] h3) (fun r7 h6 => ((ia_gR h6 0 ab 3).bind fun a8 => (if ia_ok h6 3 [.ref a8] = true then kxr (cl 189 [.ref a8] h6) (fun r10 h9 => ((ia_gR h9 0 ab 6).bind fun a11 => (if ia_ok h9 5 [.ref a11, .int ac, .int ad] = true then kxi (cl 224 [.ref a11, .int ac, .int ad] h9) (fun r13 h12 => (if ia_ok h12 3 [.ref r10, .int (r7 + r13)] = true then kxr (cl 190 [.ref r10, .int (r7 + r13)] h12) (fun r15 h14 => some (some (.int r7), h14)) else none)) else none))) else none))) else none)))))) else none) := by
  refine (dq rfl rfl).trans ?_
  refine (dq rfl rfl).trans ?_
  refine (dq_kxi (z := 52) rfl (lq rfl) (lq rfl) (lq rfl) kd_52).trans (it_c (kxi_c (fun r2 h1 => ?_)))
  refine (dq_ifeq rfl).trans (ie_c ?_ ?_)
  · refine (dq rfl rfl).trans ?_
    exact dq_ret1 rfl
  · refine (dq rfl rfl).trans ?_
    refine (dq_kxi0 (z := 49) rfl (lq rfl) (lq rfl) (lq rfl) kd_49).trans (kxi_c (fun r4 h3 => ?_))
    refine (dq_ifne rfl).trans (ie_c ?_ ?_)
    · refine (dq rfl rfl).trans ?_
      exact dq_ret1 rfl
    · refine (dq rfl rfl).trans ?_
      refine (dq_getR rfl).trans (bn_c (fun a5 => ?_))
      refine (dq rfl rfl).trans ?_
      refine (dq rfl rfl).trans ?_
      refine (dq_kxi (z := 223) rfl (lq rfl) (lq rfl) (lq rfl) kd_223).trans (it_c (kxi_c (fun r7 h6 => ?_)))
      refine (dq rfl rfl).trans ?_
      refine (dq rfl rfl).trans ?_
      refine (dq_getR rfl).trans (bn_c (fun a8 => ?_))
      refine (dq_kxr (z := 189) rfl (lq rfl) (lq rfl) (lq rfl) kd_189).trans (it_c (kxr_c (fun r10 h9 => ?_)))
      refine (dq rfl rfl).trans ?_
      refine (dq rfl rfl).trans ?_
      refine (dq_getR rfl).trans (bn_c (fun a11 => ?_))
      refine (dq rfl rfl).trans ?_
      refine (dq rfl rfl).trans ?_
      refine (dq_kxi (z := 224) rfl (lq rfl) (lq rfl) (lq rfl) kd_224).trans (it_c (kxi_c (fun r13 h12 => ?_)))
      refine (dq rfl rfl).trans ?_
      refine (dq_kxr (z := 190) rfl (lq rfl) (lq rfl) (lq rfl) kd_190).trans (it_c (kxr_c (fun r15 h14 => ?_)))
      refine (dq rfl rfl).trans ?_
      refine (dq rfl rfl).trans ?_
      exact dq_ret1 rfl
theorem q_22 (ab : Nat) (ac : Int32) (h : ia_H) : cl 22 [.ref ab, .int ac] h = (if ia_ok h 0 [.ref ab, .int ac] = true then kxi (cl 52 [.ref ab, .int ac] h) (fun r2 h1 => (if r2 = 0 then some (some (.int (-1)), h1) else ((ia_gR h1 0 ab 3).bind fun a3 => (if ia_ok h1 3 [.ref a3] = true then kxr (cl 189 [.ref a3] h1) (fun r5 h4 => dn 22 12 [some (.ref ab), some (.int ac), some (.int 0)] [] h4) else none)))) else none) := by
  refine (dq rfl rfl).trans ?_
  refine (dq rfl rfl).trans ?_
  refine (dq_kxi (z := 52) rfl (lq rfl) (lq rfl) (lq rfl) kd_52).trans (it_c (kxi_c (fun r2 h1 => ?_)))
  refine (dq_ifne rfl).trans (ie_c ?_ ?_)
  · refine (dq rfl rfl).trans ?_
    exact dq_ret1 rfl
  · refine (dq rfl rfl).trans ?_
    refine (dq_getR rfl).trans (bn_c (fun a3 => ?_))
    refine (dq_kxr (z := 189) rfl (lq rfl) (lq rfl) (lq rfl) kd_189).trans (it_c (kxr_c (fun r5 h4 => ?_)))
    refine (dq rfl rfl).trans ?_
    refine (dq rfl rfl).trans ?_
    refine (dq rfl rfl).trans ?_
    rfl
theorem q_22_12 (x0 : Nat) (x1 : Int32) (x2 : Int32) (h : ia_H) : dn 22 12 [some (.ref x0), some (.int x1), some (.int x2)] [] h = (if 4 ≤ x2 then ((ia_gR h 0 x0 6).bind fun a1 => (if ia_ok h 5 [.ref a1, .int x1] = true then kxi (cl 225 [.ref a1, .int x1] h) (fun r3 h2 => some (some (.int r3), h2)) else none)) else ((ia_gR h 0 x0 3).bind fun a4 => ((ia_gR h 0 x0 6).bind fun a5 => (if ia_ok h 5 [.ref a5, .int x1, .int x2] = true then kxi (cl 223 [.ref a5, .int x1, .int x2] h) (fun r7 h6 => (if ia_ok h6 3 [.ref a4, .int r7] = true then kxr (cl 190 [.ref a4, .int r7] h6) (fun r9 h8 => dn 22 12 [some (.ref x0), some (.int x1), some (.int (x2 + 1))] [] h8) else none)) else none)))) := by
  refine (dq rfl rfl).trans ?_
  refine (dq rfl rfl).trans ?_
  refine (dq_ige rfl).trans (ie_c ?_ ?_)
  · refine (dq rfl rfl).trans ?_
    refine (dq_getR rfl).trans (bn_c (fun a1 => ?_))
    refine (dq rfl rfl).trans ?_
    refine (dq_kxi (z := 225) rfl (lq rfl) (lq rfl) (lq rfl) kd_225).trans (it_c (kxi_c (fun r3 h2 => ?_)))
    exact dq_ret1 rfl
  · refine (dq rfl rfl).trans ?_
    refine (dq_getR rfl).trans (bn_c (fun a4 => ?_))
    refine (dq rfl rfl).trans ?_
    refine (dq_getR rfl).trans (bn_c (fun a5 => ?_))
    refine (dq rfl rfl).trans ?_
    refine (dq rfl rfl).trans ?_
    refine (dq_kxi (z := 223) rfl (lq rfl) (lq rfl) (lq rfl) kd_223).trans (it_c (kxi_c (fun r7 h6 => ?_)))
    refine (dq_kxr (z := 190) rfl (lq rfl) (lq rfl) (lq rfl) kd_190).trans (it_c (kxr_c (fun r9 h8 => ?_)))
    refine (dq rfl rfl).trans ?_
    refine (dq_iinc (v := 1) rfl rfl (by decide)).trans ?_
    refine (dq rfl rfl).trans ?_
    rfl
theorem q_23 (ab : Nat) (ac : Int32) (ad : Int32) (ae : Int32) (h : ia_H) : cl 23 [.ref ab, .int ac, .int ad, .int ae] h = kxi (cl 49 [.int ac] h) (fun r2 h1 => (if r2 = 0 then some (some (.int (-1)), h1) else kxi (cl 51 [.int ad, .int ae] h1) (fun r4 h3 => (if r4 = 0 then some (some (.int (-1)), h3) else ((ia_gR h3 0 ab 6).bind fun a5 => (if ia_ok h3 5 [.ref a5, .int ad, .int ac] = true then kxi (cl 226 [.ref a5, .int ad, .int ac] h3) (fun r7 h6 => ((ia_gR h6 0 ab 6).bind fun a8 => (if ia_ok h6 5 [.ref a8, .int ae, .int ac] = true then kxi (cl 226 [.ref a8, .int ae, .int ac] h6) (fun r10 h9 => ((ia_gR h9 0 ab 6).bind fun a11 => (if ia_ok h9 5 [.ref a11, .int ad] = true then kxi (cl 207 [.ref a11, .int ad] h9) (fun r13 h12 => ((ia_gR h12 0 ab 6).bind fun a14 => (if ia_ok h12 5 [.ref a14, .int ae] = true then kxi (cl 207 [.ref a14, .int ae] h12) (fun r16 h15 => ((ia_gR h15 0 ab 3).bind fun a17 => (if ia_ok h15 3 [.ref a17] = true then kxr (cl 189 [.ref a17] h15) (fun r19 h18 => kxi (cl 257 [.int (r13 &&& ((r7 ||| r10) ^^^ (-1)))] h18) (fun r21 h20 => (if ia_ok h20 3 [.ref r19, .int r21] = true then kxr (cl 190 [.ref r19, .int r21] h20) (fun r23 h22 => kxi (cl 257 [.int (r16 &&& ((r7 ||| r10) ^^^ (-1)))] h22) (fun r25 h24 => (if ia_ok h24 3 [.ref r23, .int r25] = true then kxr (cl 190 [.ref r23, .int r25] h24) (fun r27 h26 => (if ia_ok h26 3 [.ref r27, .int (r7 ||| r10)] = true then kxr (cl 190 [.ref r27, .int (r7 ||| r10)] h26) (fun r29 h28 => some (some (.int ((r13 &&& ((r7 ||| r10) ^^^ (-1))) ||| (r16 &&& ((r7 ||| r10) ^^^ (-1))))), h28)) else none)) else none))) else none))) else none))) else none))) else none))) else none))) else none)))))) := by
  refine (dq rfl rfl).trans ?_
  refine (dq_kxi0 (z := 49) rfl (lq rfl) (lq rfl) (lq rfl) kd_49).trans (kxi_c (fun r2 h1 => ?_))
  refine (dq_ifeq rfl).trans (ie_c ?_ ?_)
  · refine (dq rfl rfl).trans ?_
    exact dq_ret1 rfl
  · refine (dq rfl rfl).trans ?_
    refine (dq rfl rfl).trans ?_
    refine (dq_kxi0 (z := 51) rfl (lq rfl) (lq rfl) (lq rfl) kd_51).trans (kxi_c (fun r4 h3 => ?_))
    refine (dq_ifne rfl).trans (ie_c ?_ ?_)
    · refine (dq rfl rfl).trans ?_
      exact dq_ret1 rfl
    · refine (dq rfl rfl).trans ?_
      refine (dq_getR rfl).trans (bn_c (fun a5 => ?_))
      refine (dq rfl rfl).trans ?_
      refine (dq rfl rfl).trans ?_
      refine (dq_kxi (z := 226) rfl (lq rfl) (lq rfl) (lq rfl) kd_226).trans (it_c (kxi_c (fun r7 h6 => ?_)))
      refine (dq rfl rfl).trans ?_
      refine (dq_getR rfl).trans (bn_c (fun a8 => ?_))
      refine (dq rfl rfl).trans ?_
      refine (dq rfl rfl).trans ?_
      refine (dq_kxi (z := 226) rfl (lq rfl) (lq rfl) (lq rfl) kd_226).trans (it_c (kxi_c (fun r10 h9 => ?_)))
      refine (dq rfl rfl).trans ?_
      refine (dq rfl rfl).trans ?_
      refine (dq rfl rfl).trans ?_
      refine (dq_getR rfl).trans (bn_c (fun a11 => ?_))
      refine (dq rfl rfl).trans ?_
      refine (dq_kxi (z := 207) rfl (lq rfl) (lq rfl) (lq rfl) kd_207).trans (it_c (kxi_c (fun r13 h12 => ?_)))
      refine (dq rfl rfl).trans ?_
      refine (dq rfl rfl).trans ?_
      refine (dq rfl rfl).trans ?_
      refine (dq rfl rfl).trans ?_
      refine (dq rfl rfl).trans ?_
      refine (dq rfl rfl).trans ?_
      refine (dq_getR rfl).trans (bn_c (fun a14 => ?_))
      refine (dq rfl rfl).trans ?_
      refine (dq_kxi (z := 207) rfl (lq rfl) (lq rfl) (lq rfl) kd_207).trans (it_c (kxi_c (fun r16 h15 => ?_)))
      refine (dq rfl rfl).trans ?_
      refine (dq rfl rfl).trans ?_
      refine (dq rfl rfl).trans ?_
      refine (dq rfl rfl).trans ?_
      refine (dq rfl rfl).trans ?_
      refine (dq rfl rfl).trans ?_
      refine (dq_getR rfl).trans (bn_c (fun a17 => ?_))
      refine (dq_kxr (z := 189) rfl (lq rfl) (lq rfl) (lq rfl) kd_189).trans (it_c (kxr_c (fun r19 h18 => ?_)))
      refine (dq rfl rfl).trans ?_
      refine (dq_kxi0 (z := 257) rfl (lq rfl) (lq rfl) (lq rfl) kd_257).trans (kxi_c (fun r21 h20 => ?_))
      refine (dq_kxr (z := 190) rfl (lq rfl) (lq rfl) (lq rfl) kd_190).trans (it_c (kxr_c (fun r23 h22 => ?_)))
      refine (dq rfl rfl).trans ?_
      refine (dq_kxi0 (z := 257) rfl (lq rfl) (lq rfl) (lq rfl) kd_257).trans (kxi_c (fun r25 h24 => ?_))
      refine (dq_kxr (z := 190) rfl (lq rfl) (lq rfl) (lq rfl) kd_190).trans (it_c (kxr_c (fun r27 h26 => ?_)))
      refine (dq rfl rfl).trans ?_
      refine (dq_kxr (z := 190) rfl (lq rfl) (lq rfl) (lq rfl) kd_190).trans (it_c (kxr_c (fun r29 h28 => ?_)))
      refine (dq rfl rfl).trans ?_
      refine (dq rfl rfl).trans ?_
      refine (dq rfl rfl).trans ?_
      refine (dq rfl rfl).trans ?_
      exact dq_ret1 rfl
theorem q_24 (ab : Nat) (ac : Int32) (ad : Int32) (h : ia_H) : cl 24 [.ref ab, .int ac, .int ad] h = kxi (cl 50 [.int ac] h) (fun r2 h1 => (if r2 = 0 then some (some (.int (-1)), h1) else kxi (cl 49 [.int ad] h1) (fun r4 h3 => (if r4 = 0 then some (some (.int (-1)), h3) else dn 24 14 [some (.ref ab), some (.int ac), some (.int ad), some (.int 0), some (.int 0), some (.int 0), none] [] h3)))) := by
  refine (dq rfl rfl).trans ?_
  refine (dq_kxi0 (z := 50) rfl (lq rfl) (lq rfl) (lq rfl) kd_50).trans (kxi_c (fun r2 h1 => ?_))
  refine (dq_ifeq rfl).trans (ie_c ?_ ?_)
  · refine (dq rfl rfl).trans ?_
    exact dq_ret1 rfl
  · refine (dq rfl rfl).trans ?_
    refine (dq_kxi0 (z := 49) rfl (lq rfl) (lq rfl) (lq rfl) kd_49).trans (kxi_c (fun r4 h3 => ?_))
    refine (dq_ifne rfl).trans (ie_c ?_ ?_)
    · refine (dq rfl rfl).trans ?_
      exact dq_ret1 rfl
    · refine (dq rfl rfl).trans ?_
      refine (dq rfl rfl).trans ?_
      refine (dq rfl rfl).trans ?_
      refine (dq rfl rfl).trans ?_
      refine (dq rfl rfl).trans ?_
      refine (dq rfl rfl).trans ?_
      rfl
theorem q_24_14 (x0 : Nat) (x1 : Int32) (x2 : Int32) (x3 : Int32) (x4 : Int32) (x5 : Int32) (l6 : Option Value) (h : ia_H) : dn 24 14 [some (.ref x0), some (.int x1), some (.int x2), some (.int x3), some (.int x4), some (.int x5), l6] [] h = ((ia_gR h 0 x0 6).bind fun a1 => ((ia_gI h 5 a1 0).bind fun v2 => (if v2 ≤ x5 then ((ia_gR h 0 x0 3).bind fun a3 => (if ia_ok h 3 [.ref a3] = true then kxr (cl 189 [.ref a3] h) (fun r5 h4 => (if ia_ok h4 3 [.ref r5, .int x4] = true then kxr (cl 190 [.ref r5, .int x4] h4) (fun r7 h6 => some (some (.int x3), h6)) else none)) else none)) else ((ia_gR h 0 x0 6).bind fun a8 => ((ia_gR h 5 a8 4).bind fun a9 => ((ia_ld h 0 a9 x5).bind fun v10 => (if v10 = x1 then ((ia_gR h 0 x0 6).bind fun a11 => (if ia_ok h 5 [.ref a11, .int x5, .int x2] = true then kxi (cl 223 [.ref a11, .int x5, .int x2] h) (fun r13 h12 => dn 24 33 [some (.ref x0), some (.int x1), some (.int x2), some (.int x3), some (.int x4), some (.int x5), l6] [.int r13] h12) else none)) else dn 24 33 [some (.ref x0), some (.int x1), some (.int x2), some (.int x3), some (.int x4), some (.int x5), l6] [.int 0] h))))))) := by
  refine (dq rfl rfl).trans ?_
  refine (dq rfl rfl).trans ?_
  refine (dq_getR rfl).trans (bn_c (fun a1 => ?_))
  refine (dq_getI rfl).trans (bn_c (fun v2 => ?_))
  refine (dq_ige rfl).trans (ie_c ?_ ?_)
  · refine (dq rfl rfl).trans ?_
    refine (dq_getR rfl).trans (bn_c (fun a3 => ?_))
    refine (dq_kxr (z := 189) rfl (lq rfl) (lq rfl) (lq rfl) kd_189).trans (it_c (kxr_c (fun r5 h4 => ?_)))
    refine (dq rfl rfl).trans ?_
    refine (dq_kxr (z := 190) rfl (lq rfl) (lq rfl) (lq rfl) kd_190).trans (it_c (kxr_c (fun r7 h6 => ?_)))
    refine (dq rfl rfl).trans ?_
    refine (dq rfl rfl).trans ?_
    exact dq_ret1 rfl
  · refine (dq rfl rfl).trans ?_
    refine (dq_getR rfl).trans (bn_c (fun a8 => ?_))
    refine (dq_getR rfl).trans (bn_c (fun a9 => ?_))
    refine (dq rfl rfl).trans ?_
    refine (dq_iald rfl).trans (bn_c (fun v10 => ?_))
    refine (dq rfl rfl).trans ?_
    refine (dq_ine rfl).trans (ie_c ?_ ?_)
    · refine (dq rfl rfl).trans ?_
      refine (dq_getR rfl).trans (bn_c (fun a11 => ?_))
      refine (dq rfl rfl).trans ?_
      refine (dq rfl rfl).trans ?_
      refine (dq_kxi (z := 223) rfl (lq rfl) (lq rfl) (lq rfl) kd_223).trans (it_c (kxi_c (fun r13 h12 => ?_)))
      refine (dq rfl rfl).trans ?_
      rfl
    · refine (dq rfl rfl).trans ?_
      rfl
theorem q_24_33 (x0 : Nat) (x1 : Int32) (x2 : Int32) (x3 : Int32) (x4 : Int32) (x5 : Int32) (l6 : Option Value) (s0 : Int32) (h : ia_H) : dn 24 33 [some (.ref x0), some (.int x1), some (.int x2), some (.int x3), some (.int x4), some (.int x5), l6] [.int s0] h = (if s0 ≤ x3 then dn 24 41 [some (.ref x0), some (.int x1), some (.int x2), some (.int x3), some (.int x4), some (.int x5), some (.int s0)] [] h else dn 24 41 [some (.ref x0), some (.int x1), some (.int x2), some (.int s0), some (.int 0), some (.int x5), some (.int s0)] [] h) := by
  refine (dq rfl rfl).trans ?_
  refine (dq rfl rfl).trans ?_
  refine (dq rfl rfl).trans ?_
  refine (dq_ile rfl).trans (ie_c ?_ ?_)
  · rfl
  · refine (dq rfl rfl).trans ?_
    refine (dq rfl rfl).trans ?_
    refine (dq rfl rfl).trans ?_
    refine (dq rfl rfl).trans ?_
    rfl
theorem q_24_41 (x0 : Nat) (x1 : Int32) (x2 : Int32) (x3 : Int32) (x4 : Int32) (x5 : Int32) (x6 : Int32) (h : ia_H) : dn 24 41 [some (.ref x0), some (.int x1), some (.int x2), some (.int x3), some (.int x4), some (.int x5), some (.int x6)] [] h = (if x6 ≤ 0 then dn 24 14 [some (.ref x0), some (.int x1), some (.int x2), some (.int x3), some (.int x4), some (.int (x5 + 1)), some (.int x6)] [] h else (if x6 = x3 then kxi (cl 54 [.int x5] h) (fun r2 h1 => dn 24 14 [some (.ref x0), some (.int x1), some (.int x2), some (.int x3), some (.int (x4 ||| r2)), some (.int (x5 + 1)), some (.int x6)] [] h1) else dn 24 14 [some (.ref x0), some (.int x1), some (.int x2), some (.int x3), some (.int x4), some (.int (x5 + 1)), some (.int x6)] [] h)) := by
  refine (dq rfl rfl).trans ?_
  refine (dq_ifle rfl).trans (ie_c ?_ ?_)
  · refine (dq_iinc (v := 1) rfl rfl (by decide)).trans ?_
    refine (dq rfl rfl).trans ?_
    rfl
  · refine (dq rfl rfl).trans ?_
    refine (dq rfl rfl).trans ?_
    refine (dq_ine rfl).trans (ie_c ?_ ?_)
    · refine (dq rfl rfl).trans ?_
      refine (dq rfl rfl).trans ?_
      refine (dq_kxi0 (z := 54) rfl (lq rfl) (lq rfl) (lq rfl) kd_54).trans (kxi_c (fun r2 h1 => ?_))
      refine (dq rfl rfl).trans ?_
      refine (dq rfl rfl).trans ?_
      refine (dq_iinc (v := 1) rfl rfl (by decide)).trans ?_
      refine (dq rfl rfl).trans ?_
      rfl
    · refine (dq_iinc (v := 1) rfl rfl (by decide)).trans ?_
      refine (dq rfl rfl).trans ?_
      rfl
theorem q_25 (ab : Nat) (ac : Int32) (ad : Int32) (h : ia_H) : cl 25 [.ref ab, .int ac, .int ad] h = (if ia_ok h 0 [.ref ab, .int ac] = true then kxi (cl 52 [.ref ab, .int ac] h) (fun r2 h1 => (if r2 = 0 then some (some (.int (-1)), h1) else kxi (cl 49 [.int ad] h1) (fun r4 h3 => (if r4 = 0 then some (some (.int (-1)), h3) else ((ia_gR h3 0 ab 6).bind fun a5 => (if ia_ok h3 5 [.ref a5, .int ac, .int ad] = true then kxi (cl 208 [.ref a5, .int ac, .int ad] h3) (fun r7 h6 => ((ia_gR h6 0 ab 4).bind fun a8 => (if ia_ok h6 4 [.ref a8, .int ad, .int r7] = true then kxi (cl 202 [.ref a8, .int ad, .int r7] h6) (fun r10 h9 => ((ia_gR h9 0 ab 3).bind fun a11 => (if ia_ok h9 3 [.ref a11] = true then kxr (cl 189 [.ref a11] h9) (fun r13 h12 => (if r10 = (-1) then ((ia_gR h12 0 ab 3).bind fun a25 => (if ia_ok h12 3 [.ref a25, .int (-1)] = true then kxr (cl 190 [.ref a25, .int (-1)] h12) (fun r27 h26 => (if ia_ok h26 3 [.ref r27, .int (-1)] = true then kxr (cl 190 [.ref r27, .int (-1)] h26) (fun r29 h28 => some (some (.int r7), h28)) else none)) else none)) else ((ia_gR h12 0 ab 3).bind fun a14 => ((ia_gR h12 0 ab 4).bind fun a15 => (if ia_ok h12 4 [.ref a15, .int ad, .int r10] = true then kxi (cl 198 [.ref a15, .int ad, .int r10] h12) (fun r17 h16 => (if ia_ok h16 3 [.ref a14, .int (r17 - r7)] = true then kxr (cl 190 [.ref a14, .int (r17 - r7)] h16) (fun r19 h18 => ((ia_gR h18 0 ab 4).bind fun a20 => (if ia_ok h18 4 [.ref a20, .int ad, .int r10] = true then kxi (cl 199 [.ref a20, .int ad, .int r10] h18) (fun r22 h21 => (if ia_ok h21 3 [.ref r19, .int r22] = true then kxr (cl 190 [.ref r19, .int r22] h21) (fun r24 h23 => some (some (.int r7), h23)) else none)) else none))) else none)) else none))))) else none))) else none))) else none)))))) else none) := by
  refine (dq rfl rfl).trans ?_
  refine (dq rfl rfl).trans ?_
  refine (dq_kxi (z := 52) rfl (lq rfl) (lq rfl) (lq rfl) kd_52).trans (it_c (kxi_c (fun r2 h1 => ?_)))
  refine (dq_ifeq rfl).trans (ie_c ?_ ?_)
  · refine (dq rfl rfl).trans ?_
    exact dq_ret1 rfl
  · refine (dq rfl rfl).trans ?_
    refine (dq_kxi0 (z := 49) rfl (lq rfl) (lq rfl) (lq rfl) kd_49).trans (kxi_c (fun r4 h3 => ?_))
    refine (dq_ifne rfl).trans (ie_c ?_ ?_)
    · refine (dq rfl rfl).trans ?_
      exact dq_ret1 rfl
    · refine (dq rfl rfl).trans ?_
      refine (dq_getR rfl).trans (bn_c (fun a5 => ?_))
      refine (dq rfl rfl).trans ?_
      refine (dq rfl rfl).trans ?_
      refine (dq_kxi (z := 208) rfl (lq rfl) (lq rfl) (lq rfl) kd_208).trans (it_c (kxi_c (fun r7 h6 => ?_)))
      refine (dq rfl rfl).trans ?_
      refine (dq rfl rfl).trans ?_
      refine (dq_getR rfl).trans (bn_c (fun a8 => ?_))
      refine (dq rfl rfl).trans ?_
      refine (dq rfl rfl).trans ?_
      refine (dq_kxi (z := 202) rfl (lq rfl) (lq rfl) (lq rfl) kd_202).trans (it_c (kxi_c (fun r10 h9 => ?_)))
      refine (dq rfl rfl).trans ?_
      refine (dq rfl rfl).trans ?_
      refine (dq_getR rfl).trans (bn_c (fun a11 => ?_))
      refine (dq_kxr (z := 189) rfl (lq rfl) (lq rfl) (lq rfl) kd_189).trans (it_c (kxr_c (fun r13 h12 => ?_)))
      refine (dq rfl rfl).trans ?_
      refine (dq rfl rfl).trans ?_
      refine (dq rfl rfl).trans ?_
      refine (dq_ine rfl).trans (ie_c ?_ ?_)
      · refine (dq rfl rfl).trans ?_
        refine (dq_getR rfl).trans (bn_c (fun a25 => ?_))
        refine (dq rfl rfl).trans ?_
        refine (dq_kxr (z := 190) rfl (lq rfl) (lq rfl) (lq rfl) kd_190).trans (it_c (kxr_c (fun r27 h26 => ?_)))
        refine (dq rfl rfl).trans ?_
        refine (dq_kxr (z := 190) rfl (lq rfl) (lq rfl) (lq rfl) kd_190).trans (it_c (kxr_c (fun r29 h28 => ?_)))
        refine (dq rfl rfl).trans ?_
        refine (dq rfl rfl).trans ?_
        refine (dq rfl rfl).trans ?_
        exact dq_ret1 rfl
      · refine (dq rfl rfl).trans ?_
        refine (dq_getR rfl).trans (bn_c (fun a14 => ?_))
        refine (dq rfl rfl).trans ?_
        refine (dq_getR rfl).trans (bn_c (fun a15 => ?_))
        refine (dq rfl rfl).trans ?_
        refine (dq rfl rfl).trans ?_
        refine (dq_kxi (z := 198) rfl (lq rfl) (lq rfl) (lq rfl) kd_198).trans (it_c (kxi_c (fun r17 h16 => ?_)))
        refine (dq rfl rfl).trans ?_
        refine (dq rfl rfl).trans ?_
        refine (dq_kxr (z := 190) rfl (lq rfl) (lq rfl) (lq rfl) kd_190).trans (it_c (kxr_c (fun r19 h18 => ?_)))
        refine (dq rfl rfl).trans ?_
        refine (dq_getR rfl).trans (bn_c (fun a20 => ?_))
        refine (dq rfl rfl).trans ?_
        refine (dq rfl rfl).trans ?_
        refine (dq_kxi (z := 199) rfl (lq rfl) (lq rfl) (lq rfl) kd_199).trans (it_c (kxi_c (fun r22 h21 => ?_)))
        refine (dq_kxr (z := 190) rfl (lq rfl) (lq rfl) (lq rfl) kd_190).trans (it_c (kxr_c (fun r24 h23 => ?_)))
        refine (dq rfl rfl).trans ?_
        refine (dq rfl rfl).trans ?_
        exact dq_ret1 rfl
theorem q_26 (ab : Nat) (ac : Int32) (ad : Int32) (h : ia_H) : cl 26 [.ref ab, .int ac, .int ad] h = kxi (cl 50 [.int ac] h) (fun r2 h1 => (if r2 = 0 then some (some (.int (-1)), h1) else kxi (cl 49 [.int ad] h1) (fun r4 h3 => (if r4 = 0 then some (some (.int (-1)), h3) else dn 26 12 [some (.ref ab), some (.int ac), some (.int ad), some (.int 0), some (.int 0)] [] h3)))) := by
  refine (dq rfl rfl).trans ?_
  refine (dq_kxi0 (z := 50) rfl (lq rfl) (lq rfl) (lq rfl) kd_50).trans (kxi_c (fun r2 h1 => ?_))
  refine (dq_ifeq rfl).trans (ie_c ?_ ?_)
  · refine (dq rfl rfl).trans ?_
    exact dq_ret1 rfl
  · refine (dq rfl rfl).trans ?_
    refine (dq_kxi0 (z := 49) rfl (lq rfl) (lq rfl) (lq rfl) kd_49).trans (kxi_c (fun r4 h3 => ?_))
    refine (dq_ifne rfl).trans (ie_c ?_ ?_)
    · refine (dq rfl rfl).trans ?_
      exact dq_ret1 rfl
    · refine (dq rfl rfl).trans ?_
      refine (dq rfl rfl).trans ?_
      refine (dq rfl rfl).trans ?_
      refine (dq rfl rfl).trans ?_
      rfl
theorem q_26_12 (x0 : Nat) (x1 : Int32) (x2 : Int32) (x3 : Int32) (x4 : Int32) (h : ia_H) : dn 26 12 [some (.ref x0), some (.int x1), some (.int x2), some (.int x3), some (.int x4)] [] h = ((ia_gR h 0 x0 6).bind fun a1 => ((ia_gI h 5 a1 0).bind fun v2 => (if v2 ≤ x4 then ((ia_gR h 0 x0 3).bind fun a3 => (if ia_ok h 3 [.ref a3] = true then kxr (cl 189 [.ref a3] h) (fun r5 h4 => ((ia_gR h4 0 x0 6).bind fun a6 => (if ia_ok h4 5 [.ref a6, .int x1, .int x2] = true then kxi (cl 226 [.ref a6, .int x1, .int x2] h4) (fun r8 h7 => kxi (cl 257 [.int (x3 &&& (r8 ^^^ (-1)))] h7) (fun r10 h9 => (if ia_ok h9 3 [.ref r5, .int r10] = true then kxr (cl 190 [.ref r5, .int r10] h9) (fun r12 h11 => some (some (.int x3), h11)) else none))) else none))) else none)) else ((ia_gR h 0 x0 6).bind fun a13 => ((ia_gR h 5 a13 4).bind fun a14 => ((ia_ld h 0 a14 x4).bind fun v15 => (if v15 = x1 then ((ia_gR h 0 x0 4).bind fun a16 => ((ia_gR h 0 x0 6).bind fun a17 => (if ia_ok h 5 [.ref a17, .int x4, .int x2] = true then kxi (cl 208 [.ref a17, .int x4, .int x2] h) (fun r19 h18 => (if ia_ok h18 4 [.ref a16, .int x2, .int (r19 + 1)] = true then kxi (cl 201 [.ref a16, .int x2, .int (r19 + 1)] h18) (fun r21 h20 => (if r21 ≤ 0 then dn 26 12 [some (.ref x0), some (.int x1), some (.int x2), some (.int x3), some (.int (x4 + 1))] [] h20 else kxi (cl 54 [.int x4] h20) (fun r23 h22 => dn 26 12 [some (.ref x0), some (.int x1), some (.int x2), some (.int (x3 ||| r23)), some (.int (x4 + 1))] [] h22))) else none)) else none))) else dn 26 12 [some (.ref x0), some (.int x1), some (.int x2), some (.int x3), some (.int (x4 + 1))] [] h))))))) := by
  refine (dq rfl rfl).trans ?_
  refine (dq rfl rfl).trans ?_
  refine (dq_getR rfl).trans (bn_c (fun a1 => ?_))
  refine (dq_getI rfl).trans (bn_c (fun v2 => ?_))
  refine (dq_ige rfl).trans (ie_c ?_ ?_)
  · refine (dq rfl rfl).trans ?_
    refine (dq_getR rfl).trans (bn_c (fun a3 => ?_))
    refine (dq_kxr (z := 189) rfl (lq rfl) (lq rfl) (lq rfl) kd_189).trans (it_c (kxr_c (fun r5 h4 => ?_)))
    refine (dq rfl rfl).trans ?_
    refine (dq rfl rfl).trans ?_
    refine (dq_getR rfl).trans (bn_c (fun a6 => ?_))
    refine (dq rfl rfl).trans ?_
    refine (dq rfl rfl).trans ?_
    refine (dq_kxi (z := 226) rfl (lq rfl) (lq rfl) (lq rfl) kd_226).trans (it_c (kxi_c (fun r8 h7 => ?_)))
    refine (dq rfl rfl).trans ?_
    refine (dq rfl rfl).trans ?_
    refine (dq rfl rfl).trans ?_
    refine (dq_kxi0 (z := 257) rfl (lq rfl) (lq rfl) (lq rfl) kd_257).trans (kxi_c (fun r10 h9 => ?_))
    refine (dq_kxr (z := 190) rfl (lq rfl) (lq rfl) (lq rfl) kd_190).trans (it_c (kxr_c (fun r12 h11 => ?_)))
    refine (dq rfl rfl).trans ?_
    refine (dq rfl rfl).trans ?_
    exact dq_ret1 rfl
  · refine (dq rfl rfl).trans ?_
    refine (dq_getR rfl).trans (bn_c (fun a13 => ?_))
    refine (dq_getR rfl).trans (bn_c (fun a14 => ?_))
    refine (dq rfl rfl).trans ?_
    refine (dq_iald rfl).trans (bn_c (fun v15 => ?_))
    refine (dq rfl rfl).trans ?_
    refine (dq_ine rfl).trans (ie_c ?_ ?_)
    · refine (dq rfl rfl).trans ?_
      refine (dq_getR rfl).trans (bn_c (fun a16 => ?_))
      refine (dq rfl rfl).trans ?_
      refine (dq rfl rfl).trans ?_
      refine (dq_getR rfl).trans (bn_c (fun a17 => ?_))
      refine (dq rfl rfl).trans ?_
      refine (dq rfl rfl).trans ?_
      refine (dq_kxi (z := 208) rfl (lq rfl) (lq rfl) (lq rfl) kd_208).trans (it_c (kxi_c (fun r19 h18 => ?_)))
      refine (dq rfl rfl).trans ?_
      refine (dq rfl rfl).trans ?_
      refine (dq_kxi (z := 201) rfl (lq rfl) (lq rfl) (lq rfl) kd_201).trans (it_c (kxi_c (fun r21 h20 => ?_)))
      refine (dq_ifle rfl).trans (ie_c ?_ ?_)
      · refine (dq_iinc (v := 1) rfl rfl (by decide)).trans ?_
        refine (dq rfl rfl).trans ?_
        rfl
      · refine (dq rfl rfl).trans ?_
        refine (dq rfl rfl).trans ?_
        refine (dq_kxi0 (z := 54) rfl (lq rfl) (lq rfl) (lq rfl) kd_54).trans (kxi_c (fun r23 h22 => ?_))
        refine (dq rfl rfl).trans ?_
        refine (dq rfl rfl).trans ?_
        refine (dq_iinc (v := 1) rfl rfl (by decide)).trans ?_
        refine (dq rfl rfl).trans ?_
        rfl
    · refine (dq_iinc (v := 1) rfl rfl (by decide)).trans ?_
      refine (dq rfl rfl).trans ?_
      rfl
theorem q_27 (ab : Nat) (ac : Int32) (ad : Int32) (ae : Int32) (h : ia_H) : cl 27 [.ref ab, .int ac, .int ad, .int ae] h = (if ia_ok h 0 [.ref ab, .int ac] = true then kxi (cl 52 [.ref ab, .int ac] h) (fun r2 h1 => (if r2 = 0 then some (some (.int (-1)), h1) else kxi (cl 49 [.int ad] h1) (fun r4 h3 => (if r4 = 0 then some (some (.int (-1)), h3) else (if ae < 1 then some (some (.int (-1)), h3) else (if ae ≤ 40 then ((ia_gR h3 0 ab 6).bind fun a5 => (if ia_ok h3 5 [.ref a5, .int ac, .int ad] = true then kxi (cl 223 [.ref a5, .int ac, .int ad] h3) (fun r7 h6 => ((ia_gR h6 0 ab 6).bind fun a8 => (if ia_ok h6 5 [.ref a8, .int ac, .int ad] = true then kxi (cl 208 [.ref a8, .int ac, .int ad] h6) (fun r10 h9 => ((ia_gR h9 0 ab 6).bind fun a11 => ((ia_gR h9 0 ab 6).bind fun a12 => ((ia_gR h9 5 a12 4).bind fun a13 => ((ia_ld h9 0 a13 ac).bind fun v14 => (if ia_ok h9 5 [.ref a11, .int v14, .int ad] = true then kxi (cl 211 [.ref a11, .int v14, .int ad] h9) (fun r16 h15 => dn 27 43 [some (.ref ab), some (.int ac), some (.int ad), some (.int ae), some (.int r7), some (.int r10), some (.int r16), some (.int 0), some (.int 0), some (.int 0), none] [] h15) else none)))))) else none))) else none)) else some (some (.int (-1)), h3))))))) else none) := by
  refine (dq rfl rfl).trans ?_
  refine (dq rfl rfl).trans ?_
  refine (dq_kxi (z := 52) rfl (lq rfl) (lq rfl) (lq rfl) kd_52).trans (it_c (kxi_c (fun r2 h1 => ?_)))
  refine (dq_ifeq rfl).trans (ie_c ?_ ?_)
  · refine (dq rfl rfl).trans ?_
    exact dq_ret1 rfl
  · refine (dq rfl rfl).trans ?_
    refine (dq_kxi0 (z := 49) rfl (lq rfl) (lq rfl) (lq rfl) kd_49).trans (kxi_c (fun r4 h3 => ?_))
    refine (dq_ifeq rfl).trans (ie_c ?_ ?_)
    · refine (dq rfl rfl).trans ?_
      exact dq_ret1 rfl
    · refine (dq rfl rfl).trans ?_
      refine (dq rfl rfl).trans ?_
      refine (dq_ilt rfl).trans (ie_c ?_ ?_)
      · refine (dq rfl rfl).trans ?_
        exact dq_ret1 rfl
      · refine (dq rfl rfl).trans ?_
        refine (dq rfl rfl).trans ?_
        refine (dq_ile rfl).trans (ie_c ?_ ?_)
        · refine (dq rfl rfl).trans ?_
          refine (dq_getR rfl).trans (bn_c (fun a5 => ?_))
          refine (dq rfl rfl).trans ?_
          refine (dq rfl rfl).trans ?_
          refine (dq_kxi (z := 223) rfl (lq rfl) (lq rfl) (lq rfl) kd_223).trans (it_c (kxi_c (fun r7 h6 => ?_)))
          refine (dq rfl rfl).trans ?_
          refine (dq rfl rfl).trans ?_
          refine (dq_getR rfl).trans (bn_c (fun a8 => ?_))
          refine (dq rfl rfl).trans ?_
          refine (dq rfl rfl).trans ?_
          refine (dq_kxi (z := 208) rfl (lq rfl) (lq rfl) (lq rfl) kd_208).trans (it_c (kxi_c (fun r10 h9 => ?_)))
          refine (dq rfl rfl).trans ?_
          refine (dq rfl rfl).trans ?_
          refine (dq_getR rfl).trans (bn_c (fun a11 => ?_))
          refine (dq rfl rfl).trans ?_
          refine (dq_getR rfl).trans (bn_c (fun a12 => ?_))
          refine (dq_getR rfl).trans (bn_c (fun a13 => ?_))
          refine (dq rfl rfl).trans ?_
          refine (dq_iald rfl).trans (bn_c (fun v14 => ?_))
          refine (dq rfl rfl).trans ?_
          refine (dq_kxi (z := 211) rfl (lq rfl) (lq rfl) (lq rfl) kd_211).trans (it_c (kxi_c (fun r16 h15 => ?_)))
          refine (dq rfl rfl).trans ?_
          refine (dq rfl rfl).trans ?_
          refine (dq rfl rfl).trans ?_
          refine (dq rfl rfl).trans ?_
          refine (dq rfl rfl).trans ?_
          refine (dq rfl rfl).trans ?_
          refine (dq rfl rfl).trans ?_
          rfl
        · refine (dq rfl rfl).trans ?_
          exact dq_ret1 rfl
theorem q_27_43 (x0 : Nat) (x1 : Int32) (x2 : Int32) (x3 : Int32) (x4 : Int32) (x5 : Int32) (x6 : Int32) (x7 : Int32) (x8 : Int32) (x9 : Int32) (l10 : Option Value) (h : ia_H) : dn 27 43 [some (.ref x0), some (.int x1), some (.int x2), some (.int x3), some (.int x4), some (.int x5), some (.int x6), some (.int x7), some (.int x8), some (.int x9), l10] [] h = (if x3 ≤ x9 then ((ia_gR h 0 x0 6).bind fun a1 => ((ia_gI h 5 a1 2).bind fun v2 => (if (v2 + x8) ≤ 100 then ((ia_gR h 0 x0 3).bind fun a3 => (if ia_ok h 3 [.ref a3] = true then kxr (cl 189 [.ref a3] h) (fun r5 h4 => (if ia_ok h4 3 [.ref r5, .int x8] = true then kxr (cl 190 [.ref r5, .int x8] h4) (fun r7 h6 => (if ia_ok h6 3 [.ref r7, .int x5] = true then kxr (cl 190 [.ref r7, .int x5] h6) (fun r9 h8 => some (some (.int x7), h8)) else none)) else none)) else none)) else some (some (.int (-4)), h)))) else (if x4 ≤ 0 then ((ia_gR h 0 x0 4).bind fun a10 => (if ia_ok h 4 [.ref a10, .int x2, .int (x5 + 1)] = true then kxi (cl 201 [.ref a10, .int x2, .int (x5 + 1)] h) (fun r12 h11 => (if r12 ≤ 0 then dn 27 68 [some (.ref x0), some (.int x1), some (.int x2), some (.int x3), some (.int (x4 + r12)), some (.int (x5 + 1)), some (.int x6), some (.int x7), some (.int x8), some (.int x9), some (.int r12)] [.int 0, .int x8] h11 else dn 27 68 [some (.ref x0), some (.int x1), some (.int x2), some (.int x3), some (.int (x4 + r12)), some (.int (x5 + 1)), some (.int x6), some (.int x7), some (.int x8), some (.int x9), some (.int r12)] [.int 1, .int x8] h11)) else none)) else dn 27 70 [some (.ref x0), some (.int x1), some (.int x2), some (.int x3), some (.int (x4 + (-1))), some (.int x5), some (.int x6), some (.int (x7 + 1)), some (.int x8), some (.int x9), l10] [] h)) := by
  refine (dq rfl rfl).trans ?_
  refine (dq rfl rfl).trans ?_
  refine (dq_ige rfl).trans (ie_c ?_ ?_)
  · refine (dq rfl rfl).trans ?_
    refine (dq_getR rfl).trans (bn_c (fun a1 => ?_))
    refine (dq_getI rfl).trans (bn_c (fun v2 => ?_))
    refine (dq rfl rfl).trans ?_
    refine (dq rfl rfl).trans ?_
    refine (dq rfl rfl).trans ?_
    refine (dq_ile rfl).trans (ie_c ?_ ?_)
    · refine (dq rfl rfl).trans ?_
      refine (dq_getR rfl).trans (bn_c (fun a3 => ?_))
      refine (dq_kxr (z := 189) rfl (lq rfl) (lq rfl) (lq rfl) kd_189).trans (it_c (kxr_c (fun r5 h4 => ?_)))
      refine (dq rfl rfl).trans ?_
      refine (dq_kxr (z := 190) rfl (lq rfl) (lq rfl) (lq rfl) kd_190).trans (it_c (kxr_c (fun r7 h6 => ?_)))
      refine (dq rfl rfl).trans ?_
      refine (dq_kxr (z := 190) rfl (lq rfl) (lq rfl) (lq rfl) kd_190).trans (it_c (kxr_c (fun r9 h8 => ?_)))
      refine (dq rfl rfl).trans ?_
      refine (dq rfl rfl).trans ?_
      exact dq_ret1 rfl
    · refine (dq rfl rfl).trans ?_
      exact dq_ret1 rfl
  · refine (dq rfl rfl).trans ?_
    refine (dq_ifle rfl).trans (ie_c ?_ ?_)
    · refine (dq_iinc (v := 1) rfl rfl (by decide)).trans ?_
      refine (dq rfl rfl).trans ?_
      refine (dq_getR rfl).trans (bn_c (fun a10 => ?_))
      refine (dq rfl rfl).trans ?_
      refine (dq rfl rfl).trans ?_
      refine (dq_kxi (z := 201) rfl (lq rfl) (lq rfl) (lq rfl) kd_201).trans (it_c (kxi_c (fun r12 h11 => ?_)))
      refine (dq rfl rfl).trans ?_
      refine (dq rfl rfl).trans ?_
      refine (dq rfl rfl).trans ?_
      refine (dq rfl rfl).trans ?_
      refine (dq rfl rfl).trans ?_
      refine (dq rfl rfl).trans ?_
      refine (dq rfl rfl).trans ?_
      refine (dq_ifle rfl).trans (ie_c ?_ ?_)
      · refine (dq rfl rfl).trans ?_
        rfl
      · refine (dq rfl rfl).trans ?_
        refine (dq rfl rfl).trans ?_
        rfl
    · refine (dq_iinc (v := -1) rfl rfl (by decide)).trans ?_
      refine (dq_iinc (v := 1) rfl rfl (by decide)).trans ?_
      refine (dq rfl rfl).trans ?_
      rfl
theorem q_27_68 (x0 : Nat) (x1 : Int32) (x2 : Int32) (x3 : Int32) (x4 : Int32) (x5 : Int32) (x6 : Int32) (x7 : Int32) (x8 : Int32) (x9 : Int32) (x10 : Int32) (s0 : Int32) (s1 : Int32) (h : ia_H) : dn 27 68 [some (.ref x0), some (.int x1), some (.int x2), some (.int x3), some (.int x4), some (.int x5), some (.int x6), some (.int x7), some (.int x8), some (.int x9), some (.int x10)] [.int s1, .int s0] h = dn 27 70 [some (.ref x0), some (.int x1), some (.int x2), some (.int x3), some (.int x4), some (.int x5), some (.int x6), some (.int x7), some (.int (s0 + s1)), some (.int x9), some (.int x10)] [] h := by
  refine (dq rfl rfl).trans ?_
  refine (dq rfl rfl).trans ?_
  rfl
theorem q_27_70 (x0 : Nat) (x1 : Int32) (x2 : Int32) (x3 : Int32) (x4 : Int32) (x5 : Int32) (x6 : Int32) (x7 : Int32) (x8 : Int32) (x9 : Int32) (l10 : Option Value) (h : ia_H) : dn 27 70 [some (.ref x0), some (.int x1), some (.int x2), some (.int x3), some (.int x4), some (.int x5), some (.int x6), some (.int x7), some (.int x8), some (.int x9), l10] [] h = ((ia_gR h 0 x0 4).bind fun a1 => (if ia_ok h 4 [.ref a1, .int x2, .int (x6 + 1)] = true then kxi (cl 203 [.ref a1, .int x2, .int (x6 + 1)] h) (fun r3 h2 => (if r3 = 0 then dn 27 43 [some (.ref x0), some (.int x1), some (.int x2), some (.int x3), some (.int x4), some (.int x5), some (.int (x6 + 1)), some (.int x7), some (.int x8), some (.int (x9 + 1)), l10] [] h2 else dn 27 43 [some (.ref x0), some (.int x1), some (.int x2), some (.int x3), some (.int x4), some (.int 0), some (.int (x6 + 1)), some (.int x7), some (.int x8), some (.int (x9 + 1)), l10] [] h2)) else none)) := by
  refine (dq_iinc (v := 1) rfl rfl (by decide)).trans ?_
  refine (dq rfl rfl).trans ?_
  refine (dq_getR rfl).trans (bn_c (fun a1 => ?_))
  refine (dq rfl rfl).trans ?_
  refine (dq rfl rfl).trans ?_
  refine (dq_kxi (z := 203) rfl (lq rfl) (lq rfl) (lq rfl) kd_203).trans (it_c (kxi_c (fun r3 h2 => ?_)))
  refine (dq_ifeq rfl).trans (ie_c ?_ ?_)
  · refine (dq rfl rfl).trans ?_
    refine (dq rfl rfl).trans ?_
    refine (dq_iinc (v := 1) rfl rfl (by decide)).trans ?_
    refine (dq rfl rfl).trans ?_
    rfl
  · refine (dq rfl rfl).trans ?_
    refine (dq rfl rfl).trans ?_
    refine (dq rfl rfl).trans ?_
    refine (dq_iinc (v := 1) rfl rfl (by decide)).trans ?_
    refine (dq rfl rfl).trans ?_
    rfl
theorem q_28 (ab : Nat) (ac : Int32) (ad : Int32) (h : ia_H) : cl 28 [.ref ab, .int ac, .int ad] h = kxi (cl 49 [.int ac] h) (fun r2 h1 => (if r2 = 0 then some (some (.int (-1)), h1) else (if ad < 0 then some (some (.int (-1)), h1) else (if ad ≤ 40 then dn 28 16 [some (.ref ab), some (.int ac), some (.int ad), some (.int 0), some (.int 0), some (.int 1), none] [] h1 else some (some (.int (-1)), h1))))) := by
  refine (dq rfl rfl).trans ?_
  refine (dq_kxi0 (z := 49) rfl (lq rfl) (lq rfl) (lq rfl) kd_49).trans (kxi_c (fun r2 h1 => ?_))
  refine (dq_ifeq rfl).trans (ie_c ?_ ?_)
  · refine (dq rfl rfl).trans ?_
    exact dq_ret1 rfl
  · refine (dq rfl rfl).trans ?_
    refine (dq_iflt rfl).trans (ie_c ?_ ?_)
    · refine (dq rfl rfl).trans ?_
      exact dq_ret1 rfl
    · refine (dq rfl rfl).trans ?_
      refine (dq rfl rfl).trans ?_
      refine (dq_ile rfl).trans (ie_c ?_ ?_)
      · refine (dq rfl rfl).trans ?_
        refine (dq rfl rfl).trans ?_
        refine (dq rfl rfl).trans ?_
        refine (dq rfl rfl).trans ?_
        refine (dq rfl rfl).trans ?_
        refine (dq rfl rfl).trans ?_
        rfl
      · refine (dq rfl rfl).trans ?_
        exact dq_ret1 rfl
theorem q_28_16 (x0 : Nat) (x1 : Int32) (x2 : Int32) (x3 : Int32) (x4 : Int32) (x5 : Int32) (l6 : Option Value) (h : ia_H) : dn 28 16 [some (.ref x0), some (.int x1), some (.int x2), some (.int x3), some (.int x4), some (.int x5), l6] [] h = (if x2 < x5 then ((ia_gR h 0 x0 3).bind fun a1 => (if ia_ok h 3 [.ref a1] = true then kxr (cl 189 [.ref a1] h) (fun r3 h2 => (if ia_ok h2 3 [.ref r3, .int x4] = true then kxr (cl 190 [.ref r3, .int x4] h2) (fun r5 h4 => some (some (.int x3), h4)) else none)) else none)) else ((ia_gR h 0 x0 4).bind fun a6 => (if ia_ok h 4 [.ref a6, .int x1, .int x5] = true then kxi (cl 201 [.ref a6, .int x1, .int x5] h) (fun r8 h7 => (if r8 ≤ 0 then dn 28 16 [some (.ref x0), some (.int x1), some (.int x2), some (.int (x3 + r8)), some (.int (x4 + 0)), some (.int (x5 + 1)), some (.int r8)] [] h7 else dn 28 16 [some (.ref x0), some (.int x1), some (.int x2), some (.int (x3 + r8)), some (.int (x4 + 1)), some (.int (x5 + 1)), some (.int r8)] [] h7)) else none))) := by
  refine (dq rfl rfl).trans ?_
  refine (dq rfl rfl).trans ?_
  refine (dq_igt rfl).trans (ie_c ?_ ?_)
  · refine (dq rfl rfl).trans ?_
    refine (dq_getR rfl).trans (bn_c (fun a1 => ?_))
    refine (dq_kxr (z := 189) rfl (lq rfl) (lq rfl) (lq rfl) kd_189).trans (it_c (kxr_c (fun r3 h2 => ?_)))
    refine (dq rfl rfl).trans ?_
    refine (dq_kxr (z := 190) rfl (lq rfl) (lq rfl) (lq rfl) kd_190).trans (it_c (kxr_c (fun r5 h4 => ?_)))
    refine (dq rfl rfl).trans ?_
    refine (dq rfl rfl).trans ?_
    exact dq_ret1 rfl
  · refine (dq rfl rfl).trans ?_
    refine (dq_getR rfl).trans (bn_c (fun a6 => ?_))
    refine (dq rfl rfl).trans ?_
    refine (dq rfl rfl).trans ?_
    refine (dq_kxi (z := 201) rfl (lq rfl) (lq rfl) (lq rfl) kd_201).trans (it_c (kxi_c (fun r8 h7 => ?_)))
    refine (dq rfl rfl).trans ?_
    refine (dq rfl rfl).trans ?_
    refine (dq rfl rfl).trans ?_
    refine (dq rfl rfl).trans ?_
    refine (dq rfl rfl).trans ?_
    refine (dq rfl rfl).trans ?_
    refine (dq rfl rfl).trans ?_
    refine (dq_ifle rfl).trans (ie_c ?_ ?_)
    · refine (dq rfl rfl).trans ?_
      refine (dq rfl rfl).trans ?_
      refine (dq rfl rfl).trans ?_
      refine (dq_iinc (v := 1) rfl rfl (by decide)).trans ?_
      refine (dq rfl rfl).trans ?_
      rfl
    · refine (dq rfl rfl).trans ?_
      refine (dq rfl rfl).trans ?_
      refine (dq rfl rfl).trans ?_
      refine (dq rfl rfl).trans ?_
      refine (dq_iinc (v := 1) rfl rfl (by decide)).trans ?_
      refine (dq rfl rfl).trans ?_
      rfl
theorem q_29 (ab : Nat) (ac : Int32) (ad : Int32) (h : ia_H) : cl 29 [.ref ab, .int ac, .int ad] h = kxi (cl 50 [.int ac] h) (fun r2 h1 => (if r2 = 0 then some (some (.int (-1)), h1) else kxi (cl 49 [.int ad] h1) (fun r4 h3 => (if r4 = 0 then some (some (.int (-1)), h3) else ((ia_gR h3 0 ab 6).bind fun a5 => (if ia_ok h3 5 [.ref a5, .int ac, .int ad] = true then kxi (cl 211 [.ref a5, .int ac, .int ad] h3) (fun r7 h6 => ((ia_gR h6 0 ab 4).bind fun a8 => (if ia_ok h6 4 [.ref a8, .int ad, .int 2] = true then kxi (cl 195 [.ref a8, .int ad, .int 2] h6) (fun r10 h9 => ((ia_gR h9 0 ab 3).bind fun a11 => (if ia_ok h9 3 [.ref a11] = true then kxr (cl 189 [.ref a11] h9) (fun r13 h12 => (if (r10 - r7) ≤ 0 then (if ia_ok h12 3 [.ref r13, .int (-1)] = true then kxr (cl 190 [.ref r13, .int (-1)] h12) (fun r15 h14 => some (some (.int r7), h14)) else none) else (if ia_ok h12 3 [.ref r13, .int (r10 - r7)] = true then kxr (cl 190 [.ref r13, .int (r10 - r7)] h12) (fun r17 h16 => some (some (.int r7), h16)) else none))) else none))) else none))) else none)))))) := by
  refine (dq rfl rfl).trans ?_
  refine (dq_kxi0 (z := 50) rfl (lq rfl) (lq rfl) (lq rfl) kd_50).trans (kxi_c (fun r2 h1 => ?_))
  refine (dq_ifeq rfl).trans (ie_c ?_ ?_)
  · refine (dq rfl rfl).trans ?_
    exact dq_ret1 rfl
  · refine (dq rfl rfl).trans ?_
    refine (dq_kxi0 (z := 49) rfl (lq rfl) (lq rfl) (lq rfl) kd_49).trans (kxi_c (fun r4 h3 => ?_))
    refine (dq_ifne rfl).trans (ie_c ?_ ?_)
    · refine (dq rfl rfl).trans ?_
      exact dq_ret1 rfl
    · refine (dq rfl rfl).trans ?_
      refine (dq_getR rfl).trans (bn_c (fun a5 => ?_))
      refine (dq rfl rfl).trans ?_
      refine (dq rfl rfl).trans ?_
      refine (dq_kxi (z := 211) rfl (lq rfl) (lq rfl) (lq rfl) kd_211).trans (it_c (kxi_c (fun r7 h6 => ?_)))
      refine (dq rfl rfl).trans ?_
      refine (dq rfl rfl).trans ?_
      refine (dq_getR rfl).trans (bn_c (fun a8 => ?_))
      refine (dq rfl rfl).trans ?_
      refine (dq rfl rfl).trans ?_
      refine (dq_kxi (z := 195) rfl (lq rfl) (lq rfl) (lq rfl) kd_195).trans (it_c (kxi_c (fun r10 h9 => ?_)))
      refine (dq rfl rfl).trans ?_
      refine (dq rfl rfl).trans ?_
      refine (dq rfl rfl).trans ?_
      refine (dq rfl rfl).trans ?_
      refine (dq_getR rfl).trans (bn_c (fun a11 => ?_))
      refine (dq_kxr (z := 189) rfl (lq rfl) (lq rfl) (lq rfl) kd_189).trans (it_c (kxr_c (fun r13 h12 => ?_)))
      refine (dq rfl rfl).trans ?_
      refine (dq_ifle rfl).trans (ie_c ?_ ?_)
      · refine (dq rfl rfl).trans ?_
        refine (dq_kxr (z := 190) rfl (lq rfl) (lq rfl) (lq rfl) kd_190).trans (it_c (kxr_c (fun r15 h14 => ?_)))
        refine (dq rfl rfl).trans ?_
        refine (dq rfl rfl).trans ?_
        exact dq_ret1 rfl
      · refine (dq rfl rfl).trans ?_
        refine (dq rfl rfl).trans ?_
        refine (dq_kxr (z := 190) rfl (lq rfl) (lq rfl) (lq rfl) kd_190).trans (it_c (kxr_c (fun r17 h16 => ?_)))
        refine (dq rfl rfl).trans ?_
        refine (dq rfl rfl).trans ?_
        exact dq_ret1 rfl
theorem q_30 (ab : Nat) (ac : Int32) (h : ia_H) : cl 30 [.ref ab, .int ac] h = (if ia_ok h 0 [.ref ab] = true then kxv (cl 65 [.ref ab] h) (fun h1 => ((ia_gR h1 0 ab 0).bind fun a2 => (if ia_ok h1 1 [.ref a2] = true then kxv (cl 243 [.ref a2] h1) (fun h3 => ((ia_gR h3 0 ab 0).bind fun a4 => (if ia_ok h3 1 [.ref a4] = true then kxi (cl 246 [.ref a4] h3) (fun r6 h5 => (if r6 = 0 then (if ia_ok h5 0 [.ref ab] = true then kxi (cl 58 [.ref ab] h5) (fun r13 h12 => some (some (.long (r13.toInt64)), h12)) else none) else (if ia_ok h5 0 [.ref ab, .int ac] = true then kxi (cl 52 [.ref ab, .int ac] h5) (fun r8 h7 => (if r8 = 0 then some (some (.long (-1)), h7) else ((ia_gR h7 0 ab 7).bind fun a9 => ((ia_gR h7 0 ab 6).bind fun a10 => (if ia_ok h7 5 [.ref a9, .ref a10] = true then kxv (cl 205 [.ref a9, .ref a10] h7) (fun h11 => dn 30 28 [some (.ref ab), some (.int ac), some (.long 0), none, some (.int 0)] [] h11) else none))))) else none))) else none))) else none))) else none) := by
  refine (dq rfl rfl).trans ?_
  refine (dq_kxv (z := 65) rfl (lq rfl) (lq rfl) (lq rfl) kd_65).trans (it_c (kxv_c (fun h1 => ?_)))
  refine (dq rfl rfl).trans ?_
  refine (dq_getR rfl).trans (bn_c (fun a2 => ?_))
  refine (dq_kxv (z := 243) rfl (lq rfl) (lq rfl) (lq rfl) kd_243).trans (it_c (kxv_c (fun h3 => ?_)))
  refine (dq rfl rfl).trans ?_
  refine (dq_getR rfl).trans (bn_c (fun a4 => ?_))
  refine (dq_kxi (z := 246) rfl (lq rfl) (lq rfl) (lq rfl) kd_246).trans (it_c (kxi_c (fun r6 h5 => ?_)))
  refine (dq_ifne rfl).trans (ie_c ?_ ?_)
  · refine (dq rfl rfl).trans ?_
    refine (dq_kxi (z := 58) rfl (lq rfl) (lq rfl) (lq rfl) kd_58).trans (it_c (kxi_c (fun r13 h12 => ?_)))
    refine (dq rfl rfl).trans ?_
    exact dq_ret3 rfl
  · refine (dq rfl rfl).trans ?_
    refine (dq rfl rfl).trans ?_
    refine (dq_kxi (z := 52) rfl (lq rfl) (lq rfl) (lq rfl) kd_52).trans (it_c (kxi_c (fun r8 h7 => ?_)))
    refine (dq_ifne rfl).trans (ie_c ?_ ?_)
    · refine (dq rfl rfl).trans ?_
      exact dq_ret3 rfl
    · refine (dq rfl rfl).trans ?_
      refine (dq_getR rfl).trans (bn_c (fun a9 => ?_))
      refine (dq rfl rfl).trans ?_
      refine (dq_getR rfl).trans (bn_c (fun a10 => ?_))
      refine (dq_kxv (z := 205) rfl (lq rfl) (lq rfl) (lq rfl) kd_205).trans (it_c (kxv_c (fun h11 => ?_)))
      refine (dq rfl rfl).trans ?_
      refine (dq rfl rfl).trans ?_
      refine (dq rfl rfl).trans ?_
      refine (dq rfl rfl).trans ?_
      rfl
theorem q_30_28 (x0 : Nat) (x1 : Int32) (x2 : Int64) (x4 : Int32) (h : ia_H) : dn 30 28 [some (.ref x0), some (.int x1), some (.long x2), none, some (.int x4)] [] h = ((ia_gR h 0 x0 2).bind fun a1 => ((ia_gI h 2 a1 1).bind fun v2 => (if v2 ≤ x4 then ((ia_gR h 0 x0 3).bind fun a3 => (if ia_ok h 3 [.ref a3] = true then kxr (cl 189 [.ref a3] h) (fun r5 h4 => kxi (cl 258 [.long x2] h4) (fun r7 h6 => (if ia_ok h6 3 [.ref r5, .int r7] = true then kxr (cl 190 [.ref r5, .int r7] h6) (fun r9 h8 => ((ia_gR h8 0 x0 7).bind fun a10 => (if ia_ok h8 5 [.ref a10, .int x1] = true then kxi (cl 225 [.ref a10, .int x1] h8) (fun r12 h11 => (if ia_ok h11 3 [.ref r9, .int r12] = true then kxr (cl 190 [.ref r9, .int r12] h11) (fun r14 h13 => some (some (.long x2), h13)) else none)) else none))) else none))) else none)) else ((ia_gR h 0 x0 7).bind fun a15 => ((ia_gR h 5 a15 4).bind fun a16 => ((ia_ld h 0 a16 x1).bind fun v17 => (if ia_ok h 0 [.ref x0, .int x4, .int v17] = true then kxi (cl 56 [.ref x0, .int x4, .int v17] h) (fun r19 h18 => (if r19 = 0 then dn 30 28 [some (.ref x0), some (.int x1), some (.long x2), none, some (.int (x4 + 1))] [] h18 else ((ia_gR h18 0 x0 7).bind fun a20 => ((ia_gR h18 0 x0 2).bind fun a21 => (if ia_ok h18 2 [.ref a21, .int x4] = true then kxi (cl 179 [.ref a21, .int x4] h18) (fun r23 h22 => (if ia_ok h22 5 [.ref a20, .int x1, .int r23] = true then kxi (cl 231 [.ref a20, .int x1, .int r23] h22) (fun r25 h24 => (if r25 = 0 then dn 30 28 [some (.ref x0), some (.int x1), some (.long x2), none, some (.int (x4 + 1))] [] h24 else dn 30 28 [some (.ref x0), some (.int x1), some (.long (x2 ||| ((1 : Int64) <<< (x4.toInt64 &&& 63)))), none, some (.int (x4 + 1))] [] h24)) else none)) else none))))) else none))))))) := by
  refine (dq rfl rfl).trans ?_
  refine (dq rfl rfl).trans ?_
  refine (dq_getR rfl).trans (bn_c (fun a1 => ?_))
  refine (dq_getI rfl).trans (bn_c (fun v2 => ?_))
  refine (dq_ige rfl).trans (ie_c ?_ ?_)
  · refine (dq rfl rfl).trans ?_
    refine (dq_getR rfl).trans (bn_c (fun a3 => ?_))
    refine (dq_kxr (z := 189) rfl (lq rfl) (lq rfl) (lq rfl) kd_189).trans (it_c (kxr_c (fun r5 h4 => ?_)))
    refine (dq rfl rfl).trans ?_
    refine (dq_kxi0 (z := 258) rfl (lq rfl) (lq rfl) (lq rfl) kd_258).trans (kxi_c (fun r7 h6 => ?_))
    refine (dq_kxr (z := 190) rfl (lq rfl) (lq rfl) (lq rfl) kd_190).trans (it_c (kxr_c (fun r9 h8 => ?_)))
    refine (dq rfl rfl).trans ?_
    refine (dq_getR rfl).trans (bn_c (fun a10 => ?_))
    refine (dq rfl rfl).trans ?_
    refine (dq_kxi (z := 225) rfl (lq rfl) (lq rfl) (lq rfl) kd_225).trans (it_c (kxi_c (fun r12 h11 => ?_)))
    refine (dq_kxr (z := 190) rfl (lq rfl) (lq rfl) (lq rfl) kd_190).trans (it_c (kxr_c (fun r14 h13 => ?_)))
    refine (dq rfl rfl).trans ?_
    refine (dq rfl rfl).trans ?_
    exact dq_ret3 rfl
  · refine (dq rfl rfl).trans ?_
    refine (dq rfl rfl).trans ?_
    refine (dq rfl rfl).trans ?_
    refine (dq_getR rfl).trans (bn_c (fun a15 => ?_))
    refine (dq_getR rfl).trans (bn_c (fun a16 => ?_))
    refine (dq rfl rfl).trans ?_
    refine (dq_iald rfl).trans (bn_c (fun v17 => ?_))
    refine (dq_kxi (z := 56) rfl (lq rfl) (lq rfl) (lq rfl) kd_56).trans (it_c (kxi_c (fun r19 h18 => ?_)))
    refine (dq_ifeq rfl).trans (ie_c ?_ ?_)
    · refine (dq_iinc (v := 1) rfl rfl (by decide)).trans ?_
      refine (dq rfl rfl).trans ?_
      rfl
    · refine (dq rfl rfl).trans ?_
      refine (dq_getR rfl).trans (bn_c (fun a20 => ?_))
      refine (dq rfl rfl).trans ?_
      refine (dq rfl rfl).trans ?_
      refine (dq_getR rfl).trans (bn_c (fun a21 => ?_))
      refine (dq rfl rfl).trans ?_
      refine (dq_kxi (z := 179) rfl (lq rfl) (lq rfl) (lq rfl) kd_179).trans (it_c (kxi_c (fun r23 h22 => ?_)))
      refine (dq_kxi (z := 231) rfl (lq rfl) (lq rfl) (lq rfl) kd_231).trans (it_c (kxi_c (fun r25 h24 => ?_)))
      refine (dq_ifeq rfl).trans (ie_c ?_ ?_)
      · refine (dq_iinc (v := 1) rfl rfl (by decide)).trans ?_
        refine (dq rfl rfl).trans ?_
        rfl
      · refine (dq rfl rfl).trans ?_
        refine (dq rfl rfl).trans ?_
        refine (dq rfl rfl).trans ?_
        refine (dq rfl rfl).trans ?_
        refine (dq rfl rfl).trans ?_
        refine (dq rfl rfl).trans ?_
        refine (dq_iinc (v := 1) rfl rfl (by decide)).trans ?_
        refine (dq rfl rfl).trans ?_
        rfl
theorem q_31 (ab : Nat) (ac : Int32) (h : ia_H) : cl 31 [.ref ab, .int ac] h = (if ia_ok h 0 [.ref ab] = true then kxv (cl 65 [.ref ab] h) (fun h1 => ((ia_gR h1 0 ab 0).bind fun a2 => (if ia_ok h1 1 [.ref a2] = true then kxv (cl 243 [.ref a2] h1) (fun h3 => ((ia_gR h3 0 ab 0).bind fun a4 => (if ia_ok h3 1 [.ref a4] = true then kxi (cl 246 [.ref a4] h3) (fun r6 h5 => (if r6 = 0 then (if ia_ok h5 0 [.ref ab] = true then kxi (cl 58 [.ref ab] h5) (fun r13 h12 => some (some (.int r13), h12)) else none) else (if ia_ok h5 0 [.ref ab, .int ac] = true then kxi (cl 52 [.ref ab, .int ac] h5) (fun r8 h7 => (if r8 = 0 then some (some (.int (-1)), h7) else ((ia_gR h7 0 ab 7).bind fun a9 => ((ia_gR h7 0 ab 6).bind fun a10 => (if ia_ok h7 5 [.ref a9, .ref a10] = true then kxv (cl 205 [.ref a9, .ref a10] h7) (fun h11 => dn 31 27 [some (.ref ab), some (.int ac), some (.int 0), some (.int 0)] [] h11) else none))))) else none))) else none))) else none))) else none) := by
  refine (dq rfl rfl).trans ?_
  refine (dq_kxv (z := 65) rfl (lq rfl) (lq rfl) (lq rfl) kd_65).trans (it_c (kxv_c (fun h1 => ?_)))
  refine (dq rfl rfl).trans ?_
  refine (dq_getR rfl).trans (bn_c (fun a2 => ?_))
  refine (dq_kxv (z := 243) rfl (lq rfl) (lq rfl) (lq rfl) kd_243).trans (it_c (kxv_c (fun h3 => ?_)))
  refine (dq rfl rfl).trans ?_
  refine (dq_getR rfl).trans (bn_c (fun a4 => ?_))
  refine (dq_kxi (z := 246) rfl (lq rfl) (lq rfl) (lq rfl) kd_246).trans (it_c (kxi_c (fun r6 h5 => ?_)))
  refine (dq_ifne rfl).trans (ie_c ?_ ?_)
  · refine (dq rfl rfl).trans ?_
    refine (dq_kxi (z := 58) rfl (lq rfl) (lq rfl) (lq rfl) kd_58).trans (it_c (kxi_c (fun r13 h12 => ?_)))
    exact dq_ret1 rfl
  · refine (dq rfl rfl).trans ?_
    refine (dq rfl rfl).trans ?_
    refine (dq_kxi (z := 52) rfl (lq rfl) (lq rfl) (lq rfl) kd_52).trans (it_c (kxi_c (fun r8 h7 => ?_)))
    refine (dq_ifne rfl).trans (ie_c ?_ ?_)
    · refine (dq rfl rfl).trans ?_
      exact dq_ret1 rfl
    · refine (dq rfl rfl).trans ?_
      refine (dq_getR rfl).trans (bn_c (fun a9 => ?_))
      refine (dq rfl rfl).trans ?_
      refine (dq_getR rfl).trans (bn_c (fun a10 => ?_))
      refine (dq_kxv (z := 205) rfl (lq rfl) (lq rfl) (lq rfl) kd_205).trans (it_c (kxv_c (fun h11 => ?_)))
      refine (dq rfl rfl).trans ?_
      refine (dq rfl rfl).trans ?_
      refine (dq rfl rfl).trans ?_
      refine (dq rfl rfl).trans ?_
      rfl
theorem q_31_27 (x0 : Nat) (x1 : Int32) (x2 : Int32) (x3 : Int32) (h : ia_H) : dn 31 27 [some (.ref x0), some (.int x1), some (.int x2), some (.int x3)] [] h = ((ia_gR h 0 x0 2).bind fun a1 => ((ia_gI h 2 a1 1).bind fun v2 => (if v2 ≤ x3 then some (some (.int (-2)), h) else ((ia_gR h 0 x0 7).bind fun a3 => ((ia_gR h 5 a3 4).bind fun a4 => ((ia_ld h 0 a4 x1).bind fun v5 => (if ia_ok h 0 [.ref x0, .int x3, .int v5] = true then kxi (cl 56 [.ref x0, .int x3, .int v5] h) (fun r7 h6 => (if r7 = 0 then dn 31 27 [some (.ref x0), some (.int x1), some (.int x2), some (.int (x3 + 1))] [] h6 else ((ia_gR h6 0 x0 7).bind fun a8 => ((ia_gR h6 0 x0 2).bind fun a9 => (if ia_ok h6 2 [.ref a9, .int x3] = true then kxi (cl 179 [.ref a9, .int x3] h6) (fun r11 h10 => (if ia_ok h10 5 [.ref a8, .int x1, .int r11] = true then kxi (cl 231 [.ref a8, .int x1, .int r11] h10) (fun r13 h12 => (if r13 = 0 then ((ia_gR h12 0 x0 3).bind fun a14 => (if ia_ok h12 3 [.ref a14] = true then kxr (cl 189 [.ref a14] h12) (fun r16 h15 => (if ia_ok h15 3 [.ref r16, .int x2] = true then kxr (cl 190 [.ref r16, .int x2] h15) (fun r18 h17 => some (some (.int x3), h17)) else none)) else none)) else dn 31 27 [some (.ref x0), some (.int x1), some (.int (x2 + 1)), some (.int (x3 + 1))] [] h12)) else none)) else none))))) else none))))))) := by
  refine (dq rfl rfl).trans ?_
  refine (dq rfl rfl).trans ?_
  refine (dq_getR rfl).trans (bn_c (fun a1 => ?_))
  refine (dq_getI rfl).trans (bn_c (fun v2 => ?_))
  refine (dq_ige rfl).trans (ie_c ?_ ?_)
  · refine (dq rfl rfl).trans ?_
    exact dq_ret1 rfl
  · refine (dq rfl rfl).trans ?_
    refine (dq rfl rfl).trans ?_
    refine (dq rfl rfl).trans ?_
    refine (dq_getR rfl).trans (bn_c (fun a3 => ?_))
    refine (dq_getR rfl).trans (bn_c (fun a4 => ?_))
    refine (dq rfl rfl).trans ?_
    refine (dq_iald rfl).trans (bn_c (fun v5 => ?_))
    refine (dq_kxi (z := 56) rfl (lq rfl) (lq rfl) (lq rfl) kd_56).trans (it_c (kxi_c (fun r7 h6 => ?_)))
    refine (dq_ifeq rfl).trans (ie_c ?_ ?_)
    · refine (dq_iinc (v := 1) rfl rfl (by decide)).trans ?_
      refine (dq rfl rfl).trans ?_
      rfl
    · refine (dq rfl rfl).trans ?_
      refine (dq_getR rfl).trans (bn_c (fun a8 => ?_))
      refine (dq rfl rfl).trans ?_
      refine (dq rfl rfl).trans ?_
      refine (dq_getR rfl).trans (bn_c (fun a9 => ?_))
      refine (dq rfl rfl).trans ?_
      refine (dq_kxi (z := 179) rfl (lq rfl) (lq rfl) (lq rfl) kd_179).trans (it_c (kxi_c (fun r11 h10 => ?_)))
      refine (dq_kxi (z := 231) rfl (lq rfl) (lq rfl) (lq rfl) kd_231).trans (it_c (kxi_c (fun r13 h12 => ?_)))
      refine (dq_ifne rfl).trans (ie_c ?_ ?_)
      · refine (dq rfl rfl).trans ?_
        refine (dq_getR rfl).trans (bn_c (fun a14 => ?_))
        refine (dq_kxr (z := 189) rfl (lq rfl) (lq rfl) (lq rfl) kd_189).trans (it_c (kxr_c (fun r16 h15 => ?_)))
        refine (dq rfl rfl).trans ?_
        refine (dq_kxr (z := 190) rfl (lq rfl) (lq rfl) (lq rfl) kd_190).trans (it_c (kxr_c (fun r18 h17 => ?_)))
        refine (dq rfl rfl).trans ?_
        refine (dq rfl rfl).trans ?_
        exact dq_ret1 rfl
      · refine (dq_iinc (v := 1) rfl rfl (by decide)).trans ?_
        refine (dq_iinc (v := 1) rfl rfl (by decide)).trans ?_
        refine (dq rfl rfl).trans ?_
        rfl
theorem q_32 (ab : Nat) (h : ia_H) : cl 32 [.ref ab] h = (if ia_ok h 0 [.ref ab] = true then kxv (cl 65 [.ref ab] h) (fun h1 => ((ia_gR h1 0 ab 0).bind fun a2 => (if ia_ok h1 1 [.ref a2] = true then kxv (cl 243 [.ref a2] h1) (fun h3 => ((ia_gR h3 0 ab 0).bind fun a4 => (if ia_ok h3 1 [.ref a4] = true then kxi (cl 246 [.ref a4] h3) (fun r6 h5 => (if r6 = 0 then (if ia_ok h5 0 [.ref ab] = true then kxi (cl 58 [.ref ab] h5) (fun r11 h10 => some (some (.int r11), h10)) else none) else ((ia_gR h5 0 ab 7).bind fun a7 => ((ia_gR h5 0 ab 6).bind fun a8 => (if ia_ok h5 5 [.ref a7, .ref a8] = true then kxv (cl 205 [.ref a7, .ref a8] h5) (fun h9 => dn 32 21 [some (.ref ab), some (.int 0), some (.int 0), none] [] h9) else none))))) else none))) else none))) else none) := by
  refine (dq rfl rfl).trans ?_
  refine (dq_kxv (z := 65) rfl (lq rfl) (lq rfl) (lq rfl) kd_65).trans (it_c (kxv_c (fun h1 => ?_)))
  refine (dq rfl rfl).trans ?_
  refine (dq_getR rfl).trans (bn_c (fun a2 => ?_))
  refine (dq_kxv (z := 243) rfl (lq rfl) (lq rfl) (lq rfl) kd_243).trans (it_c (kxv_c (fun h3 => ?_)))
  refine (dq rfl rfl).trans ?_
  refine (dq_getR rfl).trans (bn_c (fun a4 => ?_))
  refine (dq_kxi (z := 246) rfl (lq rfl) (lq rfl) (lq rfl) kd_246).trans (it_c (kxi_c (fun r6 h5 => ?_)))
  refine (dq_ifne rfl).trans (ie_c ?_ ?_)
  · refine (dq rfl rfl).trans ?_
    refine (dq_kxi (z := 58) rfl (lq rfl) (lq rfl) (lq rfl) kd_58).trans (it_c (kxi_c (fun r11 h10 => ?_)))
    exact dq_ret1 rfl
  · refine (dq rfl rfl).trans ?_
    refine (dq_getR rfl).trans (bn_c (fun a7 => ?_))
    refine (dq rfl rfl).trans ?_
    refine (dq_getR rfl).trans (bn_c (fun a8 => ?_))
    refine (dq_kxv (z := 205) rfl (lq rfl) (lq rfl) (lq rfl) kd_205).trans (it_c (kxv_c (fun h9 => ?_)))
    refine (dq rfl rfl).trans ?_
    refine (dq rfl rfl).trans ?_
    refine (dq rfl rfl).trans ?_
    refine (dq rfl rfl).trans ?_
    rfl
theorem q_32_21 (x0 : Nat) (x1 : Int32) (x2 : Int32) (l3 : Option Value) (h : ia_H) : dn 32 21 [some (.ref x0), some (.int x1), some (.int x2), l3] [] h = ((ia_gR h 0 x0 2).bind fun a1 => ((ia_gI h 2 a1 1).bind fun v2 => (if v2 ≤ x2 then ((ia_gR h 0 x0 3).bind fun a3 => (if ia_ok h 3 [.ref a3] = true then kxr (cl 189 [.ref a3] h) (fun r5 h4 => (if ia_ok h4 3 [.ref r5, .int x1] = true then kxr (cl 190 [.ref r5, .int x1] h4) (fun r7 h6 => ((ia_gR h6 0 x0 7).bind fun a8 => (if ia_ok h6 5 [.ref a8] = true then kxi (cl 228 [.ref a8] h6) (fun r10 h9 => (if ia_ok h9 3 [.ref r7, .int r10] = true then kxr (cl 190 [.ref r7, .int r10] h9) (fun r12 h11 => ((ia_gR h11 0 x0 7).bind fun a13 => (if ia_ok h11 5 [.ref a13] = true then kxi (cl 227 [.ref a13] h11) (fun r15 h14 => some (some (.int r15), h14)) else none))) else none)) else none))) else none)) else none)) else dn 32 28 [some (.ref x0), some (.int x1), some (.int x2), some (.int 0)] [] h))) := by
  refine (dq rfl rfl).trans ?_
  refine (dq rfl rfl).trans ?_
  refine (dq_getR rfl).trans (bn_c (fun a1 => ?_))
  refine (dq_getI rfl).trans (bn_c (fun v2 => ?_))
  refine (dq_ige rfl).trans (ie_c ?_ ?_)
  · refine (dq rfl rfl).trans ?_
    refine (dq_getR rfl).trans (bn_c (fun a3 => ?_))
    refine (dq_kxr (z := 189) rfl (lq rfl) (lq rfl) (lq rfl) kd_189).trans (it_c (kxr_c (fun r5 h4 => ?_)))
    refine (dq rfl rfl).trans ?_
    refine (dq_kxr (z := 190) rfl (lq rfl) (lq rfl) (lq rfl) kd_190).trans (it_c (kxr_c (fun r7 h6 => ?_)))
    refine (dq rfl rfl).trans ?_
    refine (dq_getR rfl).trans (bn_c (fun a8 => ?_))
    refine (dq_kxi (z := 228) rfl (lq rfl) (lq rfl) (lq rfl) kd_228).trans (it_c (kxi_c (fun r10 h9 => ?_)))
    refine (dq_kxr (z := 190) rfl (lq rfl) (lq rfl) (lq rfl) kd_190).trans (it_c (kxr_c (fun r12 h11 => ?_)))
    refine (dq rfl rfl).trans ?_
    refine (dq rfl rfl).trans ?_
    refine (dq_getR rfl).trans (bn_c (fun a13 => ?_))
    refine (dq_kxi (z := 227) rfl (lq rfl) (lq rfl) (lq rfl) kd_227).trans (it_c (kxi_c (fun r15 h14 => ?_)))
    exact dq_ret1 rfl
  · refine (dq rfl rfl).trans ?_
    refine (dq rfl rfl).trans ?_
    rfl
theorem q_32_28 (x0 : Nat) (x1 : Int32) (x2 : Int32) (x3 : Int32) (h : ia_H) : dn 32 28 [some (.ref x0), some (.int x1), some (.int x2), some (.int x3)] [] h = ((ia_gR h 0 x0 7).bind fun a1 => ((ia_gI h 5 a1 0).bind fun v2 => (if v2 ≤ x3 then dn 32 21 [some (.ref x0), some (.int x1), some (.int (x2 + 1)), some (.int x3)] [] h else ((ia_gR h 0 x0 7).bind fun a3 => ((ia_gR h 5 a3 4).bind fun a4 => ((ia_ld h 0 a4 x3).bind fun v5 => (if ia_ok h 0 [.ref x0, .int x2, .int v5] = true then kxi (cl 56 [.ref x0, .int x2, .int v5] h) (fun r7 h6 => (if r7 = 0 then dn 32 28 [some (.ref x0), some (.int x1), some (.int x2), some (.int (x3 + 1))] [] h6 else ((ia_gR h6 0 x0 7).bind fun a8 => ((ia_gR h6 0 x0 2).bind fun a9 => (if ia_ok h6 2 [.ref a9, .int x2] = true then kxi (cl 179 [.ref a9, .int x2] h6) (fun r11 h10 => (if ia_ok h10 5 [.ref a8, .int x3, .int r11] = true then kxi (cl 231 [.ref a8, .int x3, .int r11] h10) (fun r13 h12 => (if r13 = 0 then dn 32 28 [some (.ref x0), some (.int x1), some (.int x2), some (.int (x3 + 1))] [] h12 else dn 32 28 [some (.ref x0), some (.int (x1 + 1)), some (.int x2), some (.int (x3 + 1))] [] h12)) else none)) else none))))) else none))))))) := by
  refine (dq rfl rfl).trans ?_
  refine (dq rfl rfl).trans ?_
  refine (dq_getR rfl).trans (bn_c (fun a1 => ?_))
  refine (dq_getI rfl).trans (bn_c (fun v2 => ?_))
  refine (dq_ige rfl).trans (ie_c ?_ ?_)
  · refine (dq_iinc (v := 1) rfl rfl (by decide)).trans ?_
    refine (dq rfl rfl).trans ?_
    rfl
  · refine (dq rfl rfl).trans ?_
    refine (dq rfl rfl).trans ?_
    refine (dq rfl rfl).trans ?_
    refine (dq_getR rfl).trans (bn_c (fun a3 => ?_))
    refine (dq_getR rfl).trans (bn_c (fun a4 => ?_))
    refine (dq rfl rfl).trans ?_
    refine (dq_iald rfl).trans (bn_c (fun v5 => ?_))
    refine (dq_kxi (z := 56) rfl (lq rfl) (lq rfl) (lq rfl) kd_56).trans (it_c (kxi_c (fun r7 h6 => ?_)))
    refine (dq_ifeq rfl).trans (ie_c ?_ ?_)
    · refine (dq_iinc (v := 1) rfl rfl (by decide)).trans ?_
      refine (dq rfl rfl).trans ?_
      rfl
    · refine (dq rfl rfl).trans ?_
      refine (dq_getR rfl).trans (bn_c (fun a8 => ?_))
      refine (dq rfl rfl).trans ?_
      refine (dq rfl rfl).trans ?_
      refine (dq_getR rfl).trans (bn_c (fun a9 => ?_))
      refine (dq rfl rfl).trans ?_
      refine (dq_kxi (z := 179) rfl (lq rfl) (lq rfl) (lq rfl) kd_179).trans (it_c (kxi_c (fun r11 h10 => ?_)))
      refine (dq_kxi (z := 231) rfl (lq rfl) (lq rfl) (lq rfl) kd_231).trans (it_c (kxi_c (fun r13 h12 => ?_)))
      refine (dq_ifeq rfl).trans (ie_c ?_ ?_)
      · refine (dq_iinc (v := 1) rfl rfl (by decide)).trans ?_
        refine (dq rfl rfl).trans ?_
        rfl
      · refine (dq_iinc (v := 1) rfl rfl (by decide)).trans ?_
        refine (dq_iinc (v := 1) rfl rfl (by decide)).trans ?_
        refine (dq rfl rfl).trans ?_
        rfl
theorem q_33 (ab : Nat) (ac : Int32) (ad : Int32) (h : ia_H) : cl 33 [.ref ab, .int ac, .int ad] h = (if ia_ok h 0 [.ref ab, .int ac] = true then kxi (cl 53 [.ref ab, .int ac] h) (fun r2 h1 => (if r2 = 0 then some (some (.int (-1)), h1) else (if ad < 0 then some (some (.int (-1)), h1) else (if ad < 8 then ((ia_gR h1 0 ab 6).bind fun a3 => (if ia_ok h1 5 [.ref a3, .int ac, .int ad] = true then kxi (cl 216 [.ref a3, .int ac, .int ad] h1) (fun r5 h4 => some (some (.int r5), h4)) else none)) else some (some (.int (-1)), h1))))) else none) := by
  refine (dq rfl rfl).trans ?_
  refine (dq rfl rfl).trans ?_
  refine (dq_kxi (z := 53) rfl (lq rfl) (lq rfl) (lq rfl) kd_53).trans (it_c (kxi_c (fun r2 h1 => ?_)))
  refine (dq_ifeq rfl).trans (ie_c ?_ ?_)
  · refine (dq rfl rfl).trans ?_
    exact dq_ret1 rfl
  · refine (dq rfl rfl).trans ?_
    refine (dq_iflt rfl).trans (ie_c ?_ ?_)
    · refine (dq rfl rfl).trans ?_
      exact dq_ret1 rfl
    · refine (dq rfl rfl).trans ?_
      refine (dq rfl rfl).trans ?_
      refine (dq_ilt rfl).trans (ie_c ?_ ?_)
      · refine (dq rfl rfl).trans ?_
        refine (dq_getR rfl).trans (bn_c (fun a3 => ?_))
        refine (dq rfl rfl).trans ?_
        refine (dq rfl rfl).trans ?_
        refine (dq_kxi (z := 216) rfl (lq rfl) (lq rfl) (lq rfl) kd_216).trans (it_c (kxi_c (fun r5 h4 => ?_)))
        exact dq_ret1 rfl
      · refine (dq rfl rfl).trans ?_
        exact dq_ret1 rfl
theorem q_34 (ab : Nat) (ac : Int32) (h : ia_H) : cl 34 [.ref ab, .int ac] h = (if ia_ok h 0 [.ref ab, .int ac] = true then kxi (cl 52 [.ref ab, .int ac] h) (fun r2 h1 => (if r2 = 0 then some (some (.int (-1)), h1) else ((ia_gR h1 0 ab 3).bind fun a3 => (if ia_ok h1 3 [.ref a3] = true then kxr (cl 189 [.ref a3] h1) (fun r5 h4 => dn 34 12 [some (.ref ab), some (.int ac), some (.int 0)] [] h4) else none)))) else none) := by
  refine (dq rfl rfl).trans ?_
  refine (dq rfl rfl).trans ?_
  refine (dq_kxi (z := 52) rfl (lq rfl) (lq rfl) (lq rfl) kd_52).trans (it_c (kxi_c (fun r2 h1 => ?_)))
  refine (dq_ifne rfl).trans (ie_c ?_ ?_)
  · refine (dq rfl rfl).trans ?_
    exact dq_ret1 rfl
  · refine (dq rfl rfl).trans ?_
    refine (dq_getR rfl).trans (bn_c (fun a3 => ?_))
    refine (dq_kxr (z := 189) rfl (lq rfl) (lq rfl) (lq rfl) kd_189).trans (it_c (kxr_c (fun r5 h4 => ?_)))
    refine (dq rfl rfl).trans ?_
    refine (dq rfl rfl).trans ?_
    refine (dq rfl rfl).trans ?_
    rfl
theorem q_34_12 (x0 : Nat) (x1 : Int32) (x2 : Int32) (h : ia_H) : dn 34 12 [some (.ref x0), some (.int x1), some (.int x2)] [] h = ((ia_gR h 0 x0 6).bind fun a1 => ((ia_gI h 5 a1 2).bind fun v2 => (if v2 ≤ x2 then ((ia_gR h 0 x0 3).bind fun a3 => ((ia_gI h 3 a3 1).bind fun v4 => some (some (.int v4), h))) else ((ia_gR h 0 x0 6).bind fun a5 => (if ia_ok h 5 [.ref a5, .int x2, .int 0] = true then kxi (cl 216 [.ref a5, .int x2, .int 0] h) (fun r7 h6 => (if r7 = x1 then ((ia_gR h6 0 x0 6).bind fun a8 => (if ia_ok h6 5 [.ref a8, .int x2] = true then kxi (cl 218 [.ref a8, .int x2] h6) (fun r10 h9 => (if r10 = 0 then dn 34 12 [some (.ref x0), some (.int x1), some (.int (x2 + 1))] [] h9 else ((ia_gR h9 0 x0 3).bind fun a11 => (if ia_ok h9 3 [.ref a11, .int x2] = true then kxr (cl 190 [.ref a11, .int x2] h9) (fun r13 h12 => dn 34 12 [some (.ref x0), some (.int x1), some (.int (x2 + 1))] [] h12) else none)))) else none)) else dn 34 12 [some (.ref x0), some (.int x1), some (.int (x2 + 1))] [] h6)) else none))))) := by
  refine (dq rfl rfl).trans ?_
  refine (dq rfl rfl).trans ?_
  refine (dq_getR rfl).trans (bn_c (fun a1 => ?_))
  refine (dq_getI rfl).trans (bn_c (fun v2 => ?_))
  refine (dq_ige rfl).trans (ie_c ?_ ?_)
  · refine (dq rfl rfl).trans ?_
    refine (dq_getR rfl).trans (bn_c (fun a3 => ?_))
    refine (dq_getI rfl).trans (bn_c (fun v4 => ?_))
    exact dq_ret1 rfl
  · refine (dq rfl rfl).trans ?_
    refine (dq_getR rfl).trans (bn_c (fun a5 => ?_))
    refine (dq rfl rfl).trans ?_
    refine (dq rfl rfl).trans ?_
    refine (dq_kxi (z := 216) rfl (lq rfl) (lq rfl) (lq rfl) kd_216).trans (it_c (kxi_c (fun r7 h6 => ?_)))
    refine (dq rfl rfl).trans ?_
    refine (dq_ine rfl).trans (ie_c ?_ ?_)
    · refine (dq rfl rfl).trans ?_
      refine (dq_getR rfl).trans (bn_c (fun a8 => ?_))
      refine (dq rfl rfl).trans ?_
      refine (dq_kxi (z := 218) rfl (lq rfl) (lq rfl) (lq rfl) kd_218).trans (it_c (kxi_c (fun r10 h9 => ?_)))
      refine (dq_ifeq rfl).trans (ie_c ?_ ?_)
      · refine (dq_iinc (v := 1) rfl rfl (by decide)).trans ?_
        refine (dq rfl rfl).trans ?_
        rfl
      · refine (dq rfl rfl).trans ?_
        refine (dq_getR rfl).trans (bn_c (fun a11 => ?_))
        refine (dq rfl rfl).trans ?_
        refine (dq_kxr (z := 190) rfl (lq rfl) (lq rfl) (lq rfl) kd_190).trans (it_c (kxr_c (fun r13 h12 => ?_)))
        refine (dq rfl rfl).trans ?_
        refine (dq_iinc (v := 1) rfl rfl (by decide)).trans ?_
        refine (dq rfl rfl).trans ?_
        rfl
    · refine (dq_iinc (v := 1) rfl rfl (by decide)).trans ?_
      refine (dq rfl rfl).trans ?_
      rfl
theorem q_35 (ab : Nat) (ac : Int32) (ad : Int32) (h : ia_H) : cl 35 [.ref ab, .int ac, .int ad] h = (if ia_ok h 0 [.ref ab, .int ac] = true then kxi (cl 52 [.ref ab, .int ac] h) (fun r2 h1 => (if r2 = 0 then some (some (.int (-1)), h1) else kxi (cl 49 [.int ad] h1) (fun r4 h3 => (if r4 = 0 then some (some (.int (-1)), h3) else dn 35 11 [some (.ref ab), some (.int ac), some (.int ad), some (.int 0)] [] h3)))) else none) := by
  refine (dq rfl rfl).trans ?_
  refine (dq rfl rfl).trans ?_
  refine (dq_kxi (z := 52) rfl (lq rfl) (lq rfl) (lq rfl) kd_52).trans (it_c (kxi_c (fun r2 h1 => ?_)))
  refine (dq_ifeq rfl).trans (ie_c ?_ ?_)
  · refine (dq rfl rfl).trans ?_
    exact dq_ret1 rfl
  · refine (dq rfl rfl).trans ?_
    refine (dq_kxi0 (z := 49) rfl (lq rfl) (lq rfl) (lq rfl) kd_49).trans (kxi_c (fun r4 h3 => ?_))
    refine (dq_ifne rfl).trans (ie_c ?_ ?_)
    · refine (dq rfl rfl).trans ?_
      exact dq_ret1 rfl
    · refine (dq rfl rfl).trans ?_
      refine (dq rfl rfl).trans ?_
      rfl
theorem q_35_11 (x0 : Nat) (x1 : Int32) (x2 : Int32) (x3 : Int32) (h : ia_H) : dn 35 11 [some (.ref x0), some (.int x1), some (.int x2), some (.int x3)] [] h = ((ia_gR h 0 x0 6).bind fun a1 => ((ia_gI h 5 a1 2).bind fun v2 => (if v2 ≤ x3 then ((ia_gR h 0 x0 3).bind fun a3 => (if ia_ok h 3 [.ref a3] = true then kxr (cl 189 [.ref a3] h) (fun r5 h4 => dn 35 39 [some (.ref x0), some (.int x1), some (.int x2), some (.int 0)] [] h4) else none)) else ((ia_gR h 0 x0 6).bind fun a6 => (if ia_ok h 5 [.ref a6, .int x3, .int x1, .int x2] = true then kxi (cl 221 [.ref a6, .int x3, .int x1, .int x2] h) (fun r8 h7 => (if r8 = 0 then dn 35 11 [some (.ref x0), some (.int x1), some (.int x2), some (.int (x3 + 1))] [] h7 else ((ia_gR h7 0 x0 6).bind fun a9 => (if ia_ok h7 5 [.ref a9, .int x3, .int 4] = true then kxi (cl 216 [.ref a9, .int x3, .int 4] h7) (fun r11 h10 => (if r11 = 0 then dn 35 11 [some (.ref x0), some (.int x1), some (.int x2), some (.int (x3 + 1))] [] h10 else some (some (.int (-2)), h10))) else none)))) else none))))) := by
  refine (dq rfl rfl).trans ?_
  refine (dq rfl rfl).trans ?_
  refine (dq_getR rfl).trans (bn_c (fun a1 => ?_))
  refine (dq_getI rfl).trans (bn_c (fun v2 => ?_))
  refine (dq_ige rfl).trans (ie_c ?_ ?_)
  · refine (dq rfl rfl).trans ?_
    refine (dq_getR rfl).trans (bn_c (fun a3 => ?_))
    refine (dq_kxr (z := 189) rfl (lq rfl) (lq rfl) (lq rfl) kd_189).trans (it_c (kxr_c (fun r5 h4 => ?_)))
    refine (dq rfl rfl).trans ?_
    refine (dq rfl rfl).trans ?_
    refine (dq rfl rfl).trans ?_
    rfl
  · refine (dq rfl rfl).trans ?_
    refine (dq_getR rfl).trans (bn_c (fun a6 => ?_))
    refine (dq rfl rfl).trans ?_
    refine (dq rfl rfl).trans ?_
    refine (dq rfl rfl).trans ?_
    refine (dq_kxi (z := 221) rfl (lq rfl) (lq rfl) (lq rfl) kd_221).trans (it_c (kxi_c (fun r8 h7 => ?_)))
    refine (dq_ifeq rfl).trans (ie_c ?_ ?_)
    · refine (dq_iinc (v := 1) rfl rfl (by decide)).trans ?_
      refine (dq rfl rfl).trans ?_
      rfl
    · refine (dq rfl rfl).trans ?_
      refine (dq_getR rfl).trans (bn_c (fun a9 => ?_))
      refine (dq rfl rfl).trans ?_
      refine (dq rfl rfl).trans ?_
      refine (dq_kxi (z := 216) rfl (lq rfl) (lq rfl) (lq rfl) kd_216).trans (it_c (kxi_c (fun r11 h10 => ?_)))
      refine (dq_ifeq rfl).trans (ie_c ?_ ?_)
      · refine (dq_iinc (v := 1) rfl rfl (by decide)).trans ?_
        refine (dq rfl rfl).trans ?_
        rfl
      · refine (dq rfl rfl).trans ?_
        exact dq_ret1 rfl
theorem q_35_39 (x0 : Nat) (x1 : Int32) (x2 : Int32) (x3 : Int32) (h : ia_H) : dn 35 39 [some (.ref x0), some (.int x1), some (.int x2), some (.int x3)] [] h = ((ia_gR h 0 x0 6).bind fun a1 => ((ia_gI h 5 a1 2).bind fun v2 => (if v2 ≤ x3 then ((ia_gR h 0 x0 3).bind fun a3 => ((ia_gI h 3 a3 1).bind fun v4 => some (some (.int v4), h))) else ((ia_gR h 0 x0 6).bind fun a5 => (if ia_ok h 5 [.ref a5, .int x3, .int x1, .int x2] = true then kxi (cl 221 [.ref a5, .int x3, .int x1, .int x2] h) (fun r7 h6 => (if r7 = 0 then dn 35 39 [some (.ref x0), some (.int x1), some (.int x2), some (.int (x3 + 1))] [] h6 else ((ia_gR h6 0 x0 3).bind fun a8 => (if ia_ok h6 3 [.ref a8, .int x3] = true then kxr (cl 190 [.ref a8, .int x3] h6) (fun r10 h9 => dn 35 39 [some (.ref x0), some (.int x1), some (.int x2), some (.int (x3 + 1))] [] h9) else none)))) else none))))) := by
  refine (dq rfl rfl).trans ?_
  refine (dq rfl rfl).trans ?_
  refine (dq_getR rfl).trans (bn_c (fun a1 => ?_))
  refine (dq_getI rfl).trans (bn_c (fun v2 => ?_))
  refine (dq_ige rfl).trans (ie_c ?_ ?_)
  · refine (dq rfl rfl).trans ?_
    refine (dq_getR rfl).trans (bn_c (fun a3 => ?_))
    refine (dq_getI rfl).trans (bn_c (fun v4 => ?_))
    exact dq_ret1 rfl
  · refine (dq rfl rfl).trans ?_
    refine (dq_getR rfl).trans (bn_c (fun a5 => ?_))
    refine (dq rfl rfl).trans ?_
    refine (dq rfl rfl).trans ?_
    refine (dq rfl rfl).trans ?_
    refine (dq_kxi (z := 221) rfl (lq rfl) (lq rfl) (lq rfl) kd_221).trans (it_c (kxi_c (fun r7 h6 => ?_)))
    refine (dq_ifeq rfl).trans (ie_c ?_ ?_)
    · refine (dq_iinc (v := 1) rfl rfl (by decide)).trans ?_
      refine (dq rfl rfl).trans ?_
      rfl
    · refine (dq rfl rfl).trans ?_
      refine (dq_getR rfl).trans (bn_c (fun a8 => ?_))
      refine (dq rfl rfl).trans ?_
      refine (dq_kxr (z := 190) rfl (lq rfl) (lq rfl) (lq rfl) kd_190).trans (it_c (kxr_c (fun r10 h9 => ?_)))
      refine (dq rfl rfl).trans ?_
      refine (dq_iinc (v := 1) rfl rfl (by decide)).trans ?_
      refine (dq rfl rfl).trans ?_
      rfl
theorem q_36 (ab : Nat) (ac : Int32) (h : ia_H) : cl 36 [.ref ab, .int ac] h = kxi (cl 49 [.int ac] h) (fun r2 h1 => (if r2 = 0 then some (some (.int (-1)), h1) else dn 36 15 [some (.ref ab), some (.int ac), some (.int 0), some (.int 0), some (.int 0), some (.int 0), some (.int 0)] [] h1)) := by
  refine (dq rfl rfl).trans ?_
  refine (dq_kxi0 (z := 49) rfl (lq rfl) (lq rfl) (lq rfl) kd_49).trans (kxi_c (fun r2 h1 => ?_))
  refine (dq_ifne rfl).trans (ie_c ?_ ?_)
  · refine (dq rfl rfl).trans ?_
    exact dq_ret1 rfl
  · refine (dq rfl rfl).trans ?_
    refine (dq rfl rfl).trans ?_
    refine (dq rfl rfl).trans ?_
    refine (dq rfl rfl).trans ?_
    refine (dq rfl rfl).trans ?_
    refine (dq rfl rfl).trans ?_
    refine (dq rfl rfl).trans ?_
    refine (dq rfl rfl).trans ?_
    refine (dq rfl rfl).trans ?_
    refine (dq rfl rfl).trans ?_
    rfl
theorem q_36_15 (x0 : Nat) (x1 : Int32) (x2 : Int32) (x3 : Int32) (x4 : Int32) (x5 : Int32) (x6 : Int32) (h : ia_H) : dn 36 15 [some (.ref x0), some (.int x1), some (.int x2), some (.int x3), some (.int x4), some (.int x5), some (.int x6)] [] h = ((ia_gR h 0 x0 6).bind fun a1 => ((ia_gI h 5 a1 2).bind fun v2 => (if v2 ≤ x6 then ((ia_gR h 0 x0 3).bind fun a3 => (if ia_ok h 3 [.ref a3] = true then kxr (cl 189 [.ref a3] h) (fun r5 h4 => (if ia_ok h4 3 [.ref r5, .int x3] = true then kxr (cl 190 [.ref r5, .int x3] h4) (fun r7 h6 => (if ia_ok h6 3 [.ref r7, .int x4] = true then kxr (cl 190 [.ref r7, .int x4] h6) (fun r9 h8 => (if ia_ok h8 3 [.ref r9, .int x5] = true then kxr (cl 190 [.ref r9, .int x5] h8) (fun r11 h10 => some (some (.int x2), h10)) else none)) else none)) else none)) else none)) else ((ia_gR h 0 x0 6).bind fun a12 => (if ia_ok h 5 [.ref a12, .int x6, .int 1] = true then kxi (cl 216 [.ref a12, .int x6, .int 1] h) (fun r14 h13 => (if r14 = x1 then ((ia_gR h13 0 x0 6).bind fun a15 => (if ia_ok h13 5 [.ref a15, .int x6] = true then kxi (cl 218 [.ref a15, .int x6] h13) (fun r17 h16 => (if r17 = 0 then dn 36 37 [some (.ref x0), some (.int x1), some (.int (x2 + 1)), some (.int x3), some (.int x4), some (.int x5), some (.int x6)] [.int 0, .int x3] h16 else dn 36 37 [some (.ref x0), some (.int x1), some (.int (x2 + 1)), some (.int x3), some (.int x4), some (.int x5), some (.int x6)] [.int 1, .int x3] h16)) else none)) else dn 36 15 [some (.ref x0), some (.int x1), some (.int x2), some (.int x3), some (.int x4), some (.int x5), some (.int (x6 + 1))] [] h13)) else none))))) := by
  refine (dq rfl rfl).trans ?_
  refine (dq rfl rfl).trans ?_
  refine (dq_getR rfl).trans (bn_c (fun a1 => ?_))
  refine (dq_getI rfl).trans (bn_c (fun v2 => ?_))
  refine (dq_ige rfl).trans (ie_c ?_ ?_)
  · refine (dq rfl rfl).trans ?_
    refine (dq_getR rfl).trans (bn_c (fun a3 => ?_))
    refine (dq_kxr (z := 189) rfl (lq rfl) (lq rfl) (lq rfl) kd_189).trans (it_c (kxr_c (fun r5 h4 => ?_)))
    refine (dq rfl rfl).trans ?_
    refine (dq_kxr (z := 190) rfl (lq rfl) (lq rfl) (lq rfl) kd_190).trans (it_c (kxr_c (fun r7 h6 => ?_)))
    refine (dq rfl rfl).trans ?_
    refine (dq_kxr (z := 190) rfl (lq rfl) (lq rfl) (lq rfl) kd_190).trans (it_c (kxr_c (fun r9 h8 => ?_)))
    refine (dq rfl rfl).trans ?_
    refine (dq_kxr (z := 190) rfl (lq rfl) (lq rfl) (lq rfl) kd_190).trans (it_c (kxr_c (fun r11 h10 => ?_)))
    refine (dq rfl rfl).trans ?_
    refine (dq rfl rfl).trans ?_
    exact dq_ret1 rfl
  · refine (dq rfl rfl).trans ?_
    refine (dq_getR rfl).trans (bn_c (fun a12 => ?_))
    refine (dq rfl rfl).trans ?_
    refine (dq rfl rfl).trans ?_
    refine (dq_kxi (z := 216) rfl (lq rfl) (lq rfl) (lq rfl) kd_216).trans (it_c (kxi_c (fun r14 h13 => ?_)))
    refine (dq rfl rfl).trans ?_
    refine (dq_ine rfl).trans (ie_c ?_ ?_)
    · refine (dq_iinc (v := 1) rfl rfl (by decide)).trans ?_
      refine (dq rfl rfl).trans ?_
      refine (dq rfl rfl).trans ?_
      refine (dq_getR rfl).trans (bn_c (fun a15 => ?_))
      refine (dq rfl rfl).trans ?_
      refine (dq_kxi (z := 218) rfl (lq rfl) (lq rfl) (lq rfl) kd_218).trans (it_c (kxi_c (fun r17 h16 => ?_)))
      refine (dq_ifeq rfl).trans (ie_c ?_ ?_)
      · refine (dq rfl rfl).trans ?_
        rfl
      · refine (dq rfl rfl).trans ?_
        refine (dq rfl rfl).trans ?_
        rfl
    · refine (dq_iinc (v := 1) rfl rfl (by decide)).trans ?_
      refine (dq rfl rfl).trans ?_
      rfl
theorem q_36_37 (x0 : Nat) (x1 : Int32) (x2 : Int32) (x3 : Int32) (x4 : Int32) (x5 : Int32) (x6 : Int32) (s0 : Int32) (s1 : Int32) (h : ia_H) : dn 36 37 [some (.ref x0), some (.int x1), some (.int x2), some (.int x3), some (.int x4), some (.int x5), some (.int x6)] [.int s1, .int s0] h = ((ia_gR h 0 x0 6).bind fun a1 => (if ia_ok h 5 [.ref a1, .int x6, .int 5] = true then kxi (cl 216 [.ref a1, .int x6, .int 5] h) (fun r3 h2 => ((ia_gR h2 0 x0 6).bind fun a4 => (if ia_ok h2 5 [.ref a4, .int x6, .int 7] = true then kxi (cl 216 [.ref a4, .int x6, .int 7] h2) (fun r6 h5 => dn 36 15 [some (.ref x0), some (.int x1), some (.int x2), some (.int (s0 + s1)), some (.int (x4 + r3)), some (.int (x5 + r6)), some (.int (x6 + 1))] [] h5) else none))) else none)) := by
  refine (dq rfl rfl).trans ?_
  refine (dq rfl rfl).trans ?_
  refine (dq rfl rfl).trans ?_
  refine (dq rfl rfl).trans ?_
  refine (dq_getR rfl).trans (bn_c (fun a1 => ?_))
  refine (dq rfl rfl).trans ?_
  refine (dq rfl rfl).trans ?_
  refine (dq_kxi (z := 216) rfl (lq rfl) (lq rfl) (lq rfl) kd_216).trans (it_c (kxi_c (fun r3 h2 => ?_)))
  refine (dq rfl rfl).trans ?_
  refine (dq rfl rfl).trans ?_
  refine (dq rfl rfl).trans ?_
  refine (dq rfl rfl).trans ?_
  refine (dq_getR rfl).trans (bn_c (fun a4 => ?_))
  refine (dq rfl rfl).trans ?_
  refine (dq rfl rfl).trans ?_
  refine (dq_kxi (z := 216) rfl (lq rfl) (lq rfl) (lq rfl) kd_216).trans (it_c (kxi_c (fun r6 h5 => ?_)))
  refine (dq rfl rfl).trans ?_
  refine (dq rfl rfl).trans ?_
  refine (dq_iinc (v := 1) rfl rfl (by decide)).trans ?_
  refine (dq rfl rfl).trans ?_
  rfl
theorem q_37 (ab : Nat) (h : ia_H) : cl 37 [.ref ab] h = dn 37 6 [some (.ref ab), some (.int (-1)), some (.int (-1)), some (.int 0), none] [] h := by
  refine (dq rfl rfl).trans ?_
  refine (dq rfl rfl).trans ?_
  refine (dq rfl rfl).trans ?_
  refine (dq rfl rfl).trans ?_
  refine (dq rfl rfl).trans ?_
  refine (dq rfl rfl).trans ?_
  rfl
theorem q_37_6 (x0 : Nat) (x1 : Int32) (x2 : Int32) (x3 : Int32) (l4 : Option Value) (h : ia_H) : dn 37 6 [some (.ref x0), some (.int x1), some (.int x2), some (.int x3), l4] [] h = ((ia_gR h 0 x0 6).bind fun a1 => ((ia_gI h 5 a1 0).bind fun v2 => (if v2 ≤ x3 then (if x1 = (-1) then some (some (.int x1), h) else ((ia_gR h 0 x0 3).bind fun a3 => (if ia_ok h 3 [.ref a3] = true then kxr (cl 189 [.ref a3] h) (fun r5 h4 => (if ia_ok h4 3 [.ref r5, .int x2] = true then kxr (cl 190 [.ref r5, .int x2] h4) (fun r7 h6 => some (some (.int x1), h6)) else none)) else none))) else ((ia_gR h 0 x0 6).bind fun a8 => (if ia_ok h 5 [.ref a8, .int x3] = true then kxi (cl 225 [.ref a8, .int x3] h) (fun r10 h9 => (if r10 ≤ x2 then dn 37 6 [some (.ref x0), some (.int x1), some (.int x2), some (.int (x3 + 1)), some (.int r10)] [] h9 else dn 37 6 [some (.ref x0), some (.int x3), some (.int r10), some (.int (x3 + 1)), some (.int r10)] [] h9)) else none))))) := by
  refine (dq rfl rfl).trans ?_
  refine (dq rfl rfl).trans ?_
  refine (dq_getR rfl).trans (bn_c (fun a1 => ?_))
  refine (dq_getI rfl).trans (bn_c (fun v2 => ?_))
  refine (dq_ige rfl).trans (ie_c ?_ ?_)
  · refine (dq rfl rfl).trans ?_
    refine (dq rfl rfl).trans ?_
    refine (dq_ieq rfl).trans (ie_c ?_ ?_)
    · refine (dq rfl rfl).trans ?_
      exact dq_ret1 rfl
    · refine (dq rfl rfl).trans ?_
      refine (dq_getR rfl).trans (bn_c (fun a3 => ?_))
      refine (dq_kxr (z := 189) rfl (lq rfl) (lq rfl) (lq rfl) kd_189).trans (it_c (kxr_c (fun r5 h4 => ?_)))
      refine (dq rfl rfl).trans ?_
      refine (dq_kxr (z := 190) rfl (lq rfl) (lq rfl) (lq rfl) kd_190).trans (it_c (kxr_c (fun r7 h6 => ?_)))
      refine (dq rfl rfl).trans ?_
      refine (dq rfl rfl).trans ?_
      exact dq_ret1 rfl
  · refine (dq rfl rfl).trans ?_
    refine (dq_getR rfl).trans (bn_c (fun a8 => ?_))
    refine (dq rfl rfl).trans ?_
    refine (dq_kxi (z := 225) rfl (lq rfl) (lq rfl) (lq rfl) kd_225).trans (it_c (kxi_c (fun r10 h9 => ?_)))
    refine (dq rfl rfl).trans ?_
    refine (dq rfl rfl).trans ?_
    refine (dq rfl rfl).trans ?_
    refine (dq_ile rfl).trans (ie_c ?_ ?_)
    · refine (dq_iinc (v := 1) rfl rfl (by decide)).trans ?_
      refine (dq rfl rfl).trans ?_
      rfl
    · refine (dq rfl rfl).trans ?_
      refine (dq rfl rfl).trans ?_
      refine (dq rfl rfl).trans ?_
      refine (dq rfl rfl).trans ?_
      refine (dq_iinc (v := 1) rfl rfl (by decide)).trans ?_
      refine (dq rfl rfl).trans ?_
      rfl
theorem q_38 (ab : Nat) (ac : Int32) (h : ia_H) : cl 38 [.ref ab, .int ac] h = kxi (cl 49 [.int ac] h) (fun r2 h1 => (if r2 = 0 then some (some (.int (-1)), h1) else dn 38 13 [some (.ref ab), some (.int ac), some (.int (-1)), some (.int (-1)), some (.int 0), some (.int 0), none] [] h1)) := by
  refine (dq rfl rfl).trans ?_
  refine (dq_kxi0 (z := 49) rfl (lq rfl) (lq rfl) (lq rfl) kd_49).trans (kxi_c (fun r2 h1 => ?_))
  refine (dq_ifne rfl).trans (ie_c ?_ ?_)
  · refine (dq rfl rfl).trans ?_
    exact dq_ret1 rfl
  · refine (dq rfl rfl).trans ?_
    refine (dq rfl rfl).trans ?_
    refine (dq rfl rfl).trans ?_
    refine (dq rfl rfl).trans ?_
    refine (dq rfl rfl).trans ?_
    refine (dq rfl rfl).trans ?_
    refine (dq rfl rfl).trans ?_
    refine (dq rfl rfl).trans ?_
    rfl
theorem q_38_13 (x0 : Nat) (x1 : Int32) (x2 : Int32) (x3 : Int32) (x4 : Int32) (x5 : Int32) (l6 : Option Value) (h : ia_H) : dn 38 13 [some (.ref x0), some (.int x1), some (.int x2), some (.int x3), some (.int x4), some (.int x5), l6] [] h = ((ia_gR h 0 x0 6).bind fun a1 => ((ia_gI h 5 a1 0).bind fun v2 => (if v2 ≤ x5 then (if x2 = (-1) then some (some (.int (-2)), h) else ((ia_gR h 0 x0 3).bind fun a3 => (if ia_ok h 3 [.ref a3] = true then kxr (cl 189 [.ref a3] h) (fun r5 h4 => (if ia_ok h4 3 [.ref r5, .int x3] = true then kxr (cl 190 [.ref r5, .int x3] h4) (fun r7 h6 => (if ia_ok h6 3 [.ref r7, .int x4] = true then kxr (cl 190 [.ref r7, .int x4] h6) (fun r9 h8 => some (some (.int x2), h8)) else none)) else none)) else none))) else ((ia_gR h 0 x0 6).bind fun a10 => (if ia_ok h 5 [.ref a10, .int x5, .int x1] = true then kxi (cl 208 [.ref a10, .int x5, .int x1] h) (fun r12 h11 => (if r12 ≤ x3 then dn 38 33 [some (.ref x0), some (.int x1), some (.int x2), some (.int x3), some (.int x4), some (.int x5), some (.int r12)] [] h11 else dn 38 33 [some (.ref x0), some (.int x1), some (.int x5), some (.int r12), some (.int 0), some (.int x5), some (.int r12)] [] h11)) else none))))) := by
  refine (dq rfl rfl).trans ?_
  refine (dq rfl rfl).trans ?_
  refine (dq_getR rfl).trans (bn_c (fun a1 => ?_))
  refine (dq_getI rfl).trans (bn_c (fun v2 => ?_))
  refine (dq_ige rfl).trans (ie_c ?_ ?_)
  · refine (dq rfl rfl).trans ?_
    refine (dq rfl rfl).trans ?_
    refine (dq_ine rfl).trans (ie_c ?_ ?_)
    · refine (dq rfl rfl).trans ?_
      exact dq_ret1 rfl
    · refine (dq rfl rfl).trans ?_
      refine (dq_getR rfl).trans (bn_c (fun a3 => ?_))
      refine (dq_kxr (z := 189) rfl (lq rfl) (lq rfl) (lq rfl) kd_189).trans (it_c (kxr_c (fun r5 h4 => ?_)))
      refine (dq rfl rfl).trans ?_
      refine (dq_kxr (z := 190) rfl (lq rfl) (lq rfl) (lq rfl) kd_190).trans (it_c (kxr_c (fun r7 h6 => ?_)))
      refine (dq rfl rfl).trans ?_
      refine (dq_kxr (z := 190) rfl (lq rfl) (lq rfl) (lq rfl) kd_190).trans (it_c (kxr_c (fun r9 h8 => ?_)))
      refine (dq rfl rfl).trans ?_
      refine (dq rfl rfl).trans ?_
      exact dq_ret1 rfl
  · refine (dq rfl rfl).trans ?_
    refine (dq_getR rfl).trans (bn_c (fun a10 => ?_))
    refine (dq rfl rfl).trans ?_
    refine (dq rfl rfl).trans ?_
    refine (dq_kxi (z := 208) rfl (lq rfl) (lq rfl) (lq rfl) kd_208).trans (it_c (kxi_c (fun r12 h11 => ?_)))
    refine (dq rfl rfl).trans ?_
    refine (dq rfl rfl).trans ?_
    refine (dq rfl rfl).trans ?_
    refine (dq_ile rfl).trans (ie_c ?_ ?_)
    · rfl
    · refine (dq rfl rfl).trans ?_
      refine (dq rfl rfl).trans ?_
      refine (dq rfl rfl).trans ?_
      refine (dq rfl rfl).trans ?_
      refine (dq rfl rfl).trans ?_
      refine (dq rfl rfl).trans ?_
      rfl
theorem q_38_33 (x0 : Nat) (x1 : Int32) (x2 : Int32) (x3 : Int32) (x4 : Int32) (x5 : Int32) (x6 : Int32) (h : ia_H) : dn 38 33 [some (.ref x0), some (.int x1), some (.int x2), some (.int x3), some (.int x4), some (.int x5), some (.int x6)] [] h = (if x6 = x3 then dn 38 13 [some (.ref x0), some (.int x1), some (.int x2), some (.int x3), some (.int (x4 + 1)), some (.int (x5 + 1)), some (.int x6)] [] h else dn 38 13 [some (.ref x0), some (.int x1), some (.int x2), some (.int x3), some (.int (x4 + 0)), some (.int (x5 + 1)), some (.int x6)] [] h) := by
  refine (dq rfl rfl).trans ?_
  refine (dq rfl rfl).trans ?_
  refine (dq rfl rfl).trans ?_
  refine (dq_ine rfl).trans (ie_c ?_ ?_)
  · refine (dq rfl rfl).trans ?_
    refine (dq rfl rfl).trans ?_
    refine (dq rfl rfl).trans ?_
    refine (dq rfl rfl).trans ?_
    refine (dq_iinc (v := 1) rfl rfl (by decide)).trans ?_
    refine (dq rfl rfl).trans ?_
    rfl
  · refine (dq rfl rfl).trans ?_
    refine (dq rfl rfl).trans ?_
    refine (dq rfl rfl).trans ?_
    refine (dq_iinc (v := 1) rfl rfl (by decide)).trans ?_
    refine (dq rfl rfl).trans ?_
    rfl
theorem q_39 (ab : Nat) (ac : Int32) (h : ia_H) : cl 39 [.ref ab, .int ac] h = kxi (cl 49 [.int ac] h) (fun r2 h1 => (if r2 = 0 then some (some (.int (-1)), h1) else dn 39 11 [some (.ref ab), some (.int ac), some (.int (-1)), some (.int 0), some (.int 0)] [] h1)) := by
  refine (dq rfl rfl).trans ?_
  refine (dq_kxi0 (z := 49) rfl (lq rfl) (lq rfl) (lq rfl) kd_49).trans (kxi_c (fun r2 h1 => ?_))
  refine (dq_ifne rfl).trans (ie_c ?_ ?_)
  · refine (dq rfl rfl).trans ?_
    exact dq_ret1 rfl
  · refine (dq rfl rfl).trans ?_
    refine (dq rfl rfl).trans ?_
    refine (dq rfl rfl).trans ?_
    refine (dq rfl rfl).trans ?_
    refine (dq rfl rfl).trans ?_
    refine (dq rfl rfl).trans ?_
    rfl
theorem q_39_11 (x0 : Nat) (x1 : Int32) (x2 : Int32) (x3 : Int32) (x4 : Int32) (h : ia_H) : dn 39 11 [some (.ref x0), some (.int x1), some (.int x2), some (.int x3), some (.int x4)] [] h = ((ia_gR h 0 x0 6).bind fun a1 => ((ia_gI h 5 a1 2).bind fun v2 => (if v2 ≤ x4 then (if x2 = (-1) then some (some (.int (-2)), h) else (if 1 ≤ x3 then ((ia_gR h 0 x0 3).bind fun a3 => (if ia_ok h 3 [.ref a3] = true then kxr (cl 189 [.ref a3] h) (fun r5 h4 => (if ia_ok h4 3 [.ref r5, .int x3] = true then kxr (cl 190 [.ref r5, .int x3] h4) (fun r7 h6 => ((ia_gR h6 0 x0 6).bind fun a8 => (if ia_ok h6 5 [.ref a8, .int x2, .int 7] = true then kxi (cl 216 [.ref a8, .int x2, .int 7] h6) (fun r10 h9 => (if x3 = 0 then none else (if ia_ok h9 3 [.ref r7, .int ((r10 * 1000) / x3)] = true then kxr (cl 190 [.ref r7, .int ((r10 * 1000) / x3)] h9) (fun r12 h11 => some (some (.int x2), h11)) else none))) else none))) else none)) else none)) else some (some (.int (-2)), h))) else ((ia_gR h 0 x0 6).bind fun a13 => (if ia_ok h 5 [.ref a13, .int x4, .int 1] = true then kxi (cl 216 [.ref a13, .int x4, .int 1] h) (fun r15 h14 => (if r15 = x1 then ((ia_gR h14 0 x0 6).bind fun a16 => (if ia_ok h14 5 [.ref a16, .int x4, .int 5] = true then kxi (cl 216 [.ref a16, .int x4, .int 5] h14) (fun r18 h17 => (if r18 ≤ x3 then dn 39 11 [some (.ref x0), some (.int x1), some (.int x2), some (.int x3), some (.int (x4 + 1))] [] h17 else ((ia_gR h17 0 x0 6).bind fun a19 => (if ia_ok h17 5 [.ref a19, .int x4, .int 5] = true then kxi (cl 216 [.ref a19, .int x4, .int 5] h17) (fun r21 h20 => dn 39 11 [some (.ref x0), some (.int x1), some (.int x4), some (.int r21), some (.int (x4 + 1))] [] h20) else none)))) else none)) else dn 39 11 [some (.ref x0), some (.int x1), some (.int x2), some (.int x3), some (.int (x4 + 1))] [] h14)) else none))))) := by
  refine (dq rfl rfl).trans ?_
  refine (dq rfl rfl).trans ?_
  refine (dq_getR rfl).trans (bn_c (fun a1 => ?_))
  refine (dq_getI rfl).trans (bn_c (fun v2 => ?_))
  refine (dq_ige rfl).trans (ie_c ?_ ?_)
  · refine (dq rfl rfl).trans ?_
    refine (dq rfl rfl).trans ?_
    refine (dq_ieq rfl).trans (ie_c ?_ ?_)
    · refine (dq rfl rfl).trans ?_
      exact dq_ret1 rfl
    · refine (dq rfl rfl).trans ?_
      refine (dq rfl rfl).trans ?_
      refine (dq_ige rfl).trans (ie_c ?_ ?_)
      · refine (dq rfl rfl).trans ?_
        refine (dq_getR rfl).trans (bn_c (fun a3 => ?_))
        refine (dq_kxr (z := 189) rfl (lq rfl) (lq rfl) (lq rfl) kd_189).trans (it_c (kxr_c (fun r5 h4 => ?_)))
        refine (dq rfl rfl).trans ?_
        refine (dq_kxr (z := 190) rfl (lq rfl) (lq rfl) (lq rfl) kd_190).trans (it_c (kxr_c (fun r7 h6 => ?_)))
        refine (dq rfl rfl).trans ?_
        refine (dq_getR rfl).trans (bn_c (fun a8 => ?_))
        refine (dq rfl rfl).trans ?_
        refine (dq rfl rfl).trans ?_
        refine (dq_kxi (z := 216) rfl (lq rfl) (lq rfl) (lq rfl) kd_216).trans (it_c (kxi_c (fun r10 h9 => ?_)))
        refine (dq rfl rfl).trans ?_
        refine (dq rfl rfl).trans ?_
        refine (dq rfl rfl).trans ?_
        refine (dq_i2z rfl).trans (ie_c rfl ?_)
        refine (dq_kxr (z := 190) rfl (lq rfl) (lq rfl) (lq rfl) kd_190).trans (it_c (kxr_c (fun r12 h11 => ?_)))
        refine (dq rfl rfl).trans ?_
        refine (dq rfl rfl).trans ?_
        exact dq_ret1 rfl
      · refine (dq rfl rfl).trans ?_
        exact dq_ret1 rfl
  · refine (dq rfl rfl).trans ?_
    refine (dq_getR rfl).trans (bn_c (fun a13 => ?_))
    refine (dq rfl rfl).trans ?_
    refine (dq rfl rfl).trans ?_
    refine (dq_kxi (z := 216) rfl (lq rfl) (lq rfl) (lq rfl) kd_216).trans (it_c (kxi_c (fun r15 h14 => ?_)))
    refine (dq rfl rfl).trans ?_
    refine (dq_ine rfl).trans (ie_c ?_ ?_)
    · refine (dq rfl rfl).trans ?_
      refine (dq_getR rfl).trans (bn_c (fun a16 => ?_))
      refine (dq rfl rfl).trans ?_
      refine (dq rfl rfl).trans ?_
      refine (dq_kxi (z := 216) rfl (lq rfl) (lq rfl) (lq rfl) kd_216).trans (it_c (kxi_c (fun r18 h17 => ?_)))
      refine (dq rfl rfl).trans ?_
      refine (dq_ile rfl).trans (ie_c ?_ ?_)
      · refine (dq_iinc (v := 1) rfl rfl (by decide)).trans ?_
        refine (dq rfl rfl).trans ?_
        rfl
      · refine (dq rfl rfl).trans ?_
        refine (dq rfl rfl).trans ?_
        refine (dq rfl rfl).trans ?_
        refine (dq_getR rfl).trans (bn_c (fun a19 => ?_))
        refine (dq rfl rfl).trans ?_
        refine (dq rfl rfl).trans ?_
        refine (dq_kxi (z := 216) rfl (lq rfl) (lq rfl) (lq rfl) kd_216).trans (it_c (kxi_c (fun r21 h20 => ?_)))
        refine (dq rfl rfl).trans ?_
        refine (dq_iinc (v := 1) rfl rfl (by decide)).trans ?_
        refine (dq rfl rfl).trans ?_
        rfl
    · refine (dq_iinc (v := 1) rfl rfl (by decide)).trans ?_
      refine (dq rfl rfl).trans ?_
      rfl
theorem q_40 (ab : Nat) (ac : Int32) (h : ia_H) : cl 40 [.ref ab, .int ac] h = kxi (cl 50 [.int ac] h) (fun r2 h1 => (if r2 = 0 then some (some (.int (-1)), h1) else ((ia_gR h1 0 ab 3).bind fun a3 => (if ia_ok h1 3 [.ref a3] = true then kxr (cl 189 [.ref a3] h1) (fun r5 h4 => dn 40 11 [some (.ref ab), some (.int ac), some (.int 0)] [] h4) else none)))) := by
  refine (dq rfl rfl).trans ?_
  refine (dq_kxi0 (z := 50) rfl (lq rfl) (lq rfl) (lq rfl) kd_50).trans (kxi_c (fun r2 h1 => ?_))
  refine (dq_ifne rfl).trans (ie_c ?_ ?_)
  · refine (dq rfl rfl).trans ?_
    exact dq_ret1 rfl
  · refine (dq rfl rfl).trans ?_
    refine (dq_getR rfl).trans (bn_c (fun a3 => ?_))
    refine (dq_kxr (z := 189) rfl (lq rfl) (lq rfl) (lq rfl) kd_189).trans (it_c (kxr_c (fun r5 h4 => ?_)))
    refine (dq rfl rfl).trans ?_
    refine (dq rfl rfl).trans ?_
    refine (dq rfl rfl).trans ?_
    rfl
theorem q_40_11 (x0 : Nat) (x1 : Int32) (x2 : Int32) (h : ia_H) : dn 40 11 [some (.ref x0), some (.int x1), some (.int x2)] [] h = (if 3 ≤ x2 then ((ia_gR h 0 x0 6).bind fun a1 => (if ia_ok h 5 [.ref a1, .int x1] = true then kxi (cl 215 [.ref a1, .int x1] h) (fun r3 h2 => some (some (.int r3), h2)) else none)) else ((ia_gR h 0 x0 3).bind fun a4 => ((ia_gR h 0 x0 6).bind fun a5 => ((ia_gR h 5 a5 8).bind fun a6 => ((ia_ld h 0 a6 ((x1 * 3) + x2)).bind fun v7 => (if ia_ok h 3 [.ref a4, .int v7] = true then kxr (cl 190 [.ref a4, .int v7] h) (fun r9 h8 => dn 40 11 [some (.ref x0), some (.int x1), some (.int (x2 + 1))] [] h8) else none)))))) := by
  refine (dq rfl rfl).trans ?_
  refine (dq rfl rfl).trans ?_
  refine (dq_ige rfl).trans (ie_c ?_ ?_)
  · refine (dq rfl rfl).trans ?_
    refine (dq_getR rfl).trans (bn_c (fun a1 => ?_))
    refine (dq rfl rfl).trans ?_
    refine (dq_kxi (z := 215) rfl (lq rfl) (lq rfl) (lq rfl) kd_215).trans (it_c (kxi_c (fun r3 h2 => ?_)))
    exact dq_ret1 rfl
  · refine (dq rfl rfl).trans ?_
    refine (dq_getR rfl).trans (bn_c (fun a4 => ?_))
    refine (dq rfl rfl).trans ?_
    refine (dq_getR rfl).trans (bn_c (fun a5 => ?_))
    refine (dq_getR rfl).trans (bn_c (fun a6 => ?_))
    refine (dq rfl rfl).trans ?_
    refine (dq rfl rfl).trans ?_
    refine (dq rfl rfl).trans ?_
    refine (dq rfl rfl).trans ?_
    refine (dq rfl rfl).trans ?_
    refine (dq_iald rfl).trans (bn_c (fun v7 => ?_))
    refine (dq_kxr (z := 190) rfl (lq rfl) (lq rfl) (lq rfl) kd_190).trans (it_c (kxr_c (fun r9 h8 => ?_)))
    refine (dq rfl rfl).trans ?_
    refine (dq_iinc (v := 1) rfl rfl (by decide)).trans ?_
    refine (dq rfl rfl).trans ?_
    rfl
theorem q_41 (ab : Nat) (h : ia_H) : cl 41 [.ref ab] h = ((ia_gR h 0 ab 3).bind fun a1 => (if ia_ok h 3 [.ref a1] = true then kxr (cl 189 [.ref a1] h) (fun r3 h2 => dn 41 8 [some (.ref ab), some (.int 0), some (.int 0), none] [] h2) else none)) := by
  refine (dq rfl rfl).trans ?_
  refine (dq_getR rfl).trans (bn_c (fun a1 => ?_))
  refine (dq_kxr (z := 189) rfl (lq rfl) (lq rfl) (lq rfl) kd_189).trans (it_c (kxr_c (fun r3 h2 => ?_)))
  refine (dq rfl rfl).trans ?_
  refine (dq rfl rfl).trans ?_
  refine (dq rfl rfl).trans ?_
  refine (dq rfl rfl).trans ?_
  refine (dq rfl rfl).trans ?_
  rfl
theorem q_41_8 (x0 : Nat) (x1 : Int32) (x2 : Int32) (l3 : Option Value) (h : ia_H) : dn 41 8 [some (.ref x0), some (.int x1), some (.int x2), l3] [] h = (if 4 ≤ x2 then ((ia_gR h 0 x0 3).bind fun a1 => (if ia_ok h 3 [.ref a1, .int 0] = true then kxi (cl 191 [.ref a1, .int 0] h) (fun r3 h2 => some (some (.int r3), h2)) else none)) else (if ia_ok h 0 [.ref x0, .int x1] = true then kxi (cl 57 [.ref x0, .int x1] h) (fun r5 h4 => kxi (cl 54 [.int r5] h4) (fun r7 h6 => ((ia_gR h6 0 x0 3).bind fun a8 => (if ia_ok h6 3 [.ref a8, .int r5] = true then kxr (cl 190 [.ref a8, .int r5] h6) (fun r10 h9 => dn 41 8 [some (.ref x0), some (.int (x1 ||| r7)), some (.int (x2 + 1)), some (.int r5)] [] h9) else none)))) else none)) := by
  refine (dq rfl rfl).trans ?_
  refine (dq rfl rfl).trans ?_
  refine (dq_ige rfl).trans (ie_c ?_ ?_)
  · refine (dq rfl rfl).trans ?_
    refine (dq_getR rfl).trans (bn_c (fun a1 => ?_))
    refine (dq rfl rfl).trans ?_
    refine (dq_kxi (z := 191) rfl (lq rfl) (lq rfl) (lq rfl) kd_191).trans (it_c (kxi_c (fun r3 h2 => ?_)))
    exact dq_ret1 rfl
  · refine (dq rfl rfl).trans ?_
    refine (dq rfl rfl).trans ?_
    refine (dq_kxi (z := 57) rfl (lq rfl) (lq rfl) (lq rfl) kd_57).trans (it_c (kxi_c (fun r5 h4 => ?_)))
    refine (dq rfl rfl).trans ?_
    refine (dq rfl rfl).trans ?_
    refine (dq rfl rfl).trans ?_
    refine (dq_kxi0 (z := 54) rfl (lq rfl) (lq rfl) (lq rfl) kd_54).trans (kxi_c (fun r7 h6 => ?_))
    refine (dq rfl rfl).trans ?_
    refine (dq rfl rfl).trans ?_
    refine (dq rfl rfl).trans ?_
    refine (dq_getR rfl).trans (bn_c (fun a8 => ?_))
    refine (dq rfl rfl).trans ?_
    refine (dq_kxr (z := 190) rfl (lq rfl) (lq rfl) (lq rfl) kd_190).trans (it_c (kxr_c (fun r10 h9 => ?_)))
    refine (dq rfl rfl).trans ?_
    refine (dq_iinc (v := 1) rfl rfl (by decide)).trans ?_
    refine (dq rfl rfl).trans ?_
    rfl
theorem q_42 (ab : Nat) (ac : Int32) (h : ia_H) : cl 42 [.ref ab, .int ac] h = (if ia_ok h 0 [.ref ab, .int ac] = true then kxi (cl 52 [.ref ab, .int ac] h) (fun r2 h1 => (if r2 = 0 then some (some (.int (-1)), h1) else ((ia_gR h1 0 ab 3).bind fun a3 => (if ia_ok h1 3 [.ref a3] = true then kxr (cl 189 [.ref a3] h1) (fun r5 h4 => ((ia_gR h4 0 ab 6).bind fun a6 => ((ia_gR h4 5 a6 7).bind fun a7 => ((ia_ld h4 0 a7 ((ac * 3) + 1)).bind fun v8 => (if ia_ok h4 3 [.ref r5, .int v8] = true then kxr (cl 190 [.ref r5, .int v8] h4) (fun r10 h9 => ((ia_gR h9 0 ab 6).bind fun a11 => ((ia_gR h9 5 a11 7).bind fun a12 => ((ia_ld h9 0 a12 ((ac * 3) + 2)).bind fun v13 => (if ia_ok h9 3 [.ref r10, .int v13] = true then kxr (cl 190 [.ref r10, .int v13] h9) (fun r15 h14 => ((ia_gR h14 0 ab 6).bind fun a16 => ((ia_gR h14 5 a16 7).bind fun a17 => ((ia_ld h14 0 a17 ((ac * 3) + 0)).bind fun v18 => some (some (.int v18), h14))))) else none))))) else none))))) else none)))) else none) := by
  refine (dq rfl rfl).trans ?_
  refine (dq rfl rfl).trans ?_
  refine (dq_kxi (z := 52) rfl (lq rfl) (lq rfl) (lq rfl) kd_52).trans (it_c (kxi_c (fun r2 h1 => ?_)))
  refine (dq_ifne rfl).trans (ie_c ?_ ?_)
  · refine (dq rfl rfl).trans ?_
    exact dq_ret1 rfl
  · refine (dq rfl rfl).trans ?_
    refine (dq rfl rfl).trans ?_
    refine (dq rfl rfl).trans ?_
    refine (dq rfl rfl).trans ?_
    refine (dq rfl rfl).trans ?_
    refine (dq_getR rfl).trans (bn_c (fun a3 => ?_))
    refine (dq_kxr (z := 189) rfl (lq rfl) (lq rfl) (lq rfl) kd_189).trans (it_c (kxr_c (fun r5 h4 => ?_)))
    refine (dq rfl rfl).trans ?_
    refine (dq_getR rfl).trans (bn_c (fun a6 => ?_))
    refine (dq_getR rfl).trans (bn_c (fun a7 => ?_))
    refine (dq rfl rfl).trans ?_
    refine (dq rfl rfl).trans ?_
    refine (dq rfl rfl).trans ?_
    refine (dq_iald rfl).trans (bn_c (fun v8 => ?_))
    refine (dq_kxr (z := 190) rfl (lq rfl) (lq rfl) (lq rfl) kd_190).trans (it_c (kxr_c (fun r10 h9 => ?_)))
    refine (dq rfl rfl).trans ?_
    refine (dq_getR rfl).trans (bn_c (fun a11 => ?_))
    refine (dq_getR rfl).trans (bn_c (fun a12 => ?_))
    refine (dq rfl rfl).trans ?_
    refine (dq rfl rfl).trans ?_
    refine (dq rfl rfl).trans ?_
    refine (dq_iald rfl).trans (bn_c (fun v13 => ?_))
    refine (dq_kxr (z := 190) rfl (lq rfl) (lq rfl) (lq rfl) kd_190).trans (it_c (kxr_c (fun r15 h14 => ?_)))
    refine (dq rfl rfl).trans ?_
    refine (dq rfl rfl).trans ?_
    refine (dq_getR rfl).trans (bn_c (fun a16 => ?_))
    refine (dq_getR rfl).trans (bn_c (fun a17 => ?_))
    refine (dq rfl rfl).trans ?_
    refine (dq rfl rfl).trans ?_
    refine (dq rfl rfl).trans ?_
    refine (dq_iald rfl).trans (bn_c (fun v18 => ?_))
    exact dq_ret1 rfl
theorem q_43 (ab : Nat) (h : ia_H) : cl 43 [.ref ab] h = ((ia_gR h 0 ab 8).bind fun a1 => ((ia_gR h 0 ab 6).bind fun a2 => (if ia_ok h 5 [.ref a1, .ref a2] = true then kxv (cl 205 [.ref a1, .ref a2] h) (fun h3 => ((ia_pF h3 0 ab 10 (.int 1)).bind fun h4 => ((ia_gR h4 0 ab 8).bind fun a5 => ((ia_gI h4 5 a5 1).bind fun v6 => some (some (.int v6), h4))))) else none))) := by
  refine (dq rfl rfl).trans ?_
  refine (dq_getR rfl).trans (bn_c (fun a1 => ?_))
  refine (dq rfl rfl).trans ?_
  refine (dq_getR rfl).trans (bn_c (fun a2 => ?_))
  refine (dq_kxv (z := 205) rfl (lq rfl) (lq rfl) (lq rfl) kd_205).trans (it_c (kxv_c (fun h3 => ?_)))
  refine (dq rfl rfl).trans ?_
  refine (dq rfl rfl).trans ?_
  refine (dq_putZ1 rfl).trans (bn_c (fun h4 => ?_))
  refine (dq rfl rfl).trans ?_
  refine (dq_getR rfl).trans (bn_c (fun a5 => ?_))
  refine (dq_getI rfl).trans (bn_c (fun v6 => ?_))
  exact dq_ret1 rfl
theorem q_44 (ab : Nat) (h : ia_H) : cl 44 [.ref ab] h = ((ia_gI h 0 ab 10).bind fun v1 => (if v1 = 0 then some (some (.int (-2)), h) else ((ia_gR h 0 ab 9).bind fun a2 => ((ia_gR h 0 ab 6).bind fun a3 => (if ia_ok h 6 [.ref a2, .ref a3] = true then kxv (cl 174 [.ref a2, .ref a3] h) (fun h4 => ((ia_gR h4 0 ab 6).bind fun a5 => ((ia_gR h4 0 ab 8).bind fun a6 => (if ia_ok h4 5 [.ref a5, .ref a6] = true then kxv (cl 205 [.ref a5, .ref a6] h4) (fun h7 => ((ia_gR h7 0 ab 6).bind fun a8 => ((ia_gI h7 5 a8 1).bind fun v9 => some (some (.int v9), h7)))) else none)))) else none))))) := by
  refine (dq rfl rfl).trans ?_
  refine (dq_getI rfl).trans (bn_c (fun v1 => ?_))
  refine (dq_ifne rfl).trans (ie_c ?_ ?_)
  · refine (dq rfl rfl).trans ?_
    exact dq_ret1 rfl
  · refine (dq rfl rfl).trans ?_
    refine (dq_getR rfl).trans (bn_c (fun a2 => ?_))
    refine (dq rfl rfl).trans ?_
    refine (dq_getR rfl).trans (bn_c (fun a3 => ?_))
    refine (dq_kxv (z := 174) rfl (lq rfl) (lq rfl) (lq rfl) kd_174).trans (it_c (kxv_c (fun h4 => ?_)))
    refine (dq rfl rfl).trans ?_
    refine (dq_getR rfl).trans (bn_c (fun a5 => ?_))
    refine (dq rfl rfl).trans ?_
    refine (dq_getR rfl).trans (bn_c (fun a6 => ?_))
    refine (dq_kxv (z := 205) rfl (lq rfl) (lq rfl) (lq rfl) kd_205).trans (it_c (kxv_c (fun h7 => ?_)))
    refine (dq rfl rfl).trans ?_
    refine (dq_getR rfl).trans (bn_c (fun a8 => ?_))
    refine (dq_getI rfl).trans (bn_c (fun v9 => ?_))
    exact dq_ret1 rfl
theorem q_45 (ab : Nat) (ac : Int32) (ad : Int32) (h : ia_H) : cl 45 [.ref ab, .int ac, .int ad] h = (if ac < 0 then some (some (.int (-1)), h) else ((ia_gR h 0 ab 6).bind fun a1 => (if ia_ok h 5 [.ref a1] = true then kxi (cl 235 [.ref a1] h) (fun r3 h2 => (if r3 ≤ ac then some (some (.int (-1)), h2) else (if ad < 0 then some (some (.int (-1)), h2) else (if ad < 3 then ((ia_gR h2 0 ab 6).bind fun a4 => (if ia_ok h2 5 [.ref a4, .int ac, .int ad] = true then kxi (cl 236 [.ref a4, .int ac, .int ad] h2) (fun r6 h5 => some (some (.int r6), h5)) else none)) else some (some (.int (-1)), h2))))) else none))) := by
  refine (dq rfl rfl).trans ?_
  refine (dq_iflt rfl).trans (ie_c ?_ ?_)
  · refine (dq rfl rfl).trans ?_
    exact dq_ret1 rfl
  · refine (dq rfl rfl).trans ?_
    refine (dq rfl rfl).trans ?_
    refine (dq_getR rfl).trans (bn_c (fun a1 => ?_))
    refine (dq_kxi (z := 235) rfl (lq rfl) (lq rfl) (lq rfl) kd_235).trans (it_c (kxi_c (fun r3 h2 => ?_)))
    refine (dq_ige rfl).trans (ie_c ?_ ?_)
    · refine (dq rfl rfl).trans ?_
      exact dq_ret1 rfl
    · refine (dq rfl rfl).trans ?_
      refine (dq_iflt rfl).trans (ie_c ?_ ?_)
      · refine (dq rfl rfl).trans ?_
        exact dq_ret1 rfl
      · refine (dq rfl rfl).trans ?_
        refine (dq rfl rfl).trans ?_
        refine (dq_ilt rfl).trans (ie_c ?_ ?_)
        · refine (dq rfl rfl).trans ?_
          refine (dq_getR rfl).trans (bn_c (fun a4 => ?_))
          refine (dq rfl rfl).trans ?_
          refine (dq rfl rfl).trans ?_
          refine (dq_kxi (z := 236) rfl (lq rfl) (lq rfl) (lq rfl) kd_236).trans (it_c (kxi_c (fun r6 h5 => ?_)))
          exact dq_ret1 rfl
        · refine (dq rfl rfl).trans ?_
          exact dq_ret1 rfl
theorem q_46 (ab : Nat) (ac : Int32) (h : ia_H) : cl 46 [.ref ab, .int ac] h = (if ia_ok h 0 [.ref ab, .int ac] = true then kxi (cl 52 [.ref ab, .int ac] h) (fun r2 h1 => (if r2 = 0 then some (some (.int (-1)), h1) else ((ia_gR h1 0 ab 3).bind fun a3 => (if ia_ok h1 3 [.ref a3] = true then kxr (cl 189 [.ref a3] h1) (fun r5 h4 => dn 46 14 [some (.ref ab), some (.int ac), some (.int 0), some (.int 0), none] [] h4) else none)))) else none) := by
  refine (dq rfl rfl).trans ?_
  refine (dq rfl rfl).trans ?_
  refine (dq_kxi (z := 52) rfl (lq rfl) (lq rfl) (lq rfl) kd_52).trans (it_c (kxi_c (fun r2 h1 => ?_)))
  refine (dq_ifne rfl).trans (ie_c ?_ ?_)
  · refine (dq rfl rfl).trans ?_
    exact dq_ret1 rfl
  · refine (dq rfl rfl).trans ?_
    refine (dq rfl rfl).trans ?_
    refine (dq rfl rfl).trans ?_
    refine (dq_getR rfl).trans (bn_c (fun a3 => ?_))
    refine (dq_kxr (z := 189) rfl (lq rfl) (lq rfl) (lq rfl) kd_189).trans (it_c (kxr_c (fun r5 h4 => ?_)))
    refine (dq rfl rfl).trans ?_
    refine (dq rfl rfl).trans ?_
    refine (dq rfl rfl).trans ?_
    rfl
theorem q_46_14 (x0 : Nat) (x1 : Int32) (x2 : Int32) (x3 : Int32) (l4 : Option Value) (h : ia_H) : dn 46 14 [some (.ref x0), some (.int x1), some (.int x2), some (.int x3), l4] [] h = (if 6 ≤ x3 then some (some (.int x2), h) else ((ia_gR h 0 x0 6).bind fun a1 => (if ia_ok h 5 [.ref a1, .int x1, .int x3] = true then kxi (cl 237 [.ref a1, .int x1, .int x3] h) (fun r3 h2 => ((ia_gR h2 0 x0 3).bind fun a4 => (if ia_ok h2 3 [.ref a4, .int r3] = true then kxr (cl 190 [.ref a4, .int r3] h2) (fun r6 h5 => dn 46 14 [some (.ref x0), some (.int x1), some (.int (x2 + r3)), some (.int (x3 + 1)), some (.int r3)] [] h5) else none))) else none))) := by
  refine (dq rfl rfl).trans ?_
  refine (dq rfl rfl).trans ?_
  refine (dq_ige rfl).trans (ie_c ?_ ?_)
  · refine (dq rfl rfl).trans ?_
    exact dq_ret1 rfl
  · refine (dq rfl rfl).trans ?_
    refine (dq_getR rfl).trans (bn_c (fun a1 => ?_))
    refine (dq rfl rfl).trans ?_
    refine (dq rfl rfl).trans ?_
    refine (dq_kxi (z := 237) rfl (lq rfl) (lq rfl) (lq rfl) kd_237).trans (it_c (kxi_c (fun r3 h2 => ?_)))
    refine (dq rfl rfl).trans ?_
    refine (dq rfl rfl).trans ?_
    refine (dq_getR rfl).trans (bn_c (fun a4 => ?_))
    refine (dq rfl rfl).trans ?_
    refine (dq_kxr (z := 190) rfl (lq rfl) (lq rfl) (lq rfl) kd_190).trans (it_c (kxr_c (fun r6 h5 => ?_)))
    refine (dq rfl rfl).trans ?_
    refine (dq rfl rfl).trans ?_
    refine (dq rfl rfl).trans ?_
    refine (dq rfl rfl).trans ?_
    refine (dq rfl rfl).trans ?_
    refine (dq_iinc (v := 1) rfl rfl (by decide)).trans ?_
    refine (dq rfl rfl).trans ?_
    rfl
theorem q_47 (ab : Nat) (h : ia_H) : cl 47 [.ref ab] h = ((ia_gR h 0 ab 9).bind fun a1 => ((ia_gR h 0 ab 6).bind fun a2 => (if ia_ok h 6 [.ref a1, .ref a2] = true then kxi (cl 175 [.ref a1, .ref a2] h) (fun r4 h3 => (if r4 = 0 then some (some (.int (-2)), h3) else ((ia_gR h3 0 ab 9).bind fun a5 => ((ia_gI h3 6 a5 2).bind fun v6 => some (some (.int v6), h3))))) else none))) := by
  refine (dq rfl rfl).trans ?_
  refine (dq_getR rfl).trans (bn_c (fun a1 => ?_))
  refine (dq rfl rfl).trans ?_
  refine (dq_getR rfl).trans (bn_c (fun a2 => ?_))
  refine (dq_kxi (z := 175) rfl (lq rfl) (lq rfl) (lq rfl) kd_175).trans (it_c (kxi_c (fun r4 h3 => ?_)))
  refine (dq_ifeq rfl).trans (ie_c ?_ ?_)
  · refine (dq rfl rfl).trans ?_
    exact dq_ret1 rfl
  · refine (dq rfl rfl).trans ?_
    refine (dq_getR rfl).trans (bn_c (fun a5 => ?_))
    refine (dq_getI rfl).trans (bn_c (fun v6 => ?_))
    refine (dq rfl rfl).trans ?_
    exact dq_ret1 rfl
theorem q_48 (ab : Nat) (ac : Int32) (h : ia_H) : cl 48 [.ref ab, .int ac] h = (if ac.toInt < 0 ∨ (11 : Int) ≤ ac.toInt then dn 48 46 [some (.ref ab), some (.int ac)] [] h else dn 48 ([2, 6, 10, 14, 18, 22, 26, 30, 34, 38, 42].getD ac.toInt.toNat 46) [some (.ref ab), some (.int ac)] [] h) := by
  refine (dq rfl rfl).trans ?_
  refine (dq_sw rfl).trans ?_
  rfl
theorem q_48_2 (x0 : Nat) (x1 : Int32) (h : ia_H) : dn 48 2 [some (.ref x0), some (.int x1)] [] h = ((ia_gR h 0 x0 6).bind fun a1 => ((ia_gI h 5 a1 0).bind fun v2 => some (some (.int v2), h))) := by
  refine (dq rfl rfl).trans ?_
  refine (dq_getR rfl).trans (bn_c (fun a1 => ?_))
  refine (dq_getI rfl).trans (bn_c (fun v2 => ?_))
  exact dq_ret1 rfl
theorem q_48_6 (x0 : Nat) (x1 : Int32) (h : ia_H) : dn 48 6 [some (.ref x0), some (.int x1)] [] h = ((ia_gR h 0 x0 6).bind fun a1 => ((ia_gI h 5 a1 2).bind fun v2 => some (some (.int v2), h))) := by
  refine (dq rfl rfl).trans ?_
  refine (dq_getR rfl).trans (bn_c (fun a1 => ?_))
  refine (dq_getI rfl).trans (bn_c (fun v2 => ?_))
  exact dq_ret1 rfl
theorem q_48_10 (x0 : Nat) (x1 : Int32) (h : ia_H) : dn 48 10 [some (.ref x0), some (.int x1)] [] h = ((ia_gR h 0 x0 6).bind fun a1 => (if ia_ok h 5 [.ref a1] = true then kxi (cl 228 [.ref a1] h) (fun r3 h2 => some (some (.int r3), h2)) else none)) := by
  refine (dq rfl rfl).trans ?_
  refine (dq_getR rfl).trans (bn_c (fun a1 => ?_))
  refine (dq_kxi (z := 228) rfl (lq rfl) (lq rfl) (lq rfl) kd_228).trans (it_c (kxi_c (fun r3 h2 => ?_)))
  exact dq_ret1 rfl
theorem q_48_14 (x0 : Nat) (x1 : Int32) (h : ia_H) : dn 48 14 [some (.ref x0), some (.int x1)] [] h = ((ia_gR h 0 x0 6).bind fun a1 => (if ia_ok h 5 [.ref a1] = true then kxi (cl 229 [.ref a1] h) (fun r3 h2 => some (some (.int r3), h2)) else none)) := by
  refine (dq rfl rfl).trans ?_
  refine (dq_getR rfl).trans (bn_c (fun a1 => ?_))
  refine (dq_kxi (z := 229) rfl (lq rfl) (lq rfl) (lq rfl) kd_229).trans (it_c (kxi_c (fun r3 h2 => ?_)))
  exact dq_ret1 rfl
theorem q_48_18 (x0 : Nat) (x1 : Int32) (h : ia_H) : dn 48 18 [some (.ref x0), some (.int x1)] [] h = ((ia_gR h 0 x0 6).bind fun a1 => ((ia_gI h 5 a1 1).bind fun v2 => some (some (.int v2), h))) := by
  refine (dq rfl rfl).trans ?_
  refine (dq_getR rfl).trans (bn_c (fun a1 => ?_))
  refine (dq_getI rfl).trans (bn_c (fun v2 => ?_))
  exact dq_ret1 rfl
theorem q_48_22 (x0 : Nat) (x1 : Int32) (h : ia_H) : dn 48 22 [some (.ref x0), some (.int x1)] [] h = ((ia_gR h 0 x0 9).bind fun a1 => ((ia_gI h 6 a1 2).bind fun v2 => some (some (.int v2), h))) := by
  refine (dq rfl rfl).trans ?_
  refine (dq_getR rfl).trans (bn_c (fun a1 => ?_))
  refine (dq_getI rfl).trans (bn_c (fun v2 => ?_))
  exact dq_ret1 rfl
theorem q_48_26 (x0 : Nat) (x1 : Int32) (h : ia_H) : dn 48 26 [some (.ref x0), some (.int x1)] [] h = ((ia_gR h 0 x0 6).bind fun a1 => (if ia_ok h 5 [.ref a1] = true then kxi (cl 235 [.ref a1] h) (fun r3 h2 => some (some (.int r3), h2)) else none)) := by
  refine (dq rfl rfl).trans ?_
  refine (dq_getR rfl).trans (bn_c (fun a1 => ?_))
  refine (dq_kxi (z := 235) rfl (lq rfl) (lq rfl) (lq rfl) kd_235).trans (it_c (kxi_c (fun r3 h2 => ?_)))
  exact dq_ret1 rfl
theorem q_48_30 (x0 : Nat) (x1 : Int32) (h : ia_H) : dn 48 30 [some (.ref x0), some (.int x1)] [] h = ((ia_gR h 0 x0 6).bind fun a1 => (if ia_ok h 5 [.ref a1] = true then kxi (cl 210 [.ref a1] h) (fun r3 h2 => some (some (.int r3), h2)) else none)) := by
  refine (dq rfl rfl).trans ?_
  refine (dq_getR rfl).trans (bn_c (fun a1 => ?_))
  refine (dq_kxi (z := 210) rfl (lq rfl) (lq rfl) (lq rfl) kd_210).trans (it_c (kxi_c (fun r3 h2 => ?_)))
  exact dq_ret1 rfl
theorem q_48_34 (x0 : Nat) (x1 : Int32) (h : ia_H) : dn 48 34 [some (.ref x0), some (.int x1)] [] h = ((ia_gR h 0 x0 6).bind fun a1 => (if ia_ok h 5 [.ref a1] = true then kxi (cl 227 [.ref a1] h) (fun r3 h2 => some (some (.int r3), h2)) else none)) := by
  refine (dq rfl rfl).trans ?_
  refine (dq_getR rfl).trans (bn_c (fun a1 => ?_))
  refine (dq_kxi (z := 227) rfl (lq rfl) (lq rfl) (lq rfl) kd_227).trans (it_c (kxi_c (fun r3 h2 => ?_)))
  exact dq_ret1 rfl
theorem q_48_38 (x0 : Nat) (x1 : Int32) (h : ia_H) : dn 48 38 [some (.ref x0), some (.int x1)] [] h = ((ia_gR h 0 x0 3).bind fun a1 => ((ia_gI h 3 a1 1).bind fun v2 => some (some (.int v2), h))) := by
  refine (dq rfl rfl).trans ?_
  refine (dq_getR rfl).trans (bn_c (fun a1 => ?_))
  refine (dq_getI rfl).trans (bn_c (fun v2 => ?_))
  exact dq_ret1 rfl
theorem q_48_42 (x0 : Nat) (x1 : Int32) (h : ia_H) : dn 48 42 [some (.ref x0), some (.int x1)] [] h = ((ia_gR h 0 x0 0).bind fun a1 => ((ia_gI h 1 a1 1).bind fun v2 => some (some (.int v2), h))) := by
  refine (dq rfl rfl).trans ?_
  refine (dq_getR rfl).trans (bn_c (fun a1 => ?_))
  refine (dq_getI rfl).trans (bn_c (fun v2 => ?_))
  exact dq_ret1 rfl
theorem q_48_46 (x0 : Nat) (x1 : Int32) (h : ia_H) : dn 48 46 [some (.ref x0), some (.int x1)] [] h = some (some (.int (-1)), h) := by
  refine (dq rfl rfl).trans ?_
  exact dq_ret1 rfl
theorem q_49 (ab : Int32) (h : ia_H) : cl 49 [.int ab] h = (if ab < 0 then some (some (.int 0), h) else (if 4 ≤ ab then some (some (.int 0), h) else some (some (.int 1), h))) := by
  refine (dq rfl rfl).trans ?_
  refine (dq_iflt rfl).trans (ie_c ?_ ?_)
  · refine (dq rfl rfl).trans ?_
    exact dq_ret20 rfl
  · refine (dq rfl rfl).trans ?_
    refine (dq rfl rfl).trans ?_
    refine (dq_ige rfl).trans (ie_c ?_ ?_)
    · refine (dq rfl rfl).trans ?_
      exact dq_ret20 rfl
    · refine (dq rfl rfl).trans ?_
      refine (dq rfl rfl).trans ?_
      exact dq_ret21 rfl
theorem q_50 (ab : Int32) (h : ia_H) : cl 50 [.int ab] h = (if ab < 0 then some (some (.int 0), h) else (if 4 ≤ ab then some (some (.int 0), h) else some (some (.int 1), h))) := by
  refine (dq rfl rfl).trans ?_
  refine (dq_iflt rfl).trans (ie_c ?_ ?_)
  · refine (dq rfl rfl).trans ?_
    exact dq_ret20 rfl
  · refine (dq rfl rfl).trans ?_
    refine (dq rfl rfl).trans ?_
    refine (dq_ige rfl).trans (ie_c ?_ ?_)
    · refine (dq rfl rfl).trans ?_
      exact dq_ret20 rfl
    · refine (dq rfl rfl).trans ?_
      refine (dq rfl rfl).trans ?_
      exact dq_ret21 rfl
theorem q_51 (ab : Int32) (ac : Int32) (h : ia_H) : cl 51 [.int ab, .int ac] h = kxi (cl 50 [.int ab] h) (fun r2 h1 => (if r2 = 0 then some (some (.int 0), h1) else kxi (cl 50 [.int ac] h1) (fun r4 h3 => (if r4 = 0 then some (some (.int 0), h3) else (if ab = ac then some (some (.int 0), h3) else some (some (.int 1), h3)))))) := by
  refine (dq rfl rfl).trans ?_
  refine (dq_kxi0 (z := 50) rfl (lq rfl) (lq rfl) (lq rfl) kd_50).trans (kxi_c (fun r2 h1 => ?_))
  refine (dq_ifeq rfl).trans (ie_c ?_ ?_)
  · refine (dq rfl rfl).trans ?_
    exact dq_ret20 rfl
  · refine (dq rfl rfl).trans ?_
    refine (dq_kxi0 (z := 50) rfl (lq rfl) (lq rfl) (lq rfl) kd_50).trans (kxi_c (fun r4 h3 => ?_))
    refine (dq_ifeq rfl).trans (ie_c ?_ ?_)
    · refine (dq rfl rfl).trans ?_
      exact dq_ret20 rfl
    · refine (dq rfl rfl).trans ?_
      refine (dq rfl rfl).trans ?_
      refine (dq_ieq rfl).trans (ie_c ?_ ?_)
      · refine (dq rfl rfl).trans ?_
        exact dq_ret20 rfl
      · refine (dq rfl rfl).trans ?_
        refine (dq rfl rfl).trans ?_
        exact dq_ret21 rfl
theorem q_52 (ab : Nat) (ac : Int32) (h : ia_H) : cl 52 [.ref ab, .int ac] h = (if ac < 0 then some (some (.int 0), h) else ((ia_gR h 0 ab 6).bind fun a1 => ((ia_gI h 5 a1 0).bind fun v2 => (if v2 ≤ ac then some (some (.int 0), h) else some (some (.int 1), h))))) := by
  refine (dq rfl rfl).trans ?_
  refine (dq_iflt rfl).trans (ie_c ?_ ?_)
  · refine (dq rfl rfl).trans ?_
    exact dq_ret20 rfl
  · refine (dq rfl rfl).trans ?_
    refine (dq rfl rfl).trans ?_
    refine (dq_getR rfl).trans (bn_c (fun a1 => ?_))
    refine (dq_getI rfl).trans (bn_c (fun v2 => ?_))
    refine (dq_ige rfl).trans (ie_c ?_ ?_)
    · refine (dq rfl rfl).trans ?_
      exact dq_ret20 rfl
    · refine (dq rfl rfl).trans ?_
      refine (dq rfl rfl).trans ?_
      exact dq_ret21 rfl
theorem q_53 (ab : Nat) (ac : Int32) (h : ia_H) : cl 53 [.ref ab, .int ac] h = (if ac < 0 then some (some (.int 0), h) else ((ia_gR h 0 ab 6).bind fun a1 => ((ia_gI h 5 a1 2).bind fun v2 => (if v2 ≤ ac then some (some (.int 0), h) else some (some (.int 1), h))))) := by
  refine (dq rfl rfl).trans ?_
  refine (dq_iflt rfl).trans (ie_c ?_ ?_)
  · refine (dq rfl rfl).trans ?_
    exact dq_ret20 rfl
  · refine (dq rfl rfl).trans ?_
    refine (dq rfl rfl).trans ?_
    refine (dq_getR rfl).trans (bn_c (fun a1 => ?_))
    refine (dq_getI rfl).trans (bn_c (fun v2 => ?_))
    refine (dq_ige rfl).trans (ie_c ?_ ?_)
    · refine (dq rfl rfl).trans ?_
      exact dq_ret20 rfl
    · refine (dq rfl rfl).trans ?_
      refine (dq rfl rfl).trans ?_
      exact dq_ret21 rfl
theorem q_54 (ab : Int32) (h : ia_H) : cl 54 [.int ab] h = some (some (.int (1 <<< (ab &&& 31))), h) := by
  refine (dq rfl rfl).trans ?_
  refine (dq rfl rfl).trans ?_
  refine (dq rfl rfl).trans ?_
  exact dq_ret1 rfl
theorem q_55 (ab : Int32) (ac : Int32) (h : ia_H) : cl 55 [.int ab, .int ac] h = kxi (cl 54 [.int ac] h) (fun r2 h1 => (if (ab &&& r2) = 0 then some (some (.int 0), h1) else some (some (.int 1), h1))) := by
  refine (dq rfl rfl).trans ?_
  refine (dq rfl rfl).trans ?_
  refine (dq_kxi0 (z := 54) rfl (lq rfl) (lq rfl) (lq rfl) kd_54).trans (kxi_c (fun r2 h1 => ?_))
  refine (dq rfl rfl).trans ?_
  refine (dq_ifeq rfl).trans (ie_c ?_ ?_)
  · refine (dq rfl rfl).trans ?_
    exact dq_ret20 rfl
  · refine (dq rfl rfl).trans ?_
    refine (dq rfl rfl).trans ?_
    exact dq_ret21 rfl
theorem q_56 (ab : Nat) (ac : Int32) (ad : Int32) (h : ia_H) : cl 56 [.ref ab, .int ac, .int ad] h = ((ia_gR h 0 ab 2).bind fun a1 => (if ia_ok h 2 [.ref a1, .int ac] = true then kxi (cl 180 [.ref a1, .int ac] h) (fun r3 h2 => (if r3 = ad then some (some (.int 1), h2) else ((ia_gR h2 0 ab 2).bind fun a4 => (if ia_ok h2 2 [.ref a4, .int ac] = true then kxi (cl 181 [.ref a4, .int ac] h2) (fun r6 h5 => (if r6 = ad then some (some (.int 1), h5) else some (some (.int 0), h5))) else none)))) else none)) := by
  refine (dq rfl rfl).trans ?_
  refine (dq_getR rfl).trans (bn_c (fun a1 => ?_))
  refine (dq rfl rfl).trans ?_
  refine (dq_kxi (z := 180) rfl (lq rfl) (lq rfl) (lq rfl) kd_180).trans (it_c (kxi_c (fun r3 h2 => ?_)))
  refine (dq rfl rfl).trans ?_
  refine (dq_ieq rfl).trans (ie_c ?_ ?_)
  · refine (dq rfl rfl).trans ?_
    refine (dq rfl rfl).trans ?_
    exact dq_ret21 rfl
  · refine (dq rfl rfl).trans ?_
    refine (dq_getR rfl).trans (bn_c (fun a4 => ?_))
    refine (dq rfl rfl).trans ?_
    refine (dq_kxi (z := 181) rfl (lq rfl) (lq rfl) (lq rfl) kd_181).trans (it_c (kxi_c (fun r6 h5 => ?_)))
    refine (dq rfl rfl).trans ?_
    refine (dq_ine rfl).trans (ie_c ?_ ?_)
    · refine (dq rfl rfl).trans ?_
      refine (dq rfl rfl).trans ?_
      exact dq_ret21 rfl
    · refine (dq rfl rfl).trans ?_
      exact dq_ret20 rfl
theorem q_57 (ab : Nat) (ac : Int32) (h : ia_H) : cl 57 [.ref ab, .int ac] h = dn 57 4 [some (.ref ab), some (.int ac), some (.int (-1)), some (.int 0)] [] h := by
  refine (dq rfl rfl).trans ?_
  refine (dq rfl rfl).trans ?_
  refine (dq rfl rfl).trans ?_
  refine (dq rfl rfl).trans ?_
  rfl
theorem q_57_4 (x0 : Nat) (x1 : Int32) (x2 : Int32) (x3 : Int32) (h : ia_H) : dn 57 4 [some (.ref x0), some (.int x1), some (.int x2), some (.int x3)] [] h = (if 4 ≤ x3 then some (some (.int x2), h) else kxi (cl 55 [.int x1, .int x3] h) (fun r2 h1 => (if r2 = 0 then (if x2 = (-1) then dn 57 4 [some (.ref x0), some (.int x1), some (.int x3), some (.int (x3 + 1))] [] h1 else ((ia_gR h1 0 x0 6).bind fun a3 => (if ia_ok h1 5 [.ref a3, .int x3] = true then kxi (cl 215 [.ref a3, .int x3] h1) (fun r5 h4 => ((ia_gR h4 0 x0 6).bind fun a6 => (if ia_ok h4 5 [.ref a6, .int x2] = true then kxi (cl 215 [.ref a6, .int x2] h4) (fun r8 h7 => (if r8 ≤ r5 then dn 57 4 [some (.ref x0), some (.int x1), some (.int x2), some (.int (x3 + 1))] [] h7 else dn 57 4 [some (.ref x0), some (.int x1), some (.int x3), some (.int (x3 + 1))] [] h7)) else none))) else none))) else dn 57 4 [some (.ref x0), some (.int x1), some (.int x2), some (.int (x3 + 1))] [] h1))) := by
  refine (dq rfl rfl).trans ?_
  refine (dq rfl rfl).trans ?_
  refine (dq_ige rfl).trans (ie_c ?_ ?_)
  · refine (dq rfl rfl).trans ?_
    exact dq_ret1 rfl
  · refine (dq rfl rfl).trans ?_
    refine (dq rfl rfl).trans ?_
    refine (dq_kxi0 (z := 55) rfl (lq rfl) (lq rfl) (lq rfl) kd_55).trans (kxi_c (fun r2 h1 => ?_))
    refine (dq_ifne rfl).trans (ie_c ?_ ?_)
    · refine (dq rfl rfl).trans ?_
      refine (dq rfl rfl).trans ?_
      refine (dq_ieq rfl).trans (ie_c ?_ ?_)
      · refine (dq rfl rfl).trans ?_
        refine (dq rfl rfl).trans ?_
        refine (dq_iinc (v := 1) rfl rfl (by decide)).trans ?_
        refine (dq rfl rfl).trans ?_
        rfl
      · refine (dq rfl rfl).trans ?_
        refine (dq_getR rfl).trans (bn_c (fun a3 => ?_))
        refine (dq rfl rfl).trans ?_
        refine (dq_kxi (z := 215) rfl (lq rfl) (lq rfl) (lq rfl) kd_215).trans (it_c (kxi_c (fun r5 h4 => ?_)))
        refine (dq rfl rfl).trans ?_
        refine (dq_getR rfl).trans (bn_c (fun a6 => ?_))
        refine (dq rfl rfl).trans ?_
        refine (dq_kxi (z := 215) rfl (lq rfl) (lq rfl) (lq rfl) kd_215).trans (it_c (kxi_c (fun r8 h7 => ?_)))
        refine (dq_ige rfl).trans (ie_c ?_ ?_)
        · refine (dq_iinc (v := 1) rfl rfl (by decide)).trans ?_
          refine (dq rfl rfl).trans ?_
          rfl
        · refine (dq rfl rfl).trans ?_
          refine (dq rfl rfl).trans ?_
          refine (dq_iinc (v := 1) rfl rfl (by decide)).trans ?_
          refine (dq rfl rfl).trans ?_
          rfl
    · refine (dq_iinc (v := 1) rfl rfl (by decide)).trans ?_
      refine (dq rfl rfl).trans ?_
      rfl
theorem q_58 (ab : Nat) (h : ia_H) : cl 58 [.ref ab] h = ((ia_gR h 0 ab 0).bind fun a1 => ((ia_gI h 1 a1 3).bind fun v2 => some (some (.int ((-21) - v2)), h))) := by
  refine (dq rfl rfl).trans ?_
  refine (dq rfl rfl).trans ?_
  refine (dq_getR rfl).trans (bn_c (fun a1 => ?_))
  refine (dq_getI rfl).trans (bn_c (fun v2 => ?_))
  refine (dq rfl rfl).trans ?_
  exact dq_ret1 rfl
theorem q_59 (ab : Nat) (h : ia_H) : cl 59 [.ref ab] h = ((ia_gR h 0 ab 5).bind fun a1 => (if ia_ok h 4 [.ref a1] = true then kxv (cl 193 [.ref a1] h) (fun h2 => ((ia_gR h2 0 ab 0).bind fun a3 => (if ia_ok h2 1 [.ref a3] = true then kxi (cl 245 [.ref a3] h2) (fun r5 h4 => dn 59 11 [some (.ref ab), some (.int r5), some (.int 0), some (.int 0), none] [] h4) else none))) else none)) := by
  refine (dq rfl rfl).trans ?_
  refine (dq_getR rfl).trans (bn_c (fun a1 => ?_))
  refine (dq_kxv (z := 193) rfl (lq rfl) (lq rfl) (lq rfl) kd_193).trans (it_c (kxv_c (fun h2 => ?_)))
  refine (dq rfl rfl).trans ?_
  refine (dq_getR rfl).trans (bn_c (fun a3 => ?_))
  refine (dq_kxi (z := 245) rfl (lq rfl) (lq rfl) (lq rfl) kd_245).trans (it_c (kxi_c (fun r5 h4 => ?_)))
  refine (dq rfl rfl).trans ?_
  refine (dq rfl rfl).trans ?_
  refine (dq rfl rfl).trans ?_
  refine (dq rfl rfl).trans ?_
  refine (dq rfl rfl).trans ?_
  rfl
theorem q_59_11 (x0 : Nat) (x1 : Int32) (x2 : Int32) (x3 : Int32) (l4 : Option Value) (h : ia_H) : dn 59 11 [some (.ref x0), some (.int x1), some (.int x2), some (.int x3), l4] [] h = (if 200 ≤ x3 then kxi (cl 257 [.int x2] h) (fun r2 h1 => some (some (.int r2), h1)) else (if x1 = 0 then kxi (cl 257 [.int x2] h) (fun r4 h3 => some (some (.int r4), h3)) else ((ia_gR h 0 x0 0).bind fun a5 => (if ia_ok h 1 [.ref a5, .int 0, .int 3] = true then kxi (cl 253 [.ref a5, .int 0, .int 3] h) (fun r7 h6 => (if r7 = (-1) then dn 59 37 [some (.ref x0), some (.int x1), some (.int x2), some (.int x3), some (.int r7)] [] h6 else kxi (cl 55 [.int x2, .int r7] h6) (fun r9 h8 => (if r9 = 0 then dn 59 37 [some (.ref x0), some (.int x1), some (.int x2), some (.int x3), some (.int r7)] [] h8 else ((ia_gR h8 0 x0 0).bind fun a10 => ((ia_gR h8 0 x0 0).bind fun a11 => ((ia_gI h8 1 a11 2).bind fun v12 => (if ia_ok h8 1 [.ref a10, .int (v12 - 1)] = true then kxv (cl 249 [.ref a10, .int (v12 - 1)] h8) (fun h13 => dn 59 37 [some (.ref x0), some (.int x1), some (.int x2), some (.int x3), some (.int r7)] [] h13) else none)))))))) else none)))) := by
  refine (dq rfl rfl).trans ?_
  refine (dq rfl rfl).trans ?_
  refine (dq_ige rfl).trans (ie_c ?_ ?_)
  · refine (dq rfl rfl).trans ?_
    refine (dq_kxi0 (z := 257) rfl (lq rfl) (lq rfl) (lq rfl) kd_257).trans (kxi_c (fun r2 h1 => ?_))
    exact dq_ret1 rfl
  · refine (dq rfl rfl).trans ?_
    refine (dq_ifeq rfl).trans (ie_c ?_ ?_)
    · refine (dq rfl rfl).trans ?_
      refine (dq_kxi0 (z := 257) rfl (lq rfl) (lq rfl) (lq rfl) kd_257).trans (kxi_c (fun r4 h3 => ?_))
      exact dq_ret1 rfl
    · refine (dq rfl rfl).trans ?_
      refine (dq_getR rfl).trans (bn_c (fun a5 => ?_))
      refine (dq rfl rfl).trans ?_
      refine (dq rfl rfl).trans ?_
      refine (dq_kxi (z := 253) rfl (lq rfl) (lq rfl) (lq rfl) kd_253).trans (it_c (kxi_c (fun r7 h6 => ?_)))
      refine (dq rfl rfl).trans ?_
      refine (dq rfl rfl).trans ?_
      refine (dq rfl rfl).trans ?_
      refine (dq_ieq rfl).trans (ie_c ?_ ?_)
      · rfl
      · refine (dq rfl rfl).trans ?_
        refine (dq rfl rfl).trans ?_
        refine (dq_kxi0 (z := 55) rfl (lq rfl) (lq rfl) (lq rfl) kd_55).trans (kxi_c (fun r9 h8 => ?_))
        refine (dq_ifeq rfl).trans (ie_c ?_ ?_)
        · rfl
        · refine (dq rfl rfl).trans ?_
          refine (dq_getR rfl).trans (bn_c (fun a10 => ?_))
          refine (dq rfl rfl).trans ?_
          refine (dq_getR rfl).trans (bn_c (fun a11 => ?_))
          refine (dq_getI rfl).trans (bn_c (fun v12 => ?_))
          refine (dq rfl rfl).trans ?_
          refine (dq rfl rfl).trans ?_
          refine (dq_kxv (z := 249) rfl (lq rfl) (lq rfl) (lq rfl) kd_249).trans (it_c (kxv_c (fun h13 => ?_)))
          rfl
theorem q_59_37 (x0 : Nat) (x1 : Int32) (x2 : Int32) (x3 : Int32) (x4 : Int32) (h : ia_H) : dn 59 37 [some (.ref x0), some (.int x1), some (.int x2), some (.int x3), some (.int x4)] [] h = (if ia_ok h 0 [.ref x0, .int x4] = true then kxv (cl 60 [.ref x0, .int x4] h) (fun h1 => ((ia_gR h1 0 x0 0).bind fun a2 => (if ia_ok h1 1 [.ref a2] = true then kxi (cl 246 [.ref a2] h1) (fun r4 h3 => (if r4 = 0 then ((ia_gR h3 0 x0 0).bind fun a5 => (if ia_ok h3 1 [.ref a5, .int 59] = true then kxi (cl 255 [.ref a5, .int 59] h3) (fun r7 h6 => dn 59 11 [some (.ref x0), some (.int r7), some (.int x2), some (.int (x3 + 1)), some (.int x4)] [] h6) else none)) else kxi (cl 54 [.int x4] h3) (fun r9 h8 => ((ia_gR h8 0 x0 0).bind fun a10 => (if ia_ok h8 1 [.ref a10, .int 59] = true then kxi (cl 255 [.ref a10, .int 59] h8) (fun r12 h11 => dn 59 11 [some (.ref x0), some (.int r12), some (.int (x2 ||| r9)), some (.int (x3 + 1)), some (.int x4)] [] h11) else none))))) else none))) else none) := by
  refine (dq rfl rfl).trans ?_
  refine (dq rfl rfl).trans ?_
  refine (dq_kxv (z := 60) rfl (lq rfl) (lq rfl) (lq rfl) kd_60).trans (it_c (kxv_c (fun h1 => ?_)))
  refine (dq rfl rfl).trans ?_
  refine (dq_getR rfl).trans (bn_c (fun a2 => ?_))
  refine (dq_kxi (z := 246) rfl (lq rfl) (lq rfl) (lq rfl) kd_246).trans (it_c (kxi_c (fun r4 h3 => ?_)))
  refine (dq_ifeq rfl).trans (ie_c ?_ ?_)
  · refine (dq rfl rfl).trans ?_
    refine (dq_getR rfl).trans (bn_c (fun a5 => ?_))
    refine (dq rfl rfl).trans ?_
    refine (dq_kxi (z := 255) rfl (lq rfl) (lq rfl) (lq rfl) kd_255).trans (it_c (kxi_c (fun r7 h6 => ?_)))
    refine (dq rfl rfl).trans ?_
    refine (dq_iinc (v := 1) rfl rfl (by decide)).trans ?_
    refine (dq rfl rfl).trans ?_
    rfl
  · refine (dq rfl rfl).trans ?_
    refine (dq rfl rfl).trans ?_
    refine (dq_kxi0 (z := 54) rfl (lq rfl) (lq rfl) (lq rfl) kd_54).trans (kxi_c (fun r9 h8 => ?_))
    refine (dq rfl rfl).trans ?_
    refine (dq rfl rfl).trans ?_
    refine (dq rfl rfl).trans ?_
    refine (dq_getR rfl).trans (bn_c (fun a10 => ?_))
    refine (dq rfl rfl).trans ?_
    refine (dq_kxi (z := 255) rfl (lq rfl) (lq rfl) (lq rfl) kd_255).trans (it_c (kxi_c (fun r12 h11 => ?_)))
    refine (dq rfl rfl).trans ?_
    refine (dq_iinc (v := 1) rfl rfl (by decide)).trans ?_
    refine (dq rfl rfl).trans ?_
    rfl
theorem q_60 (ab : Nat) (ac : Int32) (h : ia_H) : cl 60 [.ref ab, .int ac] h = ((ia_gR h 0 ab 0).bind fun a1 => (if ia_ok h 1 [.ref a1, .int 111, .int 97] = true then kxi (cl 251 [.ref a1, .int 111, .int 97] h) (fun r3 h2 => (if r3 = 97 then dn 60 10 [some (.ref ab), some (.int ac), none, none, none] [.int 1] h2 else dn 60 10 [some (.ref ab), some (.int ac), none, none, none] [.int 0] h2)) else none)) := by
  refine (dq rfl rfl).trans ?_
  refine (dq_getR rfl).trans (bn_c (fun a1 => ?_))
  refine (dq rfl rfl).trans ?_
  refine (dq rfl rfl).trans ?_
  refine (dq_kxi (z := 251) rfl (lq rfl) (lq rfl) (lq rfl) kd_251).trans (it_c (kxi_c (fun r3 h2 => ?_)))
  refine (dq rfl rfl).trans ?_
  refine (dq_ine rfl).trans (ie_c ?_ ?_)
  · refine (dq rfl rfl).trans ?_
    refine (dq rfl rfl).trans ?_
    rfl
  · refine (dq rfl rfl).trans ?_
    rfl
theorem q_60_10 (x0 : Nat) (x1 : Int32) (l2 : Option Value) (l3 : Option Value) (l4 : Option Value) (s0 : Int32) (h : ia_H) : dn 60 10 [some (.ref x0), some (.int x1), l2, l3, l4] [.int s0] h = ((ia_gR h 0 x0 0).bind fun a1 => (if ia_ok h 1 [.ref a1, .int 1, .int 9] = true then kxi (cl 253 [.ref a1, .int 1, .int 9] h) (fun r3 h2 => ((ia_gR h2 0 x0 0).bind fun a4 => (if ia_ok h2 1 [.ref a4, .int 120] = true then kxv (cl 250 [.ref a4, .int 120] h2) (fun h5 => ((ia_gR h5 0 x0 0).bind fun a6 => (if ia_ok h5 1 [.ref a6, .int 0, .int 20] = true then kxi (cl 254 [.ref a6, .int 0, .int 20] h5) (fun r8 h7 => ((ia_gR h7 0 x0 0).bind fun a9 => (if ia_ok h7 1 [.ref a9] = true then kxi (cl 246 [.ref a9] h7) (fun r11 h10 => (if r11 = 0 then dn 60 53 [some (.ref x0), some (.int x1), some (.int s0), some (.int r3), some (.int r8)] [] h10 else ((ia_gR h10 0 x0 5).bind fun a12 => (if s0 = 0 then dn 60 40 [some (.ref x0), some (.int x1), some (.int s0), some (.int r3), some (.int r8)] [.int 0, .int 0, .int x1, .ref a12] h10 else dn 60 40 [some (.ref x0), some (.int x1), some (.int s0), some (.int r3), some (.int r8)] [.int 1, .int 0, .int x1, .ref a12] h10)))) else none))) else none))) else none))) else none)) := by
  refine (dq rfl rfl).trans ?_
  refine (dq rfl rfl).trans ?_
  refine (dq_getR rfl).trans (bn_c (fun a1 => ?_))
  refine (dq rfl rfl).trans ?_
  refine (dq rfl rfl).trans ?_
  refine (dq_kxi (z := 253) rfl (lq rfl) (lq rfl) (lq rfl) kd_253).trans (it_c (kxi_c (fun r3 h2 => ?_)))
  refine (dq rfl rfl).trans ?_
  refine (dq rfl rfl).trans ?_
  refine (dq_getR rfl).trans (bn_c (fun a4 => ?_))
  refine (dq rfl rfl).trans ?_
  refine (dq_kxv (z := 250) rfl (lq rfl) (lq rfl) (lq rfl) kd_250).trans (it_c (kxv_c (fun h5 => ?_)))
  refine (dq rfl rfl).trans ?_
  refine (dq_getR rfl).trans (bn_c (fun a6 => ?_))
  refine (dq rfl rfl).trans ?_
  refine (dq rfl rfl).trans ?_
  refine (dq_kxi (z := 254) rfl (lq rfl) (lq rfl) (lq rfl) kd_254).trans (it_c (kxi_c (fun r8 h7 => ?_)))
  refine (dq rfl rfl).trans ?_
  refine (dq rfl rfl).trans ?_
  refine (dq_getR rfl).trans (bn_c (fun a9 => ?_))
  refine (dq_kxi (z := 246) rfl (lq rfl) (lq rfl) (lq rfl) kd_246).trans (it_c (kxi_c (fun r11 h10 => ?_)))
  refine (dq_ifeq rfl).trans (ie_c ?_ ?_)
  · rfl
  · refine (dq rfl rfl).trans ?_
    refine (dq_getR rfl).trans (bn_c (fun a12 => ?_))
    refine (dq rfl rfl).trans ?_
    refine (dq rfl rfl).trans ?_
    refine (dq rfl rfl).trans ?_
    refine (dq_ifeq rfl).trans (ie_c ?_ ?_)
    · refine (dq rfl rfl).trans ?_
      rfl
    · refine (dq rfl rfl).trans ?_
      refine (dq rfl rfl).trans ?_
      rfl
theorem q_60_40 (x0 : Nat) (x1 : Int32) (x2 : Int32) (x3 : Int32) (x4 : Int32) (s0 : Nat) (s1 : Int32) (s2 : Int32) (s3 : Int32) (h : ia_H) : dn 60 40 [some (.ref x0), some (.int x1), some (.int x2), some (.int x3), some (.int x4)] [.int s3, .int s2, .int s1, .ref s0] h = (if ia_ok h 4 [.ref s0, .int s1, .int s2, .int s3] = true then kxv (cl 196 [.ref s0, .int s1, .int s2, .int s3] h) (fun h1 => ((ia_gR h1 0 x0 5).bind fun a2 => (if ia_ok h1 4 [.ref a2, .int x1, .int 1, .int x3] = true then kxv (cl 196 [.ref a2, .int x1, .int 1, .int x3] h1) (fun h3 => ((ia_gR h3 0 x0 5).bind fun a4 => (if ia_ok h3 4 [.ref a4, .int x1, .int 2, .int x4] = true then kxv (cl 196 [.ref a4, .int x1, .int 2, .int x4] h3) (fun h5 => dn 60 53 [some (.ref x0), some (.int x1), some (.int x2), some (.int x3), some (.int x4)] [] h5) else none))) else none))) else none) := by
  refine (dq_kxv (z := 196) rfl (lq rfl) (lq rfl) (lq rfl) kd_196).trans (it_c (kxv_c (fun h1 => ?_)))
  refine (dq rfl rfl).trans ?_
  refine (dq_getR rfl).trans (bn_c (fun a2 => ?_))
  refine (dq rfl rfl).trans ?_
  refine (dq rfl rfl).trans ?_
  refine (dq rfl rfl).trans ?_
  refine (dq_kxv (z := 196) rfl (lq rfl) (lq rfl) (lq rfl) kd_196).trans (it_c (kxv_c (fun h3 => ?_)))
  refine (dq rfl rfl).trans ?_
  refine (dq_getR rfl).trans (bn_c (fun a4 => ?_))
  refine (dq rfl rfl).trans ?_
  refine (dq rfl rfl).trans ?_
  refine (dq rfl rfl).trans ?_
  refine (dq_kxv (z := 196) rfl (lq rfl) (lq rfl) (lq rfl) kd_196).trans (it_c (kxv_c (fun h5 => ?_)))
  rfl
theorem q_60_53 (x0 : Nat) (x1 : Int32) (x2 : Int32) (x3 : Int32) (x4 : Int32) (h : ia_H) : dn 60 53 [some (.ref x0), some (.int x1), some (.int x2), some (.int x3), some (.int x4)] [] h = ((ia_gR h 0 x0 0).bind fun a1 => (if ia_ok h 1 [.ref a1] = true then kxi (cl 246 [.ref a1] h) (fun r3 h2 => (if r3 = 0 then some (none, h2) else ((ia_gR h2 0 x0 0).bind fun a4 => (if ia_ok h2 1 [.ref a4] = true then kxi (cl 248 [.ref a4] h2) (fun r6 h5 => (if r6 = 58 then (if ia_ok h5 0 [.ref x0, .int x1] = true then kxv (cl 61 [.ref x0, .int x1] h5) (fun h7 => some (none, h7)) else none) else some (none, h5))) else none)))) else none)) := by
  refine (dq rfl rfl).trans ?_
  refine (dq_getR rfl).trans (bn_c (fun a1 => ?_))
  refine (dq_kxi (z := 246) rfl (lq rfl) (lq rfl) (lq rfl) kd_246).trans (it_c (kxi_c (fun r3 h2 => ?_)))
  refine (dq_ifeq rfl).trans (ie_c ?_ ?_)
  · exact dq_ret0 rfl
  · refine (dq rfl rfl).trans ?_
    refine (dq_getR rfl).trans (bn_c (fun a4 => ?_))
    refine (dq_kxi (z := 248) rfl (lq rfl) (lq rfl) (lq rfl) kd_248).trans (it_c (kxi_c (fun r6 h5 => ?_)))
    refine (dq rfl rfl).trans ?_
    refine (dq_ine rfl).trans (ie_c ?_ ?_)
    · refine (dq rfl rfl).trans ?_
      refine (dq rfl rfl).trans ?_
      refine (dq_kxv (z := 61) rfl (lq rfl) (lq rfl) (lq rfl) kd_61).trans (it_c (kxv_c (fun h7 => ?_)))
      exact dq_ret0 rfl
    · exact dq_ret0 rfl
theorem q_61 (ab : Nat) (ac : Int32) (h : ia_H) : cl 61 [.ref ab, .int ac] h = dn 61 6 [some (.ref ab), some (.int ac), some (.int 58), some (.int 0), some (.int 0), none, none] [] h := by
  refine (dq rfl rfl).trans ?_
  refine (dq rfl rfl).trans ?_
  refine (dq rfl rfl).trans ?_
  refine (dq rfl rfl).trans ?_
  refine (dq rfl rfl).trans ?_
  refine (dq rfl rfl).trans ?_
  rfl
theorem q_61_6 (x0 : Nat) (x1 : Int32) (x2 : Int32) (x3 : Int32) (x4 : Int32) (l5 : Option Value) (l6 : Option Value) (h : ia_H) : dn 61 6 [some (.ref x0), some (.int x1), some (.int x2), some (.int x3), some (.int x4), l5, l6] [] h = (if 4 ≤ x4 then some (none, h) else ((ia_gR h 0 x0 0).bind fun a1 => (if ia_ok h 1 [.ref a1, .int x2] = true then kxv (cl 250 [.ref a1, .int x2] h) (fun h2 => ((ia_gR h2 0 x0 0).bind fun a3 => (if ia_ok h2 1 [.ref a3, .int (x3 + 1), .int 20] = true then kxi (cl 254 [.ref a3, .int (x3 + 1), .int 20] h2) (fun r5 h4 => ((ia_gR h4 0 x0 0).bind fun a6 => (if ia_ok h4 1 [.ref a6, .int 47] = true then kxv (cl 250 [.ref a6, .int 47] h4) (fun h7 => ((ia_gR h7 0 x0 0).bind fun a8 => (if ia_ok h7 1 [.ref a8, .int 1, .int 9] = true then kxi (cl 253 [.ref a8, .int 1, .int 9] h7) (fun r10 h9 => ((ia_gR h9 0 x0 0).bind fun a11 => (if ia_ok h9 1 [.ref a11] = true then kxi (cl 246 [.ref a11] h9) (fun r13 h12 => (if r13 = 0 then some (none, h12) else ((ia_gR h12 0 x0 5).bind fun a14 => (if ia_ok h12 4 [.ref a14, .int x1, .int r5, .int r10] = true then kxv (cl 200 [.ref a14, .int x1, .int r5, .int r10] h12) (fun h15 => ((ia_gR h15 0 x0 0).bind fun a16 => (if ia_ok h15 1 [.ref a16] = true then kxi (cl 248 [.ref a16] h15) (fun r18 h17 => (if r18 = 44 then dn 61 6 [some (.ref x0), some (.int x1), some (.int 44), some (.int r5), some (.int (x4 + 1)), some (.int r5), some (.int r10)] [] h17 else some (none, h17))) else none))) else none)))) else none))) else none))) else none))) else none))) else none))) := by
  refine (dq rfl rfl).trans ?_
  refine (dq rfl rfl).trans ?_
  refine (dq_ige rfl).trans (ie_c ?_ ?_)
  · exact dq_ret0 rfl
  · refine (dq rfl rfl).trans ?_
    refine (dq_getR rfl).trans (bn_c (fun a1 => ?_))
    refine (dq rfl rfl).trans ?_
    refine (dq_kxv (z := 250) rfl (lq rfl) (lq rfl) (lq rfl) kd_250).trans (it_c (kxv_c (fun h2 => ?_)))
    refine (dq rfl rfl).trans ?_
    refine (dq_getR rfl).trans (bn_c (fun a3 => ?_))
    refine (dq rfl rfl).trans ?_
    refine (dq rfl rfl).trans ?_
    refine (dq rfl rfl).trans ?_
    refine (dq rfl rfl).trans ?_
    refine (dq_kxi (z := 254) rfl (lq rfl) (lq rfl) (lq rfl) kd_254).trans (it_c (kxi_c (fun r5 h4 => ?_)))
    refine (dq rfl rfl).trans ?_
    refine (dq rfl rfl).trans ?_
    refine (dq_getR rfl).trans (bn_c (fun a6 => ?_))
    refine (dq rfl rfl).trans ?_
    refine (dq_kxv (z := 250) rfl (lq rfl) (lq rfl) (lq rfl) kd_250).trans (it_c (kxv_c (fun h7 => ?_)))
    refine (dq rfl rfl).trans ?_
    refine (dq_getR rfl).trans (bn_c (fun a8 => ?_))
    refine (dq rfl rfl).trans ?_
    refine (dq rfl rfl).trans ?_
    refine (dq_kxi (z := 253) rfl (lq rfl) (lq rfl) (lq rfl) kd_253).trans (it_c (kxi_c (fun r10 h9 => ?_)))
    refine (dq rfl rfl).trans ?_
    refine (dq rfl rfl).trans ?_
    refine (dq_getR rfl).trans (bn_c (fun a11 => ?_))
    refine (dq_kxi (z := 246) rfl (lq rfl) (lq rfl) (lq rfl) kd_246).trans (it_c (kxi_c (fun r13 h12 => ?_)))
    refine (dq_ifne rfl).trans (ie_c ?_ ?_)
    · exact dq_ret0 rfl
    · refine (dq rfl rfl).trans ?_
      refine (dq_getR rfl).trans (bn_c (fun a14 => ?_))
      refine (dq rfl rfl).trans ?_
      refine (dq rfl rfl).trans ?_
      refine (dq rfl rfl).trans ?_
      refine (dq_kxv (z := 200) rfl (lq rfl) (lq rfl) (lq rfl) kd_200).trans (it_c (kxv_c (fun h15 => ?_)))
      refine (dq rfl rfl).trans ?_
      refine (dq rfl rfl).trans ?_
      refine (dq rfl rfl).trans ?_
      refine (dq rfl rfl).trans ?_
      refine (dq rfl rfl).trans ?_
      refine (dq_getR rfl).trans (bn_c (fun a16 => ?_))
      refine (dq_kxi (z := 248) rfl (lq rfl) (lq rfl) (lq rfl) kd_248).trans (it_c (kxi_c (fun r18 h17 => ?_)))
      refine (dq rfl rfl).trans ?_
      refine (dq_ieq rfl).trans (ie_c ?_ ?_)
      · refine (dq_iinc (v := 1) rfl rfl (by decide)).trans ?_
        refine (dq rfl rfl).trans ?_
        rfl
      · exact dq_ret0 rfl
theorem q_62 (ab : Nat) (h : ia_H) : cl 62 [.ref ab] h = ((ia_gR h 0 ab 0).bind fun a1 => (if ia_ok h 1 [.ref a1] = true then kxi (cl 245 [.ref a1] h) (fun r3 h2 => ((ia_gR h2 0 ab 2).bind fun a4 => (if ia_ok h2 2 [.ref a4] = true then kxv (cl 177 [.ref a4] h2) (fun h5 => dn 62 9 [some (.ref ab), some (.int r3), some (.int 0)] [] h5) else none))) else none)) := by
  refine (dq rfl rfl).trans ?_
  refine (dq_getR rfl).trans (bn_c (fun a1 => ?_))
  refine (dq_kxi (z := 245) rfl (lq rfl) (lq rfl) (lq rfl) kd_245).trans (it_c (kxi_c (fun r3 h2 => ?_)))
  refine (dq rfl rfl).trans ?_
  refine (dq rfl rfl).trans ?_
  refine (dq_getR rfl).trans (bn_c (fun a4 => ?_))
  refine (dq_kxv (z := 177) rfl (lq rfl) (lq rfl) (lq rfl) kd_177).trans (it_c (kxv_c (fun h5 => ?_)))
  refine (dq rfl rfl).trans ?_
  refine (dq rfl rfl).trans ?_
  rfl
theorem q_62_9 (x0 : Nat) (x1 : Int32) (x2 : Int32) (h : ia_H) : dn 62 9 [some (.ref x0), some (.int x1), some (.int x2)] [] h = (if 12 ≤ x2 then (if x1 = 0 then some (none, h) else ((ia_gR h 0 x0 0).bind fun a1 => (if ia_ok h 1 [.ref a1, .int 12] = true then kxv (cl 249 [.ref a1, .int 12] h) (fun h2 => some (none, h2)) else none))) else (if x1 = 0 then (if x1 = 0 then some (none, h) else ((ia_gR h 0 x0 0).bind fun a3 => (if ia_ok h 1 [.ref a3, .int 12] = true then kxv (cl 249 [.ref a3, .int 12] h) (fun h4 => some (none, h4)) else none))) else ((ia_gR h 0 x0 2).bind fun a5 => ((ia_gR h 0 x0 0).bind fun a6 => (if ia_ok h 1 [.ref a6, .int 0, .int 3] = true then kxi (cl 253 [.ref a6, .int 0, .int 3] h) (fun r8 h7 => (if ia_ok h7 2 [.ref a5, .int r8, .int 0, .int 0] = true then kxv (cl 178 [.ref a5, .int r8, .int 0, .int 0] h7) (fun h9 => ((ia_gR h9 0 x0 0).bind fun a10 => (if ia_ok h9 1 [.ref a10] = true then kxi (cl 246 [.ref a10] h9) (fun r12 h11 => (if r12 = 0 then dn 62 9 [some (.ref x0), some (.int 0), some (.int (x2 + 1))] [] h11 else ((ia_gR h11 0 x0 0).bind fun a13 => (if ia_ok h11 1 [.ref a13] = true then kxi (cl 247 [.ref a13] h11) (fun r15 h14 => (if r15 = 0 then dn 62 9 [some (.ref x0), some (.int 1), some (.int (x2 + 1))] [] h14 else dn 62 9 [some (.ref x0), some (.int 0), some (.int (x2 + 1))] [] h14)) else none)))) else none))) else none)) else none))))) := by
  refine (dq rfl rfl).trans ?_
  refine (dq rfl rfl).trans ?_
  refine (dq_ige rfl).trans (ie_c ?_ ?_)
  · refine (dq rfl rfl).trans ?_
    refine (dq_ifeq rfl).trans (ie_c ?_ ?_)
    · exact dq_ret0 rfl
    · refine (dq rfl rfl).trans ?_
      refine (dq_getR rfl).trans (bn_c (fun a1 => ?_))
      refine (dq rfl rfl).trans ?_
      refine (dq_kxv (z := 249) rfl (lq rfl) (lq rfl) (lq rfl) kd_249).trans (it_c (kxv_c (fun h2 => ?_)))
      exact dq_ret0 rfl
  · refine (dq rfl rfl).trans ?_
    refine (dq_ifeq rfl).trans (ie_c ?_ ?_)
    · refine (dq rfl rfl).trans ?_
      refine (dq_ifeq rfl).trans (ie_c ?_ ?_)
      · exact dq_ret0 rfl
      · refine (dq rfl rfl).trans ?_
        refine (dq_getR rfl).trans (bn_c (fun a3 => ?_))
        refine (dq rfl rfl).trans ?_
        refine (dq_kxv (z := 249) rfl (lq rfl) (lq rfl) (lq rfl) kd_249).trans (it_c (kxv_c (fun h4 => ?_)))
        exact dq_ret0 rfl
    · refine (dq rfl rfl).trans ?_
      refine (dq_getR rfl).trans (bn_c (fun a5 => ?_))
      refine (dq rfl rfl).trans ?_
      refine (dq_getR rfl).trans (bn_c (fun a6 => ?_))
      refine (dq rfl rfl).trans ?_
      refine (dq rfl rfl).trans ?_
      refine (dq_kxi (z := 253) rfl (lq rfl) (lq rfl) (lq rfl) kd_253).trans (it_c (kxi_c (fun r8 h7 => ?_)))
      refine (dq rfl rfl).trans ?_
      refine (dq rfl rfl).trans ?_
      refine (dq_kxv (z := 178) rfl (lq rfl) (lq rfl) (lq rfl) kd_178).trans (it_c (kxv_c (fun h9 => ?_)))
      refine (dq rfl rfl).trans ?_
      refine (dq_getR rfl).trans (bn_c (fun a10 => ?_))
      refine (dq_kxi (z := 246) rfl (lq rfl) (lq rfl) (lq rfl) kd_246).trans (it_c (kxi_c (fun r12 h11 => ?_)))
      refine (dq_ifeq rfl).trans (ie_c ?_ ?_)
      · refine (dq rfl rfl).trans ?_
        refine (dq rfl rfl).trans ?_
        refine (dq_iinc (v := 1) rfl rfl (by decide)).trans ?_
        refine (dq rfl rfl).trans ?_
        rfl
      · refine (dq rfl rfl).trans ?_
        refine (dq_getR rfl).trans (bn_c (fun a13 => ?_))
        refine (dq_kxi (z := 247) rfl (lq rfl) (lq rfl) (lq rfl) kd_247).trans (it_c (kxi_c (fun r15 h14 => ?_)))
        refine (dq_ifne rfl).trans (ie_c ?_ ?_)
        · refine (dq rfl rfl).trans ?_
          refine (dq rfl rfl).trans ?_
          refine (dq rfl rfl).trans ?_
          refine (dq_iinc (v := 1) rfl rfl (by decide)).trans ?_
          refine (dq rfl rfl).trans ?_
          rfl
        · refine (dq rfl rfl).trans ?_
          refine (dq rfl rfl).trans ?_
          refine (dq_iinc (v := 1) rfl rfl (by decide)).trans ?_
          refine (dq rfl rfl).trans ?_
          rfl
theorem q_63 (ab : Nat) (h : ia_H) : cl 63 [.ref ab] h = ((ia_gR h 0 ab 0).bind fun a1 => (if ia_ok h 1 [.ref a1] = true then kxi (cl 245 [.ref a1] h) (fun r3 h2 => ((ia_gR h2 0 ab 2).bind fun a4 => (if ia_ok h2 2 [.ref a4] = true then kxv (cl 177 [.ref a4] h2) (fun h5 => dn 63 9 [some (.ref ab), some (.int r3), some (.int 0), none] [] h5) else none))) else none)) := by
  refine (dq rfl rfl).trans ?_
  refine (dq_getR rfl).trans (bn_c (fun a1 => ?_))
  refine (dq_kxi (z := 245) rfl (lq rfl) (lq rfl) (lq rfl) kd_245).trans (it_c (kxi_c (fun r3 h2 => ?_)))
  refine (dq rfl rfl).trans ?_
  refine (dq rfl rfl).trans ?_
  refine (dq_getR rfl).trans (bn_c (fun a4 => ?_))
  refine (dq_kxv (z := 177) rfl (lq rfl) (lq rfl) (lq rfl) kd_177).trans (it_c (kxv_c (fun h5 => ?_)))
  refine (dq rfl rfl).trans ?_
  refine (dq rfl rfl).trans ?_
  rfl
theorem q_63_9 (x0 : Nat) (x1 : Int32) (x2 : Int32) (l3 : Option Value) (h : ia_H) : dn 63 9 [some (.ref x0), some (.int x1), some (.int x2), l3] [] h = (if 200 ≤ x2 then some (none, h) else (if x1 = 0 then some (none, h) else ((ia_gR h 0 x0 0).bind fun a1 => (if ia_ok h 1 [.ref a1, .int 121, .int 114] = true then kxi (cl 251 [.ref a1, .int 121, .int 114] h) (fun r3 h2 => (if r3 = 114 then dn 63 24 [some (.ref x0), some (.int x1), some (.int x2), l3] [.int 1] h2 else dn 63 24 [some (.ref x0), some (.int x1), some (.int x2), l3] [.int 0] h2)) else none)))) := by
  refine (dq rfl rfl).trans ?_
  refine (dq rfl rfl).trans ?_
  refine (dq_ige rfl).trans (ie_c ?_ ?_)
  · exact dq_ret0 rfl
  · refine (dq rfl rfl).trans ?_
    refine (dq_ifeq rfl).trans (ie_c ?_ ?_)
    · exact dq_ret0 rfl
    · refine (dq rfl rfl).trans ?_
      refine (dq_getR rfl).trans (bn_c (fun a1 => ?_))
      refine (dq rfl rfl).trans ?_
      refine (dq rfl rfl).trans ?_
      refine (dq_kxi (z := 251) rfl (lq rfl) (lq rfl) (lq rfl) kd_251).trans (it_c (kxi_c (fun r3 h2 => ?_)))
      refine (dq rfl rfl).trans ?_
      refine (dq_ine rfl).trans (ie_c ?_ ?_)
      · refine (dq rfl rfl).trans ?_
        refine (dq rfl rfl).trans ?_
        rfl
      · refine (dq rfl rfl).trans ?_
        rfl
theorem q_63_24 (x0 : Nat) (x1 : Int32) (x2 : Int32) (l3 : Option Value) (s0 : Int32) (h : ia_H) : dn 63 24 [some (.ref x0), some (.int x1), some (.int x2), l3] [.int s0] h = ((ia_gR h 0 x0 2).bind fun a1 => ((ia_gR h 0 x0 0).bind fun a2 => ((ia_gR h 0 x0 6).bind fun a3 => ((ia_gI h 5 a3 0).bind fun v4 => (if ia_ok h 1 [.ref a2, .int 0, .int (v4 - 1)] = true then kxi (cl 254 [.ref a2, .int 0, .int (v4 - 1)] h) (fun r6 h5 => (if ia_ok h5 2 [.ref a1, .int s0, .int r6, .int 0] = true then kxv (cl 178 [.ref a1, .int s0, .int r6, .int 0] h5) (fun h7 => ((ia_gR h7 0 x0 0).bind fun a8 => (if ia_ok h7 1 [.ref a8, .int 44] = true then kxi (cl 255 [.ref a8, .int 44] h7) (fun r10 h9 => dn 63 9 [some (.ref x0), some (.int r10), some (.int (x2 + 1)), some (.int s0)] [] h9) else none))) else none)) else none))))) := by
  refine (dq rfl rfl).trans ?_
  refine (dq rfl rfl).trans ?_
  refine (dq_getR rfl).trans (bn_c (fun a1 => ?_))
  refine (dq rfl rfl).trans ?_
  refine (dq rfl rfl).trans ?_
  refine (dq_getR rfl).trans (bn_c (fun a2 => ?_))
  refine (dq rfl rfl).trans ?_
  refine (dq rfl rfl).trans ?_
  refine (dq_getR rfl).trans (bn_c (fun a3 => ?_))
  refine (dq_getI rfl).trans (bn_c (fun v4 => ?_))
  refine (dq rfl rfl).trans ?_
  refine (dq rfl rfl).trans ?_
  refine (dq_kxi (z := 254) rfl (lq rfl) (lq rfl) (lq rfl) kd_254).trans (it_c (kxi_c (fun r6 h5 => ?_)))
  refine (dq rfl rfl).trans ?_
  refine (dq_kxv (z := 178) rfl (lq rfl) (lq rfl) (lq rfl) kd_178).trans (it_c (kxv_c (fun h7 => ?_)))
  refine (dq rfl rfl).trans ?_
  refine (dq_getR rfl).trans (bn_c (fun a8 => ?_))
  refine (dq rfl rfl).trans ?_
  refine (dq_kxi (z := 255) rfl (lq rfl) (lq rfl) (lq rfl) kd_255).trans (it_c (kxi_c (fun r10 h9 => ?_)))
  refine (dq rfl rfl).trans ?_
  refine (dq_iinc (v := 1) rfl rfl (by decide)).trans ?_
  refine (dq rfl rfl).trans ?_
  rfl
theorem q_64 (ab : Nat) (h : ia_H) : cl 64 [.ref ab] h = ((ia_gR h 0 ab 0).bind fun a1 => (if ia_ok h 1 [.ref a1] = true then kxi (cl 245 [.ref a1] h) (fun r3 h2 => ((ia_gR h2 0 ab 2).bind fun a4 => (if ia_ok h2 2 [.ref a4] = true then kxv (cl 177 [.ref a4] h2) (fun h5 => dn 64 9 [some (.ref ab), some (.int r3), some (.int 0), none, none] [] h5) else none))) else none)) := by
  refine (dq rfl rfl).trans ?_
  refine (dq_getR rfl).trans (bn_c (fun a1 => ?_))
  refine (dq_kxi (z := 245) rfl (lq rfl) (lq rfl) (lq rfl) kd_245).trans (it_c (kxi_c (fun r3 h2 => ?_)))
  refine (dq rfl rfl).trans ?_
  refine (dq rfl rfl).trans ?_
  refine (dq_getR rfl).trans (bn_c (fun a4 => ?_))
  refine (dq_kxv (z := 177) rfl (lq rfl) (lq rfl) (lq rfl) kd_177).trans (it_c (kxv_c (fun h5 => ?_)))
  refine (dq rfl rfl).trans ?_
  refine (dq rfl rfl).trans ?_
  rfl
theorem q_64_9 (x0 : Nat) (x1 : Int32) (x2 : Int32) (l3 : Option Value) (l4 : Option Value) (h : ia_H) : dn 64 9 [some (.ref x0), some (.int x1), some (.int x2), l3, l4] [] h = (if 200 ≤ x2 then some (none, h) else (if x1 = 0 then some (none, h) else ((ia_gR h 0 x0 0).bind fun a1 => ((ia_gR h 0 x0 6).bind fun a2 => ((ia_gI h 5 a2 0).bind fun v3 => (if ia_ok h 1 [.ref a1, .int 0, .int (v3 - 1)] = true then kxi (cl 254 [.ref a1, .int 0, .int (v3 - 1)] h) (fun r5 h4 => ((ia_gR h4 0 x0 0).bind fun a6 => (if ia_ok h4 1 [.ref a6, .int 99] = true then kxv (cl 250 [.ref a6, .int 99] h4) (fun h7 => ((ia_gR h7 0 x0 0).bind fun a8 => (if ia_ok h7 1 [.ref a8, .int 0, .int 3] = true then kxi (cl 253 [.ref a8, .int 0, .int 3] h7) (fun r10 h9 => ((ia_gR h9 0 x0 0).bind fun a11 => (if ia_ok h9 1 [.ref a11, .int 110] = true then kxv (cl 250 [.ref a11, .int 110] h9) (fun h12 => ((ia_gR h12 0 x0 2).bind fun a13 => ((ia_gR h12 0 x0 0).bind fun a14 => (if ia_ok h12 1 [.ref a14, .int 1, .int 9] = true then kxi (cl 253 [.ref a14, .int 1, .int 9] h12) (fun r16 h15 => (if ia_ok h15 2 [.ref a13, .int r5, .int r10, .int r16] = true then kxv (cl 178 [.ref a13, .int r5, .int r10, .int r16] h15) (fun h17 => ((ia_gR h17 0 x0 0).bind fun a18 => (if ia_ok h17 1 [.ref a18, .int 44] = true then kxi (cl 255 [.ref a18, .int 44] h17) (fun r20 h19 => dn 64 9 [some (.ref x0), some (.int r20), some (.int (x2 + 1)), some (.int r5), some (.int r10)] [] h19) else none))) else none)) else none)))) else none))) else none))) else none))) else none)))))) := by
  refine (dq rfl rfl).trans ?_
  refine (dq rfl rfl).trans ?_
  refine (dq_ige rfl).trans (ie_c ?_ ?_)
  · exact dq_ret0 rfl
  · refine (dq rfl rfl).trans ?_
    refine (dq_ifeq rfl).trans (ie_c ?_ ?_)
    · exact dq_ret0 rfl
    · refine (dq rfl rfl).trans ?_
      refine (dq_getR rfl).trans (bn_c (fun a1 => ?_))
      refine (dq rfl rfl).trans ?_
      refine (dq rfl rfl).trans ?_
      refine (dq_getR rfl).trans (bn_c (fun a2 => ?_))
      refine (dq_getI rfl).trans (bn_c (fun v3 => ?_))
      refine (dq rfl rfl).trans ?_
      refine (dq rfl rfl).trans ?_
      refine (dq_kxi (z := 254) rfl (lq rfl) (lq rfl) (lq rfl) kd_254).trans (it_c (kxi_c (fun r5 h4 => ?_)))
      refine (dq rfl rfl).trans ?_
      refine (dq rfl rfl).trans ?_
      refine (dq_getR rfl).trans (bn_c (fun a6 => ?_))
      refine (dq rfl rfl).trans ?_
      refine (dq_kxv (z := 250) rfl (lq rfl) (lq rfl) (lq rfl) kd_250).trans (it_c (kxv_c (fun h7 => ?_)))
      refine (dq rfl rfl).trans ?_
      refine (dq_getR rfl).trans (bn_c (fun a8 => ?_))
      refine (dq rfl rfl).trans ?_
      refine (dq rfl rfl).trans ?_
      refine (dq_kxi (z := 253) rfl (lq rfl) (lq rfl) (lq rfl) kd_253).trans (it_c (kxi_c (fun r10 h9 => ?_)))
      refine (dq rfl rfl).trans ?_
      refine (dq rfl rfl).trans ?_
      refine (dq_getR rfl).trans (bn_c (fun a11 => ?_))
      refine (dq rfl rfl).trans ?_
      refine (dq_kxv (z := 250) rfl (lq rfl) (lq rfl) (lq rfl) kd_250).trans (it_c (kxv_c (fun h12 => ?_)))
      refine (dq rfl rfl).trans ?_
      refine (dq_getR rfl).trans (bn_c (fun a13 => ?_))
      refine (dq rfl rfl).trans ?_
      refine (dq rfl rfl).trans ?_
      refine (dq rfl rfl).trans ?_
      refine (dq_getR rfl).trans (bn_c (fun a14 => ?_))
      refine (dq rfl rfl).trans ?_
      refine (dq rfl rfl).trans ?_
      refine (dq_kxi (z := 253) rfl (lq rfl) (lq rfl) (lq rfl) kd_253).trans (it_c (kxi_c (fun r16 h15 => ?_)))
      refine (dq_kxv (z := 178) rfl (lq rfl) (lq rfl) (lq rfl) kd_178).trans (it_c (kxv_c (fun h17 => ?_)))
      refine (dq rfl rfl).trans ?_
      refine (dq_getR rfl).trans (bn_c (fun a18 => ?_))
      refine (dq rfl rfl).trans ?_
      refine (dq_kxi (z := 255) rfl (lq rfl) (lq rfl) (lq rfl) kd_255).trans (it_c (kxi_c (fun r20 h19 => ?_)))
      refine (dq rfl rfl).trans ?_
      refine (dq_iinc (v := 1) rfl rfl (by decide)).trans ?_
      refine (dq rfl rfl).trans ?_
      rfl

/-! equations of the methods 65 to 129, by program (wip/whole/dec.py) -/
theorem q_65 (ab : Nat) (h : ia_H) : cl 65 [.ref ab] h = ((ia_gR h 0 ab 0).bind fun a1 => (if ia_ok h 1 [.ref a1] = true then kxi (cl 245 [.ref a1] h) (fun r3 h2 => ((ia_gR h2 0 ab 2).bind fun a4 => (if ia_ok h2 2 [.ref a4] = true then kxv (cl 177 [.ref a4] h2) (fun h5 => dn 65 9 [some (.ref ab), some (.int r3), some (.int 0), none, none, none] [] h5) else none))) else none)) := by
  refine (dq rfl rfl).trans ?_
  refine (dq_getR rfl).trans (bn_c (fun a1 => ?_))
  refine (dq_kxi (z := 245) rfl (lq rfl) (lq rfl) (lq rfl) kd_245).trans (it_c (kxi_c (fun r3 h2 => ?_)))
  refine (dq rfl rfl).trans ?_
  refine (dq rfl rfl).trans ?_
  refine (dq_getR rfl).trans (bn_c (fun a4 => ?_))
  refine (dq_kxv (z := 177) rfl (lq rfl) (lq rfl) (lq rfl) kd_177).trans (it_c (kxv_c (fun h5 => ?_)))
  refine (dq rfl rfl).trans ?_
  refine (dq rfl rfl).trans ?_
  rfl
theorem q_65_9 (x0 : Nat) (x1 : Int32) (x2 : Int32) (l3 : Option Value) (l4 : Option Value) (l5 : Option Value) (h : ia_H) : dn 65 9 [some (.ref x0), some (.int x1), some (.int x2), l3, l4, l5] [] h = (if 200 ≤ x2 then some (none, h) else (if x1 = 0 then some (none, h) else ((ia_gR h 0 x0 0).bind fun a1 => (if ia_ok h 1 [.ref a1, .int 0, .int 3] = true then kxi (cl 253 [.ref a1, .int 0, .int 3] h) (fun r3 h2 => ((ia_gR h2 0 x0 0).bind fun a4 => (if ia_ok h2 1 [.ref a4, .int 0, .int 3] = true then kxi (cl 253 [.ref a4, .int 0, .int 3] h2) (fun r6 h5 => ((ia_gR h5 0 x0 0).bind fun a7 => (if ia_ok h5 1 [.ref a7, .int 0, .int 3] = true then kxi (cl 253 [.ref a7, .int 0, .int 3] h5) (fun r9 h8 => (if r9 = (-1) then dn 65 46 [some (.ref x0), some (.int x1), some (.int x2), some (.int r3), some (.int r6), some (.int r9)] [] h8 else (if r9 = r6 then ((ia_gR h8 0 x0 0).bind fun a10 => ((ia_gR h8 0 x0 0).bind fun a11 => ((ia_gI h8 1 a11 2).bind fun v12 => (if ia_ok h8 1 [.ref a10, .int (v12 - 1)] = true then kxv (cl 249 [.ref a10, .int (v12 - 1)] h8) (fun h13 => dn 65 46 [some (.ref x0), some (.int x1), some (.int x2), some (.int r3), some (.int r6), some (.int r9)] [] h13) else none)))) else dn 65 46 [some (.ref x0), some (.int x1), some (.int x2), some (.int r3), some (.int r6), some (.int r9)] [] h8))) else none))) else none))) else none)))) := by
  refine (dq rfl rfl).trans ?_
  refine (dq rfl rfl).trans ?_
  refine (dq_ige rfl).trans (ie_c ?_ ?_)
  · exact dq_ret0 rfl
  · refine (dq rfl rfl).trans ?_
    refine (dq_ifeq rfl).trans (ie_c ?_ ?_)
    · exact dq_ret0 rfl
    · refine (dq rfl rfl).trans ?_
      refine (dq_getR rfl).trans (bn_c (fun a1 => ?_))
      refine (dq rfl rfl).trans ?_
      refine (dq rfl rfl).trans ?_
      refine (dq_kxi (z := 253) rfl (lq rfl) (lq rfl) (lq rfl) kd_253).trans (it_c (kxi_c (fun r3 h2 => ?_)))
      refine (dq rfl rfl).trans ?_
      refine (dq rfl rfl).trans ?_
      refine (dq_getR rfl).trans (bn_c (fun a4 => ?_))
      refine (dq rfl rfl).trans ?_
      refine (dq rfl rfl).trans ?_
      refine (dq_kxi (z := 253) rfl (lq rfl) (lq rfl) (lq rfl) kd_253).trans (it_c (kxi_c (fun r6 h5 => ?_)))
      refine (dq rfl rfl).trans ?_
      refine (dq rfl rfl).trans ?_
      refine (dq_getR rfl).trans (bn_c (fun a7 => ?_))
      refine (dq rfl rfl).trans ?_
      refine (dq rfl rfl).trans ?_
      refine (dq_kxi (z := 253) rfl (lq rfl) (lq rfl) (lq rfl) kd_253).trans (it_c (kxi_c (fun r9 h8 => ?_)))
      refine (dq rfl rfl).trans ?_
      refine (dq rfl rfl).trans ?_
      refine (dq rfl rfl).trans ?_
      refine (dq_ieq rfl).trans (ie_c ?_ ?_)
      · rfl
      · refine (dq rfl rfl).trans ?_
        refine (dq rfl rfl).trans ?_
        refine (dq_ine rfl).trans (ie_c ?_ ?_)
        · refine (dq rfl rfl).trans ?_
          refine (dq_getR rfl).trans (bn_c (fun a10 => ?_))
          refine (dq rfl rfl).trans ?_
          refine (dq_getR rfl).trans (bn_c (fun a11 => ?_))
          refine (dq_getI rfl).trans (bn_c (fun v12 => ?_))
          refine (dq rfl rfl).trans ?_
          refine (dq rfl rfl).trans ?_
          refine (dq_kxv (z := 249) rfl (lq rfl) (lq rfl) (lq rfl) kd_249).trans (it_c (kxv_c (fun h13 => ?_)))
          rfl
        · rfl
theorem q_65_46 (x0 : Nat) (x1 : Int32) (x2 : Int32) (x3 : Int32) (x4 : Int32) (x5 : Int32) (h : ia_H) : dn 65 46 [some (.ref x0), some (.int x1), some (.int x2), some (.int x3), some (.int x4), some (.int x5)] [] h = ((ia_gR h 0 x0 2).bind fun a1 => (if ia_ok h 2 [.ref a1, .int x3, .int x4, .int x5] = true then kxv (cl 178 [.ref a1, .int x3, .int x4, .int x5] h) (fun h2 => ((ia_gR h2 0 x0 0).bind fun a3 => (if ia_ok h2 1 [.ref a3, .int 44] = true then kxi (cl 255 [.ref a3, .int 44] h2) (fun r5 h4 => dn 65 9 [some (.ref x0), some (.int r5), some (.int (x2 + 1)), some (.int x3), some (.int x4), some (.int x5)] [] h4) else none))) else none)) := by
  refine (dq rfl rfl).trans ?_
  refine (dq_getR rfl).trans (bn_c (fun a1 => ?_))
  refine (dq rfl rfl).trans ?_
  refine (dq rfl rfl).trans ?_
  refine (dq rfl rfl).trans ?_
  refine (dq_kxv (z := 178) rfl (lq rfl) (lq rfl) (lq rfl) kd_178).trans (it_c (kxv_c (fun h2 => ?_)))
  refine (dq rfl rfl).trans ?_
  refine (dq_getR rfl).trans (bn_c (fun a3 => ?_))
  refine (dq rfl rfl).trans ?_
  refine (dq_kxi (z := 255) rfl (lq rfl) (lq rfl) (lq rfl) kd_255).trans (it_c (kxi_c (fun r5 h4 => ?_)))
  refine (dq rfl rfl).trans ?_
  refine (dq_iinc (v := 1) rfl rfl (by decide)).trans ?_
  refine (dq rfl rfl).trans ?_
  rfl
theorem q_66 (ab : Nat) (h : ia_H) : cl 66 [.ref ab] h = ((ia_gR h 0 ab 1).bind fun a1 => (if ia_ok h 1 [.ref a1] = true then kxv (cl 243 [.ref a1] h) (fun h2 => dn 66 5 [some (.ref ab), some (.int 0), none] [] h2) else none)) := by
  refine (dq rfl rfl).trans ?_
  refine (dq_getR rfl).trans (bn_c (fun a1 => ?_))
  refine (dq_kxv (z := 243) rfl (lq rfl) (lq rfl) (lq rfl) kd_243).trans (it_c (kxv_c (fun h2 => ?_)))
  refine (dq rfl rfl).trans ?_
  refine (dq rfl rfl).trans ?_
  rfl
theorem q_66_5 (x0 : Nat) (x1 : Int32) (l2 : Option Value) (h : ia_H) : dn 66 5 [some (.ref x0), some (.int x1), l2] [] h = (if 4 ≤ x1 then some (none, h) else (if x1 ≤ 0 then dn 66 14 [some (.ref x0), some (.int x1), l2] [] h else ((ia_gR h 0 x0 1).bind fun a1 => (if ia_ok h 1 [.ref a1, .int 59] = true then kxv (cl 240 [.ref a1, .int 59] h) (fun h2 => dn 66 14 [some (.ref x0), some (.int x1), l2] [] h2) else none)))) := by
  refine (dq rfl rfl).trans ?_
  refine (dq rfl rfl).trans ?_
  refine (dq_ige rfl).trans (ie_c ?_ ?_)
  · exact dq_ret0 rfl
  · refine (dq rfl rfl).trans ?_
    refine (dq_ifle rfl).trans (ie_c ?_ ?_)
    · rfl
    · refine (dq rfl rfl).trans ?_
      refine (dq_getR rfl).trans (bn_c (fun a1 => ?_))
      refine (dq rfl rfl).trans ?_
      refine (dq_kxv (z := 240) rfl (lq rfl) (lq rfl) (lq rfl) kd_240).trans (it_c (kxv_c (fun h2 => ?_)))
      rfl
theorem q_66_14 (x0 : Nat) (x1 : Int32) (l2 : Option Value) (h : ia_H) : dn 66 14 [some (.ref x0), some (.int x1), l2] [] h = ((ia_gR h 0 x0 1).bind fun a1 => (if ia_ok h 1 [.ref a1, .int x1] = true then kxv (cl 241 [.ref a1, .int x1] h) (fun h2 => ((ia_gR h2 0 x0 1).bind fun a3 => ((ia_gR h2 0 x0 4).bind fun a4 => (if ia_ok h2 4 [.ref a4, .int x1, .int 0] = true then kxi (cl 195 [.ref a4, .int x1, .int 0] h2) (fun r6 h5 => (if r6 = 1 then dn 66 30 [some (.ref x0), some (.int x1), l2] [.int 97, .ref a3] h5 else dn 66 30 [some (.ref x0), some (.int x1), l2] [.int 111, .ref a3] h5)) else none)))) else none)) := by
  refine (dq rfl rfl).trans ?_
  refine (dq_getR rfl).trans (bn_c (fun a1 => ?_))
  refine (dq rfl rfl).trans ?_
  refine (dq_kxv (z := 241) rfl (lq rfl) (lq rfl) (lq rfl) kd_241).trans (it_c (kxv_c (fun h2 => ?_)))
  refine (dq rfl rfl).trans ?_
  refine (dq_getR rfl).trans (bn_c (fun a3 => ?_))
  refine (dq rfl rfl).trans ?_
  refine (dq_getR rfl).trans (bn_c (fun a4 => ?_))
  refine (dq rfl rfl).trans ?_
  refine (dq rfl rfl).trans ?_
  refine (dq_kxi (z := 195) rfl (lq rfl) (lq rfl) (lq rfl) kd_195).trans (it_c (kxi_c (fun r6 h5 => ?_)))
  refine (dq rfl rfl).trans ?_
  refine (dq_ine rfl).trans (ie_c ?_ ?_)
  · refine (dq rfl rfl).trans ?_
    refine (dq rfl rfl).trans ?_
    rfl
  · refine (dq rfl rfl).trans ?_
    rfl
theorem q_66_30 (x0 : Nat) (x1 : Int32) (l2 : Option Value) (s0 : Nat) (s1 : Int32) (h : ia_H) : dn 66 30 [some (.ref x0), some (.int x1), l2] [.int s1, .ref s0] h = (if ia_ok h 1 [.ref s0, .int s1] = true then kxv (cl 240 [.ref s0, .int s1] h) (fun h1 => ((ia_gR h1 0 x0 1).bind fun a2 => ((ia_gR h1 0 x0 4).bind fun a3 => (if ia_ok h1 4 [.ref a3, .int x1, .int 1] = true then kxi (cl 195 [.ref a3, .int x1, .int 1] h1) (fun r5 h4 => (if ia_ok h4 1 [.ref a2, .int r5] = true then kxv (cl 241 [.ref a2, .int r5] h4) (fun h6 => ((ia_gR h6 0 x0 1).bind fun a7 => (if ia_ok h6 1 [.ref a7, .int 120] = true then kxv (cl 240 [.ref a7, .int 120] h6) (fun h8 => ((ia_gR h8 0 x0 1).bind fun a9 => ((ia_gR h8 0 x0 4).bind fun a10 => (if ia_ok h8 4 [.ref a10, .int x1, .int 2] = true then kxi (cl 195 [.ref a10, .int x1, .int 2] h8) (fun r12 h11 => (if ia_ok h11 1 [.ref a9, .int r12] = true then kxv (cl 241 [.ref a9, .int r12] h11) (fun h13 => dn 66 53 [some (.ref x0), some (.int x1), some (.int 0)] [] h13) else none)) else none)))) else none))) else none)) else none)))) else none) := by
  refine (dq_kxv (z := 240) rfl (lq rfl) (lq rfl) (lq rfl) kd_240).trans (it_c (kxv_c (fun h1 => ?_)))
  refine (dq rfl rfl).trans ?_
  refine (dq_getR rfl).trans (bn_c (fun a2 => ?_))
  refine (dq rfl rfl).trans ?_
  refine (dq_getR rfl).trans (bn_c (fun a3 => ?_))
  refine (dq rfl rfl).trans ?_
  refine (dq rfl rfl).trans ?_
  refine (dq_kxi (z := 195) rfl (lq rfl) (lq rfl) (lq rfl) kd_195).trans (it_c (kxi_c (fun r5 h4 => ?_)))
  refine (dq_kxv (z := 241) rfl (lq rfl) (lq rfl) (lq rfl) kd_241).trans (it_c (kxv_c (fun h6 => ?_)))
  refine (dq rfl rfl).trans ?_
  refine (dq_getR rfl).trans (bn_c (fun a7 => ?_))
  refine (dq rfl rfl).trans ?_
  refine (dq_kxv (z := 240) rfl (lq rfl) (lq rfl) (lq rfl) kd_240).trans (it_c (kxv_c (fun h8 => ?_)))
  refine (dq rfl rfl).trans ?_
  refine (dq_getR rfl).trans (bn_c (fun a9 => ?_))
  refine (dq rfl rfl).trans ?_
  refine (dq_getR rfl).trans (bn_c (fun a10 => ?_))
  refine (dq rfl rfl).trans ?_
  refine (dq rfl rfl).trans ?_
  refine (dq_kxi (z := 195) rfl (lq rfl) (lq rfl) (lq rfl) kd_195).trans (it_c (kxi_c (fun r12 h11 => ?_)))
  refine (dq_kxv (z := 241) rfl (lq rfl) (lq rfl) (lq rfl) kd_241).trans (it_c (kxv_c (fun h13 => ?_)))
  refine (dq rfl rfl).trans ?_
  refine (dq rfl rfl).trans ?_
  rfl
theorem q_66_53 (x0 : Nat) (x1 : Int32) (x2 : Int32) (h : ia_H) : dn 66 53 [some (.ref x0), some (.int x1), some (.int x2)] [] h = ((ia_gR h 0 x0 4).bind fun a1 => (if ia_ok h 4 [.ref a1, .int x1] = true then kxi (cl 197 [.ref a1, .int x1] h) (fun r3 h2 => (if r3 ≤ x2 then dn 66 5 [some (.ref x0), some (.int (x1 + 1)), some (.int x2)] [] h2 else ((ia_gR h2 0 x0 1).bind fun a4 => (if x2 = 0 then dn 66 66 [some (.ref x0), some (.int x1), some (.int x2)] [.int 58, .ref a4] h2 else dn 66 66 [some (.ref x0), some (.int x1), some (.int x2)] [.int 44, .ref a4] h2)))) else none)) := by
  refine (dq rfl rfl).trans ?_
  refine (dq rfl rfl).trans ?_
  refine (dq_getR rfl).trans (bn_c (fun a1 => ?_))
  refine (dq rfl rfl).trans ?_
  refine (dq_kxi (z := 197) rfl (lq rfl) (lq rfl) (lq rfl) kd_197).trans (it_c (kxi_c (fun r3 h2 => ?_)))
  refine (dq_ige rfl).trans (ie_c ?_ ?_)
  · refine (dq_iinc (v := 1) rfl rfl (by decide)).trans ?_
    refine (dq rfl rfl).trans ?_
    rfl
  · refine (dq rfl rfl).trans ?_
    refine (dq_getR rfl).trans (bn_c (fun a4 => ?_))
    refine (dq rfl rfl).trans ?_
    refine (dq_ifne rfl).trans (ie_c ?_ ?_)
    · refine (dq rfl rfl).trans ?_
      refine (dq rfl rfl).trans ?_
      rfl
    · refine (dq rfl rfl).trans ?_
      rfl
theorem q_66_66 (x0 : Nat) (x1 : Int32) (x2 : Int32) (s0 : Nat) (s1 : Int32) (h : ia_H) : dn 66 66 [some (.ref x0), some (.int x1), some (.int x2)] [.int s1, .ref s0] h = (if ia_ok h 1 [.ref s0, .int s1] = true then kxv (cl 240 [.ref s0, .int s1] h) (fun h1 => ((ia_gR h1 0 x0 1).bind fun a2 => ((ia_gR h1 0 x0 4).bind fun a3 => (if ia_ok h1 4 [.ref a3, .int x1, .int x2] = true then kxi (cl 198 [.ref a3, .int x1, .int x2] h1) (fun r5 h4 => (if ia_ok h4 1 [.ref a2, .int r5] = true then kxv (cl 241 [.ref a2, .int r5] h4) (fun h6 => ((ia_gR h6 0 x0 1).bind fun a7 => (if ia_ok h6 1 [.ref a7, .int 47] = true then kxv (cl 240 [.ref a7, .int 47] h6) (fun h8 => ((ia_gR h8 0 x0 1).bind fun a9 => ((ia_gR h8 0 x0 4).bind fun a10 => (if ia_ok h8 4 [.ref a10, .int x1, .int x2] = true then kxi (cl 199 [.ref a10, .int x1, .int x2] h8) (fun r12 h11 => (if ia_ok h11 1 [.ref a9, .int r12] = true then kxv (cl 241 [.ref a9, .int r12] h11) (fun h13 => dn 66 53 [some (.ref x0), some (.int x1), some (.int (x2 + 1))] [] h13) else none)) else none)))) else none))) else none)) else none)))) else none) := by
  refine (dq_kxv (z := 240) rfl (lq rfl) (lq rfl) (lq rfl) kd_240).trans (it_c (kxv_c (fun h1 => ?_)))
  refine (dq rfl rfl).trans ?_
  refine (dq_getR rfl).trans (bn_c (fun a2 => ?_))
  refine (dq rfl rfl).trans ?_
  refine (dq_getR rfl).trans (bn_c (fun a3 => ?_))
  refine (dq rfl rfl).trans ?_
  refine (dq rfl rfl).trans ?_
  refine (dq_kxi (z := 198) rfl (lq rfl) (lq rfl) (lq rfl) kd_198).trans (it_c (kxi_c (fun r5 h4 => ?_)))
  refine (dq_kxv (z := 241) rfl (lq rfl) (lq rfl) (lq rfl) kd_241).trans (it_c (kxv_c (fun h6 => ?_)))
  refine (dq rfl rfl).trans ?_
  refine (dq_getR rfl).trans (bn_c (fun a7 => ?_))
  refine (dq rfl rfl).trans ?_
  refine (dq_kxv (z := 240) rfl (lq rfl) (lq rfl) (lq rfl) kd_240).trans (it_c (kxv_c (fun h8 => ?_)))
  refine (dq rfl rfl).trans ?_
  refine (dq_getR rfl).trans (bn_c (fun a9 => ?_))
  refine (dq rfl rfl).trans ?_
  refine (dq_getR rfl).trans (bn_c (fun a10 => ?_))
  refine (dq rfl rfl).trans ?_
  refine (dq rfl rfl).trans ?_
  refine (dq_kxi (z := 199) rfl (lq rfl) (lq rfl) (lq rfl) kd_199).trans (it_c (kxi_c (fun r12 h11 => ?_)))
  refine (dq_kxv (z := 241) rfl (lq rfl) (lq rfl) (lq rfl) kd_241).trans (it_c (kxv_c (fun h13 => ?_)))
  refine (dq_iinc (v := 1) rfl rfl (by decide)).trans ?_
  refine (dq rfl rfl).trans ?_
  rfl
theorem q_67 (ab : Nat) (h : ia_H) : cl 67 [.ref ab] h = ((ia_pF (ia_new h 1108 (.inl (0, 1108, ia_zero 0))) 8 ab 0 (.ref (h.1))).bind fun h1 => ((ia_pF (ia_new h1 1108 (.inl (0, 1108, ia_zero 0))) 8 ab 1 (.ref (h1.1))).bind fun h2 => ((ia_pF (ia_new h2 1108 (.inl (0, 1108, ia_zero 0))) 8 ab 2 (.ref (h2.1))).bind fun h3 => ((ia_pF (ia_new h3 8864 (.inl (0, 8864, ia_zero 0))) 8 ab 4 (.ref (h3.1))).bind fun h4 => ((ia_pF (ia_new h4 16 (.inl (0, 16, ia_zero 0))) 8 ab 6 (.ref (h4.1))).bind fun h5 => ((ia_pF (ia_new h5 16 (.inl (0, 16, ia_zero 0))) 8 ab 7 (.ref (h5.1))).bind fun h6 => ((ia_pF (ia_new h6 16 (.inl (0, 16, ia_zero 0))) 8 ab 8 (.ref (h6.1))).bind fun h7 => ((ia_pF (ia_new h7 200 (.inl (3, 200, ia_zero 3))) 8 ab 9 (.ref (h7.1))).bind fun h8 => ((ia_pF (ia_new h8 128 (.inl (1, 128, ia_zero 1))) 8 ab 11 (.ref (h8.1))).bind fun h9 => ((ia_pF (ia_new h9 200 (.inl (0, 200, ia_zero 0))) 8 ab 16 (.ref (h9.1))).bind fun h10 => ((ia_pF (ia_new h10 200 (.inl (0, 200, ia_zero 0))) 8 ab 17 (.ref (h10.1))).bind fun h11 => ((ia_pF (ia_new h11 16 (.inl (0, 16, ia_zero 0))) 8 ab 24 (.ref (h11.1))).bind fun h12 => ((ia_pF (ia_new h12 16 (.inl (0, 16, ia_zero 0))) 8 ab 25 (.ref (h12.1))).bind fun h13 => ((ia_pF (ia_new h13 16 (.inl (0, 16, ia_zero 0))) 8 ab 26 (.ref (h13.1))).bind fun h14 => ((ia_pF (ia_new h14 200 (.inl (0, 200, ia_zero 0))) 8 ab 27 (.ref (h14.1))).bind fun h15 => ((ia_pF (ia_new h15 200 (.inl (0, 200, ia_zero 0))) 8 ab 28 (.ref (h15.1))).bind fun h16 => ((ia_pF (ia_new h16 200 (.inl (0, 200, ia_zero 0))) 8 ab 29 (.ref (h16.1))).bind fun h17 => ((ia_pF (ia_new h17 160 (.inl (3, 160, ia_zero 3))) 8 ab 30 (.ref (h17.1))).bind fun h18 => ((ia_pF (ia_new h18 64 (.inl (0, 64, ia_zero 0))) 8 ab 32 (.ref (h18.1))).bind fun h19 => ((ia_pF (ia_new h19 64 (.inl (0, 64, ia_zero 0))) 8 ab 33 (.ref (h19.1))).bind fun h20 => ((ia_pF (ia_new h20 64 (.inl (0, 64, ia_zero 0))) 8 ab 34 (.ref (h20.1))).bind fun h21 => dn 67 88 [some (.ref ab), some (.int 0)] [] h21))))))))))))))))))))) := by
  refine (dq rfl rfl).trans ?_
  refine (dq rfl rfl).trans ?_
  refine (dq rfl rfl).trans ?_
  refine (dq rfl rfl).trans ?_
  refine (dq_newa (n := 1108) rfl (by decide +kernel)).trans ?_
  refine (dq_putR rfl).trans (bn_c (fun h1 => ?_))
  refine (dq rfl rfl).trans ?_
  refine (dq rfl rfl).trans ?_
  refine (dq_newa (n := 1108) rfl (by decide +kernel)).trans ?_
  refine (dq_putR rfl).trans (bn_c (fun h2 => ?_))
  refine (dq rfl rfl).trans ?_
  refine (dq rfl rfl).trans ?_
  refine (dq_newa (n := 1108) rfl (by decide +kernel)).trans ?_
  refine (dq_putR rfl).trans (bn_c (fun h3 => ?_))
  refine (dq rfl rfl).trans ?_
  refine (dq rfl rfl).trans ?_
  refine (dq_newa (n := 8864) rfl (by decide +kernel)).trans ?_
  refine (dq_putR rfl).trans (bn_c (fun h4 => ?_))
  refine (dq rfl rfl).trans ?_
  refine (dq rfl rfl).trans ?_
  refine (dq_newa (n := 16) rfl (by decide +kernel)).trans ?_
  refine (dq_putR rfl).trans (bn_c (fun h5 => ?_))
  refine (dq rfl rfl).trans ?_
  refine (dq rfl rfl).trans ?_
  refine (dq_newa (n := 16) rfl (by decide +kernel)).trans ?_
  refine (dq_putR rfl).trans (bn_c (fun h6 => ?_))
  refine (dq rfl rfl).trans ?_
  refine (dq rfl rfl).trans ?_
  refine (dq_newa (n := 16) rfl (by decide +kernel)).trans ?_
  refine (dq_putR rfl).trans (bn_c (fun h7 => ?_))
  refine (dq rfl rfl).trans ?_
  refine (dq rfl rfl).trans ?_
  refine (dq_newa (n := 200) rfl (by decide +kernel)).trans ?_
  refine (dq_putR rfl).trans (bn_c (fun h8 => ?_))
  refine (dq rfl rfl).trans ?_
  refine (dq rfl rfl).trans ?_
  refine (dq_newa (n := 128) rfl (by decide +kernel)).trans ?_
  refine (dq_putR rfl).trans (bn_c (fun h9 => ?_))
  refine (dq rfl rfl).trans ?_
  refine (dq rfl rfl).trans ?_
  refine (dq_newa (n := 200) rfl (by decide +kernel)).trans ?_
  refine (dq_putR rfl).trans (bn_c (fun h10 => ?_))
  refine (dq rfl rfl).trans ?_
  refine (dq rfl rfl).trans ?_
  refine (dq_newa (n := 200) rfl (by decide +kernel)).trans ?_
  refine (dq_putR rfl).trans (bn_c (fun h11 => ?_))
  refine (dq rfl rfl).trans ?_
  refine (dq rfl rfl).trans ?_
  refine (dq_newa (n := 16) rfl (by decide +kernel)).trans ?_
  refine (dq_putR rfl).trans (bn_c (fun h12 => ?_))
  refine (dq rfl rfl).trans ?_
  refine (dq rfl rfl).trans ?_
  refine (dq_newa (n := 16) rfl (by decide +kernel)).trans ?_
  refine (dq_putR rfl).trans (bn_c (fun h13 => ?_))
  refine (dq rfl rfl).trans ?_
  refine (dq rfl rfl).trans ?_
  refine (dq_newa (n := 16) rfl (by decide +kernel)).trans ?_
  refine (dq_putR rfl).trans (bn_c (fun h14 => ?_))
  refine (dq rfl rfl).trans ?_
  refine (dq rfl rfl).trans ?_
  refine (dq_newa (n := 200) rfl (by decide +kernel)).trans ?_
  refine (dq_putR rfl).trans (bn_c (fun h15 => ?_))
  refine (dq rfl rfl).trans ?_
  refine (dq rfl rfl).trans ?_
  refine (dq_newa (n := 200) rfl (by decide +kernel)).trans ?_
  refine (dq_putR rfl).trans (bn_c (fun h16 => ?_))
  refine (dq rfl rfl).trans ?_
  refine (dq rfl rfl).trans ?_
  refine (dq_newa (n := 200) rfl (by decide +kernel)).trans ?_
  refine (dq_putR rfl).trans (bn_c (fun h17 => ?_))
  refine (dq rfl rfl).trans ?_
  refine (dq rfl rfl).trans ?_
  refine (dq_newa (n := 160) rfl (by decide +kernel)).trans ?_
  refine (dq_putR rfl).trans (bn_c (fun h18 => ?_))
  refine (dq rfl rfl).trans ?_
  refine (dq rfl rfl).trans ?_
  refine (dq_newa (n := 64) rfl (by decide +kernel)).trans ?_
  refine (dq_putR rfl).trans (bn_c (fun h19 => ?_))
  refine (dq rfl rfl).trans ?_
  refine (dq rfl rfl).trans ?_
  refine (dq_newa (n := 64) rfl (by decide +kernel)).trans ?_
  refine (dq_putR rfl).trans (bn_c (fun h20 => ?_))
  refine (dq rfl rfl).trans ?_
  refine (dq rfl rfl).trans ?_
  refine (dq_newa (n := 64) rfl (by decide +kernel)).trans ?_
  refine (dq_putR rfl).trans (bn_c (fun h21 => ?_))
  refine (dq rfl rfl).trans ?_
  refine (dq rfl rfl).trans ?_
  rfl
theorem q_67_88 (x0 : Nat) (x1 : Int32) (h : ia_H) : dn 67 88 [some (.ref x0), some (.int x1)] [] h = (if 4 ≤ x1 then some (none, h) else ((ia_gR h 8 x0 6).bind fun a1 => ((ia_st h 0 a1 ((4 * x1) + 1) 1).bind fun h2 => dn 67 88 [some (.ref x0), some (.int (x1 + 1))] [] h2))) := by
  refine (dq rfl rfl).trans ?_
  refine (dq rfl rfl).trans ?_
  refine (dq_ige rfl).trans (ie_c ?_ ?_)
  · exact dq_ret0 rfl
  · refine (dq rfl rfl).trans ?_
    refine (dq_getR rfl).trans (bn_c (fun a1 => ?_))
    refine (dq rfl rfl).trans ?_
    refine (dq rfl rfl).trans ?_
    refine (dq rfl rfl).trans ?_
    refine (dq rfl rfl).trans ?_
    refine (dq rfl rfl).trans ?_
    refine (dq rfl rfl).trans ?_
    refine (dq_iast rfl).trans (bn_c (fun h2 => ?_))
    refine (dq_iinc (v := 1) rfl rfl (by decide)).trans ?_
    refine (dq rfl rfl).trans ?_
    rfl
theorem q_68 (ab : Nat) (h : ia_H) : cl 68 [.ref ab] h = ((ia_gI h 8 ab 13).bind fun v1 => some (some (.int v1), h)) := by
  refine (dq rfl rfl).trans ?_
  refine (dq_getI rfl).trans (bn_c (fun v1 => ?_))
  exact dq_ret1 rfl
theorem q_69 (ab : Int64) (ac : Int64) (ad : Int64) (h : ia_H) : cl 69 [.long ab, .long ac, .long ad] h = (if (lg_cmp ab ac) < 0 then some (some (.int 0), h) else (if 0 < (lg_cmp ab ad) then some (some (.int 0), h) else some (some (.int 1), h))) := by
  refine (dq rfl rfl).trans ?_
  refine (dq rfl rfl).trans ?_
  refine (dq rfl rfl).trans ?_
  refine (dq_iflt rfl).trans (ie_c ?_ ?_)
  · refine (dq rfl rfl).trans ?_
    exact dq_ret20 rfl
  · refine (dq rfl rfl).trans ?_
    refine (dq rfl rfl).trans ?_
    refine (dq rfl rfl).trans ?_
    refine (dq_ifgt rfl).trans (ie_c ?_ ?_)
    · refine (dq rfl rfl).trans ?_
      exact dq_ret20 rfl
    · refine (dq rfl rfl).trans ?_
      refine (dq rfl rfl).trans ?_
      exact dq_ret21 rfl
theorem q_70 (ab : Nat) (h : ia_H) : cl 70 [.ref ab] h = ((ia_pF h 8 ab 13 (.int 1)).bind fun h1 => some (some (.int 0), h1)) := by
  refine (dq rfl rfl).trans ?_
  refine (dq rfl rfl).trans ?_
  refine (dq_putI rfl).trans (bn_c (fun h1 => ?_))
  refine (dq rfl rfl).trans ?_
  exact dq_ret1 rfl
theorem q_71 (ab : Nat) (ac : Int64) (h : ia_H) : cl 71 [.ref ab, .long ac] h = ((ia_gR h 8 ab 11).bind fun a1 => ((ia_gI h 8 ab 12).bind fun v2 => ((ia_stL h a1 v2 ac).bind fun h3 => ((ia_gI h3 8 ab 12).bind fun v4 => ((ia_pF h3 8 ab 12 (.int (v4 + 1))).bind fun h5 => some (none, h5)))))) := by
  refine (dq rfl rfl).trans ?_
  refine (dq_getR rfl).trans (bn_c (fun a1 => ?_))
  refine (dq rfl rfl).trans ?_
  refine (dq_getI rfl).trans (bn_c (fun v2 => ?_))
  refine (dq rfl rfl).trans ?_
  refine (dq_last rfl).trans (bn_c (fun h3 => ?_))
  refine (dq rfl rfl).trans ?_
  refine (dq rfl rfl).trans ?_
  refine (dq_getI rfl).trans (bn_c (fun v4 => ?_))
  refine (dq rfl rfl).trans ?_
  refine (dq rfl rfl).trans ?_
  refine (dq_putI rfl).trans (bn_c (fun h5 => ?_))
  exact dq_ret0 rfl
theorem q_72 (ab : Int32) (h : ia_H) : cl 72 [.int ab] h = dn 72 4 [some (.int ab), some (.int 0), some (.int ab)] [] h := by
  refine (dq rfl rfl).trans ?_
  refine (dq rfl rfl).trans ?_
  refine (dq rfl rfl).trans ?_
  refine (dq rfl rfl).trans ?_
  rfl
theorem q_72_4 (x0 : Int32) (x1 : Int32) (x2 : Int32) (h : ia_H) : dn 72 4 [some (.int x0), some (.int x1), some (.int x2)] [] h = (if x2 = 0 then some (some (.int x1), h) else dn 72 4 [some (.int x0), some (.int (x1 + 1)), some (.int (x2 &&& (x2 - 1)))] [] h) := by
  refine (dq rfl rfl).trans ?_
  refine (dq_ifeq rfl).trans (ie_c ?_ ?_)
  · refine (dq rfl rfl).trans ?_
    exact dq_ret1 rfl
  · refine (dq_iinc (v := 1) rfl rfl (by decide)).trans ?_
    refine (dq rfl rfl).trans ?_
    refine (dq rfl rfl).trans ?_
    refine (dq rfl rfl).trans ?_
    refine (dq rfl rfl).trans ?_
    refine (dq rfl rfl).trans ?_
    refine (dq rfl rfl).trans ?_
    refine (dq rfl rfl).trans ?_
    rfl
theorem q_73 (ab : Nat) (ac : Int32) (h : ia_H) : cl 73 [.ref ab, .int ac] h = ((ia_pF h 8 ab 13 (.int 0)).bind fun h1 => ((ia_gI h1 8 ab 10).bind fun v2 => (if (v2 + 4) ≤ 200 then dn 73 13 [some (.ref ab), some (.int ac), some (.int 3)] [] h1 else some (some (.int (-1)), h1)))) := by
  refine (dq rfl rfl).trans ?_
  refine (dq rfl rfl).trans ?_
  refine (dq_putI rfl).trans (bn_c (fun h1 => ?_))
  refine (dq rfl rfl).trans ?_
  refine (dq_getI rfl).trans (bn_c (fun v2 => ?_))
  refine (dq rfl rfl).trans ?_
  refine (dq rfl rfl).trans ?_
  refine (dq rfl rfl).trans ?_
  refine (dq_ile rfl).trans (ie_c ?_ ?_)
  · refine (dq rfl rfl).trans ?_
    refine (dq rfl rfl).trans ?_
    rfl
  · refine (dq rfl rfl).trans ?_
    exact dq_ret1 rfl
theorem q_73_13 (x0 : Nat) (x1 : Int32) (x2 : Int32) (h : ia_H) : dn 73 13 [some (.ref x0), some (.int x1), some (.int x2)] [] h = (if x2 < 0 then ((ia_gI h 8 x0 10).bind fun v1 => some (some (.int v1), h)) else ((ia_gR h 8 x0 9).bind fun a2 => ((ia_gI h 8 x0 10).bind fun v3 => ((ia_pF h 8 x0 10 (.int (v3 + 1))).bind fun h4 => ((ia_st h4 3 a2 v3 (((x1 >>> ((8 * x2) &&& 31)).toInt8.toInt32).toInt8.toInt32)).bind fun h5 => dn 73 13 [some (.ref x0), some (.int x1), some (.int (x2 + (-1)))] [] h5))))) := by
  refine (dq rfl rfl).trans ?_
  refine (dq_iflt rfl).trans (ie_c ?_ ?_)
  · refine (dq rfl rfl).trans ?_
    refine (dq_getI rfl).trans (bn_c (fun v1 => ?_))
    exact dq_ret1 rfl
  · refine (dq rfl rfl).trans ?_
    refine (dq_getR rfl).trans (bn_c (fun a2 => ?_))
    refine (dq rfl rfl).trans ?_
    refine (dq rfl rfl).trans ?_
    refine (dq_getI rfl).trans (bn_c (fun v3 => ?_))
    refine (dq rfl rfl).trans ?_
    refine (dq rfl rfl).trans ?_
    refine (dq rfl rfl).trans ?_
    refine (dq_putI rfl).trans (bn_c (fun h4 => ?_))
    refine (dq rfl rfl).trans ?_
    refine (dq rfl rfl).trans ?_
    refine (dq rfl rfl).trans ?_
    refine (dq rfl rfl).trans ?_
    refine (dq rfl rfl).trans ?_
    refine (dq rfl rfl).trans ?_
    refine (dq_bast rfl).trans (bn_c (fun h5 => ?_))
    refine (dq_iinc (v := -1) rfl rfl (by decide)).trans ?_
    refine (dq rfl rfl).trans ?_
    rfl
theorem q_74 (ab : Nat) (ac : Int32) (h : ia_H) : cl 74 [.ref ab, .int ac] h = ((ia_pF h 8 ab 13 (.int 0)).bind fun h1 => ((ia_gI h1 8 ab 10).bind fun v2 => kxi (cl 69 [.long (ac.toInt64), .long 0, .long (v2.toInt64)] h1) (fun r4 h3 => (if r4 = 0 then some (some (.int 0), h3) else ((ia_pF h3 8 ab 10 (.int ac)).bind fun h5 => some (some (.int 1), h5)))))) := by
  refine (dq rfl rfl).trans ?_
  refine (dq rfl rfl).trans ?_
  refine (dq_putI rfl).trans (bn_c (fun h1 => ?_))
  refine (dq rfl rfl).trans ?_
  refine (dq rfl rfl).trans ?_
  refine (dq rfl rfl).trans ?_
  refine (dq rfl rfl).trans ?_
  refine (dq_getI rfl).trans (bn_c (fun v2 => ?_))
  refine (dq rfl rfl).trans ?_
  refine (dq_kxi0 (z := 69) rfl (lq rfl) (lq rfl) (lq rfl) kd_69).trans (kxi_c (fun r4 h3 => ?_))
  refine (dq_ifne rfl).trans (ie_c ?_ ?_)
  · refine (dq rfl rfl).trans ?_
    exact dq_ret20 rfl
  · refine (dq rfl rfl).trans ?_
    refine (dq rfl rfl).trans ?_
    refine (dq_putI rfl).trans (bn_c (fun h5 => ?_))
    refine (dq rfl rfl).trans ?_
    exact dq_ret21 rfl
theorem q_75 (ab : Int32) (h : ia_H) : cl 75 [.int ab] h = kxi (cl 69 [.long (ab.toInt64), .long 0, .long 3] h) (fun r2 h1 => (if r2 = 0 ∨ r2 = 1 then some (some (.int r2), h1) else none)) := by
  refine (dq rfl rfl).trans ?_
  refine (dq rfl rfl).trans ?_
  refine (dq rfl rfl).trans ?_
  refine (dq rfl rfl).trans ?_
  refine (dq_kxi0 (z := 69) rfl (lq rfl) (lq rfl) (lq rfl) kd_69).trans (kxi_c (fun r2 h1 => ?_))
  exact dq_ret2 rfl
theorem q_76 (ab : Int32) (h : ia_H) : cl 76 [.int ab] h = kxi (cl 69 [.long (ab.toInt64), .long 0, .long 3] h) (fun r2 h1 => (if r2 = 0 ∨ r2 = 1 then some (some (.int r2), h1) else none)) := by
  refine (dq rfl rfl).trans ?_
  refine (dq rfl rfl).trans ?_
  refine (dq rfl rfl).trans ?_
  refine (dq rfl rfl).trans ?_
  refine (dq_kxi0 (z := 69) rfl (lq rfl) (lq rfl) (lq rfl) kd_69).trans (kxi_c (fun r2 h1 => ?_))
  exact dq_ret2 rfl
theorem q_77 (ab : Nat) (ac : Int32) (h : ia_H) : cl 77 [.ref ab, .int ac] h = ((ia_gR h 8 ab 0).bind fun a1 => ((ia_ld h 0 a1 1104).bind fun v2 => kxi (cl 69 [.long (ac.toInt64), .long 0, .long ((v2 - 1).toInt64)] h) (fun r4 h3 => (if r4 = 0 ∨ r4 = 1 then some (some (.int r4), h3) else none)))) := by
  refine (dq rfl rfl).trans ?_
  refine (dq rfl rfl).trans ?_
  refine (dq rfl rfl).trans ?_
  refine (dq rfl rfl).trans ?_
  refine (dq_getR rfl).trans (bn_c (fun a1 => ?_))
  refine (dq rfl rfl).trans ?_
  refine (dq_iald rfl).trans (bn_c (fun v2 => ?_))
  refine (dq rfl rfl).trans ?_
  refine (dq rfl rfl).trans ?_
  refine (dq rfl rfl).trans ?_
  refine (dq_kxi0 (z := 69) rfl (lq rfl) (lq rfl) (lq rfl) kd_69).trans (kxi_c (fun r4 h3 => ?_))
  exact dq_ret2 rfl
theorem q_78 (ab : Nat) (ac : Int32) (h : ia_H) : cl 78 [.ref ab, .int ac] h = ((ia_gR h 8 ab 0).bind fun a1 => ((ia_ld h 0 a1 1105).bind fun v2 => kxi (cl 69 [.long (ac.toInt64), .long 0, .long ((v2 - 1).toInt64)] h) (fun r4 h3 => (if r4 = 0 ∨ r4 = 1 then some (some (.int r4), h3) else none)))) := by
  refine (dq rfl rfl).trans ?_
  refine (dq rfl rfl).trans ?_
  refine (dq rfl rfl).trans ?_
  refine (dq rfl rfl).trans ?_
  refine (dq_getR rfl).trans (bn_c (fun a1 => ?_))
  refine (dq rfl rfl).trans ?_
  refine (dq_iald rfl).trans (bn_c (fun v2 => ?_))
  refine (dq rfl rfl).trans ?_
  refine (dq rfl rfl).trans ?_
  refine (dq rfl rfl).trans ?_
  refine (dq_kxi0 (z := 69) rfl (lq rfl) (lq rfl) (lq rfl) kd_69).trans (kxi_c (fun r4 h3 => ?_))
  exact dq_ret2 rfl
theorem q_79 (ab : Nat) (ac : Int32) (ad : Int32) (h : ia_H) : cl 79 [.ref ab, .int ac, .int ad] h = ((ia_gR h 8 ab 0).bind fun a1 => ((ia_ld h 0 a1 ((304 + (8 * ac)) + ad)).bind fun v2 => some (some (.int v2), h))) := by
  refine (dq rfl rfl).trans ?_
  refine (dq_getR rfl).trans (bn_c (fun a1 => ?_))
  refine (dq rfl rfl).trans ?_
  refine (dq rfl rfl).trans ?_
  refine (dq rfl rfl).trans ?_
  refine (dq rfl rfl).trans ?_
  refine (dq rfl rfl).trans ?_
  refine (dq rfl rfl).trans ?_
  refine (dq rfl rfl).trans ?_
  refine (dq_iald rfl).trans (bn_c (fun v2 => ?_))
  exact dq_ret1 rfl
theorem q_80 (ab : Nat) (ac : Int32) (ad : Int32) (ae : Int32) (h : ia_H) : cl 80 [.ref ab, .int ac, .int ad, .int ae] h = ((ia_gR h 8 ab 0).bind fun a1 => ((ia_st h 0 a1 ((304 + (8 * ac)) + ad) ae).bind fun h2 => some (none, h2))) := by
  refine (dq rfl rfl).trans ?_
  refine (dq_getR rfl).trans (bn_c (fun a1 => ?_))
  refine (dq rfl rfl).trans ?_
  refine (dq rfl rfl).trans ?_
  refine (dq rfl rfl).trans ?_
  refine (dq rfl rfl).trans ?_
  refine (dq rfl rfl).trans ?_
  refine (dq rfl rfl).trans ?_
  refine (dq rfl rfl).trans ?_
  refine (dq rfl rfl).trans ?_
  refine (dq_iast rfl).trans (bn_c (fun h2 => ?_))
  exact dq_ret0 rfl
theorem q_81 (ab : Nat) (h : ia_H) : cl 81 [.ref ab] h = dn 81 2 [some (.ref ab), some (.int 0)] [] h := by
  refine (dq rfl rfl).trans ?_
  refine (dq rfl rfl).trans ?_
  rfl
theorem q_81_2 (x0 : Nat) (x1 : Int32) (h : ia_H) : dn 81 2 [some (.ref x0), some (.int x1)] [] h = (if 1108 ≤ x1 then some (none, h) else ((ia_gR h 8 x0 1).bind fun a1 => ((ia_gR h 8 x0 0).bind fun a2 => ((ia_ld h 0 a2 x1).bind fun v3 => ((ia_st h 0 a1 x1 v3).bind fun h4 => dn 81 2 [some (.ref x0), some (.int (x1 + 1))] [] h4))))) := by
  refine (dq rfl rfl).trans ?_
  refine (dq rfl rfl).trans ?_
  refine (dq_ige rfl).trans (ie_c ?_ ?_)
  · exact dq_ret0 rfl
  · refine (dq rfl rfl).trans ?_
    refine (dq_getR rfl).trans (bn_c (fun a1 => ?_))
    refine (dq rfl rfl).trans ?_
    refine (dq rfl rfl).trans ?_
    refine (dq_getR rfl).trans (bn_c (fun a2 => ?_))
    refine (dq rfl rfl).trans ?_
    refine (dq_iald rfl).trans (bn_c (fun v3 => ?_))
    refine (dq_iast rfl).trans (bn_c (fun h4 => ?_))
    refine (dq_iinc (v := 1) rfl rfl (by decide)).trans ?_
    refine (dq rfl rfl).trans ?_
    rfl
theorem q_82 (ab : Nat) (h : ia_H) : cl 82 [.ref ab] h = dn 82 2 [some (.ref ab), some (.int 0)] [] h := by
  refine (dq rfl rfl).trans ?_
  refine (dq rfl rfl).trans ?_
  rfl
theorem q_82_2 (x0 : Nat) (x1 : Int32) (h : ia_H) : dn 82 2 [some (.ref x0), some (.int x1)] [] h = (if 1108 ≤ x1 then some (none, h) else ((ia_gR h 8 x0 0).bind fun a1 => ((ia_gR h 8 x0 1).bind fun a2 => ((ia_ld h 0 a2 x1).bind fun v3 => ((ia_st h 0 a1 x1 v3).bind fun h4 => dn 82 2 [some (.ref x0), some (.int (x1 + 1))] [] h4))))) := by
  refine (dq rfl rfl).trans ?_
  refine (dq rfl rfl).trans ?_
  refine (dq_ige rfl).trans (ie_c ?_ ?_)
  · exact dq_ret0 rfl
  · refine (dq rfl rfl).trans ?_
    refine (dq_getR rfl).trans (bn_c (fun a1 => ?_))
    refine (dq rfl rfl).trans ?_
    refine (dq rfl rfl).trans ?_
    refine (dq_getR rfl).trans (bn_c (fun a2 => ?_))
    refine (dq rfl rfl).trans ?_
    refine (dq_iald rfl).trans (bn_c (fun v3 => ?_))
    refine (dq_iast rfl).trans (bn_c (fun h4 => ?_))
    refine (dq_iinc (v := 1) rfl rfl (by decide)).trans ?_
    refine (dq rfl rfl).trans ?_
    rfl
theorem q_83 (ab : Nat) (h : ia_H) : cl 83 [.ref ab] h = ((ia_gI h 8 ab 5).bind fun v1 => (if v1 = 8 then dn 83 6 [some (.ref ab), some (.int 1108)] [] h else dn 83 29 [some (.ref ab), some (.int 0)] [] h)) := by
  refine (dq rfl rfl).trans ?_
  refine (dq_getI rfl).trans (bn_c (fun v1 => ?_))
  refine (dq rfl rfl).trans ?_
  refine (dq_ine rfl).trans (ie_c ?_ ?_)
  · refine (dq rfl rfl).trans ?_
    refine (dq rfl rfl).trans ?_
    rfl
  · refine (dq rfl rfl).trans ?_
    refine (dq rfl rfl).trans ?_
    rfl
theorem q_83_6 (x0 : Nat) (x1 : Int32) (h : ia_H) : dn 83 6 [some (.ref x0), some (.int x1)] [] h = (if 8864 ≤ x1 then ((ia_gI h 8 x0 5).bind fun v1 => ((ia_pF h 8 x0 5 (.int (v1 - 1))).bind fun h2 => dn 83 29 [some (.ref x0), some (.int 0)] [] h2)) else ((ia_gR h 8 x0 4).bind fun a3 => ((ia_gR h 8 x0 4).bind fun a4 => ((ia_ld h 0 a4 x1).bind fun v5 => ((ia_st h 0 a3 (x1 - 1108) v5).bind fun h6 => dn 83 6 [some (.ref x0), some (.int (x1 + 1))] [] h6))))) := by
  refine (dq rfl rfl).trans ?_
  refine (dq rfl rfl).trans ?_
  refine (dq_ige rfl).trans (ie_c ?_ ?_)
  · refine (dq rfl rfl).trans ?_
    refine (dq rfl rfl).trans ?_
    refine (dq_getI rfl).trans (bn_c (fun v1 => ?_))
    refine (dq rfl rfl).trans ?_
    refine (dq rfl rfl).trans ?_
    refine (dq_putI rfl).trans (bn_c (fun h2 => ?_))
    refine (dq rfl rfl).trans ?_
    refine (dq rfl rfl).trans ?_
    rfl
  · refine (dq rfl rfl).trans ?_
    refine (dq_getR rfl).trans (bn_c (fun a3 => ?_))
    refine (dq rfl rfl).trans ?_
    refine (dq rfl rfl).trans ?_
    refine (dq rfl rfl).trans ?_
    refine (dq rfl rfl).trans ?_
    refine (dq_getR rfl).trans (bn_c (fun a4 => ?_))
    refine (dq rfl rfl).trans ?_
    refine (dq_iald rfl).trans (bn_c (fun v5 => ?_))
    refine (dq_iast rfl).trans (bn_c (fun h6 => ?_))
    refine (dq_iinc (v := 1) rfl rfl (by decide)).trans ?_
    refine (dq rfl rfl).trans ?_
    rfl
theorem q_83_29 (x0 : Nat) (x1 : Int32) (h : ia_H) : dn 83 29 [some (.ref x0), some (.int x1)] [] h = (if 1108 ≤ x1 then ((ia_gI h 8 x0 5).bind fun v1 => ((ia_pF h 8 x0 5 (.int (v1 + 1))).bind fun h2 => some (none, h2))) else ((ia_gR h 8 x0 4).bind fun a3 => ((ia_gI h 8 x0 5).bind fun v4 => ((ia_gR h 8 x0 1).bind fun a5 => ((ia_ld h 0 a5 x1).bind fun v6 => ((ia_st h 0 a3 ((1108 * v4) + x1) v6).bind fun h7 => dn 83 29 [some (.ref x0), some (.int (x1 + 1))] [] h7)))))) := by
  refine (dq rfl rfl).trans ?_
  refine (dq rfl rfl).trans ?_
  refine (dq_ige rfl).trans (ie_c ?_ ?_)
  · refine (dq rfl rfl).trans ?_
    refine (dq rfl rfl).trans ?_
    refine (dq_getI rfl).trans (bn_c (fun v1 => ?_))
    refine (dq rfl rfl).trans ?_
    refine (dq rfl rfl).trans ?_
    refine (dq_putI rfl).trans (bn_c (fun h2 => ?_))
    exact dq_ret0 rfl
  · refine (dq rfl rfl).trans ?_
    refine (dq_getR rfl).trans (bn_c (fun a3 => ?_))
    refine (dq rfl rfl).trans ?_
    refine (dq rfl rfl).trans ?_
    refine (dq_getI rfl).trans (bn_c (fun v4 => ?_))
    refine (dq rfl rfl).trans ?_
    refine (dq rfl rfl).trans ?_
    refine (dq rfl rfl).trans ?_
    refine (dq rfl rfl).trans ?_
    refine (dq_getR rfl).trans (bn_c (fun a5 => ?_))
    refine (dq rfl rfl).trans ?_
    refine (dq_iald rfl).trans (bn_c (fun v6 => ?_))
    refine (dq_iast rfl).trans (bn_c (fun h7 => ?_))
    refine (dq_iinc (v := 1) rfl rfl (by decide)).trans ?_
    refine (dq rfl rfl).trans ?_
    rfl
theorem q_84 (ab : Nat) (h : ia_H) : cl 84 [.ref ab] h = (if ia_ok h 8 [.ref ab] = true then kxv (cl 81 [.ref ab] h) (fun h1 => (if ia_ok h1 8 [.ref ab] = true then kxv (cl 83 [.ref ab] h1) (fun h2 => some (none, h2)) else none)) else none) := by
  refine (dq rfl rfl).trans ?_
  refine (dq_kxv (z := 81) rfl (lq rfl) (lq rfl) (lq rfl) kd_81).trans (it_c (kxv_c (fun h1 => ?_)))
  refine (dq rfl rfl).trans ?_
  refine (dq_kxv (z := 83) rfl (lq rfl) (lq rfl) (lq rfl) kd_83).trans (it_c (kxv_c (fun h2 => ?_)))
  exact dq_ret0 rfl
theorem q_85 (ab : Nat) (ac : Int32) (ad : Int32) (h : ia_H) : cl 85 [.ref ab, .int ac, .int ad] h = ((ia_gR h 8 ab 0).bind fun a1 => ((ia_ld h 0 a1 1107).bind fun v2 => ((ia_gR h 8 ab 0).bind fun a3 => ((ia_st h 0 a3 (124 + (3 * (v2 - v2 / 60 * 60))) ac).bind fun h4 => ((ia_gR h4 8 ab 0).bind fun a5 => ((ia_st h4 0 a5 ((124 + (3 * (v2 - v2 / 60 * 60))) + 1) ad).bind fun h6 => ((ia_gR h6 8 ab 0).bind fun a7 => ((ia_gR h6 8 ab 0).bind fun a8 => ((ia_ld h6 0 a8 1106).bind fun v9 => ((ia_st h6 0 a7 ((124 + (3 * (v2 - v2 / 60 * 60))) + 2) v9).bind fun h10 => ((ia_gR h10 8 ab 0).bind fun a11 => ((ia_ld h10 0 a11 1107).bind fun v12 => ((ia_st h10 0 a11 1107 (v12 + 1)).bind fun h13 => some (none, h13)))))))))))))) := by
  refine (dq rfl rfl).trans ?_
  refine (dq rfl rfl).trans ?_
  refine (dq rfl rfl).trans ?_
  refine (dq_getR rfl).trans (bn_c (fun a1 => ?_))
  refine (dq rfl rfl).trans ?_
  refine (dq_iald rfl).trans (bn_c (fun v2 => ?_))
  refine (dq rfl rfl).trans ?_
  refine (dq_i2zl rfl (by decide)).trans ?_
  refine (dq rfl rfl).trans ?_
  refine (dq rfl rfl).trans ?_
  refine (dq rfl rfl).trans ?_
  refine (dq rfl rfl).trans ?_
  refine (dq_getR rfl).trans (bn_c (fun a3 => ?_))
  refine (dq rfl rfl).trans ?_
  refine (dq rfl rfl).trans ?_
  refine (dq_iast rfl).trans (bn_c (fun h4 => ?_))
  refine (dq rfl rfl).trans ?_
  refine (dq_getR rfl).trans (bn_c (fun a5 => ?_))
  refine (dq rfl rfl).trans ?_
  refine (dq rfl rfl).trans ?_
  refine (dq rfl rfl).trans ?_
  refine (dq rfl rfl).trans ?_
  refine (dq_iast rfl).trans (bn_c (fun h6 => ?_))
  refine (dq rfl rfl).trans ?_
  refine (dq_getR rfl).trans (bn_c (fun a7 => ?_))
  refine (dq rfl rfl).trans ?_
  refine (dq rfl rfl).trans ?_
  refine (dq rfl rfl).trans ?_
  refine (dq rfl rfl).trans ?_
  refine (dq_getR rfl).trans (bn_c (fun a8 => ?_))
  refine (dq rfl rfl).trans ?_
  refine (dq_iald rfl).trans (bn_c (fun v9 => ?_))
  refine (dq_iast rfl).trans (bn_c (fun h10 => ?_))
  refine (dq rfl rfl).trans ?_
  refine (dq_getR rfl).trans (bn_c (fun a11 => ?_))
  refine (dq rfl rfl).trans ?_
  refine (dq rfl rfl).trans ?_
  refine (dq_iald rfl).trans (bn_c (fun v12 => ?_))
  refine (dq rfl rfl).trans ?_
  refine (dq rfl rfl).trans ?_
  refine (dq_iast rfl).trans (bn_c (fun h13 => ?_))
  exact dq_ret0 rfl
theorem q_86 (ab : Nat) (ac : Int32) (ad : Int32) (ae : Int32) (h : ia_H) : cl 86 [.ref ab, .int ac, .int ad, .int ae] h = ((ia_gR h 8 ab 0).bind fun a1 => ((ia_ld h 0 a1 1105).bind fun v2 => (if v2 = 100 then some (some (.int 0), h) else ((ia_gR h 8 ab 0).bind fun a3 => ((ia_ld h 0 a3 1105).bind fun v4 => ((ia_st h 0 a3 1105 (v4 + 1)).bind fun h5 => (if ia_ok h5 8 [.ref ab, .int v2, .int 0, .int ac] = true then kxv (cl 80 [.ref ab, .int v2, .int 0, .int ac] h5) (fun h6 => (if ia_ok h6 8 [.ref ab, .int v2, .int 1, .int ad] = true then kxv (cl 80 [.ref ab, .int v2, .int 1, .int ad] h6) (fun h7 => (if ia_ok h7 8 [.ref ab, .int v2, .int 2, .int ae] = true then kxv (cl 80 [.ref ab, .int v2, .int 2, .int ae] h7) (fun h8 => ((ia_gR h8 8 ab 6).bind fun a9 => ((ia_ld h8 0 a9 (4 * ad)).bind fun v10 => (if ia_ok h8 8 [.ref ab, .int v2, .int 3, .int v10] = true then kxv (cl 80 [.ref ab, .int v2, .int 3, .int v10] h8) (fun h11 => (if ia_ok h11 8 [.ref ab, .int v2, .int 4, .int 0] = true then kxv (cl 80 [.ref ab, .int v2, .int 4, .int 0] h11) (fun h12 => (if ia_ok h12 8 [.ref ab, .int v2, .int 5, .int ae] = true then kxv (cl 80 [.ref ab, .int v2, .int 5, .int ae] h12) (fun h13 => ((ia_gR h13 8 ab 0).bind fun a14 => ((ia_ld h13 0 a14 1106).bind fun v15 => (if ia_ok h13 8 [.ref ab, .int v2, .int 6, .int v15] = true then kxv (cl 80 [.ref ab, .int v2, .int 6, .int v15] h13) (fun h16 => (if ia_ok h16 8 [.ref ab, .int v2, .int 7, .int 0] = true then kxv (cl 80 [.ref ab, .int v2, .int 7, .int 0] h16) (fun h17 => (if ia_ok h17 8 [.ref ab, .int 0, .int v2] = true then kxv (cl 85 [.ref ab, .int 0, .int v2] h17) (fun h18 => some (some (.int 1), h18)) else none)) else none)) else none)))) else none)) else none)) else none)))) else none)) else none)) else none))))))) := by
  refine (dq rfl rfl).trans ?_
  refine (dq_getR rfl).trans (bn_c (fun a1 => ?_))
  refine (dq rfl rfl).trans ?_
  refine (dq_iald rfl).trans (bn_c (fun v2 => ?_))
  refine (dq rfl rfl).trans ?_
  refine (dq rfl rfl).trans ?_
  refine (dq rfl rfl).trans ?_
  refine (dq_ine rfl).trans (ie_c ?_ ?_)
  · refine (dq rfl rfl).trans ?_
    exact dq_ret20 rfl
  · refine (dq rfl rfl).trans ?_
    refine (dq_getR rfl).trans (bn_c (fun a3 => ?_))
    refine (dq rfl rfl).trans ?_
    refine (dq rfl rfl).trans ?_
    refine (dq_iald rfl).trans (bn_c (fun v4 => ?_))
    refine (dq rfl rfl).trans ?_
    refine (dq rfl rfl).trans ?_
    refine (dq_iast rfl).trans (bn_c (fun h5 => ?_))
    refine (dq rfl rfl).trans ?_
    refine (dq rfl rfl).trans ?_
    refine (dq rfl rfl).trans ?_
    refine (dq rfl rfl).trans ?_
    refine (dq_kxv (z := 80) rfl (lq rfl) (lq rfl) (lq rfl) kd_80).trans (it_c (kxv_c (fun h6 => ?_)))
    refine (dq rfl rfl).trans ?_
    refine (dq rfl rfl).trans ?_
    refine (dq rfl rfl).trans ?_
    refine (dq rfl rfl).trans ?_
    refine (dq_kxv (z := 80) rfl (lq rfl) (lq rfl) (lq rfl) kd_80).trans (it_c (kxv_c (fun h7 => ?_)))
    refine (dq rfl rfl).trans ?_
    refine (dq rfl rfl).trans ?_
    refine (dq rfl rfl).trans ?_
    refine (dq rfl rfl).trans ?_
    refine (dq_kxv (z := 80) rfl (lq rfl) (lq rfl) (lq rfl) kd_80).trans (it_c (kxv_c (fun h8 => ?_)))
    refine (dq rfl rfl).trans ?_
    refine (dq rfl rfl).trans ?_
    refine (dq rfl rfl).trans ?_
    refine (dq rfl rfl).trans ?_
    refine (dq_getR rfl).trans (bn_c (fun a9 => ?_))
    refine (dq rfl rfl).trans ?_
    refine (dq rfl rfl).trans ?_
    refine (dq rfl rfl).trans ?_
    refine (dq_iald rfl).trans (bn_c (fun v10 => ?_))
    refine (dq_kxv (z := 80) rfl (lq rfl) (lq rfl) (lq rfl) kd_80).trans (it_c (kxv_c (fun h11 => ?_)))
    refine (dq rfl rfl).trans ?_
    refine (dq rfl rfl).trans ?_
    refine (dq rfl rfl).trans ?_
    refine (dq rfl rfl).trans ?_
    refine (dq_kxv (z := 80) rfl (lq rfl) (lq rfl) (lq rfl) kd_80).trans (it_c (kxv_c (fun h12 => ?_)))
    refine (dq rfl rfl).trans ?_
    refine (dq rfl rfl).trans ?_
    refine (dq rfl rfl).trans ?_
    refine (dq rfl rfl).trans ?_
    refine (dq_kxv (z := 80) rfl (lq rfl) (lq rfl) (lq rfl) kd_80).trans (it_c (kxv_c (fun h13 => ?_)))
    refine (dq rfl rfl).trans ?_
    refine (dq rfl rfl).trans ?_
    refine (dq rfl rfl).trans ?_
    refine (dq rfl rfl).trans ?_
    refine (dq_getR rfl).trans (bn_c (fun a14 => ?_))
    refine (dq rfl rfl).trans ?_
    refine (dq_iald rfl).trans (bn_c (fun v15 => ?_))
    refine (dq_kxv (z := 80) rfl (lq rfl) (lq rfl) (lq rfl) kd_80).trans (it_c (kxv_c (fun h16 => ?_)))
    refine (dq rfl rfl).trans ?_
    refine (dq rfl rfl).trans ?_
    refine (dq rfl rfl).trans ?_
    refine (dq rfl rfl).trans ?_
    refine (dq_kxv (z := 80) rfl (lq rfl) (lq rfl) (lq rfl) kd_80).trans (it_c (kxv_c (fun h17 => ?_)))
    refine (dq rfl rfl).trans ?_
    refine (dq rfl rfl).trans ?_
    refine (dq rfl rfl).trans ?_
    refine (dq_kxv (z := 85) rfl (lq rfl) (lq rfl) (lq rfl) kd_85).trans (it_c (kxv_c (fun h18 => ?_)))
    refine (dq rfl rfl).trans ?_
    exact dq_ret21 rfl
theorem q_87 (ab : Nat) (ac : Int32) (h : ia_H) : cl 87 [.ref ab, .int ac] h = (if ia_ok h 8 [.ref ab, .int ac, .int 2] = true then kxi (cl 79 [.ref ab, .int ac, .int 2] h) (fun r2 h1 => (if r2 ≤ 0 then some (some (.int 0), h1) else some (some (.int 1), h1))) else none) := by
  refine (dq rfl rfl).trans ?_
  refine (dq rfl rfl).trans ?_
  refine (dq rfl rfl).trans ?_
  refine (dq_kxi (z := 79) rfl (lq rfl) (lq rfl) (lq rfl) kd_79).trans (it_c (kxi_c (fun r2 h1 => ?_)))
  refine (dq_ifle rfl).trans (ie_c ?_ ?_)
  · refine (dq rfl rfl).trans ?_
    exact dq_ret20 rfl
  · refine (dq rfl rfl).trans ?_
    refine (dq rfl rfl).trans ?_
    exact dq_ret21 rfl
theorem q_88 (ab : Nat) (ac : Int32) (ad : Int32) (h : ia_H) : cl 88 [.ref ab, .int ac, .int ad] h = (if ia_ok h 8 [.ref ab, .int ac, .int 3] = true then kxi (cl 79 [.ref ab, .int ac, .int 3] h) (fun r2 h1 => (if r2 = 1 then some (some (.int 1), h1) else (if ia_ok h1 8 [.ref ab, .int ac, .int 1] = true then kxi (cl 79 [.ref ab, .int ac, .int 1] h1) (fun r4 h3 => (if r4 = ad then some (some (.int 1), h3) else some (some (.int 0), h3))) else none))) else none) := by
  refine (dq rfl rfl).trans ?_
  refine (dq rfl rfl).trans ?_
  refine (dq rfl rfl).trans ?_
  refine (dq_kxi (z := 79) rfl (lq rfl) (lq rfl) (lq rfl) kd_79).trans (it_c (kxi_c (fun r2 h1 => ?_)))
  refine (dq rfl rfl).trans ?_
  refine (dq_ieq rfl).trans (ie_c ?_ ?_)
  · refine (dq rfl rfl).trans ?_
    refine (dq rfl rfl).trans ?_
    exact dq_ret21 rfl
  · refine (dq rfl rfl).trans ?_
    refine (dq rfl rfl).trans ?_
    refine (dq rfl rfl).trans ?_
    refine (dq_kxi (z := 79) rfl (lq rfl) (lq rfl) (lq rfl) kd_79).trans (it_c (kxi_c (fun r4 h3 => ?_)))
    refine (dq rfl rfl).trans ?_
    refine (dq_ine rfl).trans (ie_c ?_ ?_)
    · refine (dq rfl rfl).trans ?_
      refine (dq rfl rfl).trans ?_
      exact dq_ret21 rfl
    · refine (dq rfl rfl).trans ?_
      exact dq_ret20 rfl
theorem q_89 (ab : Nat) (ac : Int32) (ad : Int32) (h : ia_H) : cl 89 [.ref ab, .int ac, .int ad] h = (if ia_ok h 8 [.ref ab, .int ac] = true then kxi (cl 87 [.ref ab, .int ac] h) (fun r2 h1 => (if r2 = 0 then some (some (.int 0), h1) else (if ia_ok h1 8 [.ref ab, .int ac, .int 4] = true then kxi (cl 79 [.ref ab, .int ac, .int 4] h1) (fun r4 h3 => (if r4 = 1 then some (some (.int 0), h3) else (if ia_ok h3 8 [.ref ab, .int ac, .int ad] = true then kxi (cl 88 [.ref ab, .int ac, .int ad] h3) (fun r6 h5 => (if r6 = 0 then some (some (.int 0), h5) else some (some (.int 1), h5))) else none))) else none))) else none) := by
  refine (dq rfl rfl).trans ?_
  refine (dq rfl rfl).trans ?_
  refine (dq_kxi (z := 87) rfl (lq rfl) (lq rfl) (lq rfl) kd_87).trans (it_c (kxi_c (fun r2 h1 => ?_)))
  refine (dq_ifeq rfl).trans (ie_c ?_ ?_)
  · refine (dq rfl rfl).trans ?_
    exact dq_ret20 rfl
  · refine (dq rfl rfl).trans ?_
    refine (dq rfl rfl).trans ?_
    refine (dq rfl rfl).trans ?_
    refine (dq_kxi (z := 79) rfl (lq rfl) (lq rfl) (lq rfl) kd_79).trans (it_c (kxi_c (fun r4 h3 => ?_)))
    refine (dq rfl rfl).trans ?_
    refine (dq_ieq rfl).trans (ie_c ?_ ?_)
    · refine (dq rfl rfl).trans ?_
      exact dq_ret20 rfl
    · refine (dq rfl rfl).trans ?_
      refine (dq rfl rfl).trans ?_
      refine (dq rfl rfl).trans ?_
      refine (dq_kxi (z := 88) rfl (lq rfl) (lq rfl) (lq rfl) kd_88).trans (it_c (kxi_c (fun r6 h5 => ?_)))
      refine (dq_ifeq rfl).trans (ie_c ?_ ?_)
      · refine (dq rfl rfl).trans ?_
        exact dq_ret20 rfl
      · refine (dq rfl rfl).trans ?_
        refine (dq rfl rfl).trans ?_
        exact dq_ret21 rfl
theorem q_90 (ab : Nat) (ac : Int32) (ad : Int32) (h : ia_H) : cl 90 [.ref ab, .int ac, .int ad] h = dn 90 2 [some (.ref ab), some (.int ac), some (.int ad), some (.int 0)] [] h := by
  refine (dq rfl rfl).trans ?_
  refine (dq rfl rfl).trans ?_
  rfl
theorem q_90_2 (x0 : Nat) (x1 : Int32) (x2 : Int32) (x3 : Int32) (h : ia_H) : dn 90 2 [some (.ref x0), some (.int x1), some (.int x2), some (.int x3)] [] h = ((ia_gR h 8 x0 0).bind fun a1 => ((ia_ld h 0 a1 1105).bind fun v2 => (if v2 ≤ x3 then some (some (.int (-1)), h) else (if ia_ok h 8 [.ref x0, .int x3, .int 0] = true then kxi (cl 79 [.ref x0, .int x3, .int 0] h) (fun r4 h3 => (if r4 = x1 then (if ia_ok h3 8 [.ref x0, .int x3, .int x2] = true then kxi (cl 89 [.ref x0, .int x3, .int x2] h3) (fun r6 h5 => (if r6 = 0 then dn 90 2 [some (.ref x0), some (.int x1), some (.int x2), some (.int (x3 + 1))] [] h5 else some (some (.int x3), h5))) else none) else dn 90 2 [some (.ref x0), some (.int x1), some (.int x2), some (.int (x3 + 1))] [] h3)) else none)))) := by
  refine (dq rfl rfl).trans ?_
  refine (dq rfl rfl).trans ?_
  refine (dq_getR rfl).trans (bn_c (fun a1 => ?_))
  refine (dq rfl rfl).trans ?_
  refine (dq_iald rfl).trans (bn_c (fun v2 => ?_))
  refine (dq_ige rfl).trans (ie_c ?_ ?_)
  · refine (dq rfl rfl).trans ?_
    exact dq_ret1 rfl
  · refine (dq rfl rfl).trans ?_
    refine (dq rfl rfl).trans ?_
    refine (dq rfl rfl).trans ?_
    refine (dq_kxi (z := 79) rfl (lq rfl) (lq rfl) (lq rfl) kd_79).trans (it_c (kxi_c (fun r4 h3 => ?_)))
    refine (dq rfl rfl).trans ?_
    refine (dq_ine rfl).trans (ie_c ?_ ?_)
    · refine (dq rfl rfl).trans ?_
      refine (dq rfl rfl).trans ?_
      refine (dq rfl rfl).trans ?_
      refine (dq_kxi (z := 89) rfl (lq rfl) (lq rfl) (lq rfl) kd_89).trans (it_c (kxi_c (fun r6 h5 => ?_)))
      refine (dq_ifeq rfl).trans (ie_c ?_ ?_)
      · refine (dq_iinc (v := 1) rfl rfl (by decide)).trans ?_
        refine (dq rfl rfl).trans ?_
        rfl
      · refine (dq rfl rfl).trans ?_
        exact dq_ret1 rfl
    · refine (dq_iinc (v := 1) rfl rfl (by decide)).trans ?_
      refine (dq rfl rfl).trans ?_
      rfl
theorem q_91 (ab : Nat) (ac : Int32) (ad : Int32) (h : ia_H) : cl 91 [.ref ab, .int ac, .int ad] h = (if ia_ok h 8 [.ref ab, .int ac, .int ad] = true then kxi (cl 90 [.ref ab, .int ac, .int ad] h) (fun r2 h1 => (if r2 = (-1) then some (some (.int 0), h1) else some (some (.int 1), h1))) else none) := by
  refine (dq rfl rfl).trans ?_
  refine (dq rfl rfl).trans ?_
  refine (dq rfl rfl).trans ?_
  refine (dq_kxi (z := 90) rfl (lq rfl) (lq rfl) (lq rfl) kd_90).trans (it_c (kxi_c (fun r2 h1 => ?_)))
  refine (dq rfl rfl).trans ?_
  refine (dq_ieq rfl).trans (ie_c ?_ ?_)
  · refine (dq rfl rfl).trans ?_
    exact dq_ret20 rfl
  · refine (dq rfl rfl).trans ?_
    refine (dq rfl rfl).trans ?_
    exact dq_ret21 rfl
theorem q_92 (ab : Nat) (ac : Int32) (ad : Int32) (ae : Int32) (h : ia_H) : cl 92 [.ref ab, .int ac, .int ad, .int ae] h = ((ia_gR h 8 ab 0).bind fun a1 => ((ia_ld h 0 a1 (0 + ac)).bind fun v2 => (if v2 = ad then some (some (.int 1), h) else ((ia_gR h 8 ab 0).bind fun a3 => ((ia_ld h 0 a3 (0 + ac)).bind fun v4 => (if v4 = ae then some (some (.int 1), h) else some (some (.int 0), h))))))) := by
  refine (dq rfl rfl).trans ?_
  refine (dq_getR rfl).trans (bn_c (fun a1 => ?_))
  refine (dq rfl rfl).trans ?_
  refine (dq rfl rfl).trans ?_
  refine (dq rfl rfl).trans ?_
  refine (dq_iald rfl).trans (bn_c (fun v2 => ?_))
  refine (dq rfl rfl).trans ?_
  refine (dq_ieq rfl).trans (ie_c ?_ ?_)
  · refine (dq rfl rfl).trans ?_
    refine (dq rfl rfl).trans ?_
    exact dq_ret21 rfl
  · refine (dq rfl rfl).trans ?_
    refine (dq_getR rfl).trans (bn_c (fun a3 => ?_))
    refine (dq rfl rfl).trans ?_
    refine (dq rfl rfl).trans ?_
    refine (dq rfl rfl).trans ?_
    refine (dq_iald rfl).trans (bn_c (fun v4 => ?_))
    refine (dq rfl rfl).trans ?_
    refine (dq_ine rfl).trans (ie_c ?_ ?_)
    · refine (dq rfl rfl).trans ?_
      refine (dq rfl rfl).trans ?_
      exact dq_ret21 rfl
    · refine (dq rfl rfl).trans ?_
      exact dq_ret20 rfl
theorem q_93 (ab : Nat) (ac : Int32) (ad : Int32) (ae : Int32) (h : ia_H) : cl 93 [.ref ab, .int ac, .int ad, .int ae] h = ((ia_pF h 8 ab 14 (.int 0)).bind fun h1 => ((ia_pF h1 8 ab 15 (.int 0)).bind fun h2 => dn 93 8 [some (.ref ab), some (.int ac), some (.int ad), some (.int ae), some (.int 0), none] [] h2)) := by
  refine (dq rfl rfl).trans ?_
  refine (dq rfl rfl).trans ?_
  refine (dq_putI rfl).trans (bn_c (fun h1 => ?_))
  refine (dq rfl rfl).trans ?_
  refine (dq rfl rfl).trans ?_
  refine (dq_putI rfl).trans (bn_c (fun h2 => ?_))
  refine (dq rfl rfl).trans ?_
  refine (dq rfl rfl).trans ?_
  rfl
theorem q_93_8 (x0 : Nat) (x1 : Int32) (x2 : Int32) (x3 : Int32) (x4 : Int32) (l5 : Option Value) (h : ia_H) : dn 93 8 [some (.ref x0), some (.int x1), some (.int x2), some (.int x3), some (.int x4), l5] [] h = ((ia_gR h 8 x0 0).bind fun a1 => ((ia_ld h 0 a1 1104).bind fun v2 => (if v2 ≤ x4 then some (none, h) else (if ia_ok h 8 [.ref x0, .int x4, .int x1] = true then kxi (cl 90 [.ref x0, .int x4, .int x1] h) (fun r4 h3 => (if ia_ok h3 8 [.ref x0, .int x4, .int x2, .int x3] = true then kxi (cl 92 [.ref x0, .int x4, .int x2, .int x3] h3) (fun r6 h5 => (if r6 = 0 then dn 93 8 [some (.ref x0), some (.int x1), some (.int x2), some (.int x3), some (.int (x4 + 1)), some (.int r4)] [] h5 else (if r4 = (-1) then dn 93 8 [some (.ref x0), some (.int x1), some (.int x2), some (.int x3), some (.int (x4 + 1)), some (.int r4)] [] h5 else ((ia_gI h5 8 x0 15).bind fun v7 => ((ia_pF h5 8 x0 15 (.int (v7 ||| (1 <<< (x4 &&& 31))))).bind fun h8 => ((ia_gI h8 8 x0 14).bind fun v9 => ((ia_pF h8 8 x0 14 (.int (v9 + 1))).bind fun h10 => (if ia_ok h10 8 [.ref x0, .int r4, .int 2] = true then kxi (cl 79 [.ref x0, .int r4, .int 2] h10) (fun r12 h11 => (if ia_ok h11 8 [.ref x0, .int r4, .int 2, .int (r12 - 1)] = true then kxv (cl 80 [.ref x0, .int r4, .int 2, .int (r12 - 1)] h11) (fun h13 => (if ia_ok h13 8 [.ref x0, .int r4, .int 7] = true then kxi (cl 79 [.ref x0, .int r4, .int 7] h13) (fun r15 h14 => (if ia_ok h14 8 [.ref x0, .int r4, .int 7, .int (r15 + 1)] = true then kxv (cl 80 [.ref x0, .int r4, .int 7, .int (r15 + 1)] h14) (fun h16 => (if ia_ok h16 8 [.ref x0, .int 1, .int r4] = true then kxv (cl 85 [.ref x0, .int 1, .int r4] h16) (fun h17 => (if ia_ok h17 8 [.ref x0, .int r4] = true then kxi (cl 87 [.ref x0, .int r4] h17) (fun r19 h18 => (if r19 = 0 then (if ia_ok h18 8 [.ref x0, .int 2, .int r4] = true then kxv (cl 85 [.ref x0, .int 2, .int r4] h18) (fun h20 => dn 93 8 [some (.ref x0), some (.int x1), some (.int x2), some (.int x3), some (.int (x4 + 1)), some (.int r4)] [] h20) else none) else dn 93 8 [some (.ref x0), some (.int x1), some (.int x2), some (.int x3), some (.int (x4 + 1)), some (.int r4)] [] h18)) else none)) else none)) else none)) else none)) else none)) else none)))))))) else none)) else none)))) := by
  refine (dq rfl rfl).trans ?_
  refine (dq rfl rfl).trans ?_
  refine (dq_getR rfl).trans (bn_c (fun a1 => ?_))
  refine (dq rfl rfl).trans ?_
  refine (dq_iald rfl).trans (bn_c (fun v2 => ?_))
  refine (dq_ige rfl).trans (ie_c ?_ ?_)
  · exact dq_ret0 rfl
  · refine (dq rfl rfl).trans ?_
    refine (dq rfl rfl).trans ?_
    refine (dq rfl rfl).trans ?_
    refine (dq_kxi (z := 90) rfl (lq rfl) (lq rfl) (lq rfl) kd_90).trans (it_c (kxi_c (fun r4 h3 => ?_)))
    refine (dq rfl rfl).trans ?_
    refine (dq rfl rfl).trans ?_
    refine (dq rfl rfl).trans ?_
    refine (dq rfl rfl).trans ?_
    refine (dq rfl rfl).trans ?_
    refine (dq_kxi (z := 92) rfl (lq rfl) (lq rfl) (lq rfl) kd_92).trans (it_c (kxi_c (fun r6 h5 => ?_)))
    refine (dq_ifeq rfl).trans (ie_c ?_ ?_)
    · refine (dq_iinc (v := 1) rfl rfl (by decide)).trans ?_
      refine (dq rfl rfl).trans ?_
      rfl
    · refine (dq rfl rfl).trans ?_
      refine (dq rfl rfl).trans ?_
      refine (dq_ine rfl).trans (ie_c ?_ ?_)
      · refine (dq rfl rfl).trans ?_
        refine (dq_iinc (v := 1) rfl rfl (by decide)).trans ?_
        refine (dq rfl rfl).trans ?_
        rfl
      · refine (dq rfl rfl).trans ?_
        refine (dq rfl rfl).trans ?_
        refine (dq_getI rfl).trans (bn_c (fun v7 => ?_))
        refine (dq rfl rfl).trans ?_
        refine (dq rfl rfl).trans ?_
        refine (dq rfl rfl).trans ?_
        refine (dq rfl rfl).trans ?_
        refine (dq_putI rfl).trans (bn_c (fun h8 => ?_))
        refine (dq rfl rfl).trans ?_
        refine (dq rfl rfl).trans ?_
        refine (dq_getI rfl).trans (bn_c (fun v9 => ?_))
        refine (dq rfl rfl).trans ?_
        refine (dq rfl rfl).trans ?_
        refine (dq_putI rfl).trans (bn_c (fun h10 => ?_))
        refine (dq rfl rfl).trans ?_
        refine (dq rfl rfl).trans ?_
        refine (dq rfl rfl).trans ?_
        refine (dq rfl rfl).trans ?_
        refine (dq rfl rfl).trans ?_
        refine (dq rfl rfl).trans ?_
        refine (dq_kxi (z := 79) rfl (lq rfl) (lq rfl) (lq rfl) kd_79).trans (it_c (kxi_c (fun r12 h11 => ?_)))
        refine (dq rfl rfl).trans ?_
        refine (dq rfl rfl).trans ?_
        refine (dq_kxv (z := 80) rfl (lq rfl) (lq rfl) (lq rfl) kd_80).trans (it_c (kxv_c (fun h13 => ?_)))
        refine (dq rfl rfl).trans ?_
        refine (dq rfl rfl).trans ?_
        refine (dq rfl rfl).trans ?_
        refine (dq rfl rfl).trans ?_
        refine (dq rfl rfl).trans ?_
        refine (dq rfl rfl).trans ?_
        refine (dq_kxi (z := 79) rfl (lq rfl) (lq rfl) (lq rfl) kd_79).trans (it_c (kxi_c (fun r15 h14 => ?_)))
        refine (dq rfl rfl).trans ?_
        refine (dq rfl rfl).trans ?_
        refine (dq_kxv (z := 80) rfl (lq rfl) (lq rfl) (lq rfl) kd_80).trans (it_c (kxv_c (fun h16 => ?_)))
        refine (dq rfl rfl).trans ?_
        refine (dq rfl rfl).trans ?_
        refine (dq rfl rfl).trans ?_
        refine (dq_kxv (z := 85) rfl (lq rfl) (lq rfl) (lq rfl) kd_85).trans (it_c (kxv_c (fun h17 => ?_)))
        refine (dq rfl rfl).trans ?_
        refine (dq rfl rfl).trans ?_
        refine (dq_kxi (z := 87) rfl (lq rfl) (lq rfl) (lq rfl) kd_87).trans (it_c (kxi_c (fun r19 h18 => ?_)))
        refine (dq_ifne rfl).trans (ie_c ?_ ?_)
        · refine (dq rfl rfl).trans ?_
          refine (dq rfl rfl).trans ?_
          refine (dq rfl rfl).trans ?_
          refine (dq_kxv (z := 85) rfl (lq rfl) (lq rfl) (lq rfl) kd_85).trans (it_c (kxv_c (fun h20 => ?_)))
          refine (dq_iinc (v := 1) rfl rfl (by decide)).trans ?_
          refine (dq rfl rfl).trans ?_
          rfl
        · refine (dq_iinc (v := 1) rfl rfl (by decide)).trans ?_
          refine (dq rfl rfl).trans ?_
          rfl
theorem q_94 (ab : Nat) (ac : Int32) (ad : Int32) (h : ia_H) : cl 94 [.ref ab, .int ac, .int ad] h = ((ia_gR h 8 ab 0).bind fun a1 => ((ia_ld h 0 a1 ((108 + (4 * ac)) + ad)).bind fun v2 => ((ia_st h 0 a1 ((108 + (4 * ac)) + ad) (v2 + 1)).bind fun h3 => ((ia_gR h3 8 ab 0).bind fun a4 => ((ia_ld h3 0 a4 ((108 + (4 * ac)) + ad)).bind fun v5 => ((ia_gR h3 8 ab 6).bind fun a6 => ((ia_ld h3 0 a6 ((4 * ad) + 2)).bind fun v7 => (if v5 = v7 then dn 94 36 [some (.ref ab), some (.int ac), some (.int ad), some (.int 0)] [] h3 else some (none, h3))))))))) := by
  refine (dq rfl rfl).trans ?_
  refine (dq_getR rfl).trans (bn_c (fun a1 => ?_))
  refine (dq rfl rfl).trans ?_
  refine (dq rfl rfl).trans ?_
  refine (dq rfl rfl).trans ?_
  refine (dq rfl rfl).trans ?_
  refine (dq rfl rfl).trans ?_
  refine (dq rfl rfl).trans ?_
  refine (dq rfl rfl).trans ?_
  refine (dq rfl rfl).trans ?_
  refine (dq_iald rfl).trans (bn_c (fun v2 => ?_))
  refine (dq rfl rfl).trans ?_
  refine (dq rfl rfl).trans ?_
  refine (dq_iast rfl).trans (bn_c (fun h3 => ?_))
  refine (dq rfl rfl).trans ?_
  refine (dq_getR rfl).trans (bn_c (fun a4 => ?_))
  refine (dq rfl rfl).trans ?_
  refine (dq rfl rfl).trans ?_
  refine (dq rfl rfl).trans ?_
  refine (dq rfl rfl).trans ?_
  refine (dq rfl rfl).trans ?_
  refine (dq rfl rfl).trans ?_
  refine (dq rfl rfl).trans ?_
  refine (dq_iald rfl).trans (bn_c (fun v5 => ?_))
  refine (dq rfl rfl).trans ?_
  refine (dq_getR rfl).trans (bn_c (fun a6 => ?_))
  refine (dq rfl rfl).trans ?_
  refine (dq rfl rfl).trans ?_
  refine (dq rfl rfl).trans ?_
  refine (dq rfl rfl).trans ?_
  refine (dq rfl rfl).trans ?_
  refine (dq_iald rfl).trans (bn_c (fun v7 => ?_))
  refine (dq_ieq rfl).trans (ie_c ?_ ?_)
  · refine (dq rfl rfl).trans ?_
    refine (dq rfl rfl).trans ?_
    rfl
  · exact dq_ret0 rfl
theorem q_94_36 (x0 : Nat) (x1 : Int32) (x2 : Int32) (x3 : Int32) (h : ia_H) : dn 94 36 [some (.ref x0), some (.int x1), some (.int x2), some (.int x3)] [] h = ((ia_gR h 8 x0 0).bind fun a1 => ((ia_ld h 0 a1 1104).bind fun v2 => (if v2 ≤ x3 then some (none, h) else ((ia_gR h 8 x0 0).bind fun a3 => ((ia_ld h 0 a3 (0 + x3)).bind fun v4 => (if v4 = x1 then ((ia_gR h 8 x0 0).bind fun a5 => ((ia_st h 0 a5 ((12 + (4 * x3)) + x2) 0).bind fun h6 => dn 94 36 [some (.ref x0), some (.int x1), some (.int x2), some (.int (x3 + 1))] [] h6)) else dn 94 36 [some (.ref x0), some (.int x1), some (.int x2), some (.int (x3 + 1))] [] h)))))) := by
  refine (dq rfl rfl).trans ?_
  refine (dq rfl rfl).trans ?_
  refine (dq_getR rfl).trans (bn_c (fun a1 => ?_))
  refine (dq rfl rfl).trans ?_
  refine (dq_iald rfl).trans (bn_c (fun v2 => ?_))
  refine (dq_ige rfl).trans (ie_c ?_ ?_)
  · exact dq_ret0 rfl
  · refine (dq rfl rfl).trans ?_
    refine (dq_getR rfl).trans (bn_c (fun a3 => ?_))
    refine (dq rfl rfl).trans ?_
    refine (dq rfl rfl).trans ?_
    refine (dq rfl rfl).trans ?_
    refine (dq_iald rfl).trans (bn_c (fun v4 => ?_))
    refine (dq rfl rfl).trans ?_
    refine (dq_ine rfl).trans (ie_c ?_ ?_)
    · refine (dq rfl rfl).trans ?_
      refine (dq_getR rfl).trans (bn_c (fun a5 => ?_))
      refine (dq rfl rfl).trans ?_
      refine (dq rfl rfl).trans ?_
      refine (dq rfl rfl).trans ?_
      refine (dq rfl rfl).trans ?_
      refine (dq rfl rfl).trans ?_
      refine (dq rfl rfl).trans ?_
      refine (dq rfl rfl).trans ?_
      refine (dq rfl rfl).trans ?_
      refine (dq_iast rfl).trans (bn_c (fun h6 => ?_))
      refine (dq_iinc (v := 1) rfl rfl (by decide)).trans ?_
      refine (dq rfl rfl).trans ?_
      rfl
    · refine (dq_iinc (v := 1) rfl rfl (by decide)).trans ?_
      refine (dq rfl rfl).trans ?_
      rfl
theorem q_95 (ab : Nat) (ac : Int32) (ad : Int32) (ae : Int32) (h : ia_H) : cl 95 [.ref ab, .int ac, .int ad, .int ae] h = ((ia_gR h 8 ab 0).bind fun a1 => ((ia_ld h 0 a1 1106).bind fun v2 => ((ia_st h 0 a1 1106 (v2 + 1)).bind fun h3 => (if ia_ok h3 8 [.ref ab, .int ac, .int ad, .int ae] = true then kxv (cl 93 [.ref ab, .int ac, .int ad, .int ae] h3) (fun h4 => (if ia_ok h4 8 [.ref ab, .int ad, .int ac] = true then kxv (cl 94 [.ref ab, .int ad, .int ac] h4) (fun h5 => (if ia_ok h5 8 [.ref ab, .int ae, .int ac] = true then kxv (cl 94 [.ref ab, .int ae, .int ac] h5) (fun h6 => some (none, h6)) else none)) else none)) else none)))) := by
  refine (dq rfl rfl).trans ?_
  refine (dq_getR rfl).trans (bn_c (fun a1 => ?_))
  refine (dq rfl rfl).trans ?_
  refine (dq rfl rfl).trans ?_
  refine (dq_iald rfl).trans (bn_c (fun v2 => ?_))
  refine (dq rfl rfl).trans ?_
  refine (dq rfl rfl).trans ?_
  refine (dq_iast rfl).trans (bn_c (fun h3 => ?_))
  refine (dq rfl rfl).trans ?_
  refine (dq rfl rfl).trans ?_
  refine (dq rfl rfl).trans ?_
  refine (dq rfl rfl).trans ?_
  refine (dq_kxv (z := 93) rfl (lq rfl) (lq rfl) (lq rfl) kd_93).trans (it_c (kxv_c (fun h4 => ?_)))
  refine (dq rfl rfl).trans ?_
  refine (dq rfl rfl).trans ?_
  refine (dq rfl rfl).trans ?_
  refine (dq_kxv (z := 94) rfl (lq rfl) (lq rfl) (lq rfl) kd_94).trans (it_c (kxv_c (fun h5 => ?_)))
  refine (dq rfl rfl).trans ?_
  refine (dq rfl rfl).trans ?_
  refine (dq rfl rfl).trans ?_
  refine (dq_kxv (z := 94) rfl (lq rfl) (lq rfl) (lq rfl) kd_94).trans (it_c (kxv_c (fun h6 => ?_)))
  exact dq_ret0 rfl
theorem q_96 (ab : Nat) (ac : Int32) (ad : Int32) (h : ia_H) : cl 96 [.ref ab, .int ac, .int ad] h = dn 96 2 [some (.ref ab), some (.int ac), some (.int ad), some (.int 0)] [] h := by
  refine (dq rfl rfl).trans ?_
  refine (dq rfl rfl).trans ?_
  rfl
theorem q_96_2 (x0 : Nat) (x1 : Int32) (x2 : Int32) (x3 : Int32) (h : ia_H) : dn 96 2 [some (.ref x0), some (.int x1), some (.int x2), some (.int x3)] [] h = ((ia_gR h 8 x0 6).bind fun a1 => ((ia_ld h 0 a1 ((4 * x1) + 3)).bind fun v2 => (if v2 ≤ x3 then some (some (.int 0), h) else ((ia_gR h 8 x0 7).bind fun a3 => ((ia_ld h 0 a3 ((4 * x1) + x3)).bind fun v4 => (if v4 = x2 then ((ia_gR h 8 x0 8).bind fun a5 => ((ia_ld h 0 a5 ((4 * x1) + x3)).bind fun v6 => some (some (.int v6), h))) else dn 96 2 [some (.ref x0), some (.int x1), some (.int x2), some (.int (x3 + 1))] [] h)))))) := by
  refine (dq rfl rfl).trans ?_
  refine (dq rfl rfl).trans ?_
  refine (dq_getR rfl).trans (bn_c (fun a1 => ?_))
  refine (dq rfl rfl).trans ?_
  refine (dq rfl rfl).trans ?_
  refine (dq rfl rfl).trans ?_
  refine (dq rfl rfl).trans ?_
  refine (dq rfl rfl).trans ?_
  refine (dq_iald rfl).trans (bn_c (fun v2 => ?_))
  refine (dq_ige rfl).trans (ie_c ?_ ?_)
  · refine (dq rfl rfl).trans ?_
    exact dq_ret1 rfl
  · refine (dq rfl rfl).trans ?_
    refine (dq_getR rfl).trans (bn_c (fun a3 => ?_))
    refine (dq rfl rfl).trans ?_
    refine (dq rfl rfl).trans ?_
    refine (dq rfl rfl).trans ?_
    refine (dq rfl rfl).trans ?_
    refine (dq rfl rfl).trans ?_
    refine (dq_iald rfl).trans (bn_c (fun v4 => ?_))
    refine (dq rfl rfl).trans ?_
    refine (dq_ine rfl).trans (ie_c ?_ ?_)
    · refine (dq rfl rfl).trans ?_
      refine (dq_getR rfl).trans (bn_c (fun a5 => ?_))
      refine (dq rfl rfl).trans ?_
      refine (dq rfl rfl).trans ?_
      refine (dq rfl rfl).trans ?_
      refine (dq rfl rfl).trans ?_
      refine (dq rfl rfl).trans ?_
      refine (dq_iald rfl).trans (bn_c (fun v6 => ?_))
      exact dq_ret1 rfl
    · refine (dq_iinc (v := 1) rfl rfl (by decide)).trans ?_
      refine (dq rfl rfl).trans ?_
      rfl
theorem q_97 (ab : Nat) (ac : Int32) (h : ia_H) : cl 97 [.ref ab, .int ac] h = ((ia_gI h 8 ab 20).bind fun v1 => ((ia_pF h 8 ab 20 (.int (v1 ||| (1 <<< (ac &&& 31))))).bind fun h2 => ((ia_gR h2 8 ab 0).bind fun a3 => ((ia_ld h2 0 a3 ((72 + (3 * ac)) + 2)).bind fun v4 => ((ia_st h2 0 a3 ((72 + (3 * ac)) + 2) (v4 + 1)).bind fun h5 => ((ia_gR h5 8 ab 0).bind fun a6 => ((ia_gR h5 8 ab 0).bind fun a7 => ((ia_ld h5 0 a7 (0 + ac)).bind fun v8 => ((ia_ld h5 0 a6 ((60 + (3 * v8)) + 2)).bind fun v9 => ((ia_st h5 0 a6 ((60 + (3 * v8)) + 2) (v9 + 1)).bind fun h10 => some (none, h10))))))))))) := by
  refine (dq rfl rfl).trans ?_
  refine (dq rfl rfl).trans ?_
  refine (dq_getI rfl).trans (bn_c (fun v1 => ?_))
  refine (dq rfl rfl).trans ?_
  refine (dq rfl rfl).trans ?_
  refine (dq rfl rfl).trans ?_
  refine (dq rfl rfl).trans ?_
  refine (dq_putI rfl).trans (bn_c (fun h2 => ?_))
  refine (dq rfl rfl).trans ?_
  refine (dq_getR rfl).trans (bn_c (fun a3 => ?_))
  refine (dq rfl rfl).trans ?_
  refine (dq rfl rfl).trans ?_
  refine (dq rfl rfl).trans ?_
  refine (dq rfl rfl).trans ?_
  refine (dq rfl rfl).trans ?_
  refine (dq rfl rfl).trans ?_
  refine (dq rfl rfl).trans ?_
  refine (dq rfl rfl).trans ?_
  refine (dq_iald rfl).trans (bn_c (fun v4 => ?_))
  refine (dq rfl rfl).trans ?_
  refine (dq rfl rfl).trans ?_
  refine (dq_iast rfl).trans (bn_c (fun h5 => ?_))
  refine (dq rfl rfl).trans ?_
  refine (dq_getR rfl).trans (bn_c (fun a6 => ?_))
  refine (dq rfl rfl).trans ?_
  refine (dq rfl rfl).trans ?_
  refine (dq rfl rfl).trans ?_
  refine (dq_getR rfl).trans (bn_c (fun a7 => ?_))
  refine (dq rfl rfl).trans ?_
  refine (dq rfl rfl).trans ?_
  refine (dq rfl rfl).trans ?_
  refine (dq_iald rfl).trans (bn_c (fun v8 => ?_))
  refine (dq rfl rfl).trans ?_
  refine (dq rfl rfl).trans ?_
  refine (dq rfl rfl).trans ?_
  refine (dq rfl rfl).trans ?_
  refine (dq rfl rfl).trans ?_
  refine (dq_iald rfl).trans (bn_c (fun v9 => ?_))
  refine (dq rfl rfl).trans ?_
  refine (dq rfl rfl).trans ?_
  refine (dq_iast rfl).trans (bn_c (fun h10 => ?_))
  exact dq_ret0 rfl
theorem q_98 (ab : Nat) (ac : Int32) (ad : Int32) (ae : Int32) (af : Int32) (h : ia_H) : cl 98 [.ref ab, .int ac, .int ad, .int ae, .int af] h = ((ia_gR h 8 ab 17).bind fun a1 => ((ia_ld h 0 a1 ac).bind fun v2 => (if ia_ok h 8 [.ref ab, .int v2, .int ae, .int af] = true then kxi (cl 92 [.ref ab, .int v2, .int ae, .int af] h) (fun r4 h3 => (if r4 = 0 then some (some (.int (-2)), h3) else ((ia_gI h3 8 ab 15).bind fun v5 => ((ia_gI h3 8 ab 20).bind fun v6 => (if (((v5 ||| v6) >>> (v2 &&& 31)) &&& 1) = 1 then some (some (.int (-3)), h3) else ((ia_gR h3 8 ab 16).bind fun a7 => ((ia_ld h3 0 a7 ac).bind fun v8 => ((ia_gR h3 8 ab 0).bind fun a9 => ((ia_ld h3 0 a9 ((72 + (3 * v2)) + v8)).bind fun v10 => ((ia_st h3 0 a9 ((72 + (3 * v2)) + v8) (v10 + 1)).bind fun h11 => ((ia_gR h11 8 ab 0).bind fun a12 => ((ia_gR h11 8 ab 0).bind fun a13 => ((ia_ld h11 0 a13 (0 + v2)).bind fun v14 => ((ia_ld h11 0 a12 ((60 + (3 * v14)) + v8)).bind fun v15 => ((ia_st h11 0 a12 ((60 + (3 * v14)) + v8) (v15 + 1)).bind fun h16 => ((ia_gR h16 8 ab 6).bind fun a17 => ((ia_ld h16 0 a17 ((4 * ad) + 1)).bind fun v18 => (if v8 = 1 then (if ia_ok h16 8 [.ref ab, .int v2] = true then kxv (cl 97 [.ref ab, .int v2] h16) (fun h33 => dn 98 134 [some (.ref ab), some (.int ac), some (.int ad), some (.int ae), some (.int af), some (.int v2), some (.int v8), some (.int ((12 + (4 * v2)) + ad)), some (.int v18)] [] h33) else none) else ((ia_gI h16 8 ab 19).bind fun v19 => (if ((v19 >>> (v2 &&& 31)) &&& 1) = 1 then (if ia_ok h16 8 [.ref ab, .int v2] = true then kxv (cl 97 [.ref ab, .int v2] h16) (fun h29 => ((ia_gR h29 8 ab 0).bind fun a30 => ((ia_ld h29 0 a30 ((12 + (4 * v2)) + ad)).bind fun v31 => ((ia_st h29 0 a30 ((12 + (4 * v2)) + ad) (v31 - 1)).bind fun h32 => dn 98 134 [some (.ref ab), some (.int ac), some (.int ad), some (.int ae), some (.int af), some (.int v2), some (.int v8), some (.int ((12 + (4 * v2)) + ad)), some (.int 1)] [] h32)))) else none) else ((ia_gI h16 8 ab 19).bind fun v20 => ((ia_pF h16 8 ab 19 (.int (v20 ||| (1 <<< (v2 &&& 31))))).bind fun h21 => ((ia_gR h21 8 ab 0).bind fun a22 => ((ia_ld h21 0 a22 ((12 + (4 * v2)) + ad)).bind fun v23 => ((ia_st h21 0 a22 ((12 + (4 * v2)) + ad) (v23 + 1)).bind fun h24 => ((ia_gR h24 8 ab 0).bind fun a25 => ((ia_ld h24 0 a25 ((12 + (4 * v2)) + ad)).bind fun v26 => (if ia_ok h24 8 [.ref ab, .int ad, .int v26] = true then kxi (cl 96 [.ref ab, .int ad, .int v26] h24) (fun r28 h27 => dn 98 134 [some (.ref ab), some (.int ac), some (.int ad), some (.int ae), some (.int af), some (.int v2), some (.int v8), some (.int ((12 + (4 * v2)) + ad)), some (.int r28)] [] h27) else none)))))))))))))))))))))))))))) else none))) := by
  refine (dq rfl rfl).trans ?_
  refine (dq_getR rfl).trans (bn_c (fun a1 => ?_))
  refine (dq rfl rfl).trans ?_
  refine (dq_iald rfl).trans (bn_c (fun v2 => ?_))
  refine (dq rfl rfl).trans ?_
  refine (dq rfl rfl).trans ?_
  refine (dq rfl rfl).trans ?_
  refine (dq rfl rfl).trans ?_
  refine (dq rfl rfl).trans ?_
  refine (dq_kxi (z := 92) rfl (lq rfl) (lq rfl) (lq rfl) kd_92).trans (it_c (kxi_c (fun r4 h3 => ?_)))
  refine (dq_ifne rfl).trans (ie_c ?_ ?_)
  · refine (dq rfl rfl).trans ?_
    exact dq_ret1 rfl
  · refine (dq rfl rfl).trans ?_
    refine (dq_getI rfl).trans (bn_c (fun v5 => ?_))
    refine (dq rfl rfl).trans ?_
    refine (dq_getI rfl).trans (bn_c (fun v6 => ?_))
    refine (dq rfl rfl).trans ?_
    refine (dq rfl rfl).trans ?_
    refine (dq rfl rfl).trans ?_
    refine (dq rfl rfl).trans ?_
    refine (dq rfl rfl).trans ?_
    refine (dq rfl rfl).trans ?_
    refine (dq_ine rfl).trans (ie_c ?_ ?_)
    · refine (dq rfl rfl).trans ?_
      exact dq_ret1 rfl
    · refine (dq rfl rfl).trans ?_
      refine (dq_getR rfl).trans (bn_c (fun a7 => ?_))
      refine (dq rfl rfl).trans ?_
      refine (dq_iald rfl).trans (bn_c (fun v8 => ?_))
      refine (dq rfl rfl).trans ?_
      refine (dq rfl rfl).trans ?_
      refine (dq_getR rfl).trans (bn_c (fun a9 => ?_))
      refine (dq rfl rfl).trans ?_
      refine (dq rfl rfl).trans ?_
      refine (dq rfl rfl).trans ?_
      refine (dq rfl rfl).trans ?_
      refine (dq rfl rfl).trans ?_
      refine (dq rfl rfl).trans ?_
      refine (dq rfl rfl).trans ?_
      refine (dq rfl rfl).trans ?_
      refine (dq_iald rfl).trans (bn_c (fun v10 => ?_))
      refine (dq rfl rfl).trans ?_
      refine (dq rfl rfl).trans ?_
      refine (dq_iast rfl).trans (bn_c (fun h11 => ?_))
      refine (dq rfl rfl).trans ?_
      refine (dq_getR rfl).trans (bn_c (fun a12 => ?_))
      refine (dq rfl rfl).trans ?_
      refine (dq rfl rfl).trans ?_
      refine (dq rfl rfl).trans ?_
      refine (dq_getR rfl).trans (bn_c (fun a13 => ?_))
      refine (dq rfl rfl).trans ?_
      refine (dq rfl rfl).trans ?_
      refine (dq rfl rfl).trans ?_
      refine (dq_iald rfl).trans (bn_c (fun v14 => ?_))
      refine (dq rfl rfl).trans ?_
      refine (dq rfl rfl).trans ?_
      refine (dq rfl rfl).trans ?_
      refine (dq rfl rfl).trans ?_
      refine (dq rfl rfl).trans ?_
      refine (dq_iald rfl).trans (bn_c (fun v15 => ?_))
      refine (dq rfl rfl).trans ?_
      refine (dq rfl rfl).trans ?_
      refine (dq_iast rfl).trans (bn_c (fun h16 => ?_))
      refine (dq rfl rfl).trans ?_
      refine (dq rfl rfl).trans ?_
      refine (dq rfl rfl).trans ?_
      refine (dq rfl rfl).trans ?_
      refine (dq rfl rfl).trans ?_
      refine (dq rfl rfl).trans ?_
      refine (dq rfl rfl).trans ?_
      refine (dq rfl rfl).trans ?_
      refine (dq rfl rfl).trans ?_
      refine (dq_getR rfl).trans (bn_c (fun a17 => ?_))
      refine (dq rfl rfl).trans ?_
      refine (dq rfl rfl).trans ?_
      refine (dq rfl rfl).trans ?_
      refine (dq rfl rfl).trans ?_
      refine (dq rfl rfl).trans ?_
      refine (dq_iald rfl).trans (bn_c (fun v18 => ?_))
      refine (dq rfl rfl).trans ?_
      refine (dq rfl rfl).trans ?_
      refine (dq rfl rfl).trans ?_
      refine (dq_ine rfl).trans (ie_c ?_ ?_)
      · refine (dq rfl rfl).trans ?_
        refine (dq rfl rfl).trans ?_
        refine (dq_kxv (z := 97) rfl (lq rfl) (lq rfl) (lq rfl) kd_97).trans (it_c (kxv_c (fun h33 => ?_)))
        refine (dq rfl rfl).trans ?_
        rfl
      · refine (dq rfl rfl).trans ?_
        refine (dq_getI rfl).trans (bn_c (fun v19 => ?_))
        refine (dq rfl rfl).trans ?_
        refine (dq rfl rfl).trans ?_
        refine (dq rfl rfl).trans ?_
        refine (dq rfl rfl).trans ?_
        refine (dq rfl rfl).trans ?_
        refine (dq_ine rfl).trans (ie_c ?_ ?_)
        · refine (dq rfl rfl).trans ?_
          refine (dq rfl rfl).trans ?_
          refine (dq_kxv (z := 97) rfl (lq rfl) (lq rfl) (lq rfl) kd_97).trans (it_c (kxv_c (fun h29 => ?_)))
          refine (dq rfl rfl).trans ?_
          refine (dq_getR rfl).trans (bn_c (fun a30 => ?_))
          refine (dq rfl rfl).trans ?_
          refine (dq rfl rfl).trans ?_
          refine (dq_iald rfl).trans (bn_c (fun v31 => ?_))
          refine (dq rfl rfl).trans ?_
          refine (dq rfl rfl).trans ?_
          refine (dq_iast rfl).trans (bn_c (fun h32 => ?_))
          refine (dq rfl rfl).trans ?_
          refine (dq rfl rfl).trans ?_
          refine (dq rfl rfl).trans ?_
          rfl
        · refine (dq rfl rfl).trans ?_
          refine (dq rfl rfl).trans ?_
          refine (dq_getI rfl).trans (bn_c (fun v20 => ?_))
          refine (dq rfl rfl).trans ?_
          refine (dq rfl rfl).trans ?_
          refine (dq rfl rfl).trans ?_
          refine (dq rfl rfl).trans ?_
          refine (dq_putI rfl).trans (bn_c (fun h21 => ?_))
          refine (dq rfl rfl).trans ?_
          refine (dq_getR rfl).trans (bn_c (fun a22 => ?_))
          refine (dq rfl rfl).trans ?_
          refine (dq rfl rfl).trans ?_
          refine (dq_iald rfl).trans (bn_c (fun v23 => ?_))
          refine (dq rfl rfl).trans ?_
          refine (dq rfl rfl).trans ?_
          refine (dq_iast rfl).trans (bn_c (fun h24 => ?_))
          refine (dq rfl rfl).trans ?_
          refine (dq rfl rfl).trans ?_
          refine (dq rfl rfl).trans ?_
          refine (dq_getR rfl).trans (bn_c (fun a25 => ?_))
          refine (dq rfl rfl).trans ?_
          refine (dq_iald rfl).trans (bn_c (fun v26 => ?_))
          refine (dq_kxi (z := 96) rfl (lq rfl) (lq rfl) (lq rfl) kd_96).trans (it_c (kxi_c (fun r28 h27 => ?_)))
          refine (dq rfl rfl).trans ?_
          rfl
theorem q_98_134 (x0 : Nat) (x1 : Int32) (x2 : Int32) (x3 : Int32) (x4 : Int32) (x5 : Int32) (x6 : Int32) (x7 : Int32) (x8 : Int32) (h : ia_H) : dn 98 134 [some (.ref x0), some (.int x1), some (.int x2), some (.int x3), some (.int x4), some (.int x5), some (.int x6), some (.int x7), some (.int x8)] [] h = (if x8 = 0 then some (some (.int 0), h) else (if ia_ok h 8 [.ref x0, .int x5, .int x2, .int x8] = true then kxi (cl 86 [.ref x0, .int x5, .int x2, .int x8] h) (fun r2 h1 => (if r2 = 0 then some (some (.int (-4)), h1) else some (some (.int 0), h1))) else none)) := by
  refine (dq rfl rfl).trans ?_
  refine (dq_ifeq rfl).trans (ie_c ?_ ?_)
  · refine (dq rfl rfl).trans ?_
    refine (dq rfl rfl).trans ?_
    exact dq_ret1 rfl
  · refine (dq rfl rfl).trans ?_
    refine (dq rfl rfl).trans ?_
    refine (dq rfl rfl).trans ?_
    refine (dq rfl rfl).trans ?_
    refine (dq_kxi (z := 86) rfl (lq rfl) (lq rfl) (lq rfl) kd_86).trans (it_c (kxi_c (fun r2 h1 => ?_)))
    refine (dq_ifeq rfl).trans (ie_c ?_ ?_)
    · refine (dq rfl rfl).trans ?_
      exact dq_ret1 rfl
    · refine (dq rfl rfl).trans ?_
      refine (dq rfl rfl).trans ?_
      exact dq_ret1 rfl
theorem q_99 (ab : Nat) (h : ia_H) : cl 99 [.ref ab] h = ((ia_gI h 8 ab 10).bind fun v1 => ((ia_pF h 8 ab 21 (.int v1)).bind fun h2 => ((ia_pF h2 8 ab 10 (.int 0)).bind fun h3 => ((ia_pF h3 8 ab 22 (.int 0)).bind fun h4 => ((ia_pF h4 8 ab 23 (.int (-1))).bind fun h5 => some (none, h5)))))) := by
  refine (dq rfl rfl).trans ?_
  refine (dq rfl rfl).trans ?_
  refine (dq_getI rfl).trans (bn_c (fun v1 => ?_))
  refine (dq_putI rfl).trans (bn_c (fun h2 => ?_))
  refine (dq rfl rfl).trans ?_
  refine (dq rfl rfl).trans ?_
  refine (dq_putI rfl).trans (bn_c (fun h3 => ?_))
  refine (dq rfl rfl).trans ?_
  refine (dq rfl rfl).trans ?_
  refine (dq_putI rfl).trans (bn_c (fun h4 => ?_))
  refine (dq rfl rfl).trans ?_
  refine (dq rfl rfl).trans ?_
  refine (dq_putI rfl).trans (bn_c (fun h5 => ?_))
  exact dq_ret0 rfl
theorem q_100 (ab : Nat) (h : ia_H) : cl 100 [.ref ab] h = ((ia_gI h 8 ab 22).bind fun v1 => ((ia_gI h 8 ab 21).bind fun v2 => (if v2 ≤ v1 then some (some (.int (-1)), h) else ((ia_gR h 8 ab 9).bind fun a3 => ((ia_gI h 8 ab 22).bind fun v4 => ((ia_ld h 3 a3 v4).bind fun v5 => some (some (.int (v5 &&& 255)), h))))))) := by
  refine (dq rfl rfl).trans ?_
  refine (dq_getI rfl).trans (bn_c (fun v1 => ?_))
  refine (dq rfl rfl).trans ?_
  refine (dq_getI rfl).trans (bn_c (fun v2 => ?_))
  refine (dq_ige rfl).trans (ie_c ?_ ?_)
  · refine (dq rfl rfl).trans ?_
    exact dq_ret1 rfl
  · refine (dq rfl rfl).trans ?_
    refine (dq_getR rfl).trans (bn_c (fun a3 => ?_))
    refine (dq rfl rfl).trans ?_
    refine (dq_getI rfl).trans (bn_c (fun v4 => ?_))
    refine (dq_ald rfl).trans (bn_c (fun v5 => ?_))
    refine (dq rfl rfl).trans ?_
    refine (dq rfl rfl).trans ?_
    refine (dq rfl rfl).trans ?_
    exact dq_ret1 rfl
theorem q_101 (ab : Nat) (ac : Int32) (h : ia_H) : cl 101 [.ref ab, .int ac] h = ((ia_gI h 8 ab 23).bind fun v1 => (if v1 = (-1) then ((ia_pF h 8 ab 23 (.int ac)).bind fun h2 => some (none, h2)) else some (none, h))) := by
  refine (dq rfl rfl).trans ?_
  refine (dq_getI rfl).trans (bn_c (fun v1 => ?_))
  refine (dq rfl rfl).trans ?_
  refine (dq_ine rfl).trans (ie_c ?_ ?_)
  · refine (dq rfl rfl).trans ?_
    refine (dq rfl rfl).trans ?_
    refine (dq_putI rfl).trans (bn_c (fun h2 => ?_))
    exact dq_ret0 rfl
  · exact dq_ret0 rfl
theorem q_102 (ab : Nat) (ac : Int32) (h : ia_H) : cl 102 [.ref ab, .int ac] h = ((ia_gI h 8 ab 23).bind fun v1 => (if v1 = (-1) then (if ia_ok h 8 [.ref ab] = true then kxi (cl 100 [.ref ab] h) (fun r3 h2 => (if r3 = ac then ((ia_gI h2 8 ab 22).bind fun v6 => ((ia_pF h2 8 ab 22 (.int (v6 + 1))).bind fun h7 => some (none, h7))) else ((ia_gI h2 8 ab 22).bind fun v4 => (if ia_ok h2 8 [.ref ab, .int v4] = true then kxv (cl 101 [.ref ab, .int v4] h2) (fun h5 => some (none, h5)) else none)))) else none) else some (none, h))) := by
  refine (dq rfl rfl).trans ?_
  refine (dq_getI rfl).trans (bn_c (fun v1 => ?_))
  refine (dq rfl rfl).trans ?_
  refine (dq_ieq rfl).trans (ie_c ?_ ?_)
  · refine (dq rfl rfl).trans ?_
    refine (dq_kxi (z := 100) rfl (lq rfl) (lq rfl) (lq rfl) kd_100).trans (it_c (kxi_c (fun r3 h2 => ?_)))
    refine (dq rfl rfl).trans ?_
    refine (dq_ine rfl).trans (ie_c ?_ ?_)
    · refine (dq rfl rfl).trans ?_
      refine (dq rfl rfl).trans ?_
      refine (dq_getI rfl).trans (bn_c (fun v6 => ?_))
      refine (dq rfl rfl).trans ?_
      refine (dq rfl rfl).trans ?_
      refine (dq_putI rfl).trans (bn_c (fun h7 => ?_))
      refine (dq rfl rfl).trans ?_
      exact dq_ret0 rfl
    · refine (dq rfl rfl).trans ?_
      refine (dq rfl rfl).trans ?_
      refine (dq_getI rfl).trans (bn_c (fun v4 => ?_))
      refine (dq_kxv (z := 101) rfl (lq rfl) (lq rfl) (lq rfl) kd_101).trans (it_c (kxv_c (fun h5 => ?_)))
      exact dq_ret0 rfl
  · exact dq_ret0 rfl
theorem q_103 (ab : Nat) (ac : Int32) (ad : Int32) (h : ia_H) : cl 103 [.ref ab, .int ac, .int ad] h = ((ia_gI h 8 ab 23).bind fun v1 => (if v1 = (-1) then (if ia_ok h 8 [.ref ab] = true then kxi (cl 100 [.ref ab] h) (fun r3 h2 => kxi (cl 69 [.long (r3.toInt64), .long ((48 + ac).toInt64), .long ((48 + ad).toInt64)] h2) (fun r5 h4 => (if r5 = 0 then ((ia_gI h4 8 ab 22).bind fun v11 => (if ia_ok h4 8 [.ref ab, .int v11] = true then kxv (cl 101 [.ref ab, .int v11] h4) (fun h12 => some (some (.int ac), h12)) else none)) else ((ia_gI h4 8 ab 22).bind fun v6 => ((ia_pF h4 8 ab 22 (.int (v6 + 1))).bind fun h7 => ((ia_gR h7 8 ab 9).bind fun a8 => ((ia_gI h7 8 ab 22).bind fun v9 => ((ia_ld h7 3 a8 (v9 - 1)).bind fun v10 => some (some (.int (v10 - 48)), h7))))))))) else none) else some (some (.int ac), h))) := by
  refine (dq rfl rfl).trans ?_
  refine (dq_getI rfl).trans (bn_c (fun v1 => ?_))
  refine (dq rfl rfl).trans ?_
  refine (dq_ieq rfl).trans (ie_c ?_ ?_)
  · refine (dq rfl rfl).trans ?_
    refine (dq_kxi (z := 100) rfl (lq rfl) (lq rfl) (lq rfl) kd_100).trans (it_c (kxi_c (fun r3 h2 => ?_)))
    refine (dq rfl rfl).trans ?_
    refine (dq rfl rfl).trans ?_
    refine (dq rfl rfl).trans ?_
    refine (dq rfl rfl).trans ?_
    refine (dq rfl rfl).trans ?_
    refine (dq rfl rfl).trans ?_
    refine (dq rfl rfl).trans ?_
    refine (dq rfl rfl).trans ?_
    refine (dq rfl rfl).trans ?_
    refine (dq_kxi0 (z := 69) rfl (lq rfl) (lq rfl) (lq rfl) kd_69).trans (kxi_c (fun r5 h4 => ?_))
    refine (dq_ifne rfl).trans (ie_c ?_ ?_)
    · refine (dq rfl rfl).trans ?_
      refine (dq rfl rfl).trans ?_
      refine (dq_getI rfl).trans (bn_c (fun v11 => ?_))
      refine (dq_kxv (z := 101) rfl (lq rfl) (lq rfl) (lq rfl) kd_101).trans (it_c (kxv_c (fun h12 => ?_)))
      refine (dq rfl rfl).trans ?_
      exact dq_ret1 rfl
    · refine (dq rfl rfl).trans ?_
      refine (dq rfl rfl).trans ?_
      refine (dq_getI rfl).trans (bn_c (fun v6 => ?_))
      refine (dq rfl rfl).trans ?_
      refine (dq rfl rfl).trans ?_
      refine (dq_putI rfl).trans (bn_c (fun h7 => ?_))
      refine (dq rfl rfl).trans ?_
      refine (dq_getR rfl).trans (bn_c (fun a8 => ?_))
      refine (dq rfl rfl).trans ?_
      refine (dq_getI rfl).trans (bn_c (fun v9 => ?_))
      refine (dq rfl rfl).trans ?_
      refine (dq rfl rfl).trans ?_
      refine (dq_ald rfl).trans (bn_c (fun v10 => ?_))
      refine (dq rfl rfl).trans ?_
      refine (dq rfl rfl).trans ?_
      exact dq_ret1 rfl
  · refine (dq rfl rfl).trans ?_
    exact dq_ret1 rfl
theorem q_104 (ab : Nat) (ac : Int32) (ad : Int32) (h : ia_H) : cl 104 [.ref ab, .int ac, .int ad] h = (if ia_ok h 8 [.ref ab, .int 0, .int 9] = true then kxi (cl 103 [.ref ab, .int 0, .int 9] h) (fun r2 h1 => ((ia_gI h1 8 ab 23).bind fun v3 => (if v3 = (-1) then (if r2 ≤ 0 then dn 104 35 [some (.ref ab), some (.int ac), some (.int ad), some (.int r2)] [] h1 else (if ia_ok h1 8 [.ref ab] = true then kxi (cl 100 [.ref ab] h1) (fun r5 h4 => kxi (cl 69 [.long (r5.toInt64), .long 48, .long 57] h4) (fun r7 h6 => (if r7 = 0 then dn 104 35 [some (.ref ab), some (.int ac), some (.int ad), some (.int r2)] [] h6 else (if ia_ok h6 8 [.ref ab] = true then kxi (cl 100 [.ref ab] h6) (fun r9 h8 => ((ia_gI h8 8 ab 22).bind fun v10 => ((ia_pF h8 8 ab 22 (.int (v10 + 1))).bind fun h11 => dn 104 35 [some (.ref ab), some (.int ac), some (.int ad), some (.int (((10 * r2) + r9) - 48))] [] h11))) else none)))) else none)) else some (some (.int ac), h1)))) else none) := by
  refine (dq rfl rfl).trans ?_
  refine (dq rfl rfl).trans ?_
  refine (dq rfl rfl).trans ?_
  refine (dq_kxi (z := 103) rfl (lq rfl) (lq rfl) (lq rfl) kd_103).trans (it_c (kxi_c (fun r2 h1 => ?_)))
  refine (dq rfl rfl).trans ?_
  refine (dq rfl rfl).trans ?_
  refine (dq_getI rfl).trans (bn_c (fun v3 => ?_))
  refine (dq rfl rfl).trans ?_
  refine (dq_ieq rfl).trans (ie_c ?_ ?_)
  · refine (dq rfl rfl).trans ?_
    refine (dq_ifle rfl).trans (ie_c ?_ ?_)
    · rfl
    · refine (dq rfl rfl).trans ?_
      refine (dq_kxi (z := 100) rfl (lq rfl) (lq rfl) (lq rfl) kd_100).trans (it_c (kxi_c (fun r5 h4 => ?_)))
      refine (dq rfl rfl).trans ?_
      refine (dq rfl rfl).trans ?_
      refine (dq rfl rfl).trans ?_
      refine (dq_kxi0 (z := 69) rfl (lq rfl) (lq rfl) (lq rfl) kd_69).trans (kxi_c (fun r7 h6 => ?_))
      refine (dq_ifeq rfl).trans (ie_c ?_ ?_)
      · rfl
      · refine (dq rfl rfl).trans ?_
        refine (dq rfl rfl).trans ?_
        refine (dq rfl rfl).trans ?_
        refine (dq rfl rfl).trans ?_
        refine (dq_kxi (z := 100) rfl (lq rfl) (lq rfl) (lq rfl) kd_100).trans (it_c (kxi_c (fun r9 h8 => ?_)))
        refine (dq rfl rfl).trans ?_
        refine (dq rfl rfl).trans ?_
        refine (dq rfl rfl).trans ?_
        refine (dq rfl rfl).trans ?_
        refine (dq rfl rfl).trans ?_
        refine (dq rfl rfl).trans ?_
        refine (dq_getI rfl).trans (bn_c (fun v10 => ?_))
        refine (dq rfl rfl).trans ?_
        refine (dq rfl rfl).trans ?_
        refine (dq_putI rfl).trans (bn_c (fun h11 => ?_))
        rfl
  · refine (dq rfl rfl).trans ?_
    exact dq_ret1 rfl
theorem q_104_35 (x0 : Nat) (x1 : Int32) (x2 : Int32) (x3 : Int32) (h : ia_H) : dn 104 35 [some (.ref x0), some (.int x1), some (.int x2), some (.int x3)] [] h = kxi (cl 69 [.long (x3.toInt64), .long (x1.toInt64), .long (x2.toInt64)] h) (fun r2 h1 => (if r2 = 0 then ((ia_gI h1 8 x0 22).bind fun v3 => (if ia_ok h1 8 [.ref x0, .int (v3 - 1)] = true then kxv (cl 101 [.ref x0, .int (v3 - 1)] h1) (fun h4 => some (some (.int x1), h4)) else none)) else some (some (.int x3), h1))) := by
  refine (dq rfl rfl).trans ?_
  refine (dq rfl rfl).trans ?_
  refine (dq rfl rfl).trans ?_
  refine (dq rfl rfl).trans ?_
  refine (dq rfl rfl).trans ?_
  refine (dq rfl rfl).trans ?_
  refine (dq_kxi0 (z := 69) rfl (lq rfl) (lq rfl) (lq rfl) kd_69).trans (kxi_c (fun r2 h1 => ?_))
  refine (dq_ifeq rfl).trans (ie_c ?_ ?_)
  · refine (dq rfl rfl).trans ?_
    refine (dq rfl rfl).trans ?_
    refine (dq_getI rfl).trans (bn_c (fun v3 => ?_))
    refine (dq rfl rfl).trans ?_
    refine (dq rfl rfl).trans ?_
    refine (dq_kxv (z := 101) rfl (lq rfl) (lq rfl) (lq rfl) kd_101).trans (it_c (kxv_c (fun h4 => ?_)))
    refine (dq rfl rfl).trans ?_
    exact dq_ret1 rfl
  · refine (dq rfl rfl).trans ?_
    exact dq_ret1 rfl
theorem q_105 (ab : Nat) (h : ia_H) : cl 105 [.ref ab] h = ((ia_gI h 8 ab 23).bind fun v1 => (if v1 = (-1) then ((ia_gI h 8 ab 22).bind fun v2 => ((ia_gI h 8 ab 21).bind fun v3 => (if v3 ≤ v2 then some (none, h) else ((ia_gI h 8 ab 22).bind fun v4 => (if ia_ok h 8 [.ref ab, .int v4] = true then kxv (cl 101 [.ref ab, .int v4] h) (fun h5 => some (none, h5)) else none))))) else some (none, h))) := by
  refine (dq rfl rfl).trans ?_
  refine (dq_getI rfl).trans (bn_c (fun v1 => ?_))
  refine (dq rfl rfl).trans ?_
  refine (dq_ine rfl).trans (ie_c ?_ ?_)
  · refine (dq rfl rfl).trans ?_
    refine (dq_getI rfl).trans (bn_c (fun v2 => ?_))
    refine (dq rfl rfl).trans ?_
    refine (dq_getI rfl).trans (bn_c (fun v3 => ?_))
    refine (dq_ige rfl).trans (ie_c ?_ ?_)
    · exact dq_ret0 rfl
    · refine (dq rfl rfl).trans ?_
      refine (dq rfl rfl).trans ?_
      refine (dq_getI rfl).trans (bn_c (fun v4 => ?_))
      refine (dq_kxv (z := 101) rfl (lq rfl) (lq rfl) (lq rfl) kd_101).trans (it_c (kxv_c (fun h5 => ?_)))
      exact dq_ret0 rfl
  · exact dq_ret0 rfl
theorem q_106 (ab : Nat) (ac : Int32) (h : ia_H) : cl 106 [.ref ab, .int ac] h = dn 106 2 [some (.ref ab), some (.int ac), some (.int 0), none, none, none] [] h := by
  refine (dq rfl rfl).trans ?_
  refine (dq rfl rfl).trans ?_
  rfl
theorem q_106_2 (x0 : Nat) (x1 : Int32) (x2 : Int32) (l3 : Option Value) (l4 : Option Value) (l5 : Option Value) (h : ia_H) : dn 106 2 [some (.ref x0), some (.int x1), some (.int x2), l3, l4, l5] [] h = ((ia_gI h 8 x0 22).bind fun v1 => ((ia_pF h 8 x0 22 (.int (v1 + 1))).bind fun h2 => (if ia_ok h2 8 [.ref x0, .int (x2 + 1), .int 20] = true then kxi (cl 104 [.ref x0, .int (x2 + 1), .int 20] h2) (fun r4 h3 => (if ia_ok h3 8 [.ref x0, .int 47] = true then kxv (cl 102 [.ref x0, .int 47] h3) (fun h5 => (if ia_ok h5 8 [.ref x0, .int 1, .int 9] = true then kxi (cl 103 [.ref x0, .int 1, .int 9] h5) (fun r7 h6 => ((ia_gI h6 8 x0 23).bind fun v8 => (if v8 = (-1) then ((ia_gR h6 8 x0 24).bind fun a9 => ((ia_ld h6 0 a9 ((4 * x1) + 3)).bind fun v10 => ((ia_gR h6 8 x0 25).bind fun a11 => ((ia_st h6 0 a11 ((4 * x1) + v10) r4).bind fun h12 => ((ia_gR h12 8 x0 26).bind fun a13 => ((ia_st h12 0 a13 ((4 * x1) + v10) r7).bind fun h14 => ((ia_gR h14 8 x0 24).bind fun a15 => ((ia_ld h14 0 a15 ((4 * x1) + 3)).bind fun v16 => ((ia_st h14 0 a15 ((4 * x1) + 3) (v16 + 1)).bind fun h17 => (if ia_ok h17 8 [.ref x0] = true then kxi (cl 100 [.ref x0] h17) (fun r19 h18 => (if r19 = 44 then ((ia_gR h18 8 x0 24).bind fun a23 => ((ia_ld h18 0 a23 ((4 * x1) + 3)).bind fun v24 => (if v24 = 4 then ((ia_gI h18 8 x0 22).bind fun v28 => (if ia_ok h18 8 [.ref x0, .int v28] = true then kxv (cl 101 [.ref x0, .int v28] h18) (fun h29 => ((ia_gI h29 8 x0 23).bind fun v30 => (if v30 = (-1) then (if ia_ok h29 8 [.ref x0] = true then kxi (cl 100 [.ref x0] h29) (fun r32 h31 => (if r32 = 44 then dn 106 2 [some (.ref x0), some (.int x1), some (.int r4), some (.int r4), some (.int r7), some (.int ((4 * x1) + v10))] [] h31 else some (none, h31))) else none) else some (none, h29)))) else none)) else ((ia_gI h18 8 x0 23).bind fun v25 => (if v25 = (-1) then (if ia_ok h18 8 [.ref x0] = true then kxi (cl 100 [.ref x0] h18) (fun r27 h26 => (if r27 = 44 then dn 106 2 [some (.ref x0), some (.int x1), some (.int r4), some (.int r4), some (.int r7), some (.int ((4 * x1) + v10))] [] h26 else some (none, h26))) else none) else some (none, h18)))))) else ((ia_gI h18 8 x0 23).bind fun v20 => (if v20 = (-1) then (if ia_ok h18 8 [.ref x0] = true then kxi (cl 100 [.ref x0] h18) (fun r22 h21 => (if r22 = 44 then dn 106 2 [some (.ref x0), some (.int x1), some (.int r4), some (.int r4), some (.int r7), some (.int ((4 * x1) + v10))] [] h21 else some (none, h21))) else none) else some (none, h18))))) else none)))))))))) else some (none, h6)))) else none)) else none)) else none))) := by
  refine (dq rfl rfl).trans ?_
  refine (dq rfl rfl).trans ?_
  refine (dq_getI rfl).trans (bn_c (fun v1 => ?_))
  refine (dq rfl rfl).trans ?_
  refine (dq rfl rfl).trans ?_
  refine (dq_putI rfl).trans (bn_c (fun h2 => ?_))
  refine (dq rfl rfl).trans ?_
  refine (dq rfl rfl).trans ?_
  refine (dq rfl rfl).trans ?_
  refine (dq rfl rfl).trans ?_
  refine (dq rfl rfl).trans ?_
  refine (dq_kxi (z := 104) rfl (lq rfl) (lq rfl) (lq rfl) kd_104).trans (it_c (kxi_c (fun r4 h3 => ?_)))
  refine (dq rfl rfl).trans ?_
  refine (dq rfl rfl).trans ?_
  refine (dq rfl rfl).trans ?_
  refine (dq_kxv (z := 102) rfl (lq rfl) (lq rfl) (lq rfl) kd_102).trans (it_c (kxv_c (fun h5 => ?_)))
  refine (dq rfl rfl).trans ?_
  refine (dq rfl rfl).trans ?_
  refine (dq rfl rfl).trans ?_
  refine (dq_kxi (z := 103) rfl (lq rfl) (lq rfl) (lq rfl) kd_103).trans (it_c (kxi_c (fun r7 h6 => ?_)))
  refine (dq rfl rfl).trans ?_
  refine (dq rfl rfl).trans ?_
  refine (dq_getI rfl).trans (bn_c (fun v8 => ?_))
  refine (dq rfl rfl).trans ?_
  refine (dq_ieq rfl).trans (ie_c ?_ ?_)
  · refine (dq rfl rfl).trans ?_
    refine (dq rfl rfl).trans ?_
    refine (dq rfl rfl).trans ?_
    refine (dq rfl rfl).trans ?_
    refine (dq_getR rfl).trans (bn_c (fun a9 => ?_))
    refine (dq rfl rfl).trans ?_
    refine (dq rfl rfl).trans ?_
    refine (dq rfl rfl).trans ?_
    refine (dq rfl rfl).trans ?_
    refine (dq rfl rfl).trans ?_
    refine (dq_iald rfl).trans (bn_c (fun v10 => ?_))
    refine (dq rfl rfl).trans ?_
    refine (dq rfl rfl).trans ?_
    refine (dq rfl rfl).trans ?_
    refine (dq_getR rfl).trans (bn_c (fun a11 => ?_))
    refine (dq rfl rfl).trans ?_
    refine (dq rfl rfl).trans ?_
    refine (dq_iast rfl).trans (bn_c (fun h12 => ?_))
    refine (dq rfl rfl).trans ?_
    refine (dq_getR rfl).trans (bn_c (fun a13 => ?_))
    refine (dq rfl rfl).trans ?_
    refine (dq rfl rfl).trans ?_
    refine (dq_iast rfl).trans (bn_c (fun h14 => ?_))
    refine (dq rfl rfl).trans ?_
    refine (dq_getR rfl).trans (bn_c (fun a15 => ?_))
    refine (dq rfl rfl).trans ?_
    refine (dq rfl rfl).trans ?_
    refine (dq rfl rfl).trans ?_
    refine (dq rfl rfl).trans ?_
    refine (dq rfl rfl).trans ?_
    refine (dq rfl rfl).trans ?_
    refine (dq_iald rfl).trans (bn_c (fun v16 => ?_))
    refine (dq rfl rfl).trans ?_
    refine (dq rfl rfl).trans ?_
    refine (dq_iast rfl).trans (bn_c (fun h17 => ?_))
    refine (dq rfl rfl).trans ?_
    refine (dq rfl rfl).trans ?_
    refine (dq rfl rfl).trans ?_
    refine (dq_kxi (z := 100) rfl (lq rfl) (lq rfl) (lq rfl) kd_100).trans (it_c (kxi_c (fun r19 h18 => ?_)))
    refine (dq rfl rfl).trans ?_
    refine (dq_ine rfl).trans (ie_c ?_ ?_)
    · refine (dq rfl rfl).trans ?_
      refine (dq_getR rfl).trans (bn_c (fun a23 => ?_))
      refine (dq rfl rfl).trans ?_
      refine (dq rfl rfl).trans ?_
      refine (dq rfl rfl).trans ?_
      refine (dq rfl rfl).trans ?_
      refine (dq rfl rfl).trans ?_
      refine (dq_iald rfl).trans (bn_c (fun v24 => ?_))
      refine (dq rfl rfl).trans ?_
      refine (dq_ine rfl).trans (ie_c ?_ ?_)
      · refine (dq rfl rfl).trans ?_
        refine (dq rfl rfl).trans ?_
        refine (dq_getI rfl).trans (bn_c (fun v28 => ?_))
        refine (dq_kxv (z := 101) rfl (lq rfl) (lq rfl) (lq rfl) kd_101).trans (it_c (kxv_c (fun h29 => ?_)))
        refine (dq rfl rfl).trans ?_
        refine (dq_getI rfl).trans (bn_c (fun v30 => ?_))
        refine (dq rfl rfl).trans ?_
        refine (dq_ine rfl).trans (ie_c ?_ ?_)
        · refine (dq rfl rfl).trans ?_
          refine (dq_kxi (z := 100) rfl (lq rfl) (lq rfl) (lq rfl) kd_100).trans (it_c (kxi_c (fun r32 h31 => ?_)))
          refine (dq rfl rfl).trans ?_
          refine (dq_ieq rfl).trans (ie_c ?_ ?_)
          · rfl
          · exact dq_ret0 rfl
        · exact dq_ret0 rfl
      · refine (dq rfl rfl).trans ?_
        refine (dq_getI rfl).trans (bn_c (fun v25 => ?_))
        refine (dq rfl rfl).trans ?_
        refine (dq_ine rfl).trans (ie_c ?_ ?_)
        · refine (dq rfl rfl).trans ?_
          refine (dq_kxi (z := 100) rfl (lq rfl) (lq rfl) (lq rfl) kd_100).trans (it_c (kxi_c (fun r27 h26 => ?_)))
          refine (dq rfl rfl).trans ?_
          refine (dq_ieq rfl).trans (ie_c ?_ ?_)
          · rfl
          · exact dq_ret0 rfl
        · exact dq_ret0 rfl
    · refine (dq rfl rfl).trans ?_
      refine (dq_getI rfl).trans (bn_c (fun v20 => ?_))
      refine (dq rfl rfl).trans ?_
      refine (dq_ine rfl).trans (ie_c ?_ ?_)
      · refine (dq rfl rfl).trans ?_
        refine (dq_kxi (z := 100) rfl (lq rfl) (lq rfl) (lq rfl) kd_100).trans (it_c (kxi_c (fun r22 h21 => ?_)))
        refine (dq rfl rfl).trans ?_
        refine (dq_ieq rfl).trans (ie_c ?_ ?_)
        · rfl
        · exact dq_ret0 rfl
      · exact dq_ret0 rfl
  · exact dq_ret0 rfl
theorem q_107 (ab : Nat) (ac : Int32) (h : ia_H) : cl 107 [.ref ab, .int ac] h = (if ia_ok h 8 [.ref ab, .int 0, .int 3] = true then kxi (cl 103 [.ref ab, .int 0, .int 3] h) (fun r2 h1 => ((ia_gI h1 8 ab 23).bind fun v3 => (if v3 = (-1) then (if ((ac >>> (r2 &&& 31)) &&& 1) = 1 then ((ia_gI h1 8 ab 22).bind fun v4 => (if ia_ok h1 8 [.ref ab, .int (v4 - 1)] = true then kxv (cl 101 [.ref ab, .int (v4 - 1)] h1) (fun h5 => dn 107 22 [some (.ref ab), some (.int ac), some (.int r2)] [] h5) else none)) else dn 107 22 [some (.ref ab), some (.int ac), some (.int r2)] [] h1) else dn 107 22 [some (.ref ab), some (.int ac), some (.int r2)] [] h1))) else none) := by
  refine (dq rfl rfl).trans ?_
  refine (dq rfl rfl).trans ?_
  refine (dq rfl rfl).trans ?_
  refine (dq_kxi (z := 103) rfl (lq rfl) (lq rfl) (lq rfl) kd_103).trans (it_c (kxi_c (fun r2 h1 => ?_)))
  refine (dq rfl rfl).trans ?_
  refine (dq rfl rfl).trans ?_
  refine (dq_getI rfl).trans (bn_c (fun v3 => ?_))
  refine (dq rfl rfl).trans ?_
  refine (dq_ine rfl).trans (ie_c ?_ ?_)
  · refine (dq rfl rfl).trans ?_
    refine (dq rfl rfl).trans ?_
    refine (dq rfl rfl).trans ?_
    refine (dq rfl rfl).trans ?_
    refine (dq rfl rfl).trans ?_
    refine (dq rfl rfl).trans ?_
    refine (dq_ine rfl).trans (ie_c ?_ ?_)
    · refine (dq rfl rfl).trans ?_
      refine (dq rfl rfl).trans ?_
      refine (dq_getI rfl).trans (bn_c (fun v4 => ?_))
      refine (dq rfl rfl).trans ?_
      refine (dq rfl rfl).trans ?_
      refine (dq_kxv (z := 101) rfl (lq rfl) (lq rfl) (lq rfl) kd_101).trans (it_c (kxv_c (fun h5 => ?_)))
      rfl
    · rfl
  · rfl
theorem q_107_22 (x0 : Nat) (x1 : Int32) (x2 : Int32) (h : ia_H) : dn 107 22 [some (.ref x0), some (.int x1), some (.int x2)] [] h = ((ia_gI h 8 x0 23).bind fun v1 => (if v1 = (-1) then (if ia_ok h 8 [.ref x0] = true then kxi (cl 100 [.ref x0] h) (fun r3 h2 => (if r3 = 111 then dn 107 38 [some (.ref x0), some (.int x1), some (.int x2)] [] h2 else (if ia_ok h2 8 [.ref x0] = true then kxi (cl 100 [.ref x0] h2) (fun r5 h4 => (if r5 = 97 then dn 107 38 [some (.ref x0), some (.int x1), some (.int x2)] [] h4 else ((ia_gI h4 8 x0 22).bind fun v6 => (if ia_ok h4 8 [.ref x0, .int v6] = true then kxv (cl 101 [.ref x0, .int v6] h4) (fun h7 => dn 107 38 [some (.ref x0), some (.int x1), some (.int x2)] [] h7) else none)))) else none))) else none) else dn 107 38 [some (.ref x0), some (.int x1), some (.int x2)] [] h)) := by
  refine (dq rfl rfl).trans ?_
  refine (dq_getI rfl).trans (bn_c (fun v1 => ?_))
  refine (dq rfl rfl).trans ?_
  refine (dq_ine rfl).trans (ie_c ?_ ?_)
  · refine (dq rfl rfl).trans ?_
    refine (dq_kxi (z := 100) rfl (lq rfl) (lq rfl) (lq rfl) kd_100).trans (it_c (kxi_c (fun r3 h2 => ?_)))
    refine (dq rfl rfl).trans ?_
    refine (dq_ieq rfl).trans (ie_c ?_ ?_)
    · rfl
    · refine (dq rfl rfl).trans ?_
      refine (dq_kxi (z := 100) rfl (lq rfl) (lq rfl) (lq rfl) kd_100).trans (it_c (kxi_c (fun r5 h4 => ?_)))
      refine (dq rfl rfl).trans ?_
      refine (dq_ieq rfl).trans (ie_c ?_ ?_)
      · rfl
      · refine (dq rfl rfl).trans ?_
        refine (dq rfl rfl).trans ?_
        refine (dq_getI rfl).trans (bn_c (fun v6 => ?_))
        refine (dq_kxv (z := 101) rfl (lq rfl) (lq rfl) (lq rfl) kd_101).trans (it_c (kxv_c (fun h7 => ?_)))
        rfl
  · rfl
theorem q_107_38 (x0 : Nat) (x1 : Int32) (x2 : Int32) (h : ia_H) : dn 107 38 [some (.ref x0), some (.int x1), some (.int x2)] [] h = ((ia_gI h 8 x0 23).bind fun v1 => (if v1 = (-1) then ((ia_gR h 8 x0 24).bind fun a2 => (if ia_ok h 8 [.ref x0] = true then kxi (cl 100 [.ref x0] h) (fun r4 h3 => (if r4 = 97 then dn 107 56 [some (.ref x0), some (.int x1), some (.int x2)] [.int 1, .int (4 * x2), .ref a2] h3 else dn 107 56 [some (.ref x0), some (.int x1), some (.int x2)] [.int 0, .int (4 * x2), .ref a2] h3)) else none)) else some (some (.int x1), h))) := by
  refine (dq rfl rfl).trans ?_
  refine (dq_getI rfl).trans (bn_c (fun v1 => ?_))
  refine (dq rfl rfl).trans ?_
  refine (dq_ieq rfl).trans (ie_c ?_ ?_)
  · refine (dq rfl rfl).trans ?_
    refine (dq_getR rfl).trans (bn_c (fun a2 => ?_))
    refine (dq rfl rfl).trans ?_
    refine (dq rfl rfl).trans ?_
    refine (dq rfl rfl).trans ?_
    refine (dq rfl rfl).trans ?_
    refine (dq_kxi (z := 100) rfl (lq rfl) (lq rfl) (lq rfl) kd_100).trans (it_c (kxi_c (fun r4 h3 => ?_)))
    refine (dq rfl rfl).trans ?_
    refine (dq_ine rfl).trans (ie_c ?_ ?_)
    · refine (dq rfl rfl).trans ?_
      refine (dq rfl rfl).trans ?_
      rfl
    · refine (dq rfl rfl).trans ?_
      rfl
  · refine (dq rfl rfl).trans ?_
    exact dq_ret1 rfl
theorem q_107_56 (x0 : Nat) (x1 : Int32) (x2 : Int32) (s0 : Nat) (s1 : Int32) (s2 : Int32) (h : ia_H) : dn 107 56 [some (.ref x0), some (.int x1), some (.int x2)] [.int s2, .int s1, .ref s0] h = ((ia_st h 0 s0 s1 s2).bind fun h1 => ((ia_gI h1 8 x0 22).bind fun v2 => ((ia_pF h1 8 x0 22 (.int (v2 + 1))).bind fun h3 => ((ia_gR h3 8 x0 24).bind fun a4 => (if ia_ok h3 8 [.ref x0, .int 1, .int 9] = true then kxi (cl 103 [.ref x0, .int 1, .int 9] h3) (fun r6 h5 => ((ia_st h5 0 a4 ((4 * x2) + 1) r6).bind fun h7 => (if ia_ok h7 8 [.ref x0, .int 120] = true then kxv (cl 102 [.ref x0, .int 120] h7) (fun h8 => ((ia_gR h8 8 x0 24).bind fun a9 => (if ia_ok h8 8 [.ref x0, .int 0, .int 20] = true then kxi (cl 104 [.ref x0, .int 0, .int 20] h8) (fun r11 h10 => ((ia_st h10 0 a9 ((4 * x2) + 2) r11).bind fun h12 => ((ia_gR h12 8 x0 24).bind fun a13 => ((ia_st h12 0 a13 ((4 * x2) + 3) 0).bind fun h14 => ((ia_gI h14 8 x0 23).bind fun v15 => (if v15 = (-1) then (if ia_ok h14 8 [.ref x0] = true then kxi (cl 100 [.ref x0] h14) (fun r17 h16 => (if r17 = 58 then (if ia_ok h16 8 [.ref x0, .int x2] = true then kxv (cl 106 [.ref x0, .int x2] h16) (fun h18 => some (some (.int (x1 ||| (1 <<< (x2 &&& 31)))), h18)) else none) else some (some (.int (x1 ||| (1 <<< (x2 &&& 31)))), h16))) else none) else some (some (.int (x1 ||| (1 <<< (x2 &&& 31)))), h14))))))) else none))) else none))) else none))))) := by
  refine (dq_iast rfl).trans (bn_c (fun h1 => ?_))
  refine (dq rfl rfl).trans ?_
  refine (dq rfl rfl).trans ?_
  refine (dq_getI rfl).trans (bn_c (fun v2 => ?_))
  refine (dq rfl rfl).trans ?_
  refine (dq rfl rfl).trans ?_
  refine (dq_putI rfl).trans (bn_c (fun h3 => ?_))
  refine (dq rfl rfl).trans ?_
  refine (dq_getR rfl).trans (bn_c (fun a4 => ?_))
  refine (dq rfl rfl).trans ?_
  refine (dq rfl rfl).trans ?_
  refine (dq rfl rfl).trans ?_
  refine (dq rfl rfl).trans ?_
  refine (dq rfl rfl).trans ?_
  refine (dq rfl rfl).trans ?_
  refine (dq rfl rfl).trans ?_
  refine (dq rfl rfl).trans ?_
  refine (dq_kxi (z := 103) rfl (lq rfl) (lq rfl) (lq rfl) kd_103).trans (it_c (kxi_c (fun r6 h5 => ?_)))
  refine (dq_iast rfl).trans (bn_c (fun h7 => ?_))
  refine (dq rfl rfl).trans ?_
  refine (dq rfl rfl).trans ?_
  refine (dq_kxv (z := 102) rfl (lq rfl) (lq rfl) (lq rfl) kd_102).trans (it_c (kxv_c (fun h8 => ?_)))
  refine (dq rfl rfl).trans ?_
  refine (dq_getR rfl).trans (bn_c (fun a9 => ?_))
  refine (dq rfl rfl).trans ?_
  refine (dq rfl rfl).trans ?_
  refine (dq rfl rfl).trans ?_
  refine (dq rfl rfl).trans ?_
  refine (dq rfl rfl).trans ?_
  refine (dq rfl rfl).trans ?_
  refine (dq rfl rfl).trans ?_
  refine (dq rfl rfl).trans ?_
  refine (dq_kxi (z := 104) rfl (lq rfl) (lq rfl) (lq rfl) kd_104).trans (it_c (kxi_c (fun r11 h10 => ?_)))
  refine (dq_iast rfl).trans (bn_c (fun h12 => ?_))
  refine (dq rfl rfl).trans ?_
  refine (dq_getR rfl).trans (bn_c (fun a13 => ?_))
  refine (dq rfl rfl).trans ?_
  refine (dq rfl rfl).trans ?_
  refine (dq rfl rfl).trans ?_
  refine (dq rfl rfl).trans ?_
  refine (dq rfl rfl).trans ?_
  refine (dq rfl rfl).trans ?_
  refine (dq_iast rfl).trans (bn_c (fun h14 => ?_))
  refine (dq rfl rfl).trans ?_
  refine (dq_getI rfl).trans (bn_c (fun v15 => ?_))
  refine (dq rfl rfl).trans ?_
  refine (dq_ine rfl).trans (ie_c ?_ ?_)
  · refine (dq rfl rfl).trans ?_
    refine (dq_kxi (z := 100) rfl (lq rfl) (lq rfl) (lq rfl) kd_100).trans (it_c (kxi_c (fun r17 h16 => ?_)))
    refine (dq rfl rfl).trans ?_
    refine (dq_ine rfl).trans (ie_c ?_ ?_)
    · refine (dq rfl rfl).trans ?_
      refine (dq rfl rfl).trans ?_
      refine (dq_kxv (z := 106) rfl (lq rfl) (lq rfl) (lq rfl) kd_106).trans (it_c (kxv_c (fun h18 => ?_)))
      refine (dq rfl rfl).trans ?_
      refine (dq rfl rfl).trans ?_
      refine (dq rfl rfl).trans ?_
      refine (dq rfl rfl).trans ?_
      refine (dq rfl rfl).trans ?_
      exact dq_ret1 rfl
    · refine (dq rfl rfl).trans ?_
      refine (dq rfl rfl).trans ?_
      refine (dq rfl rfl).trans ?_
      refine (dq rfl rfl).trans ?_
      refine (dq rfl rfl).trans ?_
      exact dq_ret1 rfl
  · refine (dq rfl rfl).trans ?_
    refine (dq rfl rfl).trans ?_
    refine (dq rfl rfl).trans ?_
    refine (dq rfl rfl).trans ?_
    refine (dq rfl rfl).trans ?_
    exact dq_ret1 rfl
theorem q_108 (ab : Nat) (h : ia_H) : cl 108 [.ref ab] h = ((ia_pF h 8 ab 13 (.int 0)).bind fun h1 => (if ia_ok h1 8 [.ref ab] = true then kxv (cl 99 [.ref ab] h1) (fun h2 => dn 108 7 [some (.ref ab), some (.int 0), none] [] h2) else none)) := by
  refine (dq rfl rfl).trans ?_
  refine (dq rfl rfl).trans ?_
  refine (dq_putI rfl).trans (bn_c (fun h1 => ?_))
  refine (dq rfl rfl).trans ?_
  refine (dq_kxv (z := 99) rfl (lq rfl) (lq rfl) (lq rfl) kd_99).trans (it_c (kxv_c (fun h2 => ?_)))
  refine (dq rfl rfl).trans ?_
  refine (dq rfl rfl).trans ?_
  rfl
theorem q_108_7 (x0 : Nat) (x1 : Int32) (l2 : Option Value) (h : ia_H) : dn 108 7 [some (.ref x0), some (.int x1), l2] [] h = (if 4 ≤ x1 then ((ia_gI h 8 x0 21).bind fun v1 => (if v1 ≤ 0 then dn 108 55 [some (.ref x0), some (.int 0), l2] [] h else (if ia_ok h 8 [.ref x0, .int 0] = true then kxi (cl 107 [.ref x0, .int 0] h) (fun r3 h2 => dn 108 55 [some (.ref x0), some (.int r3), l2] [] h2) else none))) else ((ia_gR h 8 x0 24).bind fun a4 => ((ia_st h 0 a4 (4 * x1) 0).bind fun h5 => ((ia_gR h5 8 x0 24).bind fun a6 => ((ia_st h5 0 a6 ((4 * x1) + 1) 1).bind fun h7 => ((ia_gR h7 8 x0 24).bind fun a8 => ((ia_st h7 0 a8 ((4 * x1) + 2) 0).bind fun h9 => ((ia_gR h9 8 x0 24).bind fun a10 => ((ia_st h9 0 a10 ((4 * x1) + 3) 0).bind fun h11 => dn 108 7 [some (.ref x0), some (.int (x1 + 1)), l2] [] h11))))))))) := by
  refine (dq rfl rfl).trans ?_
  refine (dq rfl rfl).trans ?_
  refine (dq_ige rfl).trans (ie_c ?_ ?_)
  · refine (dq rfl rfl).trans ?_
    refine (dq rfl rfl).trans ?_
    refine (dq rfl rfl).trans ?_
    refine (dq_getI rfl).trans (bn_c (fun v1 => ?_))
    refine (dq_ifle rfl).trans (ie_c ?_ ?_)
    · rfl
    · refine (dq rfl rfl).trans ?_
      refine (dq rfl rfl).trans ?_
      refine (dq_kxi (z := 107) rfl (lq rfl) (lq rfl) (lq rfl) kd_107).trans (it_c (kxi_c (fun r3 h2 => ?_)))
      refine (dq rfl rfl).trans ?_
      rfl
  · refine (dq rfl rfl).trans ?_
    refine (dq_getR rfl).trans (bn_c (fun a4 => ?_))
    refine (dq rfl rfl).trans ?_
    refine (dq rfl rfl).trans ?_
    refine (dq rfl rfl).trans ?_
    refine (dq rfl rfl).trans ?_
    refine (dq_iast rfl).trans (bn_c (fun h5 => ?_))
    refine (dq rfl rfl).trans ?_
    refine (dq_getR rfl).trans (bn_c (fun a6 => ?_))
    refine (dq rfl rfl).trans ?_
    refine (dq rfl rfl).trans ?_
    refine (dq rfl rfl).trans ?_
    refine (dq rfl rfl).trans ?_
    refine (dq rfl rfl).trans ?_
    refine (dq rfl rfl).trans ?_
    refine (dq_iast rfl).trans (bn_c (fun h7 => ?_))
    refine (dq rfl rfl).trans ?_
    refine (dq_getR rfl).trans (bn_c (fun a8 => ?_))
    refine (dq rfl rfl).trans ?_
    refine (dq rfl rfl).trans ?_
    refine (dq rfl rfl).trans ?_
    refine (dq rfl rfl).trans ?_
    refine (dq rfl rfl).trans ?_
    refine (dq rfl rfl).trans ?_
    refine (dq_iast rfl).trans (bn_c (fun h9 => ?_))
    refine (dq rfl rfl).trans ?_
    refine (dq_getR rfl).trans (bn_c (fun a10 => ?_))
    refine (dq rfl rfl).trans ?_
    refine (dq rfl rfl).trans ?_
    refine (dq rfl rfl).trans ?_
    refine (dq rfl rfl).trans ?_
    refine (dq rfl rfl).trans ?_
    refine (dq rfl rfl).trans ?_
    refine (dq_iast rfl).trans (bn_c (fun h11 => ?_))
    refine (dq_iinc (v := 1) rfl rfl (by decide)).trans ?_
    refine (dq rfl rfl).trans ?_
    rfl
theorem q_108_55 (x0 : Nat) (x1 : Int32) (l2 : Option Value) (h : ia_H) : dn 108 55 [some (.ref x0), some (.int x1), l2] [] h = ((ia_gI h 8 x0 23).bind fun v1 => (if v1 = (-1) then (if ia_ok h 8 [.ref x0] = true then kxi (cl 100 [.ref x0] h) (fun r3 h2 => (if r3 = 59 then ((ia_gI h2 8 x0 22).bind fun v4 => ((ia_pF h2 8 x0 22 (.int (v4 + 1))).bind fun h5 => (if ia_ok h5 8 [.ref x0, .int x1] = true then kxi (cl 107 [.ref x0, .int x1] h5) (fun r7 h6 => dn 108 55 [some (.ref x0), some (.int r7), l2] [] h6) else none))) else dn 108 74 [some (.ref x0), some (.int x1), l2] [] h2)) else none) else dn 108 74 [some (.ref x0), some (.int x1), l2] [] h)) := by
  refine (dq rfl rfl).trans ?_
  refine (dq_getI rfl).trans (bn_c (fun v1 => ?_))
  refine (dq rfl rfl).trans ?_
  refine (dq_ine rfl).trans (ie_c ?_ ?_)
  · refine (dq rfl rfl).trans ?_
    refine (dq_kxi (z := 100) rfl (lq rfl) (lq rfl) (lq rfl) kd_100).trans (it_c (kxi_c (fun r3 h2 => ?_)))
    refine (dq rfl rfl).trans ?_
    refine (dq_ine rfl).trans (ie_c ?_ ?_)
    · refine (dq rfl rfl).trans ?_
      refine (dq rfl rfl).trans ?_
      refine (dq_getI rfl).trans (bn_c (fun v4 => ?_))
      refine (dq rfl rfl).trans ?_
      refine (dq rfl rfl).trans ?_
      refine (dq_putI rfl).trans (bn_c (fun h5 => ?_))
      refine (dq rfl rfl).trans ?_
      refine (dq rfl rfl).trans ?_
      refine (dq_kxi (z := 107) rfl (lq rfl) (lq rfl) (lq rfl) kd_107).trans (it_c (kxi_c (fun r7 h6 => ?_)))
      refine (dq rfl rfl).trans ?_
      refine (dq rfl rfl).trans ?_
      rfl
    · rfl
  · rfl
theorem q_108_74 (x0 : Nat) (x1 : Int32) (l2 : Option Value) (h : ia_H) : dn 108 74 [some (.ref x0), some (.int x1), l2] [] h = (if ia_ok h 8 [.ref x0] = true then kxv (cl 105 [.ref x0] h) (fun h1 => ((ia_gI h1 8 x0 23).bind fun v2 => (if v2 = (-1) then dn 108 87 [some (.ref x0), some (.int x1), some (.int 0)] [] h1 else ((ia_gI h1 8 x0 23).bind fun v3 => some (some (.int ((-21) - v3)), h1))))) else none) := by
  refine (dq rfl rfl).trans ?_
  refine (dq_kxv (z := 105) rfl (lq rfl) (lq rfl) (lq rfl) kd_105).trans (it_c (kxv_c (fun h1 => ?_)))
  refine (dq rfl rfl).trans ?_
  refine (dq_getI rfl).trans (bn_c (fun v2 => ?_))
  refine (dq rfl rfl).trans ?_
  refine (dq_ieq rfl).trans (ie_c ?_ ?_)
  · refine (dq rfl rfl).trans ?_
    refine (dq rfl rfl).trans ?_
    rfl
  · refine (dq rfl rfl).trans ?_
    refine (dq rfl rfl).trans ?_
    refine (dq_getI rfl).trans (bn_c (fun v3 => ?_))
    refine (dq rfl rfl).trans ?_
    exact dq_ret1 rfl
theorem q_108_87 (x0 : Nat) (x1 : Int32) (x2 : Int32) (h : ia_H) : dn 108 87 [some (.ref x0), some (.int x1), some (.int x2)] [] h = (if 16 ≤ x2 then kxi (cl 72 [.int x1] h) (fun r2 h1 => some (some (.int r2), h1)) else ((ia_gR h 8 x0 6).bind fun a3 => ((ia_gR h 8 x0 24).bind fun a4 => ((ia_ld h 0 a4 x2).bind fun v5 => ((ia_st h 0 a3 x2 v5).bind fun h6 => ((ia_gR h6 8 x0 7).bind fun a7 => ((ia_gR h6 8 x0 25).bind fun a8 => ((ia_ld h6 0 a8 x2).bind fun v9 => ((ia_st h6 0 a7 x2 v9).bind fun h10 => ((ia_gR h10 8 x0 8).bind fun a11 => ((ia_gR h10 8 x0 26).bind fun a12 => ((ia_ld h10 0 a12 x2).bind fun v13 => ((ia_st h10 0 a11 x2 v13).bind fun h14 => dn 108 87 [some (.ref x0), some (.int x1), some (.int (x2 + 1))] [] h14))))))))))))) := by
  refine (dq rfl rfl).trans ?_
  refine (dq rfl rfl).trans ?_
  refine (dq_ige rfl).trans (ie_c ?_ ?_)
  · refine (dq rfl rfl).trans ?_
    refine (dq_kxi0 (z := 72) rfl (lq rfl) (lq rfl) (lq rfl) kd_72).trans (kxi_c (fun r2 h1 => ?_))
    exact dq_ret1 rfl
  · refine (dq rfl rfl).trans ?_
    refine (dq_getR rfl).trans (bn_c (fun a3 => ?_))
    refine (dq rfl rfl).trans ?_
    refine (dq rfl rfl).trans ?_
    refine (dq_getR rfl).trans (bn_c (fun a4 => ?_))
    refine (dq rfl rfl).trans ?_
    refine (dq_iald rfl).trans (bn_c (fun v5 => ?_))
    refine (dq_iast rfl).trans (bn_c (fun h6 => ?_))
    refine (dq rfl rfl).trans ?_
    refine (dq_getR rfl).trans (bn_c (fun a7 => ?_))
    refine (dq rfl rfl).trans ?_
    refine (dq rfl rfl).trans ?_
    refine (dq_getR rfl).trans (bn_c (fun a8 => ?_))
    refine (dq rfl rfl).trans ?_
    refine (dq_iald rfl).trans (bn_c (fun v9 => ?_))
    refine (dq_iast rfl).trans (bn_c (fun h10 => ?_))
    refine (dq rfl rfl).trans ?_
    refine (dq_getR rfl).trans (bn_c (fun a11 => ?_))
    refine (dq rfl rfl).trans ?_
    refine (dq rfl rfl).trans ?_
    refine (dq_getR rfl).trans (bn_c (fun a12 => ?_))
    refine (dq rfl rfl).trans ?_
    refine (dq_iald rfl).trans (bn_c (fun v13 => ?_))
    refine (dq_iast rfl).trans (bn_c (fun h14 => ?_))
    refine (dq_iinc (v := 1) rfl rfl (by decide)).trans ?_
    refine (dq rfl rfl).trans ?_
    rfl
theorem q_109 (ab : Nat) (h : ia_H) : cl 109 [.ref ab] h = ((ia_pF h 8 ab 13 (.int 0)).bind fun h1 => (if ia_ok h1 8 [.ref ab] = true then kxv (cl 99 [.ref ab] h1) (fun h2 => dn 109 5 [some (.ref ab), none] [] h2) else none)) := by
  refine (dq rfl rfl).trans ?_
  refine (dq rfl rfl).trans ?_
  refine (dq_putI rfl).trans (bn_c (fun h1 => ?_))
  refine (dq rfl rfl).trans ?_
  refine (dq_kxv (z := 99) rfl (lq rfl) (lq rfl) (lq rfl) kd_99).trans (it_c (kxv_c (fun h2 => ?_)))
  rfl
theorem q_109_5 (x0 : Nat) (l1 : Option Value) (h : ia_H) : dn 109 5 [some (.ref x0), l1] [] h = ((ia_gI h 8 x0 23).bind fun v1 => (if v1 = (-1) then ((ia_gI h 8 x0 22).bind fun v2 => ((ia_gI h 8 x0 21).bind fun v3 => (if v3 ≤ v2 then dn 109 33 [some (.ref x0), l1] [] h else ((ia_gI h 8 x0 22).bind fun v4 => (if 12 ≤ v4 then ((ia_gI h 8 x0 22).bind fun v5 => (if ia_ok h 8 [.ref x0, .int v5] = true then kxv (cl 101 [.ref x0, .int v5] h) (fun h6 => dn 109 5 [some (.ref x0), some (.int (-1))] [] h6) else none)) else (if ia_ok h 8 [.ref x0, .int 0, .int 3] = true then kxi (cl 103 [.ref x0, .int 0, .int 3] h) (fun r8 h7 => (if r8 = (-1) then ((ia_gI h7 8 x0 22).bind fun v9 => (if ia_ok h7 8 [.ref x0, .int v9] = true then kxv (cl 101 [.ref x0, .int v9] h7) (fun h10 => dn 109 5 [some (.ref x0), some (.int r8)] [] h10) else none)) else dn 109 5 [some (.ref x0), some (.int r8)] [] h7)) else none)))))) else dn 109 33 [some (.ref x0), l1] [] h)) := by
  refine (dq rfl rfl).trans ?_
  refine (dq_getI rfl).trans (bn_c (fun v1 => ?_))
  refine (dq rfl rfl).trans ?_
  refine (dq_ine rfl).trans (ie_c ?_ ?_)
  · refine (dq rfl rfl).trans ?_
    refine (dq_getI rfl).trans (bn_c (fun v2 => ?_))
    refine (dq rfl rfl).trans ?_
    refine (dq_getI rfl).trans (bn_c (fun v3 => ?_))
    refine (dq_ige rfl).trans (ie_c ?_ ?_)
    · rfl
    · refine (dq rfl rfl).trans ?_
      refine (dq_getI rfl).trans (bn_c (fun v4 => ?_))
      refine (dq rfl rfl).trans ?_
      refine (dq_ige rfl).trans (ie_c ?_ ?_)
      · refine (dq rfl rfl).trans ?_
        refine (dq rfl rfl).trans ?_
        refine (dq rfl rfl).trans ?_
        refine (dq rfl rfl).trans ?_
        refine ((dq_ine rfl).trans (if_pos (by decide))).trans ?_
        refine (dq rfl rfl).trans ?_
        refine (dq rfl rfl).trans ?_
        refine (dq_getI rfl).trans (bn_c (fun v5 => ?_))
        refine (dq_kxv (z := 101) rfl (lq rfl) (lq rfl) (lq rfl) kd_101).trans (it_c (kxv_c (fun h6 => ?_)))
        refine (dq rfl rfl).trans ?_
        rfl
      · refine (dq rfl rfl).trans ?_
        refine (dq rfl rfl).trans ?_
        refine (dq rfl rfl).trans ?_
        refine (dq_kxi (z := 103) rfl (lq rfl) (lq rfl) (lq rfl) kd_103).trans (it_c (kxi_c (fun r8 h7 => ?_)))
        refine (dq rfl rfl).trans ?_
        refine (dq rfl rfl).trans ?_
        refine (dq rfl rfl).trans ?_
        refine (dq rfl rfl).trans ?_
        refine (dq_ine rfl).trans (ie_c ?_ ?_)
        · refine (dq rfl rfl).trans ?_
          refine (dq rfl rfl).trans ?_
          refine (dq_getI rfl).trans (bn_c (fun v9 => ?_))
          refine (dq_kxv (z := 101) rfl (lq rfl) (lq rfl) (lq rfl) kd_101).trans (it_c (kxv_c (fun h10 => ?_)))
          refine (dq rfl rfl).trans ?_
          rfl
        · refine (dq rfl rfl).trans ?_
          rfl
  · rfl
theorem q_109_33 (x0 : Nat) (l1 : Option Value) (h : ia_H) : dn 109 33 [some (.ref x0), l1] [] h = ((ia_gI h 8 x0 23).bind fun v1 => (if v1 = (-1) then dn 109 44 [some (.ref x0), some (.int 0)] [] h else ((ia_gI h 8 x0 23).bind fun v2 => some (some (.int ((-21) - v2)), h)))) := by
  refine (dq rfl rfl).trans ?_
  refine (dq_getI rfl).trans (bn_c (fun v1 => ?_))
  refine (dq rfl rfl).trans ?_
  refine (dq_ieq rfl).trans (ie_c ?_ ?_)
  · refine (dq rfl rfl).trans ?_
    refine (dq rfl rfl).trans ?_
    rfl
  · refine (dq rfl rfl).trans ?_
    refine (dq rfl rfl).trans ?_
    refine (dq_getI rfl).trans (bn_c (fun v2 => ?_))
    refine (dq rfl rfl).trans ?_
    exact dq_ret1 rfl
theorem q_109_44 (x0 : Nat) (x1 : Int32) (h : ia_H) : dn 109 44 [some (.ref x0), some (.int x1)] [] h = (if 1108 ≤ x1 then dn 109 56 [some (.ref x0), some (.int 0)] [] h else ((ia_gR h 8 x0 0).bind fun a1 => ((ia_st h 0 a1 x1 0).bind fun h2 => dn 109 44 [some (.ref x0), some (.int (x1 + 1))] [] h2))) := by
  refine (dq rfl rfl).trans ?_
  refine (dq rfl rfl).trans ?_
  refine (dq_ige rfl).trans (ie_c ?_ ?_)
  · refine (dq rfl rfl).trans ?_
    refine (dq rfl rfl).trans ?_
    rfl
  · refine (dq rfl rfl).trans ?_
    refine (dq_getR rfl).trans (bn_c (fun a1 => ?_))
    refine (dq rfl rfl).trans ?_
    refine (dq rfl rfl).trans ?_
    refine (dq_iast rfl).trans (bn_c (fun h2 => ?_))
    refine (dq_iinc (v := 1) rfl rfl (by decide)).trans ?_
    refine (dq rfl rfl).trans ?_
    rfl
theorem q_109_56 (x0 : Nat) (x1 : Int32) (h : ia_H) : dn 109 56 [some (.ref x0), some (.int x1)] [] h = ((ia_gI h 8 x0 21).bind fun v1 => (if v1 ≤ x1 then ((ia_gR h 8 x0 0).bind fun a2 => ((ia_gI h 8 x0 21).bind fun v3 => ((ia_st h 0 a2 1104 v3).bind fun h4 => ((ia_pF h4 8 x0 5 (.int 0)).bind fun h5 => ((ia_pF h5 8 x0 3 (.int 0)).bind fun h6 => ((ia_gI h6 8 x0 21).bind fun v7 => some (some (.int v7), h6))))))) else ((ia_gR h 8 x0 0).bind fun a8 => ((ia_gR h 8 x0 9).bind fun a9 => ((ia_ld h 3 a9 x1).bind fun v10 => ((ia_st h 0 a8 (0 + x1) (v10 - 48)).bind fun h11 => dn 109 56 [some (.ref x0), some (.int (x1 + 1))] [] h11)))))) := by
  refine (dq rfl rfl).trans ?_
  refine (dq rfl rfl).trans ?_
  refine (dq_getI rfl).trans (bn_c (fun v1 => ?_))
  refine (dq_ige rfl).trans (ie_c ?_ ?_)
  · refine (dq rfl rfl).trans ?_
    refine (dq_getR rfl).trans (bn_c (fun a2 => ?_))
    refine (dq rfl rfl).trans ?_
    refine (dq rfl rfl).trans ?_
    refine (dq_getI rfl).trans (bn_c (fun v3 => ?_))
    refine (dq_iast rfl).trans (bn_c (fun h4 => ?_))
    refine (dq rfl rfl).trans ?_
    refine (dq rfl rfl).trans ?_
    refine (dq_putI rfl).trans (bn_c (fun h5 => ?_))
    refine (dq rfl rfl).trans ?_
    refine (dq rfl rfl).trans ?_
    refine (dq_putZ0 rfl).trans (bn_c (fun h6 => ?_))
    refine (dq rfl rfl).trans ?_
    refine (dq_getI rfl).trans (bn_c (fun v7 => ?_))
    exact dq_ret1 rfl
  · refine (dq rfl rfl).trans ?_
    refine (dq_getR rfl).trans (bn_c (fun a8 => ?_))
    refine (dq rfl rfl).trans ?_
    refine (dq rfl rfl).trans ?_
    refine (dq rfl rfl).trans ?_
    refine (dq rfl rfl).trans ?_
    refine (dq_getR rfl).trans (bn_c (fun a9 => ?_))
    refine (dq rfl rfl).trans ?_
    refine (dq_ald rfl).trans (bn_c (fun v10 => ?_))
    refine (dq rfl rfl).trans ?_
    refine (dq rfl rfl).trans ?_
    refine (dq_iast rfl).trans (bn_c (fun h11 => ?_))
    refine (dq_iinc (v := 1) rfl rfl (by decide)).trans ?_
    refine (dq rfl rfl).trans ?_
    rfl
theorem q_110 (ab : Nat) (ac : Int32) (ad : Int32) (h : ia_H) : cl 110 [.ref ab, .int ac, .int ad] h = ((ia_pF h 8 ab 13 (.int 0)).bind fun h1 => kxi (cl 75 [.int ac] h1) (fun r3 h2 => (if r3 = 0 then some (some (.int (-1)), h2) else kxi (cl 69 [.long (ad.toInt64), .long 0, .long 11] h2) (fun r5 h4 => (if r5 = 0 then some (some (.int (-1)), h4) else (if ad ≤ 3 then dn 110 31 [some (.ref ab), some (.int ac), some (.int ad), none] [] h4 else ((ia_gR h4 8 ab 6).bind fun a6 => ((ia_ld h4 0 a6 ((4 * ac) + 3)).bind fun v7 => (if ((ad - 4) / 2) < v7 then dn 110 31 [some (.ref ab), some (.int ac), some (.int ad), none] [] h4 else some (some (.int (-1)), h4)))))))))) := by
  refine (dq rfl rfl).trans ?_
  refine (dq rfl rfl).trans ?_
  refine (dq_putI rfl).trans (bn_c (fun h1 => ?_))
  refine (dq rfl rfl).trans ?_
  refine (dq_kxi0 (z := 75) rfl (lq rfl) (lq rfl) (lq rfl) kd_75).trans (kxi_c (fun r3 h2 => ?_))
  refine (dq_ifeq rfl).trans (ie_c ?_ ?_)
  · refine (dq rfl rfl).trans ?_
    exact dq_ret1 rfl
  · refine (dq rfl rfl).trans ?_
    refine (dq rfl rfl).trans ?_
    refine (dq rfl rfl).trans ?_
    refine (dq rfl rfl).trans ?_
    refine (dq_kxi0 (z := 69) rfl (lq rfl) (lq rfl) (lq rfl) kd_69).trans (kxi_c (fun r5 h4 => ?_))
    refine (dq_ifeq rfl).trans (ie_c ?_ ?_)
    · refine (dq rfl rfl).trans ?_
      exact dq_ret1 rfl
    · refine (dq rfl rfl).trans ?_
      refine (dq rfl rfl).trans ?_
      refine (dq_ile rfl).trans (ie_c ?_ ?_)
      · rfl
      · refine (dq rfl rfl).trans ?_
        refine (dq rfl rfl).trans ?_
        refine (dq rfl rfl).trans ?_
        refine (dq rfl rfl).trans ?_
        refine (dq_i2zl rfl (by decide)).trans ?_
        refine (dq rfl rfl).trans ?_
        refine (dq_getR rfl).trans (bn_c (fun a6 => ?_))
        refine (dq rfl rfl).trans ?_
        refine (dq rfl rfl).trans ?_
        refine (dq rfl rfl).trans ?_
        refine (dq rfl rfl).trans ?_
        refine (dq rfl rfl).trans ?_
        refine (dq_iald rfl).trans (bn_c (fun v7 => ?_))
        refine (dq_ilt rfl).trans (ie_c ?_ ?_)
        · rfl
        · refine (dq rfl rfl).trans ?_
          exact dq_ret1 rfl
theorem q_110_31 (x0 : Nat) (x1 : Int32) (x2 : Int32) (l3 : Option Value) (h : ia_H) : dn 110 31 [some (.ref x0), some (.int x1), some (.int x2), l3] [] h = (if 4 ≤ x2 then (if (x2 - x2 / 2 * 2) = 0 then ((ia_gR h 8 x0 7).bind fun a3 => ((ia_ld h 0 a3 ((4 * x1) + ((x2 - 4) / 2))).bind fun v4 => some (some (.int v4), h))) else ((ia_gR h 8 x0 8).bind fun a1 => ((ia_ld h 0 a1 ((4 * x1) + ((x2 - 4) / 2))).bind fun v2 => some (some (.int v2), h)))) else ((ia_gR h 8 x0 6).bind fun a5 => ((ia_ld h 0 a5 ((4 * x1) + x2)).bind fun v6 => some (some (.int v6), h)))) := by
  refine (dq rfl rfl).trans ?_
  refine (dq rfl rfl).trans ?_
  refine (dq_ige rfl).trans (ie_c ?_ ?_)
  · refine (dq rfl rfl).trans ?_
    refine (dq rfl rfl).trans ?_
    refine (dq rfl rfl).trans ?_
    refine (dq rfl rfl).trans ?_
    refine (dq rfl rfl).trans ?_
    refine (dq rfl rfl).trans ?_
    refine (dq rfl rfl).trans ?_
    refine (dq_i2zl rfl (by decide)).trans ?_
    refine (dq rfl rfl).trans ?_
    refine (dq rfl rfl).trans ?_
    refine (dq rfl rfl).trans ?_
    refine (dq rfl rfl).trans ?_
    refine (dq_i2zl rfl (by decide)).trans ?_
    refine (dq_ifne rfl).trans (ie_c ?_ ?_)
    · refine (dq rfl rfl).trans ?_
      refine (dq_getR rfl).trans (bn_c (fun a3 => ?_))
      refine (dq rfl rfl).trans ?_
      refine (dq_iald rfl).trans (bn_c (fun v4 => ?_))
      refine (dq rfl rfl).trans ?_
      exact dq_ret1 rfl
    · refine (dq rfl rfl).trans ?_
      refine (dq_getR rfl).trans (bn_c (fun a1 => ?_))
      refine (dq rfl rfl).trans ?_
      refine (dq_iald rfl).trans (bn_c (fun v2 => ?_))
      exact dq_ret1 rfl
  · refine (dq rfl rfl).trans ?_
    refine (dq_getR rfl).trans (bn_c (fun a5 => ?_))
    refine (dq rfl rfl).trans ?_
    refine (dq rfl rfl).trans ?_
    refine (dq rfl rfl).trans ?_
    refine (dq rfl rfl).trans ?_
    refine (dq rfl rfl).trans ?_
    refine (dq_iald rfl).trans (bn_c (fun v6 => ?_))
    exact dq_ret1 rfl
theorem q_111 (ab : Nat) (ac : Int32) (h : ia_H) : cl 111 [.ref ab, .int ac] h = ((ia_pF h 8 ab 13 (.int 0)).bind fun h1 => (if ia_ok h1 8 [.ref ab, .int ac] = true then kxi (cl 77 [.ref ab, .int ac] h1) (fun r3 h2 => (if r3 = 0 then some (some (.int (-1)), h2) else dn 111 15 [some (.ref ab), some (.int ac), some (.int 0), some (.int 0), some (.int 0)] [] h2)) else none)) := by
  refine (dq rfl rfl).trans ?_
  refine (dq rfl rfl).trans ?_
  refine (dq_putI rfl).trans (bn_c (fun h1 => ?_))
  refine (dq rfl rfl).trans ?_
  refine (dq rfl rfl).trans ?_
  refine (dq_kxi (z := 77) rfl (lq rfl) (lq rfl) (lq rfl) kd_77).trans (it_c (kxi_c (fun r3 h2 => ?_)))
  refine (dq_ifne rfl).trans (ie_c ?_ ?_)
  · refine (dq rfl rfl).trans ?_
    exact dq_ret1 rfl
  · refine (dq rfl rfl).trans ?_
    refine (dq rfl rfl).trans ?_
    refine (dq rfl rfl).trans ?_
    refine (dq rfl rfl).trans ?_
    refine (dq rfl rfl).trans ?_
    refine (dq rfl rfl).trans ?_
    rfl
theorem q_111_15 (x0 : Nat) (x1 : Int32) (x2 : Int32) (x3 : Int32) (x4 : Int32) (h : ia_H) : dn 111 15 [some (.ref x0), some (.int x1), some (.int x2), some (.int x3), some (.int x4)] [] h = ((ia_gR h 8 x0 0).bind fun a1 => ((ia_ld h 0 a1 1105).bind fun v2 => (if v2 ≤ x4 then ((ia_pF h 8 x0 12 (.int 0)).bind fun h3 => (if ia_ok h3 8 [.ref x0, .long (x2.toInt64)] = true then kxv (cl 71 [.ref x0, .long (x2.toInt64)] h3) (fun h4 => (if ia_ok h4 8 [.ref x0, .long (x3.toInt64)] = true then kxv (cl 71 [.ref x0, .long (x3.toInt64)] h4) (fun h5 => ((ia_gR h5 8 x0 0).bind fun a6 => ((ia_ld h5 0 a6 (0 + x1)).bind fun v7 => some (some (.int v7), h5)))) else none)) else none)) else (if ia_ok h 8 [.ref x0, .int x4, .int 0] = true then kxi (cl 79 [.ref x0, .int x4, .int 0] h) (fun r9 h8 => (if r9 = x1 then (if ia_ok h8 8 [.ref x0, .int x4] = true then kxi (cl 87 [.ref x0, .int x4] h8) (fun r11 h10 => (if r11 = 0 then dn 111 15 [some (.ref x0), some (.int x1), some (.int (x2 + 0)), some (.int (x3 + 1)), some (.int (x4 + 1))] [] h10 else dn 111 15 [some (.ref x0), some (.int x1), some (.int (x2 + 1)), some (.int (x3 + 1)), some (.int (x4 + 1))] [] h10)) else none) else dn 111 15 [some (.ref x0), some (.int x1), some (.int x2), some (.int x3), some (.int (x4 + 1))] [] h8)) else none)))) := by
  refine (dq rfl rfl).trans ?_
  refine (dq rfl rfl).trans ?_
  refine (dq_getR rfl).trans (bn_c (fun a1 => ?_))
  refine (dq rfl rfl).trans ?_
  refine (dq_iald rfl).trans (bn_c (fun v2 => ?_))
  refine (dq_ige rfl).trans (ie_c ?_ ?_)
  · refine (dq rfl rfl).trans ?_
    refine (dq rfl rfl).trans ?_
    refine (dq_putI rfl).trans (bn_c (fun h3 => ?_))
    refine (dq rfl rfl).trans ?_
    refine (dq rfl rfl).trans ?_
    refine (dq rfl rfl).trans ?_
    refine (dq_kxv (z := 71) rfl (lq rfl) (lq rfl) (lq rfl) kd_71).trans (it_c (kxv_c (fun h4 => ?_)))
    refine (dq rfl rfl).trans ?_
    refine (dq rfl rfl).trans ?_
    refine (dq rfl rfl).trans ?_
    refine (dq_kxv (z := 71) rfl (lq rfl) (lq rfl) (lq rfl) kd_71).trans (it_c (kxv_c (fun h5 => ?_)))
    refine (dq rfl rfl).trans ?_
    refine (dq_getR rfl).trans (bn_c (fun a6 => ?_))
    refine (dq rfl rfl).trans ?_
    refine (dq rfl rfl).trans ?_
    refine (dq rfl rfl).trans ?_
    refine (dq_iald rfl).trans (bn_c (fun v7 => ?_))
    exact dq_ret1 rfl
  · refine (dq rfl rfl).trans ?_
    refine (dq rfl rfl).trans ?_
    refine (dq rfl rfl).trans ?_
    refine (dq_kxi (z := 79) rfl (lq rfl) (lq rfl) (lq rfl) kd_79).trans (it_c (kxi_c (fun r9 h8 => ?_)))
    refine (dq rfl rfl).trans ?_
    refine (dq_ieq rfl).trans (ie_c ?_ ?_)
    · refine (dq_iinc (v := 1) rfl rfl (by decide)).trans ?_
      refine (dq rfl rfl).trans ?_
      refine (dq rfl rfl).trans ?_
      refine (dq rfl rfl).trans ?_
      refine (dq_kxi (z := 87) rfl (lq rfl) (lq rfl) (lq rfl) kd_87).trans (it_c (kxi_c (fun r11 h10 => ?_)))
      refine (dq_ifeq rfl).trans (ie_c ?_ ?_)
      · refine (dq rfl rfl).trans ?_
        refine (dq rfl rfl).trans ?_
        refine (dq rfl rfl).trans ?_
        refine (dq_iinc (v := 1) rfl rfl (by decide)).trans ?_
        refine (dq rfl rfl).trans ?_
        rfl
      · refine (dq rfl rfl).trans ?_
        refine (dq rfl rfl).trans ?_
        refine (dq rfl rfl).trans ?_
        refine (dq rfl rfl).trans ?_
        refine (dq_iinc (v := 1) rfl rfl (by decide)).trans ?_
        refine (dq rfl rfl).trans ?_
        rfl
    · refine (dq rfl rfl).trans ?_
      refine (dq_iinc (v := 1) rfl rfl (by decide)).trans ?_
      refine (dq rfl rfl).trans ?_
      rfl
theorem q_112 (ab : Nat) (ac : Int32) (h : ia_H) : cl 112 [.ref ab, .int ac] h = ((ia_pF h 8 ab 13 (.int 0)).bind fun h1 => kxi (cl 76 [.int ac] h1) (fun r3 h2 => (if r3 = 0 then some (some (.int (-1)), h2) else dn 112 12 [some (.ref ab), some (.int ac), some (.int 0), some (.int 0)] [] h2))) := by
  refine (dq rfl rfl).trans ?_
  refine (dq rfl rfl).trans ?_
  refine (dq_putI rfl).trans (bn_c (fun h1 => ?_))
  refine (dq rfl rfl).trans ?_
  refine (dq_kxi0 (z := 76) rfl (lq rfl) (lq rfl) (lq rfl) kd_76).trans (kxi_c (fun r3 h2 => ?_))
  refine (dq_ifne rfl).trans (ie_c ?_ ?_)
  · refine (dq rfl rfl).trans ?_
    exact dq_ret1 rfl
  · refine (dq rfl rfl).trans ?_
    refine (dq rfl rfl).trans ?_
    refine (dq rfl rfl).trans ?_
    refine (dq rfl rfl).trans ?_
    rfl
theorem q_112_12 (x0 : Nat) (x1 : Int32) (x2 : Int32) (x3 : Int32) (h : ia_H) : dn 112 12 [some (.ref x0), some (.int x1), some (.int x2), some (.int x3)] [] h = ((ia_gR h 8 x0 0).bind fun a1 => ((ia_ld h 0 a1 1104).bind fun v2 => (if v2 ≤ x3 then ((ia_pF h 8 x0 12 (.int 0)).bind fun h3 => kxi (cl 72 [.int x2] h3) (fun r5 h4 => (if ia_ok h4 8 [.ref x0, .long (r5.toInt64)] = true then kxv (cl 71 [.ref x0, .long (r5.toInt64)] h4) (fun h6 => some (some (.int x2), h6)) else none))) else ((ia_gR h 8 x0 0).bind fun a7 => ((ia_ld h 0 a7 (0 + x3)).bind fun v8 => (if v8 = x1 then dn 112 12 [some (.ref x0), some (.int x1), some (.int (x2 ||| (1 <<< (x3 &&& 31)))), some (.int (x3 + 1))] [] h else dn 112 12 [some (.ref x0), some (.int x1), some (.int (x2 ||| 0)), some (.int (x3 + 1))] [] h)))))) := by
  refine (dq rfl rfl).trans ?_
  refine (dq rfl rfl).trans ?_
  refine (dq_getR rfl).trans (bn_c (fun a1 => ?_))
  refine (dq rfl rfl).trans ?_
  refine (dq_iald rfl).trans (bn_c (fun v2 => ?_))
  refine (dq_ige rfl).trans (ie_c ?_ ?_)
  · refine (dq rfl rfl).trans ?_
    refine (dq rfl rfl).trans ?_
    refine (dq_putI rfl).trans (bn_c (fun h3 => ?_))
    refine (dq rfl rfl).trans ?_
    refine (dq rfl rfl).trans ?_
    refine (dq_kxi0 (z := 72) rfl (lq rfl) (lq rfl) (lq rfl) kd_72).trans (kxi_c (fun r5 h4 => ?_))
    refine (dq rfl rfl).trans ?_
    refine (dq_kxv (z := 71) rfl (lq rfl) (lq rfl) (lq rfl) kd_71).trans (it_c (kxv_c (fun h6 => ?_)))
    refine (dq rfl rfl).trans ?_
    exact dq_ret1 rfl
  · refine (dq rfl rfl).trans ?_
    refine (dq rfl rfl).trans ?_
    refine (dq_getR rfl).trans (bn_c (fun a7 => ?_))
    refine (dq rfl rfl).trans ?_
    refine (dq rfl rfl).trans ?_
    refine (dq rfl rfl).trans ?_
    refine (dq_iald rfl).trans (bn_c (fun v8 => ?_))
    refine (dq rfl rfl).trans ?_
    refine (dq_ine rfl).trans (ie_c ?_ ?_)
    · refine (dq rfl rfl).trans ?_
      refine (dq rfl rfl).trans ?_
      refine (dq rfl rfl).trans ?_
      refine (dq rfl rfl).trans ?_
      refine (dq rfl rfl).trans ?_
      refine (dq rfl rfl).trans ?_
      refine (dq_iinc (v := 1) rfl rfl (by decide)).trans ?_
      refine (dq rfl rfl).trans ?_
      rfl
    · refine (dq rfl rfl).trans ?_
      refine (dq rfl rfl).trans ?_
      refine (dq rfl rfl).trans ?_
      refine (dq_iinc (v := 1) rfl rfl (by decide)).trans ?_
      refine (dq rfl rfl).trans ?_
      rfl
theorem q_113 (ab : Nat) (h : ia_H) : cl 113 [.ref ab] h = ((ia_pF h 8 ab 18 (.int 0)).bind fun h1 => ((ia_gI h1 8 ab 21).bind fun v2 => (if v2 = 0 then some (none, h1) else dn 113 9 [some (.ref ab), some (.int 1)] [] h1))) := by
  refine (dq rfl rfl).trans ?_
  refine (dq rfl rfl).trans ?_
  refine (dq_putI rfl).trans (bn_c (fun h1 => ?_))
  refine (dq rfl rfl).trans ?_
  refine (dq_getI rfl).trans (bn_c (fun v2 => ?_))
  refine (dq_ifne rfl).trans (ie_c ?_ ?_)
  · exact dq_ret0 rfl
  · refine (dq rfl rfl).trans ?_
    refine (dq rfl rfl).trans ?_
    rfl
theorem q_113_9 (x0 : Nat) (x1 : Int32) (h : ia_H) : dn 113 9 [some (.ref x0), some (.int x1)] [] h = (if x1 = 0 then (if ia_ok h 8 [.ref x0] = true then kxv (cl 105 [.ref x0] h) (fun h1 => some (none, h1)) else none) else ((ia_gI h 8 x0 23).bind fun v2 => (if v2 = (-1) then (if ia_ok h 8 [.ref x0] = true then kxi (cl 100 [.ref x0] h) (fun r5 h4 => (if r5 = 121 then dn 113 28 [some (.ref x0), some (.int x1)] [] h4 else (if ia_ok h4 8 [.ref x0] = true then kxi (cl 100 [.ref x0] h4) (fun r7 h6 => (if r7 = 114 then dn 113 28 [some (.ref x0), some (.int x1)] [] h6 else ((ia_gI h6 8 x0 22).bind fun v8 => (if ia_ok h6 8 [.ref x0, .int v8] = true then kxv (cl 101 [.ref x0, .int v8] h6) (fun h9 => some (none, h9)) else none)))) else none))) else none) else (if ia_ok h 8 [.ref x0] = true then kxv (cl 105 [.ref x0] h) (fun h3 => some (none, h3)) else none)))) := by
  refine (dq rfl rfl).trans ?_
  refine (dq_ifeq rfl).trans (ie_c ?_ ?_)
  · refine (dq rfl rfl).trans ?_
    refine (dq_kxv (z := 105) rfl (lq rfl) (lq rfl) (lq rfl) kd_105).trans (it_c (kxv_c (fun h1 => ?_)))
    exact dq_ret0 rfl
  · refine (dq rfl rfl).trans ?_
    refine (dq_getI rfl).trans (bn_c (fun v2 => ?_))
    refine (dq rfl rfl).trans ?_
    refine (dq_ine rfl).trans (ie_c ?_ ?_)
    · refine (dq rfl rfl).trans ?_
      refine (dq_kxi (z := 100) rfl (lq rfl) (lq rfl) (lq rfl) kd_100).trans (it_c (kxi_c (fun r5 h4 => ?_)))
      refine (dq rfl rfl).trans ?_
      refine (dq_ieq rfl).trans (ie_c ?_ ?_)
      · rfl
      · refine (dq rfl rfl).trans ?_
        refine (dq_kxi (z := 100) rfl (lq rfl) (lq rfl) (lq rfl) kd_100).trans (it_c (kxi_c (fun r7 h6 => ?_)))
        refine (dq rfl rfl).trans ?_
        refine (dq_ieq rfl).trans (ie_c ?_ ?_)
        · rfl
        · refine (dq rfl rfl).trans ?_
          refine (dq rfl rfl).trans ?_
          refine (dq_getI rfl).trans (bn_c (fun v8 => ?_))
          refine (dq_kxv (z := 101) rfl (lq rfl) (lq rfl) (lq rfl) kd_101).trans (it_c (kxv_c (fun h9 => ?_)))
          exact dq_ret0 rfl
    · refine (dq rfl rfl).trans ?_
      refine (dq_kxv (z := 105) rfl (lq rfl) (lq rfl) (lq rfl) kd_105).trans (it_c (kxv_c (fun h3 => ?_)))
      exact dq_ret0 rfl
theorem q_113_28 (x0 : Nat) (x1 : Int32) (h : ia_H) : dn 113 28 [some (.ref x0), some (.int x1)] [] h = ((ia_gR h 8 x0 16).bind fun a1 => ((ia_gI h 8 x0 18).bind fun v2 => (if ia_ok h 8 [.ref x0] = true then kxi (cl 100 [.ref x0] h) (fun r4 h3 => (if r4 = 114 then dn 113 39 [some (.ref x0), some (.int x1)] [.int 1, .int v2, .ref a1] h3 else dn 113 39 [some (.ref x0), some (.int x1)] [.int 0, .int v2, .ref a1] h3)) else none))) := by
  refine (dq rfl rfl).trans ?_
  refine (dq_getR rfl).trans (bn_c (fun a1 => ?_))
  refine (dq rfl rfl).trans ?_
  refine (dq_getI rfl).trans (bn_c (fun v2 => ?_))
  refine (dq rfl rfl).trans ?_
  refine (dq_kxi (z := 100) rfl (lq rfl) (lq rfl) (lq rfl) kd_100).trans (it_c (kxi_c (fun r4 h3 => ?_)))
  refine (dq rfl rfl).trans ?_
  refine (dq_ine rfl).trans (ie_c ?_ ?_)
  · refine (dq rfl rfl).trans ?_
    refine (dq rfl rfl).trans ?_
    rfl
  · refine (dq rfl rfl).trans ?_
    rfl
theorem q_113_39 (x0 : Nat) (x1 : Int32) (s0 : Nat) (s1 : Int32) (s2 : Int32) (h : ia_H) : dn 113 39 [some (.ref x0), some (.int x1)] [.int s2, .int s1, .ref s0] h = ((ia_st h 0 s0 s1 s2).bind fun h1 => ((ia_gI h1 8 x0 22).bind fun v2 => ((ia_pF h1 8 x0 22 (.int (v2 + 1))).bind fun h3 => ((ia_gR h3 8 x0 17).bind fun a4 => ((ia_gI h3 8 x0 18).bind fun v5 => ((ia_gR h3 8 x0 0).bind fun a6 => ((ia_ld h3 0 a6 1104).bind fun v7 => (if ia_ok h3 8 [.ref x0, .int 0, .int (v7 - 1)] = true then kxi (cl 104 [.ref x0, .int 0, .int (v7 - 1)] h3) (fun r9 h8 => ((ia_st h8 0 a4 v5 r9).bind fun h10 => ((ia_gI h10 8 x0 18).bind fun v11 => ((ia_pF h10 8 x0 18 (.int (v11 + 1))).bind fun h12 => ((ia_gI h12 8 x0 23).bind fun v13 => (if v13 = (-1) then (if ia_ok h12 8 [.ref x0] = true then kxi (cl 100 [.ref x0] h12) (fun r15 h14 => (if r15 = 44 then ((ia_gI h14 8 x0 22).bind fun v16 => ((ia_pF h14 8 x0 22 (.int (v16 + 1))).bind fun h17 => dn 113 9 [some (.ref x0), some (.int 1)] [] h17)) else dn 113 76 [some (.ref x0), some (.int x1)] [] h14)) else none) else dn 113 76 [some (.ref x0), some (.int x1)] [] h12)))))) else none)))))))) := by
  refine (dq_iast rfl).trans (bn_c (fun h1 => ?_))
  refine (dq rfl rfl).trans ?_
  refine (dq rfl rfl).trans ?_
  refine (dq_getI rfl).trans (bn_c (fun v2 => ?_))
  refine (dq rfl rfl).trans ?_
  refine (dq rfl rfl).trans ?_
  refine (dq_putI rfl).trans (bn_c (fun h3 => ?_))
  refine (dq rfl rfl).trans ?_
  refine (dq_getR rfl).trans (bn_c (fun a4 => ?_))
  refine (dq rfl rfl).trans ?_
  refine (dq_getI rfl).trans (bn_c (fun v5 => ?_))
  refine (dq rfl rfl).trans ?_
  refine (dq rfl rfl).trans ?_
  refine (dq rfl rfl).trans ?_
  refine (dq_getR rfl).trans (bn_c (fun a6 => ?_))
  refine (dq rfl rfl).trans ?_
  refine (dq_iald rfl).trans (bn_c (fun v7 => ?_))
  refine (dq rfl rfl).trans ?_
  refine (dq rfl rfl).trans ?_
  refine (dq_kxi (z := 104) rfl (lq rfl) (lq rfl) (lq rfl) kd_104).trans (it_c (kxi_c (fun r9 h8 => ?_)))
  refine (dq_iast rfl).trans (bn_c (fun h10 => ?_))
  refine (dq rfl rfl).trans ?_
  refine (dq rfl rfl).trans ?_
  refine (dq_getI rfl).trans (bn_c (fun v11 => ?_))
  refine (dq rfl rfl).trans ?_
  refine (dq rfl rfl).trans ?_
  refine (dq_putI rfl).trans (bn_c (fun h12 => ?_))
  refine (dq rfl rfl).trans ?_
  refine (dq_getI rfl).trans (bn_c (fun v13 => ?_))
  refine (dq rfl rfl).trans ?_
  refine (dq_ine rfl).trans (ie_c ?_ ?_)
  · refine (dq rfl rfl).trans ?_
    refine (dq_kxi (z := 100) rfl (lq rfl) (lq rfl) (lq rfl) kd_100).trans (it_c (kxi_c (fun r15 h14 => ?_)))
    refine (dq rfl rfl).trans ?_
    refine (dq_ine rfl).trans (ie_c ?_ ?_)
    · refine (dq rfl rfl).trans ?_
      refine (dq rfl rfl).trans ?_
      refine (dq rfl rfl).trans ?_
      refine (dq rfl rfl).trans ?_
      refine ((dq_ifeq rfl).trans (if_neg (by decide))).trans ?_
      refine (dq rfl rfl).trans ?_
      refine (dq rfl rfl).trans ?_
      refine (dq_getI rfl).trans (bn_c (fun v16 => ?_))
      refine (dq rfl rfl).trans ?_
      refine (dq rfl rfl).trans ?_
      refine (dq_putI rfl).trans (bn_c (fun h17 => ?_))
      refine (dq rfl rfl).trans ?_
      rfl
    · rfl
  · rfl
theorem q_113_76 (x0 : Nat) (x1 : Int32) (h : ia_H) : dn 113 76 [some (.ref x0), some (.int x1)] [] h = dn 113 9 [some (.ref x0), some (.int 0)] [] h := by
  refine (dq rfl rfl).trans ?_
  refine (dq rfl rfl).trans ?_
  refine (dq rfl rfl).trans ?_
  refine ((dq_ifeq rfl).trans (if_pos (by decide))).trans ?_
  rfl
theorem q_114 (ab : Nat) (ac : Int32) (ad : Int32) (ae : Int32) (h : ia_H) : cl 114 [.ref ab, .int ac, .int ad, .int ae] h = ((ia_pF h 8 ab 13 (.int 0)).bind fun h1 => (if ia_ok h1 8 [.ref ab] = true then kxv (cl 99 [.ref ab] h1) (fun h2 => (if ia_ok h2 8 [.ref ab] = true then kxv (cl 113 [.ref ab] h2) (fun h3 => ((ia_gI h3 8 ab 23).bind fun v4 => (if v4 = (-1) then kxi (cl 75 [.int ac] h3) (fun r6 h5 => (if r6 = 0 then some (some (.int (-1)), h5) else kxi (cl 76 [.int ad] h5) (fun r8 h7 => (if r8 = 0 then some (some (.int (-1)), h7) else kxi (cl 76 [.int ae] h7) (fun r10 h9 => (if r10 = 0 then some (some (.int (-1)), h9) else (if ad = ae then some (some (.int (-1)), h9) else (if ia_ok h9 8 [.ref ab] = true then kxv (cl 81 [.ref ab] h9) (fun h11 => ((ia_gR h11 8 ab 0).bind fun a12 => ((ia_ld h11 0 a12 1106).bind fun v13 => ((ia_st h11 0 a12 1106 (v13 + 1)).bind fun h14 => ((ia_gR h14 8 ab 0).bind fun a15 => ((ia_ld h14 0 a15 1105).bind fun v16 => (if ia_ok h14 8 [.ref ab, .int ac, .int ad, .int ae] = true then kxv (cl 93 [.ref ab, .int ac, .int ad, .int ae] h14) (fun h17 => ((ia_pF h17 8 ab 19 (.int 0)).bind fun h18 => ((ia_pF h18 8 ab 20 (.int 0)).bind fun h19 => dn 114 60 [some (.ref ab), some (.int ac), some (.int ad), some (.int ae), some (.int v16), some (.int 0), some (.int 0)] [] h19))) else none))))))) else none)))))))) else ((ia_gI h3 8 ab 23).bind fun v20 => some (some (.int ((-21) - v20)), h3))))) else none)) else none)) := by
  refine (dq rfl rfl).trans ?_
  refine (dq rfl rfl).trans ?_
  refine (dq_putI rfl).trans (bn_c (fun h1 => ?_))
  refine (dq rfl rfl).trans ?_
  refine (dq_kxv (z := 99) rfl (lq rfl) (lq rfl) (lq rfl) kd_99).trans (it_c (kxv_c (fun h2 => ?_)))
  refine (dq rfl rfl).trans ?_
  refine (dq_kxv (z := 113) rfl (lq rfl) (lq rfl) (lq rfl) kd_113).trans (it_c (kxv_c (fun h3 => ?_)))
  refine (dq rfl rfl).trans ?_
  refine (dq_getI rfl).trans (bn_c (fun v4 => ?_))
  refine (dq rfl rfl).trans ?_
  refine (dq_ieq rfl).trans (ie_c ?_ ?_)
  · refine (dq rfl rfl).trans ?_
    refine (dq_kxi0 (z := 75) rfl (lq rfl) (lq rfl) (lq rfl) kd_75).trans (kxi_c (fun r6 h5 => ?_))
    refine (dq_ifeq rfl).trans (ie_c ?_ ?_)
    · refine (dq rfl rfl).trans ?_
      exact dq_ret1 rfl
    · refine (dq rfl rfl).trans ?_
      refine (dq_kxi0 (z := 76) rfl (lq rfl) (lq rfl) (lq rfl) kd_76).trans (kxi_c (fun r8 h7 => ?_))
      refine (dq_ifeq rfl).trans (ie_c ?_ ?_)
      · refine (dq rfl rfl).trans ?_
        exact dq_ret1 rfl
      · refine (dq rfl rfl).trans ?_
        refine (dq_kxi0 (z := 76) rfl (lq rfl) (lq rfl) (lq rfl) kd_76).trans (kxi_c (fun r10 h9 => ?_))
        refine (dq_ifeq rfl).trans (ie_c ?_ ?_)
        · refine (dq rfl rfl).trans ?_
          exact dq_ret1 rfl
        · refine (dq rfl rfl).trans ?_
          refine (dq rfl rfl).trans ?_
          refine (dq_ine rfl).trans (ie_c ?_ ?_)
          · refine (dq rfl rfl).trans ?_
            exact dq_ret1 rfl
          · refine (dq rfl rfl).trans ?_
            refine (dq_kxv (z := 81) rfl (lq rfl) (lq rfl) (lq rfl) kd_81).trans (it_c (kxv_c (fun h11 => ?_)))
            refine (dq rfl rfl).trans ?_
            refine (dq_getR rfl).trans (bn_c (fun a12 => ?_))
            refine (dq rfl rfl).trans ?_
            refine (dq rfl rfl).trans ?_
            refine (dq_iald rfl).trans (bn_c (fun v13 => ?_))
            refine (dq rfl rfl).trans ?_
            refine (dq rfl rfl).trans ?_
            refine (dq_iast rfl).trans (bn_c (fun h14 => ?_))
            refine (dq rfl rfl).trans ?_
            refine (dq_getR rfl).trans (bn_c (fun a15 => ?_))
            refine (dq rfl rfl).trans ?_
            refine (dq_iald rfl).trans (bn_c (fun v16 => ?_))
            refine (dq rfl rfl).trans ?_
            refine (dq rfl rfl).trans ?_
            refine (dq rfl rfl).trans ?_
            refine (dq rfl rfl).trans ?_
            refine (dq rfl rfl).trans ?_
            refine (dq_kxv (z := 93) rfl (lq rfl) (lq rfl) (lq rfl) kd_93).trans (it_c (kxv_c (fun h17 => ?_)))
            refine (dq rfl rfl).trans ?_
            refine (dq rfl rfl).trans ?_
            refine (dq_putI rfl).trans (bn_c (fun h18 => ?_))
            refine (dq rfl rfl).trans ?_
            refine (dq rfl rfl).trans ?_
            refine (dq_putI rfl).trans (bn_c (fun h19 => ?_))
            refine (dq rfl rfl).trans ?_
            refine (dq rfl rfl).trans ?_
            refine (dq rfl rfl).trans ?_
            refine (dq rfl rfl).trans ?_
            rfl
  · refine (dq rfl rfl).trans ?_
    refine (dq rfl rfl).trans ?_
    refine (dq_getI rfl).trans (bn_c (fun v20 => ?_))
    refine (dq rfl rfl).trans ?_
    exact dq_ret1 rfl
theorem q_114_60 (x0 : Nat) (x1 : Int32) (x2 : Int32) (x3 : Int32) (x4 : Int32) (x5 : Int32) (x6 : Int32) (h : ia_H) : dn 114 60 [some (.ref x0), some (.int x1), some (.int x2), some (.int x3), some (.int x4), some (.int x5), some (.int x6)] [] h = ((ia_gI h 8 x0 18).bind fun v1 => (if v1 ≤ x6 then dn 114 75 [some (.ref x0), some (.int x1), some (.int x2), some (.int x3), some (.int x4), some (.int x5), some (.int x6)] [] h else (if x5 = 0 then (if ia_ok h 8 [.ref x0, .int x6, .int x1, .int x2, .int x3] = true then kxi (cl 98 [.ref x0, .int x6, .int x1, .int x2, .int x3] h) (fun r3 h2 => dn 114 60 [some (.ref x0), some (.int x1), some (.int x2), some (.int x3), some (.int x4), some (.int r3), some (.int (x6 + 1))] [] h2) else none) else dn 114 75 [some (.ref x0), some (.int x1), some (.int x2), some (.int x3), some (.int x4), some (.int x5), some (.int x6)] [] h))) := by
  refine (dq rfl rfl).trans ?_
  refine (dq rfl rfl).trans ?_
  refine (dq_getI rfl).trans (bn_c (fun v1 => ?_))
  refine (dq_ige rfl).trans (ie_c ?_ ?_)
  · rfl
  · refine (dq rfl rfl).trans ?_
    refine (dq_ifne rfl).trans (ie_c ?_ ?_)
    · refine (dq rfl rfl).trans ?_
      refine (dq rfl rfl).trans ?_
      refine (dq rfl rfl).trans ?_
      refine (dq rfl rfl).trans ?_
      refine (dq rfl rfl).trans ?_
      refine (dq_kxi (z := 98) rfl (lq rfl) (lq rfl) (lq rfl) kd_98).trans (it_c (kxi_c (fun r3 h2 => ?_)))
      refine (dq rfl rfl).trans ?_
      refine (dq_iinc (v := 1) rfl rfl (by decide)).trans ?_
      refine (dq rfl rfl).trans ?_
      rfl
    · rfl
theorem q_114_75 (x0 : Nat) (x1 : Int32) (x2 : Int32) (x3 : Int32) (x4 : Int32) (x5 : Int32) (x6 : Int32) (h : ia_H) : dn 114 75 [some (.ref x0), some (.int x1), some (.int x2), some (.int x3), some (.int x4), some (.int x5), some (.int x6)] [] h = (if 0 ≤ x5 then (if ia_ok h 8 [.ref x0, .int x2, .int x1] = true then kxv (cl 94 [.ref x0, .int x2, .int x1] h) (fun h1 => (if ia_ok h1 8 [.ref x0, .int x3, .int x1] = true then kxv (cl 94 [.ref x0, .int x3, .int x1] h1) (fun h2 => (if ia_ok h2 8 [.ref x0] = true then kxv (cl 83 [.ref x0] h2) (fun h3 => ((ia_pF h3 8 x0 12 (.int 0)).bind fun h4 => ((ia_gR h4 8 x0 0).bind fun a5 => ((ia_ld h4 0 a5 1106).bind fun v6 => (if ia_ok h4 8 [.ref x0, .long (v6.toInt64)] = true then kxv (cl 71 [.ref x0, .long (v6.toInt64)] h4) (fun h7 => ((ia_gI h7 8 x0 14).bind fun v8 => (if ia_ok h7 8 [.ref x0, .long (v8.toInt64)] = true then kxv (cl 71 [.ref x0, .long (v8.toInt64)] h7) (fun h9 => ((ia_gI h9 8 x0 15).bind fun v10 => (if ia_ok h9 8 [.ref x0, .long (v10.toInt64)] = true then kxv (cl 71 [.ref x0, .long (v10.toInt64)] h9) (fun h11 => ((ia_gR h11 8 x0 0).bind fun a12 => ((ia_ld h11 0 a12 1105).bind fun v13 => some (some (.int (v13 - x4)), h11)))) else none))) else none))) else none))))) else none)) else none)) else none) else (if ia_ok h 8 [.ref x0] = true then kxv (cl 82 [.ref x0] h) (fun h14 => some (some (.int x5), h14)) else none)) := by
  refine (dq rfl rfl).trans ?_
  refine (dq_ifge rfl).trans (ie_c ?_ ?_)
  · refine (dq rfl rfl).trans ?_
    refine (dq rfl rfl).trans ?_
    refine (dq rfl rfl).trans ?_
    refine (dq_kxv (z := 94) rfl (lq rfl) (lq rfl) (lq rfl) kd_94).trans (it_c (kxv_c (fun h1 => ?_)))
    refine (dq rfl rfl).trans ?_
    refine (dq rfl rfl).trans ?_
    refine (dq rfl rfl).trans ?_
    refine (dq_kxv (z := 94) rfl (lq rfl) (lq rfl) (lq rfl) kd_94).trans (it_c (kxv_c (fun h2 => ?_)))
    refine (dq rfl rfl).trans ?_
    refine (dq_kxv (z := 83) rfl (lq rfl) (lq rfl) (lq rfl) kd_83).trans (it_c (kxv_c (fun h3 => ?_)))
    refine (dq rfl rfl).trans ?_
    refine (dq rfl rfl).trans ?_
    refine (dq_putI rfl).trans (bn_c (fun h4 => ?_))
    refine (dq rfl rfl).trans ?_
    refine (dq rfl rfl).trans ?_
    refine (dq_getR rfl).trans (bn_c (fun a5 => ?_))
    refine (dq rfl rfl).trans ?_
    refine (dq_iald rfl).trans (bn_c (fun v6 => ?_))
    refine (dq rfl rfl).trans ?_
    refine (dq_kxv (z := 71) rfl (lq rfl) (lq rfl) (lq rfl) kd_71).trans (it_c (kxv_c (fun h7 => ?_)))
    refine (dq rfl rfl).trans ?_
    refine (dq rfl rfl).trans ?_
    refine (dq_getI rfl).trans (bn_c (fun v8 => ?_))
    refine (dq rfl rfl).trans ?_
    refine (dq_kxv (z := 71) rfl (lq rfl) (lq rfl) (lq rfl) kd_71).trans (it_c (kxv_c (fun h9 => ?_)))
    refine (dq rfl rfl).trans ?_
    refine (dq rfl rfl).trans ?_
    refine (dq_getI rfl).trans (bn_c (fun v10 => ?_))
    refine (dq rfl rfl).trans ?_
    refine (dq_kxv (z := 71) rfl (lq rfl) (lq rfl) (lq rfl) kd_71).trans (it_c (kxv_c (fun h11 => ?_)))
    refine (dq rfl rfl).trans ?_
    refine (dq_getR rfl).trans (bn_c (fun a12 => ?_))
    refine (dq rfl rfl).trans ?_
    refine (dq_iald rfl).trans (bn_c (fun v13 => ?_))
    refine (dq rfl rfl).trans ?_
    refine (dq rfl rfl).trans ?_
    exact dq_ret1 rfl
  · refine (dq rfl rfl).trans ?_
    refine (dq_kxv (z := 82) rfl (lq rfl) (lq rfl) (lq rfl) kd_82).trans (it_c (kxv_c (fun h14 => ?_)))
    refine (dq rfl rfl).trans ?_
    exact dq_ret1 rfl
theorem q_115 (ab : Nat) (ac : Int32) (ad : Int32) (h : ia_H) : cl 115 [.ref ab, .int ac, .int ad] h = ((ia_pF h 8 ab 13 (.int 0)).bind fun h1 => (if ia_ok h1 8 [.ref ab, .int ac] = true then kxi (cl 77 [.ref ab, .int ac] h1) (fun r3 h2 => (if r3 = 0 then some (some (.int (-1)), h2) else kxi (cl 76 [.int ad] h2) (fun r5 h4 => (if r5 = 0 then some (some (.int (-1)), h4) else ((ia_gR h4 8 ab 0).bind fun a6 => ((ia_ld h4 0 a6 (0 + ac)).bind fun v7 => (if v7 = ad then some (some (.int (-2)), h4) else (if ia_ok h4 8 [.ref ab] = true then kxv (cl 84 [.ref ab] h4) (fun h8 => ((ia_gR h8 8 ab 0).bind fun a9 => ((ia_st h8 0 a9 (0 + ac) ad).bind fun h10 => some (some (.int v7), h10)))) else none)))))))) else none)) := by
  refine (dq rfl rfl).trans ?_
  refine (dq rfl rfl).trans ?_
  refine (dq_putI rfl).trans (bn_c (fun h1 => ?_))
  refine (dq rfl rfl).trans ?_
  refine (dq rfl rfl).trans ?_
  refine (dq_kxi (z := 77) rfl (lq rfl) (lq rfl) (lq rfl) kd_77).trans (it_c (kxi_c (fun r3 h2 => ?_)))
  refine (dq_ifeq rfl).trans (ie_c ?_ ?_)
  · refine (dq rfl rfl).trans ?_
    exact dq_ret1 rfl
  · refine (dq rfl rfl).trans ?_
    refine (dq_kxi0 (z := 76) rfl (lq rfl) (lq rfl) (lq rfl) kd_76).trans (kxi_c (fun r5 h4 => ?_))
    refine (dq_ifne rfl).trans (ie_c ?_ ?_)
    · refine (dq rfl rfl).trans ?_
      exact dq_ret1 rfl
    · refine (dq rfl rfl).trans ?_
      refine (dq_getR rfl).trans (bn_c (fun a6 => ?_))
      refine (dq rfl rfl).trans ?_
      refine (dq rfl rfl).trans ?_
      refine (dq rfl rfl).trans ?_
      refine (dq_iald rfl).trans (bn_c (fun v7 => ?_))
      refine (dq rfl rfl).trans ?_
      refine (dq rfl rfl).trans ?_
      refine (dq rfl rfl).trans ?_
      refine (dq_ine rfl).trans (ie_c ?_ ?_)
      · refine (dq rfl rfl).trans ?_
        exact dq_ret1 rfl
      · refine (dq rfl rfl).trans ?_
        refine (dq_kxv (z := 84) rfl (lq rfl) (lq rfl) (lq rfl) kd_84).trans (it_c (kxv_c (fun h8 => ?_)))
        refine (dq rfl rfl).trans ?_
        refine (dq_getR rfl).trans (bn_c (fun a9 => ?_))
        refine (dq rfl rfl).trans ?_
        refine (dq rfl rfl).trans ?_
        refine (dq rfl rfl).trans ?_
        refine (dq rfl rfl).trans ?_
        refine (dq_iast rfl).trans (bn_c (fun h10 => ?_))
        refine (dq rfl rfl).trans ?_
        exact dq_ret1 rfl
theorem q_116 (ab : Nat) (ac : Int32) (ad : Int32) (h : ia_H) : cl 116 [.ref ab, .int ac, .int ad] h = ((ia_pF h 8 ab 13 (.int 0)).bind fun h1 => (if ia_ok h1 8 [.ref ab, .int ac] = true then kxi (cl 77 [.ref ab, .int ac] h1) (fun r3 h2 => (if r3 = 0 then some (some (.int (-1)), h2) else (if ia_ok h2 8 [.ref ab, .int ad] = true then kxi (cl 77 [.ref ab, .int ad] h2) (fun r5 h4 => (if r5 = 0 then some (some (.int (-1)), h4) else ((ia_gR h4 8 ab 0).bind fun a6 => ((ia_ld h4 0 a6 (0 + ac)).bind fun v7 => ((ia_gR h4 8 ab 0).bind fun a8 => ((ia_ld h4 0 a8 (0 + ad)).bind fun v9 => (if v7 = v9 then some (some (.int (-2)), h4) else (if ia_ok h4 8 [.ref ab] = true then kxv (cl 84 [.ref ab] h4) (fun h10 => ((ia_gR h10 8 ab 0).bind fun a11 => ((ia_st h10 0 a11 (0 + ac) v9).bind fun h12 => ((ia_gR h12 8 ab 0).bind fun a13 => ((ia_st h12 0 a13 (0 + ad) v7).bind fun h14 => some (some (.int v9), h14)))))) else none)))))))) else none))) else none)) := by
  refine (dq rfl rfl).trans ?_
  refine (dq rfl rfl).trans ?_
  refine (dq_putI rfl).trans (bn_c (fun h1 => ?_))
  refine (dq rfl rfl).trans ?_
  refine (dq rfl rfl).trans ?_
  refine (dq_kxi (z := 77) rfl (lq rfl) (lq rfl) (lq rfl) kd_77).trans (it_c (kxi_c (fun r3 h2 => ?_)))
  refine (dq_ifeq rfl).trans (ie_c ?_ ?_)
  · refine (dq rfl rfl).trans ?_
    exact dq_ret1 rfl
  · refine (dq rfl rfl).trans ?_
    refine (dq rfl rfl).trans ?_
    refine (dq_kxi (z := 77) rfl (lq rfl) (lq rfl) (lq rfl) kd_77).trans (it_c (kxi_c (fun r5 h4 => ?_)))
    refine (dq_ifne rfl).trans (ie_c ?_ ?_)
    · refine (dq rfl rfl).trans ?_
      exact dq_ret1 rfl
    · refine (dq rfl rfl).trans ?_
      refine (dq_getR rfl).trans (bn_c (fun a6 => ?_))
      refine (dq rfl rfl).trans ?_
      refine (dq rfl rfl).trans ?_
      refine (dq rfl rfl).trans ?_
      refine (dq_iald rfl).trans (bn_c (fun v7 => ?_))
      refine (dq rfl rfl).trans ?_
      refine (dq rfl rfl).trans ?_
      refine (dq_getR rfl).trans (bn_c (fun a8 => ?_))
      refine (dq rfl rfl).trans ?_
      refine (dq rfl rfl).trans ?_
      refine (dq rfl rfl).trans ?_
      refine (dq_iald rfl).trans (bn_c (fun v9 => ?_))
      refine (dq rfl rfl).trans ?_
      refine (dq rfl rfl).trans ?_
      refine (dq rfl rfl).trans ?_
      refine (dq_ine rfl).trans (ie_c ?_ ?_)
      · refine (dq rfl rfl).trans ?_
        exact dq_ret1 rfl
      · refine (dq rfl rfl).trans ?_
        refine (dq_kxv (z := 84) rfl (lq rfl) (lq rfl) (lq rfl) kd_84).trans (it_c (kxv_c (fun h10 => ?_)))
        refine (dq rfl rfl).trans ?_
        refine (dq_getR rfl).trans (bn_c (fun a11 => ?_))
        refine (dq rfl rfl).trans ?_
        refine (dq rfl rfl).trans ?_
        refine (dq rfl rfl).trans ?_
        refine (dq rfl rfl).trans ?_
        refine (dq_iast rfl).trans (bn_c (fun h12 => ?_))
        refine (dq rfl rfl).trans ?_
        refine (dq_getR rfl).trans (bn_c (fun a13 => ?_))
        refine (dq rfl rfl).trans ?_
        refine (dq rfl rfl).trans ?_
        refine (dq rfl rfl).trans ?_
        refine (dq rfl rfl).trans ?_
        refine (dq_iast rfl).trans (bn_c (fun h14 => ?_))
        refine (dq rfl rfl).trans ?_
        exact dq_ret1 rfl
theorem q_117 (ab : Nat) (ac : Int32) (ad : Int32) (ae : Int32) (h : ia_H) : cl 117 [.ref ab, .int ac, .int ad, .int ae] h = ((ia_pF h 8 ab 13 (.int 0)).bind fun h1 => (if ia_ok h1 8 [.ref ab, .int ac] = true then kxi (cl 77 [.ref ab, .int ac] h1) (fun r3 h2 => (if r3 = 0 then some (some (.int (-1)), h2) else kxi (cl 75 [.int ad] h2) (fun r5 h4 => (if r5 = 0 then some (some (.int (-1)), h4) else kxi (cl 69 [.long (ae.toInt64), .long 1, .long 9] h4) (fun r7 h6 => (if r7 = 0 then some (some (.int (-1)), h6) else ((ia_gR h6 8 ab 0).bind fun a8 => ((ia_ld h6 0 a8 1105).bind fun v9 => (if v9 = 100 then some (some (.int (-4)), h6) else (if ia_ok h6 8 [.ref ab] = true then kxv (cl 84 [.ref ab] h6) (fun h10 => (if ia_ok h10 8 [.ref ab, .int ac, .int ad, .int ae] = true then kxi (cl 86 [.ref ab, .int ac, .int ad, .int ae] h10) (fun r12 h11 => (if r12 = 0 then some (some (.int (-4)), h11) else ((ia_gR h11 8 ab 0).bind fun a13 => ((ia_ld h11 0 a13 1105).bind fun v14 => some (some (.int (v14 - 1)), h11))))) else none)) else none)))))))))) else none)) := by
  refine (dq rfl rfl).trans ?_
  refine (dq rfl rfl).trans ?_
  refine (dq_putI rfl).trans (bn_c (fun h1 => ?_))
  refine (dq rfl rfl).trans ?_
  refine (dq rfl rfl).trans ?_
  refine (dq_kxi (z := 77) rfl (lq rfl) (lq rfl) (lq rfl) kd_77).trans (it_c (kxi_c (fun r3 h2 => ?_)))
  refine (dq_ifeq rfl).trans (ie_c ?_ ?_)
  · refine (dq rfl rfl).trans ?_
    exact dq_ret1 rfl
  · refine (dq rfl rfl).trans ?_
    refine (dq_kxi0 (z := 75) rfl (lq rfl) (lq rfl) (lq rfl) kd_75).trans (kxi_c (fun r5 h4 => ?_))
    refine (dq_ifeq rfl).trans (ie_c ?_ ?_)
    · refine (dq rfl rfl).trans ?_
      exact dq_ret1 rfl
    · refine (dq rfl rfl).trans ?_
      refine (dq rfl rfl).trans ?_
      refine (dq rfl rfl).trans ?_
      refine (dq rfl rfl).trans ?_
      refine (dq_kxi0 (z := 69) rfl (lq rfl) (lq rfl) (lq rfl) kd_69).trans (kxi_c (fun r7 h6 => ?_))
      refine (dq_ifne rfl).trans (ie_c ?_ ?_)
      · refine (dq rfl rfl).trans ?_
        exact dq_ret1 rfl
      · refine (dq rfl rfl).trans ?_
        refine (dq_getR rfl).trans (bn_c (fun a8 => ?_))
        refine (dq rfl rfl).trans ?_
        refine (dq_iald rfl).trans (bn_c (fun v9 => ?_))
        refine (dq rfl rfl).trans ?_
        refine (dq_ine rfl).trans (ie_c ?_ ?_)
        · refine (dq rfl rfl).trans ?_
          exact dq_ret1 rfl
        · refine (dq rfl rfl).trans ?_
          refine (dq_kxv (z := 84) rfl (lq rfl) (lq rfl) (lq rfl) kd_84).trans (it_c (kxv_c (fun h10 => ?_)))
          refine (dq rfl rfl).trans ?_
          refine (dq rfl rfl).trans ?_
          refine (dq rfl rfl).trans ?_
          refine (dq rfl rfl).trans ?_
          refine (dq_kxi (z := 86) rfl (lq rfl) (lq rfl) (lq rfl) kd_86).trans (it_c (kxi_c (fun r12 h11 => ?_)))
          refine (dq_ifeq rfl).trans (ie_c ?_ ?_)
          · refine (dq rfl rfl).trans ?_
            exact dq_ret1 rfl
          · refine (dq rfl rfl).trans ?_
            refine (dq_getR rfl).trans (bn_c (fun a13 => ?_))
            refine (dq rfl rfl).trans ?_
            refine (dq_iald rfl).trans (bn_c (fun v14 => ?_))
            refine (dq rfl rfl).trans ?_
            refine (dq rfl rfl).trans ?_
            refine (dq rfl rfl).trans ?_
            exact dq_ret1 rfl
theorem q_118 (ab : Nat) (h : ia_H) : cl 118 [.ref ab] h = ((ia_pF h 8 ab 13 (.int 0)).bind fun h1 => (if ia_ok h1 8 [.ref ab] = true then kxv (cl 99 [.ref ab] h1) (fun h2 => ((ia_gI h2 8 ab 21).bind fun v3 => (if v3 ≤ 0 then dn 118 14 [some (.ref ab), some (.int 0), some (.int 0), none, none] [] h2 else dn 118 14 [some (.ref ab), some (.int 0), some (.int 1), none, none] [] h2))) else none)) := by
  refine (dq rfl rfl).trans ?_
  refine (dq rfl rfl).trans ?_
  refine (dq_putI rfl).trans (bn_c (fun h1 => ?_))
  refine (dq rfl rfl).trans ?_
  refine (dq_kxv (z := 99) rfl (lq rfl) (lq rfl) (lq rfl) kd_99).trans (it_c (kxv_c (fun h2 => ?_)))
  refine (dq rfl rfl).trans ?_
  refine (dq rfl rfl).trans ?_
  refine (dq rfl rfl).trans ?_
  refine (dq_getI rfl).trans (bn_c (fun v3 => ?_))
  refine (dq_ifle rfl).trans (ie_c ?_ ?_)
  · refine (dq rfl rfl).trans ?_
    refine (dq rfl rfl).trans ?_
    rfl
  · refine (dq rfl rfl).trans ?_
    refine (dq rfl rfl).trans ?_
    refine (dq rfl rfl).trans ?_
    rfl
theorem q_118_14 (x0 : Nat) (x1 : Int32) (x2 : Int32) (l3 : Option Value) (l4 : Option Value) (h : ia_H) : dn 118 14 [some (.ref x0), some (.int x1), some (.int x2), l3, l4] [] h = (if x2 = 0 then dn 118 77 [some (.ref x0), some (.int x1), some (.int x2), l3, l4] [] h else ((ia_gI h 8 x0 23).bind fun v1 => (if v1 = (-1) then ((ia_gR h 8 x0 27).bind fun a2 => ((ia_gR h 8 x0 0).bind fun a3 => ((ia_ld h 0 a3 1104).bind fun v4 => (if ia_ok h 8 [.ref x0, .int 0, .int (v4 - 1)] = true then kxi (cl 104 [.ref x0, .int 0, .int (v4 - 1)] h) (fun r6 h5 => ((ia_st h5 0 a2 x1 r6).bind fun h7 => (if ia_ok h7 8 [.ref x0, .int 99] = true then kxv (cl 102 [.ref x0, .int 99] h7) (fun h8 => ((ia_gR h8 8 x0 28).bind fun a9 => (if ia_ok h8 8 [.ref x0, .int 0, .int 3] = true then kxi (cl 103 [.ref x0, .int 0, .int 3] h8) (fun r11 h10 => ((ia_st h10 0 a9 x1 r11).bind fun h12 => (if ia_ok h12 8 [.ref x0, .int 110] = true then kxv (cl 102 [.ref x0, .int 110] h12) (fun h13 => ((ia_gR h13 8 x0 29).bind fun a14 => (if ia_ok h13 8 [.ref x0, .int 1, .int 9] = true then kxi (cl 103 [.ref x0, .int 1, .int 9] h13) (fun r16 h15 => ((ia_st h15 0 a14 x1 r16).bind fun h17 => ((ia_gI h17 8 x0 23).bind fun v18 => (if v18 = (-1) then (if ia_ok h17 8 [.ref x0] = true then kxi (cl 100 [.ref x0] h17) (fun r20 h19 => (if r20 = 44 then ((ia_gI h19 8 x0 22).bind fun v21 => ((ia_pF h19 8 x0 22 (.int (v21 + 1))).bind fun h22 => dn 118 14 [some (.ref x0), some (.int (x1 + 1)), some (.int 1), l3, l4] [] h22)) else dn 118 66 [some (.ref x0), some (.int (x1 + 1)), some (.int x2), l3, l4] [] h19)) else none) else dn 118 66 [some (.ref x0), some (.int (x1 + 1)), some (.int x2), l3, l4] [] h17)))) else none))) else none))) else none))) else none))) else none)))) else dn 118 77 [some (.ref x0), some (.int x1), some (.int x2), l3, l4] [] h))) := by
  refine (dq rfl rfl).trans ?_
  refine (dq_ifeq rfl).trans (ie_c ?_ ?_)
  · rfl
  · refine (dq rfl rfl).trans ?_
    refine (dq_getI rfl).trans (bn_c (fun v1 => ?_))
    refine (dq rfl rfl).trans ?_
    refine (dq_ine rfl).trans (ie_c ?_ ?_)
    · refine (dq rfl rfl).trans ?_
      refine (dq_getR rfl).trans (bn_c (fun a2 => ?_))
      refine (dq rfl rfl).trans ?_
      refine (dq rfl rfl).trans ?_
      refine (dq rfl rfl).trans ?_
      refine (dq rfl rfl).trans ?_
      refine (dq_getR rfl).trans (bn_c (fun a3 => ?_))
      refine (dq rfl rfl).trans ?_
      refine (dq_iald rfl).trans (bn_c (fun v4 => ?_))
      refine (dq rfl rfl).trans ?_
      refine (dq rfl rfl).trans ?_
      refine (dq_kxi (z := 104) rfl (lq rfl) (lq rfl) (lq rfl) kd_104).trans (it_c (kxi_c (fun r6 h5 => ?_)))
      refine (dq_iast rfl).trans (bn_c (fun h7 => ?_))
      refine (dq rfl rfl).trans ?_
      refine (dq rfl rfl).trans ?_
      refine (dq_kxv (z := 102) rfl (lq rfl) (lq rfl) (lq rfl) kd_102).trans (it_c (kxv_c (fun h8 => ?_)))
      refine (dq rfl rfl).trans ?_
      refine (dq_getR rfl).trans (bn_c (fun a9 => ?_))
      refine (dq rfl rfl).trans ?_
      refine (dq rfl rfl).trans ?_
      refine (dq rfl rfl).trans ?_
      refine (dq rfl rfl).trans ?_
      refine (dq_kxi (z := 103) rfl (lq rfl) (lq rfl) (lq rfl) kd_103).trans (it_c (kxi_c (fun r11 h10 => ?_)))
      refine (dq_iast rfl).trans (bn_c (fun h12 => ?_))
      refine (dq rfl rfl).trans ?_
      refine (dq rfl rfl).trans ?_
      refine (dq_kxv (z := 102) rfl (lq rfl) (lq rfl) (lq rfl) kd_102).trans (it_c (kxv_c (fun h13 => ?_)))
      refine (dq rfl rfl).trans ?_
      refine (dq_getR rfl).trans (bn_c (fun a14 => ?_))
      refine (dq rfl rfl).trans ?_
      refine (dq rfl rfl).trans ?_
      refine (dq rfl rfl).trans ?_
      refine (dq rfl rfl).trans ?_
      refine (dq_kxi (z := 103) rfl (lq rfl) (lq rfl) (lq rfl) kd_103).trans (it_c (kxi_c (fun r16 h15 => ?_)))
      refine (dq_iast rfl).trans (bn_c (fun h17 => ?_))
      refine (dq_iinc (v := 1) rfl rfl (by decide)).trans ?_
      refine (dq rfl rfl).trans ?_
      refine (dq_getI rfl).trans (bn_c (fun v18 => ?_))
      refine (dq rfl rfl).trans ?_
      refine (dq_ine rfl).trans (ie_c ?_ ?_)
      · refine (dq rfl rfl).trans ?_
        refine (dq_kxi (z := 100) rfl (lq rfl) (lq rfl) (lq rfl) kd_100).trans (it_c (kxi_c (fun r20 h19 => ?_)))
        refine (dq rfl rfl).trans ?_
        refine (dq_ine rfl).trans (ie_c ?_ ?_)
        · refine (dq rfl rfl).trans ?_
          refine (dq rfl rfl).trans ?_
          refine (dq rfl rfl).trans ?_
          refine (dq rfl rfl).trans ?_
          refine ((dq_ifeq rfl).trans (if_neg (by decide))).trans ?_
          refine (dq rfl rfl).trans ?_
          refine (dq rfl rfl).trans ?_
          refine (dq_getI rfl).trans (bn_c (fun v21 => ?_))
          refine (dq rfl rfl).trans ?_
          refine (dq rfl rfl).trans ?_
          refine (dq_putI rfl).trans (bn_c (fun h22 => ?_))
          refine (dq rfl rfl).trans ?_
          rfl
        · rfl
      · rfl
    · rfl
theorem q_118_66 (x0 : Nat) (x1 : Int32) (x2 : Int32) (l3 : Option Value) (l4 : Option Value) (h : ia_H) : dn 118 66 [some (.ref x0), some (.int x1), some (.int x2), l3, l4] [] h = dn 118 14 [some (.ref x0), some (.int x1), some (.int 0), l3, l4] [] h := by
  refine (dq rfl rfl).trans ?_
  refine (dq rfl rfl).trans ?_
  refine (dq rfl rfl).trans ?_
  refine ((dq_ifeq rfl).trans (if_pos (by decide))).trans ?_
  rfl
theorem q_118_77 (x0 : Nat) (x1 : Int32) (x2 : Int32) (l3 : Option Value) (l4 : Option Value) (h : ia_H) : dn 118 77 [some (.ref x0), some (.int x1), some (.int x2), l3, l4] [] h = (if ia_ok h 8 [.ref x0] = true then kxv (cl 105 [.ref x0] h) (fun h1 => ((ia_gI h1 8 x0 23).bind fun v2 => (if v2 = (-1) then ((ia_gR h1 8 x0 0).bind fun a3 => ((ia_ld h1 0 a3 1105).bind fun v4 => (if (v4 + x1) ≤ 100 then (if ia_ok h1 8 [.ref x0] = true then kxv (cl 84 [.ref x0] h1) (fun h5 => dn 118 104 [some (.ref x0), some (.int x1), some (.int x2), some (.int 0), some (.int 0)] [] h5) else none) else some (some (.int (-4)), h1)))) else ((ia_gI h1 8 x0 23).bind fun v6 => some (some (.int ((-21) - v6)), h1))))) else none) := by
  refine (dq rfl rfl).trans ?_
  refine (dq_kxv (z := 105) rfl (lq rfl) (lq rfl) (lq rfl) kd_105).trans (it_c (kxv_c (fun h1 => ?_)))
  refine (dq rfl rfl).trans ?_
  refine (dq_getI rfl).trans (bn_c (fun v2 => ?_))
  refine (dq rfl rfl).trans ?_
  refine (dq_ieq rfl).trans (ie_c ?_ ?_)
  · refine (dq rfl rfl).trans ?_
    refine (dq_getR rfl).trans (bn_c (fun a3 => ?_))
    refine (dq rfl rfl).trans ?_
    refine (dq_iald rfl).trans (bn_c (fun v4 => ?_))
    refine (dq rfl rfl).trans ?_
    refine (dq rfl rfl).trans ?_
    refine (dq rfl rfl).trans ?_
    refine (dq_ile rfl).trans (ie_c ?_ ?_)
    · refine (dq rfl rfl).trans ?_
      refine (dq_kxv (z := 84) rfl (lq rfl) (lq rfl) (lq rfl) kd_84).trans (it_c (kxv_c (fun h5 => ?_)))
      refine (dq rfl rfl).trans ?_
      refine (dq rfl rfl).trans ?_
      refine (dq rfl rfl).trans ?_
      refine (dq rfl rfl).trans ?_
      rfl
    · refine (dq rfl rfl).trans ?_
      exact dq_ret1 rfl
  · refine (dq rfl rfl).trans ?_
    refine (dq rfl rfl).trans ?_
    refine (dq_getI rfl).trans (bn_c (fun v6 => ?_))
    refine (dq rfl rfl).trans ?_
    exact dq_ret1 rfl
theorem q_118_104 (x0 : Nat) (x1 : Int32) (x2 : Int32) (x3 : Int32) (x4 : Int32) (h : ia_H) : dn 118 104 [some (.ref x0), some (.int x1), some (.int x2), some (.int x3), some (.int x4)] [] h = (if x1 ≤ x4 then some (some (.int x3), h) else ((ia_gR h 8 x0 27).bind fun a1 => ((ia_ld h 0 a1 x4).bind fun v2 => ((ia_gR h 8 x0 28).bind fun a3 => ((ia_ld h 0 a3 x4).bind fun v4 => ((ia_gR h 8 x0 29).bind fun a5 => ((ia_ld h 0 a5 x4).bind fun v6 => (if ia_ok h 8 [.ref x0, .int v2, .int v4, .int v6] = true then kxi (cl 86 [.ref x0, .int v2, .int v4, .int v6] h) (fun r8 h7 => (if r8 = 0 then dn 118 104 [some (.ref x0), some (.int x1), some (.int x2), some (.int (x3 + 0)), some (.int (x4 + 1))] [] h7 else dn 118 104 [some (.ref x0), some (.int x1), some (.int x2), some (.int (x3 + 1)), some (.int (x4 + 1))] [] h7)) else none)))))))) := by
  refine (dq rfl rfl).trans ?_
  refine (dq rfl rfl).trans ?_
  refine (dq_ige rfl).trans (ie_c ?_ ?_)
  · refine (dq rfl rfl).trans ?_
    exact dq_ret1 rfl
  · refine (dq rfl rfl).trans ?_
    refine (dq rfl rfl).trans ?_
    refine (dq rfl rfl).trans ?_
    refine (dq_getR rfl).trans (bn_c (fun a1 => ?_))
    refine (dq rfl rfl).trans ?_
    refine (dq_iald rfl).trans (bn_c (fun v2 => ?_))
    refine (dq rfl rfl).trans ?_
    refine (dq_getR rfl).trans (bn_c (fun a3 => ?_))
    refine (dq rfl rfl).trans ?_
    refine (dq_iald rfl).trans (bn_c (fun v4 => ?_))
    refine (dq rfl rfl).trans ?_
    refine (dq_getR rfl).trans (bn_c (fun a5 => ?_))
    refine (dq rfl rfl).trans ?_
    refine (dq_iald rfl).trans (bn_c (fun v6 => ?_))
    refine (dq_kxi (z := 86) rfl (lq rfl) (lq rfl) (lq rfl) kd_86).trans (it_c (kxi_c (fun r8 h7 => ?_)))
    refine (dq_ifeq rfl).trans (ie_c ?_ ?_)
    · refine (dq rfl rfl).trans ?_
      refine (dq rfl rfl).trans ?_
      refine (dq rfl rfl).trans ?_
      refine (dq_iinc (v := 1) rfl rfl (by decide)).trans ?_
      refine (dq rfl rfl).trans ?_
      rfl
    · refine (dq rfl rfl).trans ?_
      refine (dq rfl rfl).trans ?_
      refine (dq rfl rfl).trans ?_
      refine (dq rfl rfl).trans ?_
      refine (dq_iinc (v := 1) rfl rfl (by decide)).trans ?_
      refine (dq rfl rfl).trans ?_
      rfl
theorem q_119 (ab : Nat) (ac : Int32) (h : ia_H) : cl 119 [.ref ab, .int ac] h = ((ia_pF h 8 ab 13 (.int 0)).bind fun h1 => (if ia_ok h1 8 [.ref ab] = true then kxi (cl 169 [.ref ab] h1) (fun r3 h2 => (if r3 = 0 then some (some (.int (-2)), h2) else (if ia_ok h2 8 [.ref ab] = true then kxv (cl 84 [.ref ab] h2) (fun h4 => dn 119 14 [some (.ref ab), some (.int ac), some (.int r3), some (.int 0)] [] h4) else none))) else none)) := by
  refine (dq rfl rfl).trans ?_
  refine (dq rfl rfl).trans ?_
  refine (dq_putI rfl).trans (bn_c (fun h1 => ?_))
  refine (dq rfl rfl).trans ?_
  refine (dq_kxi (z := 169) rfl (lq rfl) (lq rfl) (lq rfl) kd_169).trans (it_c (kxi_c (fun r3 h2 => ?_)))
  refine (dq rfl rfl).trans ?_
  refine (dq rfl rfl).trans ?_
  refine (dq_ifne rfl).trans (ie_c ?_ ?_)
  · refine (dq rfl rfl).trans ?_
    exact dq_ret1 rfl
  · refine (dq rfl rfl).trans ?_
    refine (dq_kxv (z := 84) rfl (lq rfl) (lq rfl) (lq rfl) kd_84).trans (it_c (kxv_c (fun h4 => ?_)))
    refine (dq rfl rfl).trans ?_
    refine (dq rfl rfl).trans ?_
    rfl
theorem q_119_14 (x0 : Nat) (x1 : Int32) (x2 : Int32) (x3 : Int32) (h : ia_H) : dn 119 14 [some (.ref x0), some (.int x1), some (.int x2), some (.int x3)] [] h = ((ia_gR h 8 x0 0).bind fun a1 => ((ia_ld h 0 a1 1105).bind fun v2 => (if v2 ≤ x3 then some (some (.int x2), h) else (if ia_ok h 8 [.ref x0, .int x3, .int 4] = true then kxi (cl 79 [.ref x0, .int x3, .int 4] h) (fun r4 h3 => (if r4 = 1 then (if ia_ok h3 8 [.ref x0, .int x3, .int 4, .int 2] = true then kxv (cl 80 [.ref x0, .int x3, .int 4, .int 2] h3) (fun h5 => (if x1 = 0 then (if x1 = 0 then (if ia_ok h5 8 [.ref x0, .int 5, .int x3] = true then kxv (cl 85 [.ref x0, .int 5, .int x3] h5) (fun h6 => dn 119 14 [some (.ref x0), some (.int x1), some (.int x2), some (.int (x3 + 1))] [] h6) else none) else (if ia_ok h5 8 [.ref x0, .int 3, .int x3] = true then kxv (cl 85 [.ref x0, .int 3, .int x3] h5) (fun h7 => dn 119 14 [some (.ref x0), some (.int x1), some (.int x2), some (.int (x3 + 1))] [] h7) else none)) else (if ia_ok h5 8 [.ref x0, .int x3, .int 2, .int 0] = true then kxv (cl 80 [.ref x0, .int x3, .int 2, .int 0] h5) (fun h8 => (if x1 = 0 then (if ia_ok h8 8 [.ref x0, .int 5, .int x3] = true then kxv (cl 85 [.ref x0, .int 5, .int x3] h8) (fun h9 => dn 119 14 [some (.ref x0), some (.int x1), some (.int x2), some (.int (x3 + 1))] [] h9) else none) else (if ia_ok h8 8 [.ref x0, .int 3, .int x3] = true then kxv (cl 85 [.ref x0, .int 3, .int x3] h8) (fun h10 => dn 119 14 [some (.ref x0), some (.int x1), some (.int x2), some (.int (x3 + 1))] [] h10) else none))) else none))) else none) else dn 119 14 [some (.ref x0), some (.int x1), some (.int x2), some (.int (x3 + 1))] [] h3)) else none)))) := by
  refine (dq rfl rfl).trans ?_
  refine (dq rfl rfl).trans ?_
  refine (dq_getR rfl).trans (bn_c (fun a1 => ?_))
  refine (dq rfl rfl).trans ?_
  refine (dq_iald rfl).trans (bn_c (fun v2 => ?_))
  refine (dq_ige rfl).trans (ie_c ?_ ?_)
  · refine (dq rfl rfl).trans ?_
    exact dq_ret1 rfl
  · refine (dq rfl rfl).trans ?_
    refine (dq rfl rfl).trans ?_
    refine (dq rfl rfl).trans ?_
    refine (dq_kxi (z := 79) rfl (lq rfl) (lq rfl) (lq rfl) kd_79).trans (it_c (kxi_c (fun r4 h3 => ?_)))
    refine (dq rfl rfl).trans ?_
    refine (dq_ieq rfl).trans (ie_c ?_ ?_)
    · refine (dq rfl rfl).trans ?_
      refine (dq rfl rfl).trans ?_
      refine (dq rfl rfl).trans ?_
      refine (dq rfl rfl).trans ?_
      refine (dq_kxv (z := 80) rfl (lq rfl) (lq rfl) (lq rfl) kd_80).trans (it_c (kxv_c (fun h5 => ?_)))
      refine (dq rfl rfl).trans ?_
      refine (dq_ifeq rfl).trans (ie_c ?_ ?_)
      · refine (dq rfl rfl).trans ?_
        refine (dq rfl rfl).trans ?_
        refine (dq_ifeq rfl).trans (ie_c ?_ ?_)
        · refine (dq rfl rfl).trans ?_
          refine (dq rfl rfl).trans ?_
          refine (dq_kxv (z := 85) rfl (lq rfl) (lq rfl) (lq rfl) kd_85).trans (it_c (kxv_c (fun h6 => ?_)))
          refine (dq_iinc (v := 1) rfl rfl (by decide)).trans ?_
          refine (dq rfl rfl).trans ?_
          rfl
        · refine (dq rfl rfl).trans ?_
          refine (dq rfl rfl).trans ?_
          refine (dq rfl rfl).trans ?_
          refine (dq_kxv (z := 85) rfl (lq rfl) (lq rfl) (lq rfl) kd_85).trans (it_c (kxv_c (fun h7 => ?_)))
          refine (dq_iinc (v := 1) rfl rfl (by decide)).trans ?_
          refine (dq rfl rfl).trans ?_
          rfl
      · refine (dq rfl rfl).trans ?_
        refine (dq rfl rfl).trans ?_
        refine (dq rfl rfl).trans ?_
        refine (dq rfl rfl).trans ?_
        refine (dq_kxv (z := 80) rfl (lq rfl) (lq rfl) (lq rfl) kd_80).trans (it_c (kxv_c (fun h8 => ?_)))
        refine (dq rfl rfl).trans ?_
        refine (dq rfl rfl).trans ?_
        refine (dq_ifeq rfl).trans (ie_c ?_ ?_)
        · refine (dq rfl rfl).trans ?_
          refine (dq rfl rfl).trans ?_
          refine (dq_kxv (z := 85) rfl (lq rfl) (lq rfl) (lq rfl) kd_85).trans (it_c (kxv_c (fun h9 => ?_)))
          refine (dq_iinc (v := 1) rfl rfl (by decide)).trans ?_
          refine (dq rfl rfl).trans ?_
          rfl
        · refine (dq rfl rfl).trans ?_
          refine (dq rfl rfl).trans ?_
          refine (dq rfl rfl).trans ?_
          refine (dq_kxv (z := 85) rfl (lq rfl) (lq rfl) (lq rfl) kd_85).trans (it_c (kxv_c (fun h10 => ?_)))
          refine (dq_iinc (v := 1) rfl rfl (by decide)).trans ?_
          refine (dq rfl rfl).trans ?_
          rfl
    · refine (dq rfl rfl).trans ?_
      refine (dq_iinc (v := 1) rfl rfl (by decide)).trans ?_
      refine (dq rfl rfl).trans ?_
      rfl
theorem q_120 (ab : Nat) (ac : Int32) (h : ia_H) : cl 120 [.ref ab, .int ac] h = ((ia_pF h 8 ab 13 (.int 0)).bind fun h1 => (if ia_ok h1 8 [.ref ab, .int ac] = true then kxi (cl 78 [.ref ab, .int ac] h1) (fun r3 h2 => (if r3 = 0 then some (some (.int (-1)), h2) else (if ia_ok h2 8 [.ref ab, .int ac] = true then kxi (cl 87 [.ref ab, .int ac] h2) (fun r5 h4 => (if r5 = 0 then some (some (.int (-2)), h4) else (if ia_ok h4 8 [.ref ab, .int ac, .int 4] = true then kxi (cl 79 [.ref ab, .int ac, .int 4] h4) (fun r7 h6 => (if r7 = 0 then (if ia_ok h6 8 [.ref ab] = true then kxv (cl 84 [.ref ab] h6) (fun h8 => (if ia_ok h8 8 [.ref ab, .int ac, .int 4, .int 1] = true then kxv (cl 80 [.ref ab, .int ac, .int 4, .int 1] h8) (fun h9 => (if ia_ok h9 8 [.ref ab, .int 4, .int ac] = true then kxv (cl 85 [.ref ab, .int 4, .int ac] h9) (fun h10 => (if ia_ok h10 8 [.ref ab, .int ac, .int 2] = true then kxi (cl 79 [.ref ab, .int ac, .int 2] h10) (fun r12 h11 => some (some (.int r12), h11)) else none)) else none)) else none)) else none) else some (some (.int (-3)), h6))) else none))) else none))) else none)) := by
  refine (dq rfl rfl).trans ?_
  refine (dq rfl rfl).trans ?_
  refine (dq_putI rfl).trans (bn_c (fun h1 => ?_))
  refine (dq rfl rfl).trans ?_
  refine (dq rfl rfl).trans ?_
  refine (dq_kxi (z := 78) rfl (lq rfl) (lq rfl) (lq rfl) kd_78).trans (it_c (kxi_c (fun r3 h2 => ?_)))
  refine (dq_ifne rfl).trans (ie_c ?_ ?_)
  · refine (dq rfl rfl).trans ?_
    exact dq_ret1 rfl
  · refine (dq rfl rfl).trans ?_
    refine (dq rfl rfl).trans ?_
    refine (dq_kxi (z := 87) rfl (lq rfl) (lq rfl) (lq rfl) kd_87).trans (it_c (kxi_c (fun r5 h4 => ?_)))
    refine (dq_ifne rfl).trans (ie_c ?_ ?_)
    · refine (dq rfl rfl).trans ?_
      exact dq_ret1 rfl
    · refine (dq rfl rfl).trans ?_
      refine (dq rfl rfl).trans ?_
      refine (dq rfl rfl).trans ?_
      refine (dq_kxi (z := 79) rfl (lq rfl) (lq rfl) (lq rfl) kd_79).trans (it_c (kxi_c (fun r7 h6 => ?_)))
      refine (dq_ifeq rfl).trans (ie_c ?_ ?_)
      · refine (dq rfl rfl).trans ?_
        refine (dq_kxv (z := 84) rfl (lq rfl) (lq rfl) (lq rfl) kd_84).trans (it_c (kxv_c (fun h8 => ?_)))
        refine (dq rfl rfl).trans ?_
        refine (dq rfl rfl).trans ?_
        refine (dq rfl rfl).trans ?_
        refine (dq rfl rfl).trans ?_
        refine (dq_kxv (z := 80) rfl (lq rfl) (lq rfl) (lq rfl) kd_80).trans (it_c (kxv_c (fun h9 => ?_)))
        refine (dq rfl rfl).trans ?_
        refine (dq rfl rfl).trans ?_
        refine (dq rfl rfl).trans ?_
        refine (dq_kxv (z := 85) rfl (lq rfl) (lq rfl) (lq rfl) kd_85).trans (it_c (kxv_c (fun h10 => ?_)))
        refine (dq rfl rfl).trans ?_
        refine (dq rfl rfl).trans ?_
        refine (dq rfl rfl).trans ?_
        refine (dq_kxi (z := 79) rfl (lq rfl) (lq rfl) (lq rfl) kd_79).trans (it_c (kxi_c (fun r12 h11 => ?_)))
        exact dq_ret1 rfl
      · refine (dq rfl rfl).trans ?_
        exact dq_ret1 rfl
theorem q_121 (ab : Nat) (ac : Int32) (ad : Int32) (ae : Int32) (h : ia_H) : cl 121 [.ref ab, .int ac, .int ad, .int ae] h = ((ia_pF h 8 ab 13 (.int 0)).bind fun h1 => (if ia_ok h1 8 [.ref ab, .int ac] = true then kxi (cl 78 [.ref ab, .int ac] h1) (fun r3 h2 => (if r3 = 0 then some (some (.int (-1)), h2) else (if ad = 0 then dn 121 15 [some (.ref ab), some (.int ac), some (.int ad), some (.int ae)] [.long 3, .long 0, .long (ae.toInt64)] h2 else dn 121 15 [some (.ref ab), some (.int ac), some (.int ad), some (.int ae)] [.long 0, .long 0, .long (ae.toInt64)] h2))) else none)) := by
  refine (dq rfl rfl).trans ?_
  refine (dq rfl rfl).trans ?_
  refine (dq_putI rfl).trans (bn_c (fun h1 => ?_))
  refine (dq rfl rfl).trans ?_
  refine (dq rfl rfl).trans ?_
  refine (dq_kxi (z := 78) rfl (lq rfl) (lq rfl) (lq rfl) kd_78).trans (it_c (kxi_c (fun r3 h2 => ?_)))
  refine (dq_ifeq rfl).trans (ie_c ?_ ?_)
  · refine (dq rfl rfl).trans ?_
    exact dq_ret1 rfl
  · refine (dq rfl rfl).trans ?_
    refine (dq rfl rfl).trans ?_
    refine (dq rfl rfl).trans ?_
    refine (dq rfl rfl).trans ?_
    refine (dq_ifeq rfl).trans (ie_c ?_ ?_)
    · refine (dq rfl rfl).trans ?_
      rfl
    · refine (dq rfl rfl).trans ?_
      refine (dq rfl rfl).trans ?_
      rfl
theorem q_121_15 (x0 : Nat) (x1 : Int32) (x2 : Int32) (x3 : Int32) (s0 : Int64) (s1 : Int64) (s2 : Int64) (h : ia_H) : dn 121 15 [some (.ref x0), some (.int x1), some (.int x2), some (.int x3)] [.long s2, .long s1, .long s0] h = kxi (cl 69 [.long s0, .long s1, .long s2] h) (fun r2 h1 => (if r2 = 0 then some (some (.int (-1)), h1) else (if ia_ok h1 8 [.ref x0, .int x1, .int 4] = true then kxi (cl 79 [.ref x0, .int x1, .int 4] h1) (fun r4 h3 => (if r4 = 1 then (if ia_ok h3 8 [.ref x0] = true then kxv (cl 84 [.ref x0] h3) (fun h5 => (if ia_ok h5 8 [.ref x0, .int x1, .int 4, .int 2] = true then kxv (cl 80 [.ref x0, .int x1, .int 4, .int 2] h5) (fun h6 => (if x2 = 0 then (if ia_ok h6 8 [.ref x0, .int x1, .int 2] = true then kxi (cl 79 [.ref x0, .int x1, .int 2] h6) (fun r8 h7 => dn 121 47 [some (.ref x0), some (.int x1), some (.int x2), some (.int x3)] [.int (r8 + x3), .int 2, .int x1, .ref x0] h7) else none) else dn 121 47 [some (.ref x0), some (.int x1), some (.int x2), some (.int x3)] [.int 0, .int 2, .int x1, .ref x0] h6)) else none)) else none) else some (some (.int (-2)), h3))) else none))) := by
  refine (dq_kxi0 (z := 69) rfl (lq rfl) (lq rfl) (lq rfl) kd_69).trans (kxi_c (fun r2 h1 => ?_))
  refine (dq_ifne rfl).trans (ie_c ?_ ?_)
  · refine (dq rfl rfl).trans ?_
    exact dq_ret1 rfl
  · refine (dq rfl rfl).trans ?_
    refine (dq rfl rfl).trans ?_
    refine (dq rfl rfl).trans ?_
    refine (dq_kxi (z := 79) rfl (lq rfl) (lq rfl) (lq rfl) kd_79).trans (it_c (kxi_c (fun r4 h3 => ?_)))
    refine (dq rfl rfl).trans ?_
    refine (dq_ieq rfl).trans (ie_c ?_ ?_)
    · refine (dq rfl rfl).trans ?_
      refine (dq_kxv (z := 84) rfl (lq rfl) (lq rfl) (lq rfl) kd_84).trans (it_c (kxv_c (fun h5 => ?_)))
      refine (dq rfl rfl).trans ?_
      refine (dq rfl rfl).trans ?_
      refine (dq rfl rfl).trans ?_
      refine (dq rfl rfl).trans ?_
      refine (dq_kxv (z := 80) rfl (lq rfl) (lq rfl) (lq rfl) kd_80).trans (it_c (kxv_c (fun h6 => ?_)))
      refine (dq rfl rfl).trans ?_
      refine (dq rfl rfl).trans ?_
      refine (dq rfl rfl).trans ?_
      refine (dq rfl rfl).trans ?_
      refine (dq_ifeq rfl).trans (ie_c ?_ ?_)
      · refine (dq rfl rfl).trans ?_
        refine (dq rfl rfl).trans ?_
        refine (dq rfl rfl).trans ?_
        refine (dq_kxi (z := 79) rfl (lq rfl) (lq rfl) (lq rfl) kd_79).trans (it_c (kxi_c (fun r8 h7 => ?_)))
        refine (dq rfl rfl).trans ?_
        refine (dq rfl rfl).trans ?_
        rfl
      · refine (dq rfl rfl).trans ?_
        refine (dq rfl rfl).trans ?_
        rfl
    · refine (dq rfl rfl).trans ?_
      exact dq_ret1 rfl
theorem q_121_47 (x0 : Nat) (x1 : Int32) (x2 : Int32) (x3 : Int32) (s0 : Nat) (s1 : Int32) (s2 : Int32) (s3 : Int32) (h : ia_H) : dn 121 47 [some (.ref x0), some (.int x1), some (.int x2), some (.int x3)] [.int s3, .int s2, .int s1, .ref s0] h = (if ia_ok h 8 [.ref s0, .int s1, .int s2, .int s3] = true then kxv (cl 80 [.ref s0, .int s1, .int s2, .int s3] h) (fun h1 => (if x2 = 0 then (if ia_ok h1 8 [.ref x0, .int 5, .int x1] = true then kxv (cl 85 [.ref x0, .int 5, .int x1] h1) (fun h2 => (if ia_ok h2 8 [.ref x0, .int x1, .int 2] = true then kxi (cl 79 [.ref x0, .int x1, .int 2] h2) (fun r4 h3 => some (some (.int r4), h3)) else none)) else none) else (if ia_ok h1 8 [.ref x0, .int 3, .int x1] = true then kxv (cl 85 [.ref x0, .int 3, .int x1] h1) (fun h5 => (if ia_ok h5 8 [.ref x0, .int x1, .int 2] = true then kxi (cl 79 [.ref x0, .int x1, .int 2] h5) (fun r7 h6 => some (some (.int r7), h6)) else none)) else none))) else none) := by
  refine (dq_kxv (z := 80) rfl (lq rfl) (lq rfl) (lq rfl) kd_80).trans (it_c (kxv_c (fun h1 => ?_)))
  refine (dq rfl rfl).trans ?_
  refine (dq rfl rfl).trans ?_
  refine (dq_ifeq rfl).trans (ie_c ?_ ?_)
  · refine (dq rfl rfl).trans ?_
    refine (dq rfl rfl).trans ?_
    refine (dq_kxv (z := 85) rfl (lq rfl) (lq rfl) (lq rfl) kd_85).trans (it_c (kxv_c (fun h2 => ?_)))
    refine (dq rfl rfl).trans ?_
    refine (dq rfl rfl).trans ?_
    refine (dq rfl rfl).trans ?_
    refine (dq_kxi (z := 79) rfl (lq rfl) (lq rfl) (lq rfl) kd_79).trans (it_c (kxi_c (fun r4 h3 => ?_)))
    exact dq_ret1 rfl
  · refine (dq rfl rfl).trans ?_
    refine (dq rfl rfl).trans ?_
    refine (dq rfl rfl).trans ?_
    refine (dq_kxv (z := 85) rfl (lq rfl) (lq rfl) (lq rfl) kd_85).trans (it_c (kxv_c (fun h5 => ?_)))
    refine (dq rfl rfl).trans ?_
    refine (dq rfl rfl).trans ?_
    refine (dq rfl rfl).trans ?_
    refine (dq_kxi (z := 79) rfl (lq rfl) (lq rfl) (lq rfl) kd_79).trans (it_c (kxi_c (fun r7 h6 => ?_)))
    exact dq_ret1 rfl
theorem q_122 (ab : Nat) (ac : Int32) (ad : Int32) (h : ia_H) : cl 122 [.ref ab, .int ac, .int ad] h = ((ia_pF h 8 ab 13 (.int 0)).bind fun h1 => (if ia_ok h1 8 [.ref ab, .int ac] = true then kxi (cl 78 [.ref ab, .int ac] h1) (fun r3 h2 => (if r3 = 0 then some (some (.int (-1)), h2) else (if 1 ≤ ad then (if ia_ok h2 8 [.ref ab, .int ac] = true then kxi (cl 87 [.ref ab, .int ac] h2) (fun r5 h4 => (if r5 = 0 then some (some (.int (-2)), h4) else (if ia_ok h4 8 [.ref ab, .int ac, .int 2] = true then kxi (cl 79 [.ref ab, .int ac, .int 2] h4) (fun r7 h6 => (if ad ≤ r7 then (if ia_ok h6 8 [.ref ab] = true then kxv (cl 84 [.ref ab] h6) (fun h8 => (if ia_ok h8 8 [.ref ab, .int ac, .int 2] = true then kxi (cl 79 [.ref ab, .int ac, .int 2] h8) (fun r10 h9 => (if ia_ok h9 8 [.ref ab, .int ac, .int 2, .int (r10 - ad)] = true then kxv (cl 80 [.ref ab, .int ac, .int 2, .int (r10 - ad)] h9) (fun h11 => (if ia_ok h11 8 [.ref ab, .int ac] = true then kxi (cl 87 [.ref ab, .int ac] h11) (fun r13 h12 => (if r13 = 0 then (if ia_ok h12 8 [.ref ab, .int ac, .int 4] = true then kxi (cl 79 [.ref ab, .int ac, .int 4] h12) (fun r15 h14 => (if r15 = 1 then (if ia_ok h14 8 [.ref ab, .int ac, .int 4, .int 2] = true then kxv (cl 80 [.ref ab, .int ac, .int 4, .int 2] h14) (fun h17 => (if ia_ok h17 8 [.ref ab, .int 3, .int ac] = true then kxv (cl 85 [.ref ab, .int 3, .int ac] h17) (fun h18 => some (some (.int 0), h18)) else none)) else none) else (if ia_ok h14 8 [.ref ab, .int 3, .int ac] = true then kxv (cl 85 [.ref ab, .int 3, .int ac] h14) (fun h16 => some (some (.int 0), h16)) else none))) else none) else (if ia_ok h12 8 [.ref ab, .int ac, .int 2] = true then kxi (cl 79 [.ref ab, .int ac, .int 2] h12) (fun r20 h19 => some (some (.int r20), h19)) else none))) else none)) else none)) else none)) else none) else some (some (.int (-1)), h6))) else none))) else none) else some (some (.int (-1)), h2)))) else none)) := by
  refine (dq rfl rfl).trans ?_
  refine (dq rfl rfl).trans ?_
  refine (dq_putI rfl).trans (bn_c (fun h1 => ?_))
  refine (dq rfl rfl).trans ?_
  refine (dq rfl rfl).trans ?_
  refine (dq_kxi (z := 78) rfl (lq rfl) (lq rfl) (lq rfl) kd_78).trans (it_c (kxi_c (fun r3 h2 => ?_)))
  refine (dq_ifeq rfl).trans (ie_c ?_ ?_)
  · refine (dq rfl rfl).trans ?_
    exact dq_ret1 rfl
  · refine (dq rfl rfl).trans ?_
    refine (dq rfl rfl).trans ?_
    refine (dq_ige rfl).trans (ie_c ?_ ?_)
    · refine (dq rfl rfl).trans ?_
      refine (dq rfl rfl).trans ?_
      refine (dq_kxi (z := 87) rfl (lq rfl) (lq rfl) (lq rfl) kd_87).trans (it_c (kxi_c (fun r5 h4 => ?_)))
      refine (dq_ifne rfl).trans (ie_c ?_ ?_)
      · refine (dq rfl rfl).trans ?_
        exact dq_ret1 rfl
      · refine (dq rfl rfl).trans ?_
        refine (dq rfl rfl).trans ?_
        refine (dq rfl rfl).trans ?_
        refine (dq rfl rfl).trans ?_
        refine (dq_kxi (z := 79) rfl (lq rfl) (lq rfl) (lq rfl) kd_79).trans (it_c (kxi_c (fun r7 h6 => ?_)))
        refine (dq_ile rfl).trans (ie_c ?_ ?_)
        · refine (dq rfl rfl).trans ?_
          refine (dq_kxv (z := 84) rfl (lq rfl) (lq rfl) (lq rfl) kd_84).trans (it_c (kxv_c (fun h8 => ?_)))
          refine (dq rfl rfl).trans ?_
          refine (dq rfl rfl).trans ?_
          refine (dq rfl rfl).trans ?_
          refine (dq rfl rfl).trans ?_
          refine (dq rfl rfl).trans ?_
          refine (dq rfl rfl).trans ?_
          refine (dq_kxi (z := 79) rfl (lq rfl) (lq rfl) (lq rfl) kd_79).trans (it_c (kxi_c (fun r10 h9 => ?_)))
          refine (dq rfl rfl).trans ?_
          refine (dq rfl rfl).trans ?_
          refine (dq_kxv (z := 80) rfl (lq rfl) (lq rfl) (lq rfl) kd_80).trans (it_c (kxv_c (fun h11 => ?_)))
          refine (dq rfl rfl).trans ?_
          refine (dq rfl rfl).trans ?_
          refine (dq_kxi (z := 87) rfl (lq rfl) (lq rfl) (lq rfl) kd_87).trans (it_c (kxi_c (fun r13 h12 => ?_)))
          refine (dq_ifeq rfl).trans (ie_c ?_ ?_)
          · refine (dq rfl rfl).trans ?_
            refine (dq rfl rfl).trans ?_
            refine (dq rfl rfl).trans ?_
            refine (dq_kxi (z := 79) rfl (lq rfl) (lq rfl) (lq rfl) kd_79).trans (it_c (kxi_c (fun r15 h14 => ?_)))
            refine (dq rfl rfl).trans ?_
            refine (dq_ine rfl).trans (ie_c ?_ ?_)
            · refine (dq rfl rfl).trans ?_
              refine (dq rfl rfl).trans ?_
              refine (dq rfl rfl).trans ?_
              refine (dq rfl rfl).trans ?_
              refine (dq_kxv (z := 80) rfl (lq rfl) (lq rfl) (lq rfl) kd_80).trans (it_c (kxv_c (fun h17 => ?_)))
              refine (dq rfl rfl).trans ?_
              refine (dq rfl rfl).trans ?_
              refine (dq rfl rfl).trans ?_
              refine (dq_kxv (z := 85) rfl (lq rfl) (lq rfl) (lq rfl) kd_85).trans (it_c (kxv_c (fun h18 => ?_)))
              refine (dq rfl rfl).trans ?_
              exact dq_ret1 rfl
            · refine (dq rfl rfl).trans ?_
              refine (dq rfl rfl).trans ?_
              refine (dq rfl rfl).trans ?_
              refine (dq_kxv (z := 85) rfl (lq rfl) (lq rfl) (lq rfl) kd_85).trans (it_c (kxv_c (fun h16 => ?_)))
              refine (dq rfl rfl).trans ?_
              exact dq_ret1 rfl
          · refine (dq rfl rfl).trans ?_
            refine (dq rfl rfl).trans ?_
            refine (dq rfl rfl).trans ?_
            refine (dq_kxi (z := 79) rfl (lq rfl) (lq rfl) (lq rfl) kd_79).trans (it_c (kxi_c (fun r20 h19 => ?_)))
            exact dq_ret1 rfl
        · refine (dq rfl rfl).trans ?_
          exact dq_ret1 rfl
    · refine (dq rfl rfl).trans ?_
      exact dq_ret1 rfl
theorem q_123 (ab : Nat) (h : ia_H) : cl 123 [.ref ab] h = dn 123 4 [some (.ref ab), some (.int 0), some (.int 0)] [] h := by
  refine (dq rfl rfl).trans ?_
  refine (dq rfl rfl).trans ?_
  refine (dq rfl rfl).trans ?_
  refine (dq rfl rfl).trans ?_
  rfl
theorem q_123_4 (x0 : Nat) (x1 : Int32) (x2 : Int32) (h : ia_H) : dn 123 4 [some (.ref x0), some (.int x1), some (.int x2)] [] h = (if 48 ≤ x2 then some (some (.int x1), h) else ((ia_gR h 8 x0 0).bind fun a1 => ((ia_ld h 0 a1 (12 + x2)).bind fun v2 => dn 123 4 [some (.ref x0), some (.int (x1 + v2)), some (.int (x2 + 1))] [] h))) := by
  refine (dq rfl rfl).trans ?_
  refine (dq rfl rfl).trans ?_
  refine (dq_ige rfl).trans (ie_c ?_ ?_)
  · refine (dq rfl rfl).trans ?_
    exact dq_ret1 rfl
  · refine (dq rfl rfl).trans ?_
    refine (dq rfl rfl).trans ?_
    refine (dq_getR rfl).trans (bn_c (fun a1 => ?_))
    refine (dq rfl rfl).trans ?_
    refine (dq rfl rfl).trans ?_
    refine (dq rfl rfl).trans ?_
    refine (dq_iald rfl).trans (bn_c (fun v2 => ?_))
    refine (dq rfl rfl).trans ?_
    refine (dq rfl rfl).trans ?_
    refine (dq_iinc (v := 1) rfl rfl (by decide)).trans ?_
    refine (dq rfl rfl).trans ?_
    rfl
theorem q_124 (ab : Nat) (h : ia_H) : cl 124 [.ref ab] h = ((ia_pF h 8 ab 13 (.int 0)).bind fun h1 => (if ia_ok h1 8 [.ref ab] = true then kxv (cl 84 [.ref ab] h1) (fun h2 => (if ia_ok h2 8 [.ref ab] = true then kxi (cl 123 [.ref ab] h2) (fun r4 h3 => dn 124 10 [some (.ref ab), some (.int r4), some (.int 0)] [] h3) else none)) else none)) := by
  refine (dq rfl rfl).trans ?_
  refine (dq rfl rfl).trans ?_
  refine (dq_putI rfl).trans (bn_c (fun h1 => ?_))
  refine (dq rfl rfl).trans ?_
  refine (dq_kxv (z := 84) rfl (lq rfl) (lq rfl) (lq rfl) kd_84).trans (it_c (kxv_c (fun h2 => ?_)))
  refine (dq rfl rfl).trans ?_
  refine (dq_kxi (z := 123) rfl (lq rfl) (lq rfl) (lq rfl) kd_123).trans (it_c (kxi_c (fun r4 h3 => ?_)))
  refine (dq rfl rfl).trans ?_
  refine (dq rfl rfl).trans ?_
  refine (dq rfl rfl).trans ?_
  rfl
theorem q_124_10 (x0 : Nat) (x1 : Int32) (x2 : Int32) (h : ia_H) : dn 124 10 [some (.ref x0), some (.int x1), some (.int x2)] [] h = (if 48 ≤ x2 then dn 124 24 [some (.ref x0), some (.int x1), some (.int 0)] [] h else ((ia_gR h 8 x0 0).bind fun a1 => ((ia_st h 0 a1 (12 + x2) 0).bind fun h2 => dn 124 10 [some (.ref x0), some (.int x1), some (.int (x2 + 1))] [] h2))) := by
  refine (dq rfl rfl).trans ?_
  refine (dq rfl rfl).trans ?_
  refine (dq_ige rfl).trans (ie_c ?_ ?_)
  · refine (dq rfl rfl).trans ?_
    refine (dq rfl rfl).trans ?_
    rfl
  · refine (dq rfl rfl).trans ?_
    refine (dq_getR rfl).trans (bn_c (fun a1 => ?_))
    refine (dq rfl rfl).trans ?_
    refine (dq rfl rfl).trans ?_
    refine (dq rfl rfl).trans ?_
    refine (dq rfl rfl).trans ?_
    refine (dq_iast rfl).trans (bn_c (fun h2 => ?_))
    refine (dq_iinc (v := 1) rfl rfl (by decide)).trans ?_
    refine (dq rfl rfl).trans ?_
    rfl
theorem q_124_24 (x0 : Nat) (x1 : Int32) (x2 : Int32) (h : ia_H) : dn 124 24 [some (.ref x0), some (.int x1), some (.int x2)] [] h = (if 16 ≤ x2 then some (some (.int x1), h) else ((ia_gR h 8 x0 0).bind fun a1 => ((ia_st h 0 a1 (108 + x2) 0).bind fun h2 => dn 124 24 [some (.ref x0), some (.int x1), some (.int (x2 + 1))] [] h2))) := by
  refine (dq rfl rfl).trans ?_
  refine (dq rfl rfl).trans ?_
  refine (dq_ige rfl).trans (ie_c ?_ ?_)
  · refine (dq rfl rfl).trans ?_
    exact dq_ret1 rfl
  · refine (dq rfl rfl).trans ?_
    refine (dq_getR rfl).trans (bn_c (fun a1 => ?_))
    refine (dq rfl rfl).trans ?_
    refine (dq rfl rfl).trans ?_
    refine (dq rfl rfl).trans ?_
    refine (dq rfl rfl).trans ?_
    refine (dq_iast rfl).trans (bn_c (fun h2 => ?_))
    refine (dq_iinc (v := 1) rfl rfl (by decide)).trans ?_
    refine (dq rfl rfl).trans ?_
    rfl
theorem q_125 (ab : Nat) (ac : Int32) (ad : Int32) (h : ia_H) : cl 125 [.ref ab, .int ac, .int ad] h = ((ia_pF h 8 ab 13 (.int 0)).bind fun h1 => (if ia_ok h1 8 [.ref ab, .int ac] = true then kxi (cl 77 [.ref ab, .int ac] h1) (fun r3 h2 => (if r3 = 0 then some (some (.int (-1)), h2) else kxi (cl 75 [.int ad] h2) (fun r5 h4 => (if r5 = 0 then some (some (.int (-1)), h4) else (if ia_ok h4 8 [.ref ab, .int ac, .int ad] = true then kxi (cl 90 [.ref ab, .int ac, .int ad] h4) (fun r7 h6 => ((ia_pF h6 8 ab 12 (.int 0)).bind fun h8 => (if ia_ok h8 8 [.ref ab, .long (r7.toInt64)] = true then kxv (cl 71 [.ref ab, .long (r7.toInt64)] h8) (fun h9 => (if r7 = (-1) then some (some (.int 1), h9) else some (some (.int 0), h9))) else none))) else none))))) else none)) := by
  refine (dq rfl rfl).trans ?_
  refine (dq rfl rfl).trans ?_
  refine (dq_putI rfl).trans (bn_c (fun h1 => ?_))
  refine (dq rfl rfl).trans ?_
  refine (dq rfl rfl).trans ?_
  refine (dq_kxi (z := 77) rfl (lq rfl) (lq rfl) (lq rfl) kd_77).trans (it_c (kxi_c (fun r3 h2 => ?_)))
  refine (dq_ifeq rfl).trans (ie_c ?_ ?_)
  · refine (dq rfl rfl).trans ?_
    exact dq_ret1 rfl
  · refine (dq rfl rfl).trans ?_
    refine (dq_kxi0 (z := 75) rfl (lq rfl) (lq rfl) (lq rfl) kd_75).trans (kxi_c (fun r5 h4 => ?_))
    refine (dq_ifne rfl).trans (ie_c ?_ ?_)
    · refine (dq rfl rfl).trans ?_
      exact dq_ret1 rfl
    · refine (dq rfl rfl).trans ?_
      refine (dq rfl rfl).trans ?_
      refine (dq rfl rfl).trans ?_
      refine (dq_kxi (z := 90) rfl (lq rfl) (lq rfl) (lq rfl) kd_90).trans (it_c (kxi_c (fun r7 h6 => ?_)))
      refine (dq rfl rfl).trans ?_
      refine (dq rfl rfl).trans ?_
      refine (dq rfl rfl).trans ?_
      refine (dq_putI rfl).trans (bn_c (fun h8 => ?_))
      refine (dq rfl rfl).trans ?_
      refine (dq rfl rfl).trans ?_
      refine (dq rfl rfl).trans ?_
      refine (dq_kxv (z := 71) rfl (lq rfl) (lq rfl) (lq rfl) kd_71).trans (it_c (kxv_c (fun h9 => ?_)))
      refine (dq rfl rfl).trans ?_
      refine (dq rfl rfl).trans ?_
      refine (dq_ine rfl).trans (ie_c ?_ ?_)
      · refine (dq rfl rfl).trans ?_
        refine (dq rfl rfl).trans ?_
        exact dq_ret1 rfl
      · refine (dq rfl rfl).trans ?_
        exact dq_ret1 rfl
theorem q_126 (ab : Nat) (ac : Int32) (ad : Int32) (ae : Int32) (h : ia_H) : cl 126 [.ref ab, .int ac, .int ad, .int ae] h = dn 126 4 [some (.ref ab), some (.int ac), some (.int ad), some (.int ae), some (.int 0), some (.int 0)] [] h := by
  refine (dq rfl rfl).trans ?_
  refine (dq rfl rfl).trans ?_
  refine (dq rfl rfl).trans ?_
  refine (dq rfl rfl).trans ?_
  rfl
theorem q_126_4 (x0 : Nat) (x1 : Int32) (x2 : Int32) (x3 : Int32) (x4 : Int32) (x5 : Int32) (h : ia_H) : dn 126 4 [some (.ref x0), some (.int x1), some (.int x2), some (.int x3), some (.int x4), some (.int x5)] [] h = ((ia_gR h 8 x0 0).bind fun a1 => ((ia_ld h 0 a1 1105).bind fun v2 => (if v2 ≤ x5 then some (some (.int x4), h) else (if ia_ok h 8 [.ref x0, .int x5, .int 0] = true then kxi (cl 79 [.ref x0, .int x5, .int 0] h) (fun r4 h3 => (if r4 = x1 then (if ia_ok h3 8 [.ref x0, .int x5, .int x2] = true then kxi (cl 89 [.ref x0, .int x5, .int x2] h3) (fun r6 h5 => (if r6 = 0 then (if x3 = 0 then dn 126 4 [some (.ref x0), some (.int x1), some (.int x2), some (.int x3), some (.int x4), some (.int (x5 + 1))] [] h5 else (if ia_ok h5 8 [.ref x0, .int x5, .int x2] = true then kxi (cl 88 [.ref x0, .int x5, .int x2] h5) (fun r10 h9 => (if r10 = 0 then dn 126 4 [some (.ref x0), some (.int x1), some (.int x2), some (.int x3), some (.int x4), some (.int (x5 + 1))] [] h9 else (if ia_ok h9 8 [.ref x0, .int x5, .int 2] = true then kxi (cl 79 [.ref x0, .int x5, .int 2] h9) (fun r12 h11 => dn 126 4 [some (.ref x0), some (.int x1), some (.int x2), some (.int x3), some (.int (x4 + r12)), some (.int (x5 + 1))] [] h11) else none))) else none)) else (if ia_ok h5 8 [.ref x0, .int x5, .int 2] = true then kxi (cl 79 [.ref x0, .int x5, .int 2] h5) (fun r8 h7 => dn 126 4 [some (.ref x0), some (.int x1), some (.int x2), some (.int x3), some (.int (x4 + r8)), some (.int (x5 + 1))] [] h7) else none))) else none) else dn 126 4 [some (.ref x0), some (.int x1), some (.int x2), some (.int x3), some (.int x4), some (.int (x5 + 1))] [] h3)) else none)))) := by
  refine (dq rfl rfl).trans ?_
  refine (dq rfl rfl).trans ?_
  refine (dq_getR rfl).trans (bn_c (fun a1 => ?_))
  refine (dq rfl rfl).trans ?_
  refine (dq_iald rfl).trans (bn_c (fun v2 => ?_))
  refine (dq_ige rfl).trans (ie_c ?_ ?_)
  · refine (dq rfl rfl).trans ?_
    exact dq_ret1 rfl
  · refine (dq rfl rfl).trans ?_
    refine (dq rfl rfl).trans ?_
    refine (dq rfl rfl).trans ?_
    refine (dq_kxi (z := 79) rfl (lq rfl) (lq rfl) (lq rfl) kd_79).trans (it_c (kxi_c (fun r4 h3 => ?_)))
    refine (dq rfl rfl).trans ?_
    refine (dq_ine rfl).trans (ie_c ?_ ?_)
    · refine (dq rfl rfl).trans ?_
      refine (dq rfl rfl).trans ?_
      refine (dq rfl rfl).trans ?_
      refine (dq_kxi (z := 89) rfl (lq rfl) (lq rfl) (lq rfl) kd_89).trans (it_c (kxi_c (fun r6 h5 => ?_)))
      refine (dq_ifne rfl).trans (ie_c ?_ ?_)
      · refine (dq rfl rfl).trans ?_
        refine (dq_ifeq rfl).trans (ie_c ?_ ?_)
        · refine (dq_iinc (v := 1) rfl rfl (by decide)).trans ?_
          refine (dq rfl rfl).trans ?_
          rfl
        · refine (dq rfl rfl).trans ?_
          refine (dq rfl rfl).trans ?_
          refine (dq rfl rfl).trans ?_
          refine (dq_kxi (z := 88) rfl (lq rfl) (lq rfl) (lq rfl) kd_88).trans (it_c (kxi_c (fun r10 h9 => ?_)))
          refine (dq_ifeq rfl).trans (ie_c ?_ ?_)
          · refine (dq_iinc (v := 1) rfl rfl (by decide)).trans ?_
            refine (dq rfl rfl).trans ?_
            rfl
          · refine (dq rfl rfl).trans ?_
            refine (dq rfl rfl).trans ?_
            refine (dq rfl rfl).trans ?_
            refine (dq rfl rfl).trans ?_
            refine (dq_kxi (z := 79) rfl (lq rfl) (lq rfl) (lq rfl) kd_79).trans (it_c (kxi_c (fun r12 h11 => ?_)))
            refine (dq rfl rfl).trans ?_
            refine (dq rfl rfl).trans ?_
            refine (dq_iinc (v := 1) rfl rfl (by decide)).trans ?_
            refine (dq rfl rfl).trans ?_
            rfl
      · refine (dq rfl rfl).trans ?_
        refine (dq rfl rfl).trans ?_
        refine (dq rfl rfl).trans ?_
        refine (dq rfl rfl).trans ?_
        refine (dq_kxi (z := 79) rfl (lq rfl) (lq rfl) (lq rfl) kd_79).trans (it_c (kxi_c (fun r8 h7 => ?_)))
        refine (dq rfl rfl).trans ?_
        refine (dq rfl rfl).trans ?_
        refine (dq_iinc (v := 1) rfl rfl (by decide)).trans ?_
        refine (dq rfl rfl).trans ?_
        rfl
    · refine (dq_iinc (v := 1) rfl rfl (by decide)).trans ?_
      refine (dq rfl rfl).trans ?_
      rfl
theorem q_127 (ab : Nat) (ac : Int32) (ad : Int32) (h : ia_H) : cl 127 [.ref ab, .int ac, .int ad] h = dn 127 4 [some (.ref ab), some (.int ac), some (.int ad), some (.int 0), some (.int 0)] [] h := by
  refine (dq rfl rfl).trans ?_
  refine (dq rfl rfl).trans ?_
  refine (dq rfl rfl).trans ?_
  refine (dq rfl rfl).trans ?_
  rfl
theorem q_127_4 (x0 : Nat) (x1 : Int32) (x2 : Int32) (x3 : Int32) (x4 : Int32) (h : ia_H) : dn 127 4 [some (.ref x0), some (.int x1), some (.int x2), some (.int x3), some (.int x4)] [] h = ((ia_gR h 8 x0 0).bind fun a1 => ((ia_ld h 0 a1 1104).bind fun v2 => (if v2 ≤ x4 then some (some (.int x3), h) else ((ia_gR h 8 x0 0).bind fun a3 => ((ia_ld h 0 a3 (0 + x4)).bind fun v4 => (if v4 = x1 then (if ia_ok h 8 [.ref x0, .int x4, .int x2] = true then kxi (cl 91 [.ref x0, .int x4, .int x2] h) (fun r6 h5 => (if r6 = 0 then dn 127 4 [some (.ref x0), some (.int x1), some (.int x2), some (.int (x3 ||| 0)), some (.int (x4 + 1))] [] h5 else dn 127 4 [some (.ref x0), some (.int x1), some (.int x2), some (.int (x3 ||| (1 <<< (x4 &&& 31)))), some (.int (x4 + 1))] [] h5)) else none) else dn 127 4 [some (.ref x0), some (.int x1), some (.int x2), some (.int (x3 ||| 0)), some (.int (x4 + 1))] [] h)))))) := by
  refine (dq rfl rfl).trans ?_
  refine (dq rfl rfl).trans ?_
  refine (dq_getR rfl).trans (bn_c (fun a1 => ?_))
  refine (dq rfl rfl).trans ?_
  refine (dq_iald rfl).trans (bn_c (fun v2 => ?_))
  refine (dq_ige rfl).trans (ie_c ?_ ?_)
  · refine (dq rfl rfl).trans ?_
    exact dq_ret1 rfl
  · refine (dq rfl rfl).trans ?_
    refine (dq rfl rfl).trans ?_
    refine (dq_getR rfl).trans (bn_c (fun a3 => ?_))
    refine (dq rfl rfl).trans ?_
    refine (dq rfl rfl).trans ?_
    refine (dq rfl rfl).trans ?_
    refine (dq_iald rfl).trans (bn_c (fun v4 => ?_))
    refine (dq rfl rfl).trans ?_
    refine (dq_ine rfl).trans (ie_c ?_ ?_)
    · refine (dq rfl rfl).trans ?_
      refine (dq rfl rfl).trans ?_
      refine (dq rfl rfl).trans ?_
      refine (dq_kxi (z := 91) rfl (lq rfl) (lq rfl) (lq rfl) kd_91).trans (it_c (kxi_c (fun r6 h5 => ?_)))
      refine (dq_ifeq rfl).trans (ie_c ?_ ?_)
      · refine (dq rfl rfl).trans ?_
        refine (dq rfl rfl).trans ?_
        refine (dq rfl rfl).trans ?_
        refine (dq_iinc (v := 1) rfl rfl (by decide)).trans ?_
        refine (dq rfl rfl).trans ?_
        rfl
      · refine (dq rfl rfl).trans ?_
        refine (dq rfl rfl).trans ?_
        refine (dq rfl rfl).trans ?_
        refine (dq rfl rfl).trans ?_
        refine (dq rfl rfl).trans ?_
        refine (dq rfl rfl).trans ?_
        refine (dq_iinc (v := 1) rfl rfl (by decide)).trans ?_
        refine (dq rfl rfl).trans ?_
        rfl
    · refine (dq rfl rfl).trans ?_
      refine (dq rfl rfl).trans ?_
      refine (dq rfl rfl).trans ?_
      refine (dq_iinc (v := 1) rfl rfl (by decide)).trans ?_
      refine (dq rfl rfl).trans ?_
      rfl
theorem q_128 (ab : Nat) (ac : Int32) (ad : Int32) (h : ia_H) : cl 128 [.ref ab, .int ac, .int ad] h = ((ia_pF h 8 ab 13 (.int 0)).bind fun h1 => kxi (cl 76 [.int ac] h1) (fun r3 h2 => (if r3 = 0 then some (some (.int (-1)), h2) else kxi (cl 75 [.int ad] h2) (fun r5 h4 => (if r5 = 0 then some (some (.int (-1)), h4) else (if ia_ok h4 8 [.ref ab, .int ac, .int ad] = true then kxi (cl 127 [.ref ab, .int ac, .int ad] h4) (fun r7 h6 => ((ia_pF h6 8 ab 12 (.int 0)).bind fun h8 => kxi (cl 72 [.int r7] h8) (fun r10 h9 => (if ia_ok h9 8 [.ref ab, .long (r10.toInt64)] = true then kxv (cl 71 [.ref ab, .long (r10.toInt64)] h9) (fun h11 => dn 128 26 [some (.ref ab), some (.int ac), some (.int ad), some (.int r7), some (.int 0)] [] h11) else none)))) else none)))))) := by
  refine (dq rfl rfl).trans ?_
  refine (dq rfl rfl).trans ?_
  refine (dq_putI rfl).trans (bn_c (fun h1 => ?_))
  refine (dq rfl rfl).trans ?_
  refine (dq_kxi0 (z := 76) rfl (lq rfl) (lq rfl) (lq rfl) kd_76).trans (kxi_c (fun r3 h2 => ?_))
  refine (dq_ifeq rfl).trans (ie_c ?_ ?_)
  · refine (dq rfl rfl).trans ?_
    exact dq_ret1 rfl
  · refine (dq rfl rfl).trans ?_
    refine (dq_kxi0 (z := 75) rfl (lq rfl) (lq rfl) (lq rfl) kd_75).trans (kxi_c (fun r5 h4 => ?_))
    refine (dq_ifne rfl).trans (ie_c ?_ ?_)
    · refine (dq rfl rfl).trans ?_
      exact dq_ret1 rfl
    · refine (dq rfl rfl).trans ?_
      refine (dq rfl rfl).trans ?_
      refine (dq rfl rfl).trans ?_
      refine (dq_kxi (z := 127) rfl (lq rfl) (lq rfl) (lq rfl) kd_127).trans (it_c (kxi_c (fun r7 h6 => ?_)))
      refine (dq rfl rfl).trans ?_
      refine (dq rfl rfl).trans ?_
      refine (dq rfl rfl).trans ?_
      refine (dq_putI rfl).trans (bn_c (fun h8 => ?_))
      refine (dq rfl rfl).trans ?_
      refine (dq rfl rfl).trans ?_
      refine (dq_kxi0 (z := 72) rfl (lq rfl) (lq rfl) (lq rfl) kd_72).trans (kxi_c (fun r10 h9 => ?_))
      refine (dq rfl rfl).trans ?_
      refine (dq_kxv (z := 71) rfl (lq rfl) (lq rfl) (lq rfl) kd_71).trans (it_c (kxv_c (fun h11 => ?_)))
      refine (dq rfl rfl).trans ?_
      refine (dq rfl rfl).trans ?_
      rfl
theorem q_128_26 (x0 : Nat) (x1 : Int32) (x2 : Int32) (x3 : Int32) (x4 : Int32) (h : ia_H) : dn 128 26 [some (.ref x0), some (.int x1), some (.int x2), some (.int x3), some (.int x4)] [] h = ((ia_gR h 8 x0 0).bind fun a1 => ((ia_ld h 0 a1 1104).bind fun v2 => (if v2 ≤ x4 then some (some (.int x3), h) else (if ((x3 >>> (x4 &&& 31)) &&& 1) = 1 then (if ia_ok h 8 [.ref x0, .int x4, .int x2, .int 0] = true then kxi (cl 126 [.ref x0, .int x4, .int x2, .int 0] h) (fun r4 h3 => (if ia_ok h3 8 [.ref x0, .long (r4.toInt64)] = true then kxv (cl 71 [.ref x0, .long (r4.toInt64)] h3) (fun h5 => dn 128 26 [some (.ref x0), some (.int x1), some (.int x2), some (.int x3), some (.int (x4 + 1))] [] h5) else none)) else none) else dn 128 26 [some (.ref x0), some (.int x1), some (.int x2), some (.int x3), some (.int (x4 + 1))] [] h)))) := by
  refine (dq rfl rfl).trans ?_
  refine (dq rfl rfl).trans ?_
  refine (dq_getR rfl).trans (bn_c (fun a1 => ?_))
  refine (dq rfl rfl).trans ?_
  refine (dq_iald rfl).trans (bn_c (fun v2 => ?_))
  refine (dq_ige rfl).trans (ie_c ?_ ?_)
  · refine (dq rfl rfl).trans ?_
    exact dq_ret1 rfl
  · refine (dq rfl rfl).trans ?_
    refine (dq rfl rfl).trans ?_
    refine (dq rfl rfl).trans ?_
    refine (dq rfl rfl).trans ?_
    refine (dq rfl rfl).trans ?_
    refine (dq rfl rfl).trans ?_
    refine (dq_ine rfl).trans (ie_c ?_ ?_)
    · refine (dq rfl rfl).trans ?_
      refine (dq rfl rfl).trans ?_
      refine (dq rfl rfl).trans ?_
      refine (dq rfl rfl).trans ?_
      refine (dq rfl rfl).trans ?_
      refine (dq_kxi (z := 126) rfl (lq rfl) (lq rfl) (lq rfl) kd_126).trans (it_c (kxi_c (fun r4 h3 => ?_)))
      refine (dq rfl rfl).trans ?_
      refine (dq_kxv (z := 71) rfl (lq rfl) (lq rfl) (lq rfl) kd_71).trans (it_c (kxv_c (fun h5 => ?_)))
      refine (dq_iinc (v := 1) rfl rfl (by decide)).trans ?_
      refine (dq rfl rfl).trans ?_
      rfl
    · refine (dq_iinc (v := 1) rfl rfl (by decide)).trans ?_
      refine (dq rfl rfl).trans ?_
      rfl
theorem q_129 (ab : Nat) (ac : Int32) (ad : Int32) (h : ia_H) : cl 129 [.ref ab, .int ac, .int ad] h = ((ia_pF h 8 ab 13 (.int 0)).bind fun h1 => (if ia_ok h1 8 [.ref ab, .int ac] = true then kxi (cl 77 [.ref ab, .int ac] h1) (fun r3 h2 => (if r3 = 0 then some (some (.int (-1)), h2) else kxi (cl 75 [.int ad] h2) (fun r5 h4 => (if r5 = 0 then some (some (.int (-1)), h4) else ((ia_pF h4 8 ab 12 (.int 0)).bind fun h6 => (if ia_ok h6 8 [.ref ab, .int ac, .int ad, .int 1] = true then kxi (cl 126 [.ref ab, .int ac, .int ad, .int 1] h6) (fun r8 h7 => (if ia_ok h7 8 [.ref ab, .long (r8.toInt64)] = true then kxv (cl 71 [.ref ab, .long (r8.toInt64)] h7) (fun h9 => (if ia_ok h9 8 [.ref ab, .int ac, .int ad, .int 0] = true then kxi (cl 126 [.ref ab, .int ac, .int ad, .int 0] h9) (fun r11 h10 => some (some (.int r11), h10)) else none)) else none)) else none)))))) else none)) := by
  refine (dq rfl rfl).trans ?_
  refine (dq rfl rfl).trans ?_
  refine (dq_putI rfl).trans (bn_c (fun h1 => ?_))
  refine (dq rfl rfl).trans ?_
  refine (dq rfl rfl).trans ?_
  refine (dq_kxi (z := 77) rfl (lq rfl) (lq rfl) (lq rfl) kd_77).trans (it_c (kxi_c (fun r3 h2 => ?_)))
  refine (dq_ifeq rfl).trans (ie_c ?_ ?_)
  · refine (dq rfl rfl).trans ?_
    exact dq_ret1 rfl
  · refine (dq rfl rfl).trans ?_
    refine (dq_kxi0 (z := 75) rfl (lq rfl) (lq rfl) (lq rfl) kd_75).trans (kxi_c (fun r5 h4 => ?_))
    refine (dq_ifne rfl).trans (ie_c ?_ ?_)
    · refine (dq rfl rfl).trans ?_
      exact dq_ret1 rfl
    · refine (dq rfl rfl).trans ?_
      refine (dq rfl rfl).trans ?_
      refine (dq_putI rfl).trans (bn_c (fun h6 => ?_))
      refine (dq rfl rfl).trans ?_
      refine (dq rfl rfl).trans ?_
      refine (dq rfl rfl).trans ?_
      refine (dq rfl rfl).trans ?_
      refine (dq rfl rfl).trans ?_
      refine (dq_kxi (z := 126) rfl (lq rfl) (lq rfl) (lq rfl) kd_126).trans (it_c (kxi_c (fun r8 h7 => ?_)))
      refine (dq rfl rfl).trans ?_
      refine (dq_kxv (z := 71) rfl (lq rfl) (lq rfl) (lq rfl) kd_71).trans (it_c (kxv_c (fun h9 => ?_)))
      refine (dq rfl rfl).trans ?_
      refine (dq rfl rfl).trans ?_
      refine (dq rfl rfl).trans ?_
      refine (dq rfl rfl).trans ?_
      refine (dq_kxi (z := 126) rfl (lq rfl) (lq rfl) (lq rfl) kd_126).trans (it_c (kxi_c (fun r11 h10 => ?_)))
      exact dq_ret1 rfl

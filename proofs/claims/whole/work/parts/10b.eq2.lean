/-! equations of the methods 130 to 194, by program (wip/whole/dec.py) -/
theorem q_130 (ab : Nat) (ac : Int32) (h : ia_H) : cl 130 [.ref ab, .int ac] h = ((ia_pF h 8 ab 13 (.int 0)).bind fun h1 => (if ia_ok h1 8 [.ref ab, .int ac] = true then kxi (cl 77 [.ref ab, .int ac] h1) (fun r3 h2 => (if r3 = 0 then some (some (.int (-1)), h2) else ((ia_pF h2 8 ab 12 (.int 0)).bind fun h4 => dn 130 14 [some (.ref ab), some (.int ac), some (.int 0)] [] h4))) else none)) := by
  refine (dq rfl rfl).trans ?_
  refine (dq rfl rfl).trans ?_
  refine (dq_putI rfl).trans (bn_c (fun h1 => ?_))
  refine (dq rfl rfl).trans ?_
  refine (dq rfl rfl).trans ?_
  refine (dq_kxi (z := 77) rfl (lq rfl) (lq rfl) (lq rfl) kd_77).trans (it_c (kxi_c (fun r3 h2 => ?_)))
  refine (dq_ifne rfl).trans (ie_c ?_ ?_)
  · refine (dq rfl rfl).trans ?_
    exact dq_ret1 rfl
  · refine (dq rfl rfl).trans ?_
    refine (dq rfl rfl).trans ?_
    refine (dq_putI rfl).trans (bn_c (fun h4 => ?_))
    refine (dq rfl rfl).trans ?_
    refine (dq rfl rfl).trans ?_
    rfl
theorem q_130_14 (x0 : Nat) (x1 : Int32) (x2 : Int32) (h : ia_H) : dn 130 14 [some (.ref x0), some (.int x1), some (.int x2)] [] h = (if 4 ≤ x2 then (if ia_ok h 8 [.ref x0, .int x1] = true then kxi (cl 145 [.ref x0, .int x1] h) (fun r2 h1 => some (some (.int r2), h1)) else none) else (if ia_ok h 8 [.ref x0, .int x1, .int x2, .int 0] = true then kxi (cl 126 [.ref x0, .int x1, .int x2, .int 0] h) (fun r4 h3 => (if ia_ok h3 8 [.ref x0, .long (r4.toInt64)] = true then kxv (cl 71 [.ref x0, .long (r4.toInt64)] h3) (fun h5 => dn 130 14 [some (.ref x0), some (.int x1), some (.int (x2 + 1))] [] h5) else none)) else none)) := by
  refine (dq rfl rfl).trans ?_
  refine (dq rfl rfl).trans ?_
  refine (dq_ige rfl).trans (ie_c ?_ ?_)
  · refine (dq rfl rfl).trans ?_
    refine (dq rfl rfl).trans ?_
    refine (dq_kxi (z := 145) rfl (lq rfl) (lq rfl) (lq rfl) kd_145).trans (it_c (kxi_c (fun r2 h1 => ?_)))
    exact dq_ret1 rfl
  · refine (dq rfl rfl).trans ?_
    refine (dq rfl rfl).trans ?_
    refine (dq rfl rfl).trans ?_
    refine (dq rfl rfl).trans ?_
    refine (dq rfl rfl).trans ?_
    refine (dq_kxi (z := 126) rfl (lq rfl) (lq rfl) (lq rfl) kd_126).trans (it_c (kxi_c (fun r4 h3 => ?_)))
    refine (dq rfl rfl).trans ?_
    refine (dq_kxv (z := 71) rfl (lq rfl) (lq rfl) (lq rfl) kd_71).trans (it_c (kxv_c (fun h5 => ?_)))
    refine (dq_iinc (v := 1) rfl rfl (by decide)).trans ?_
    refine (dq rfl rfl).trans ?_
    rfl
theorem q_131 (ab : Nat) (ac : Int32) (ad : Int32) (ae : Int32) (h : ia_H) : cl 131 [.ref ab, .int ac, .int ad, .int ae] h = ((ia_pF h 8 ab 13 (.int 0)).bind fun h1 => kxi (cl 75 [.int ac] h1) (fun r3 h2 => (if r3 = 0 then some (some (.int (-1)), h2) else kxi (cl 76 [.int ad] h2) (fun r5 h4 => (if r5 = 0 then some (some (.int (-1)), h4) else kxi (cl 76 [.int ae] h4) (fun r7 h6 => (if r7 = 0 then some (some (.int (-1)), h6) else (if ad = ae then some (some (.int (-1)), h6) else (if ia_ok h6 8 [.ref ab, .int ad, .int ac] = true then kxi (cl 127 [.ref ab, .int ad, .int ac] h6) (fun r9 h8 => (if ia_ok h8 8 [.ref ab, .int ae, .int ac] = true then kxi (cl 127 [.ref ab, .int ae, .int ac] h8) (fun r11 h10 => dn 131 33 [some (.ref ab), some (.int ac), some (.int ad), some (.int ae), some (.int (r9 ||| r11)), some (.int 0), some (.int 0), some (.int 0)] [] h10) else none)) else none))))))))) := by
  refine (dq rfl rfl).trans ?_
  refine (dq rfl rfl).trans ?_
  refine (dq_putI rfl).trans (bn_c (fun h1 => ?_))
  refine (dq rfl rfl).trans ?_
  refine (dq_kxi0 (z := 75) rfl (lq rfl) (lq rfl) (lq rfl) kd_75).trans (kxi_c (fun r3 h2 => ?_))
  refine (dq_ifeq rfl).trans (ie_c ?_ ?_)
  · refine (dq rfl rfl).trans ?_
    exact dq_ret1 rfl
  · refine (dq rfl rfl).trans ?_
    refine (dq_kxi0 (z := 76) rfl (lq rfl) (lq rfl) (lq rfl) kd_76).trans (kxi_c (fun r5 h4 => ?_))
    refine (dq_ifeq rfl).trans (ie_c ?_ ?_)
    · refine (dq rfl rfl).trans ?_
      exact dq_ret1 rfl
    · refine (dq rfl rfl).trans ?_
      refine (dq_kxi0 (z := 76) rfl (lq rfl) (lq rfl) (lq rfl) kd_76).trans (kxi_c (fun r7 h6 => ?_))
      refine (dq_ifeq rfl).trans (ie_c ?_ ?_)
      · refine (dq rfl rfl).trans ?_
        exact dq_ret1 rfl
      · refine (dq rfl rfl).trans ?_
        refine (dq rfl rfl).trans ?_
        refine (dq_ine rfl).trans (ie_c ?_ ?_)
        · refine (dq rfl rfl).trans ?_
          exact dq_ret1 rfl
        · refine (dq rfl rfl).trans ?_
          refine (dq rfl rfl).trans ?_
          refine (dq rfl rfl).trans ?_
          refine (dq_kxi (z := 127) rfl (lq rfl) (lq rfl) (lq rfl) kd_127).trans (it_c (kxi_c (fun r9 h8 => ?_)))
          refine (dq rfl rfl).trans ?_
          refine (dq rfl rfl).trans ?_
          refine (dq rfl rfl).trans ?_
          refine (dq_kxi (z := 127) rfl (lq rfl) (lq rfl) (lq rfl) kd_127).trans (it_c (kxi_c (fun r11 h10 => ?_)))
          refine (dq rfl rfl).trans ?_
          refine (dq rfl rfl).trans ?_
          refine (dq rfl rfl).trans ?_
          refine (dq rfl rfl).trans ?_
          refine (dq rfl rfl).trans ?_
          refine (dq rfl rfl).trans ?_
          refine (dq rfl rfl).trans ?_
          refine (dq rfl rfl).trans ?_
          rfl
theorem q_131_33 (x0 : Nat) (x1 : Int32) (x2 : Int32) (x3 : Int32) (x4 : Int32) (x5 : Int32) (x6 : Int32) (x7 : Int32) (h : ia_H) : dn 131 33 [some (.ref x0), some (.int x1), some (.int x2), some (.int x3), some (.int x4), some (.int x5), some (.int x6), some (.int x7)] [] h = ((ia_gR h 8 x0 0).bind fun a1 => ((ia_ld h 0 a1 1104).bind fun v2 => (if v2 ≤ x7 then ((ia_pF h 8 x0 12 (.int 0)).bind fun h3 => kxi (cl 72 [.int (x5 &&& (x4 ^^^ (-1)))] h3) (fun r5 h4 => (if ia_ok h4 8 [.ref x0, .long (r5.toInt64)] = true then kxv (cl 71 [.ref x0, .long (r5.toInt64)] h4) (fun h6 => kxi (cl 72 [.int (x6 &&& (x4 ^^^ (-1)))] h6) (fun r8 h7 => (if ia_ok h7 8 [.ref x0, .long (r8.toInt64)] = true then kxv (cl 71 [.ref x0, .long (r8.toInt64)] h7) (fun h9 => (if ia_ok h9 8 [.ref x0, .long (x4.toInt64)] = true then kxv (cl 71 [.ref x0, .long (x4.toInt64)] h9) (fun h10 => some (some (.int ((x5 ||| x6) &&& (x4 ^^^ (-1)))), h10)) else none)) else none))) else none))) else ((ia_gR h 8 x0 0).bind fun a11 => ((ia_ld h 0 a11 (0 + x7)).bind fun v12 => (if v12 = x2 then dn 131 53 [some (.ref x0), some (.int x1), some (.int x2), some (.int x3), some (.int x4), some (.int x5), some (.int x6), some (.int x7)] [.int (1 <<< (x7 &&& 31)), .int x5] h else dn 131 53 [some (.ref x0), some (.int x1), some (.int x2), some (.int x3), some (.int x4), some (.int x5), some (.int x6), some (.int x7)] [.int 0, .int x5] h)))))) := by
  refine (dq rfl rfl).trans ?_
  refine (dq rfl rfl).trans ?_
  refine (dq_getR rfl).trans (bn_c (fun a1 => ?_))
  refine (dq rfl rfl).trans ?_
  refine (dq_iald rfl).trans (bn_c (fun v2 => ?_))
  refine (dq_ige rfl).trans (ie_c ?_ ?_)
  · refine (dq rfl rfl).trans ?_
    refine (dq rfl rfl).trans ?_
    refine (dq_putI rfl).trans (bn_c (fun h3 => ?_))
    refine (dq rfl rfl).trans ?_
    refine (dq rfl rfl).trans ?_
    refine (dq rfl rfl).trans ?_
    refine (dq rfl rfl).trans ?_
    refine (dq rfl rfl).trans ?_
    refine (dq rfl rfl).trans ?_
    refine (dq_kxi0 (z := 72) rfl (lq rfl) (lq rfl) (lq rfl) kd_72).trans (kxi_c (fun r5 h4 => ?_))
    refine (dq rfl rfl).trans ?_
    refine (dq_kxv (z := 71) rfl (lq rfl) (lq rfl) (lq rfl) kd_71).trans (it_c (kxv_c (fun h6 => ?_)))
    refine (dq rfl rfl).trans ?_
    refine (dq rfl rfl).trans ?_
    refine (dq rfl rfl).trans ?_
    refine (dq rfl rfl).trans ?_
    refine (dq rfl rfl).trans ?_
    refine (dq rfl rfl).trans ?_
    refine (dq_kxi0 (z := 72) rfl (lq rfl) (lq rfl) (lq rfl) kd_72).trans (kxi_c (fun r8 h7 => ?_))
    refine (dq rfl rfl).trans ?_
    refine (dq_kxv (z := 71) rfl (lq rfl) (lq rfl) (lq rfl) kd_71).trans (it_c (kxv_c (fun h9 => ?_)))
    refine (dq rfl rfl).trans ?_
    refine (dq rfl rfl).trans ?_
    refine (dq rfl rfl).trans ?_
    refine (dq_kxv (z := 71) rfl (lq rfl) (lq rfl) (lq rfl) kd_71).trans (it_c (kxv_c (fun h10 => ?_)))
    refine (dq rfl rfl).trans ?_
    refine (dq rfl rfl).trans ?_
    refine (dq rfl rfl).trans ?_
    refine (dq rfl rfl).trans ?_
    refine (dq rfl rfl).trans ?_
    refine (dq rfl rfl).trans ?_
    refine (dq rfl rfl).trans ?_
    exact dq_ret1 rfl
  · refine (dq rfl rfl).trans ?_
    refine (dq rfl rfl).trans ?_
    refine (dq_getR rfl).trans (bn_c (fun a11 => ?_))
    refine (dq rfl rfl).trans ?_
    refine (dq rfl rfl).trans ?_
    refine (dq rfl rfl).trans ?_
    refine (dq_iald rfl).trans (bn_c (fun v12 => ?_))
    refine (dq rfl rfl).trans ?_
    refine (dq_ine rfl).trans (ie_c ?_ ?_)
    · refine (dq rfl rfl).trans ?_
      refine (dq rfl rfl).trans ?_
      refine (dq rfl rfl).trans ?_
      refine (dq rfl rfl).trans ?_
      rfl
    · refine (dq rfl rfl).trans ?_
      rfl
theorem q_131_53 (x0 : Nat) (x1 : Int32) (x2 : Int32) (x3 : Int32) (x4 : Int32) (x5 : Int32) (x6 : Int32) (x7 : Int32) (s0 : Int32) (s1 : Int32) (h : ia_H) : dn 131 53 [some (.ref x0), some (.int x1), some (.int x2), some (.int x3), some (.int x4), some (.int x5), some (.int x6), some (.int x7)] [.int s1, .int s0] h = ((ia_gR h 8 x0 0).bind fun a1 => ((ia_ld h 0 a1 (0 + x7)).bind fun v2 => (if v2 = x3 then dn 131 33 [some (.ref x0), some (.int x1), some (.int x2), some (.int x3), some (.int x4), some (.int (s0 ||| s1)), some (.int (x6 ||| (1 <<< (x7 &&& 31)))), some (.int (x7 + 1))] [] h else dn 131 33 [some (.ref x0), some (.int x1), some (.int x2), some (.int x3), some (.int x4), some (.int (s0 ||| s1)), some (.int (x6 ||| 0)), some (.int (x7 + 1))] [] h))) := by
  refine (dq rfl rfl).trans ?_
  refine (dq rfl rfl).trans ?_
  refine (dq rfl rfl).trans ?_
  refine (dq rfl rfl).trans ?_
  refine (dq_getR rfl).trans (bn_c (fun a1 => ?_))
  refine (dq rfl rfl).trans ?_
  refine (dq rfl rfl).trans ?_
  refine (dq rfl rfl).trans ?_
  refine (dq_iald rfl).trans (bn_c (fun v2 => ?_))
  refine (dq rfl rfl).trans ?_
  refine (dq_ine rfl).trans (ie_c ?_ ?_)
  · refine (dq rfl rfl).trans ?_
    refine (dq rfl rfl).trans ?_
    refine (dq rfl rfl).trans ?_
    refine (dq rfl rfl).trans ?_
    refine (dq rfl rfl).trans ?_
    refine (dq rfl rfl).trans ?_
    refine (dq_iinc (v := 1) rfl rfl (by decide)).trans ?_
    refine (dq rfl rfl).trans ?_
    rfl
  · refine (dq rfl rfl).trans ?_
    refine (dq rfl rfl).trans ?_
    refine (dq rfl rfl).trans ?_
    refine (dq_iinc (v := 1) rfl rfl (by decide)).trans ?_
    refine (dq rfl rfl).trans ?_
    rfl
theorem q_132 (ab : Nat) (ac : Int32) (ad : Int32) (h : ia_H) : cl 132 [.ref ab, .int ac, .int ad] h = ((ia_pF h 8 ab 13 (.int 0)).bind fun h1 => kxi (cl 76 [.int ac] h1) (fun r3 h2 => (if r3 = 0 then some (some (.int (-1)), h2) else kxi (cl 75 [.int ad] h2) (fun r5 h4 => (if r5 = 0 then some (some (.int (-1)), h4) else dn 132 17 [some (.ref ab), some (.int ac), some (.int ad), some (.int 0), some (.int 0), some (.int 0), none] [] h4))))) := by
  refine (dq rfl rfl).trans ?_
  refine (dq rfl rfl).trans ?_
  refine (dq_putI rfl).trans (bn_c (fun h1 => ?_))
  refine (dq rfl rfl).trans ?_
  refine (dq_kxi0 (z := 76) rfl (lq rfl) (lq rfl) (lq rfl) kd_76).trans (kxi_c (fun r3 h2 => ?_))
  refine (dq_ifeq rfl).trans (ie_c ?_ ?_)
  · refine (dq rfl rfl).trans ?_
    exact dq_ret1 rfl
  · refine (dq rfl rfl).trans ?_
    refine (dq_kxi0 (z := 75) rfl (lq rfl) (lq rfl) (lq rfl) kd_75).trans (kxi_c (fun r5 h4 => ?_))
    refine (dq_ifne rfl).trans (ie_c ?_ ?_)
    · refine (dq rfl rfl).trans ?_
      exact dq_ret1 rfl
    · refine (dq rfl rfl).trans ?_
      refine (dq rfl rfl).trans ?_
      refine (dq rfl rfl).trans ?_
      refine (dq rfl rfl).trans ?_
      refine (dq rfl rfl).trans ?_
      refine (dq rfl rfl).trans ?_
      rfl
theorem q_132_17 (x0 : Nat) (x1 : Int32) (x2 : Int32) (x3 : Int32) (x4 : Int32) (x5 : Int32) (l6 : Option Value) (h : ia_H) : dn 132 17 [some (.ref x0), some (.int x1), some (.int x2), some (.int x3), some (.int x4), some (.int x5), l6] [] h = ((ia_gR h 8 x0 0).bind fun a1 => ((ia_ld h 0 a1 1104).bind fun v2 => (if v2 ≤ x5 then ((ia_pF h 8 x0 12 (.int 0)).bind fun h3 => (if ia_ok h3 8 [.ref x0, .long (x4.toInt64)] = true then kxv (cl 71 [.ref x0, .long (x4.toInt64)] h3) (fun h4 => some (some (.int x3), h4)) else none)) else ((ia_gR h 8 x0 0).bind fun a5 => ((ia_ld h 0 a5 (0 + x5)).bind fun v6 => (if v6 = x1 then (if ia_ok h 8 [.ref x0, .int x5, .int x2, .int 0] = true then kxi (cl 126 [.ref x0, .int x5, .int x2, .int 0] h) (fun r8 h7 => dn 132 38 [some (.ref x0), some (.int x1), some (.int x2), some (.int x3), some (.int x4), some (.int x5), l6] [.int r8] h7) else none) else dn 132 38 [some (.ref x0), some (.int x1), some (.int x2), some (.int x3), some (.int x4), some (.int x5), l6] [.int 0] h)))))) := by
  refine (dq rfl rfl).trans ?_
  refine (dq rfl rfl).trans ?_
  refine (dq_getR rfl).trans (bn_c (fun a1 => ?_))
  refine (dq rfl rfl).trans ?_
  refine (dq_iald rfl).trans (bn_c (fun v2 => ?_))
  refine (dq_ige rfl).trans (ie_c ?_ ?_)
  · refine (dq rfl rfl).trans ?_
    refine (dq rfl rfl).trans ?_
    refine (dq_putI rfl).trans (bn_c (fun h3 => ?_))
    refine (dq rfl rfl).trans ?_
    refine (dq rfl rfl).trans ?_
    refine (dq rfl rfl).trans ?_
    refine (dq_kxv (z := 71) rfl (lq rfl) (lq rfl) (lq rfl) kd_71).trans (it_c (kxv_c (fun h4 => ?_)))
    refine (dq rfl rfl).trans ?_
    exact dq_ret1 rfl
  · refine (dq rfl rfl).trans ?_
    refine (dq_getR rfl).trans (bn_c (fun a5 => ?_))
    refine (dq rfl rfl).trans ?_
    refine (dq rfl rfl).trans ?_
    refine (dq rfl rfl).trans ?_
    refine (dq_iald rfl).trans (bn_c (fun v6 => ?_))
    refine (dq rfl rfl).trans ?_
    refine (dq_ine rfl).trans (ie_c ?_ ?_)
    · refine (dq rfl rfl).trans ?_
      refine (dq rfl rfl).trans ?_
      refine (dq rfl rfl).trans ?_
      refine (dq rfl rfl).trans ?_
      refine (dq_kxi (z := 126) rfl (lq rfl) (lq rfl) (lq rfl) kd_126).trans (it_c (kxi_c (fun r8 h7 => ?_)))
      refine (dq rfl rfl).trans ?_
      rfl
    · refine (dq rfl rfl).trans ?_
      rfl
theorem q_132_38 (x0 : Nat) (x1 : Int32) (x2 : Int32) (x3 : Int32) (x4 : Int32) (x5 : Int32) (l6 : Option Value) (s0 : Int32) (h : ia_H) : dn 132 38 [some (.ref x0), some (.int x1), some (.int x2), some (.int x3), some (.int x4), some (.int x5), l6] [.int s0] h = (if s0 = 0 then dn 132 17 [some (.ref x0), some (.int x1), some (.int x2), some (.int x3), some (.int x4), some (.int (x5 + 1)), some (.int s0)] [] h else (if x3 ≤ s0 then (if s0 ≤ x3 then dn 132 17 [some (.ref x0), some (.int x1), some (.int x2), some (.int s0), some (.int (x4 ||| (1 <<< (x5 &&& 31)))), some (.int (x5 + 1)), some (.int s0)] [] h else dn 132 17 [some (.ref x0), some (.int x1), some (.int x2), some (.int s0), some (.int (1 <<< (x5 &&& 31))), some (.int (x5 + 1)), some (.int s0)] [] h) else dn 132 17 [some (.ref x0), some (.int x1), some (.int x2), some (.int x3), some (.int x4), some (.int (x5 + 1)), some (.int s0)] [] h)) := by
  refine (dq rfl rfl).trans ?_
  refine (dq rfl rfl).trans ?_
  refine (dq_ifeq rfl).trans (ie_c ?_ ?_)
  · refine (dq_iinc (v := 1) rfl rfl (by decide)).trans ?_
    refine (dq rfl rfl).trans ?_
    rfl
  · refine (dq rfl rfl).trans ?_
    refine (dq rfl rfl).trans ?_
    refine (dq_ige rfl).trans (ie_c ?_ ?_)
    · refine (dq rfl rfl).trans ?_
      refine (dq rfl rfl).trans ?_
      refine (dq_ile rfl).trans (ie_c ?_ ?_)
      · refine (dq rfl rfl).trans ?_
        refine (dq rfl rfl).trans ?_
        refine (dq rfl rfl).trans ?_
        refine (dq rfl rfl).trans ?_
        refine (dq rfl rfl).trans ?_
        refine (dq rfl rfl).trans ?_
        refine (dq rfl rfl).trans ?_
        refine (dq rfl rfl).trans ?_
        refine (dq_iinc (v := 1) rfl rfl (by decide)).trans ?_
        refine (dq rfl rfl).trans ?_
        rfl
      · refine (dq rfl rfl).trans ?_
        refine (dq rfl rfl).trans ?_
        refine (dq rfl rfl).trans ?_
        refine (dq rfl rfl).trans ?_
        refine (dq rfl rfl).trans ?_
        refine (dq rfl rfl).trans ?_
        refine (dq rfl rfl).trans ?_
        refine (dq_iinc (v := 1) rfl rfl (by decide)).trans ?_
        refine (dq rfl rfl).trans ?_
        rfl
    · refine (dq rfl rfl).trans ?_
      refine (dq_iinc (v := 1) rfl rfl (by decide)).trans ?_
      refine (dq rfl rfl).trans ?_
      rfl
theorem q_133 (ab : Nat) (ac : Int32) (ad : Int32) (ae : Int32) (h : ia_H) : cl 133 [.ref ab, .int ac, .int ad, .int ae] h = ((ia_pF h 8 ab 13 (.int 0)).bind fun h1 => (if ia_ok h1 8 [.ref ab, .int ac] = true then kxi (cl 77 [.ref ab, .int ac] h1) (fun r3 h2 => (if r3 = 0 then some (some (.int (-1)), h2) else kxi (cl 75 [.int ad] h2) (fun r5 h4 => (if r5 = 0 then some (some (.int (-1)), h4) else kxi (cl 69 [.long (ae.toInt64), .long 1, .long 40] h4) (fun r7 h6 => (if r7 = 0 then some (some (.int (-1)), h6) else (if ia_ok h6 8 [.ref ab] = true then kxv (cl 81 [.ref ab] h6) (fun h8 => ((ia_gR h8 8 ab 0).bind fun a9 => ((ia_ld h8 0 a9 1105).bind fun v10 => dn 133 39 [some (.ref ab), some (.int ac), some (.int ad), some (.int ae), some (.int ((12 + (4 * ac)) + ad)), some (.int v10), some (.int 0), some (.int 1), some (.int 0), none, none] [] h8))) else none))))))) else none)) := by
  refine (dq rfl rfl).trans ?_
  refine (dq rfl rfl).trans ?_
  refine (dq_putI rfl).trans (bn_c (fun h1 => ?_))
  refine (dq rfl rfl).trans ?_
  refine (dq rfl rfl).trans ?_
  refine (dq_kxi (z := 77) rfl (lq rfl) (lq rfl) (lq rfl) kd_77).trans (it_c (kxi_c (fun r3 h2 => ?_)))
  refine (dq_ifeq rfl).trans (ie_c ?_ ?_)
  · refine (dq rfl rfl).trans ?_
    exact dq_ret1 rfl
  · refine (dq rfl rfl).trans ?_
    refine (dq_kxi0 (z := 75) rfl (lq rfl) (lq rfl) (lq rfl) kd_75).trans (kxi_c (fun r5 h4 => ?_))
    refine (dq_ifeq rfl).trans (ie_c ?_ ?_)
    · refine (dq rfl rfl).trans ?_
      exact dq_ret1 rfl
    · refine (dq rfl rfl).trans ?_
      refine (dq rfl rfl).trans ?_
      refine (dq rfl rfl).trans ?_
      refine (dq rfl rfl).trans ?_
      refine (dq_kxi0 (z := 69) rfl (lq rfl) (lq rfl) (lq rfl) kd_69).trans (kxi_c (fun r7 h6 => ?_))
      refine (dq_ifne rfl).trans (ie_c ?_ ?_)
      · refine (dq rfl rfl).trans ?_
        exact dq_ret1 rfl
      · refine (dq rfl rfl).trans ?_
        refine (dq_kxv (z := 81) rfl (lq rfl) (lq rfl) (lq rfl) kd_81).trans (it_c (kxv_c (fun h8 => ?_)))
        refine (dq rfl rfl).trans ?_
        refine (dq rfl rfl).trans ?_
        refine (dq rfl rfl).trans ?_
        refine (dq rfl rfl).trans ?_
        refine (dq rfl rfl).trans ?_
        refine (dq rfl rfl).trans ?_
        refine (dq rfl rfl).trans ?_
        refine (dq rfl rfl).trans ?_
        refine (dq rfl rfl).trans ?_
        refine (dq_getR rfl).trans (bn_c (fun a9 => ?_))
        refine (dq rfl rfl).trans ?_
        refine (dq_iald rfl).trans (bn_c (fun v10 => ?_))
        refine (dq rfl rfl).trans ?_
        refine (dq rfl rfl).trans ?_
        refine (dq rfl rfl).trans ?_
        refine (dq rfl rfl).trans ?_
        refine (dq rfl rfl).trans ?_
        refine (dq rfl rfl).trans ?_
        refine (dq rfl rfl).trans ?_
        rfl
theorem q_133_39 (x0 : Nat) (x1 : Int32) (x2 : Int32) (x3 : Int32) (x4 : Int32) (x5 : Int32) (x6 : Int32) (x7 : Int32) (x8 : Int32) (l9 : Option Value) (l10 : Option Value) (h : ia_H) : dn 133 39 [some (.ref x0), some (.int x1), some (.int x2), some (.int x3), some (.int x4), some (.int x5), some (.int x6), some (.int x7), some (.int x8), l9, l10] [] h = (if x3 ≤ x8 then dn 133 103 [some (.ref x0), some (.int x1), some (.int x2), some (.int x3), some (.int x4), some (.int x5), some (.int x6), some (.int x7), some (.int x8), l9, l10] [] h else (if x7 = 0 then dn 133 103 [some (.ref x0), some (.int x1), some (.int x2), some (.int x3), some (.int x4), some (.int x5), some (.int x6), some (.int x7), some (.int x8), l9, l10] [] h else (if ia_ok h 8 [.ref x0, .int x1, .int x2] = true then kxi (cl 90 [.ref x0, .int x1, .int x2] h) (fun r2 h1 => (if r2 = (-1) then ((ia_gR h1 8 x0 0).bind fun a6 => ((ia_ld h1 0 a6 x4).bind fun v7 => ((ia_st h1 0 a6 x4 (v7 + 1)).bind fun h8 => ((ia_gR h8 8 x0 0).bind fun a9 => ((ia_ld h8 0 a9 x4).bind fun v10 => (if ia_ok h8 8 [.ref x0, .int x2, .int v10] = true then kxi (cl 96 [.ref x0, .int x2, .int v10] h8) (fun r12 h11 => (if r12 = 0 then dn 133 76 [some (.ref x0), some (.int x1), some (.int x2), some (.int x3), some (.int x4), some (.int x5), some (.int x6), some (.int x7), some (.int x8), some (.int r2), some (.int r12)] [] h11 else (if ia_ok h11 8 [.ref x0, .int x1, .int x2, .int r12] = true then kxi (cl 86 [.ref x0, .int x1, .int x2, .int r12] h11) (fun r14 h13 => (if r14 = 0 then dn 133 79 [some (.ref x0), some (.int x1), some (.int x2), some (.int x3), some (.int x4), some (.int x5), some (.int x6), some (.int x7), some (.int x8), some (.int r2), some (.int r12)] [.int 0] h13 else dn 133 76 [some (.ref x0), some (.int x1), some (.int x2), some (.int x3), some (.int x4), some (.int x5), some (.int x6), some (.int x7), some (.int x8), some (.int r2), some (.int r12)] [] h13)) else none))) else none)))))) else (if ia_ok h1 8 [.ref x0, .int r2, .int 2] = true then kxi (cl 79 [.ref x0, .int r2, .int 2] h1) (fun r4 h3 => (if ia_ok h3 8 [.ref x0, .int r2, .int 2, .int (r4 - 1)] = true then kxv (cl 80 [.ref x0, .int r2, .int 2, .int (r4 - 1)] h3) (fun h5 => dn 133 92 [some (.ref x0), some (.int x1), some (.int x2), some (.int x3), some (.int x4), some (.int x5), some (.int (x6 + 1)), some (.int x7), some (.int x8), some (.int r2), l10] [] h5) else none)) else none))) else none))) := by
  refine (dq rfl rfl).trans ?_
  refine (dq rfl rfl).trans ?_
  refine (dq_ige rfl).trans (ie_c ?_ ?_)
  · rfl
  · refine (dq rfl rfl).trans ?_
    refine (dq_ifeq rfl).trans (ie_c ?_ ?_)
    · rfl
    · refine (dq rfl rfl).trans ?_
      refine (dq rfl rfl).trans ?_
      refine (dq rfl rfl).trans ?_
      refine (dq_kxi (z := 90) rfl (lq rfl) (lq rfl) (lq rfl) kd_90).trans (it_c (kxi_c (fun r2 h1 => ?_)))
      refine (dq rfl rfl).trans ?_
      refine (dq rfl rfl).trans ?_
      refine (dq rfl rfl).trans ?_
      refine (dq_ine rfl).trans (ie_c ?_ ?_)
      · refine (dq rfl rfl).trans ?_
        refine (dq_getR rfl).trans (bn_c (fun a6 => ?_))
        refine (dq rfl rfl).trans ?_
        refine (dq rfl rfl).trans ?_
        refine (dq_iald rfl).trans (bn_c (fun v7 => ?_))
        refine (dq rfl rfl).trans ?_
        refine (dq rfl rfl).trans ?_
        refine (dq_iast rfl).trans (bn_c (fun h8 => ?_))
        refine (dq rfl rfl).trans ?_
        refine (dq rfl rfl).trans ?_
        refine (dq rfl rfl).trans ?_
        refine (dq_getR rfl).trans (bn_c (fun a9 => ?_))
        refine (dq rfl rfl).trans ?_
        refine (dq_iald rfl).trans (bn_c (fun v10 => ?_))
        refine (dq_kxi (z := 96) rfl (lq rfl) (lq rfl) (lq rfl) kd_96).trans (it_c (kxi_c (fun r12 h11 => ?_)))
        refine (dq rfl rfl).trans ?_
        refine (dq rfl rfl).trans ?_
        refine (dq_ifeq rfl).trans (ie_c ?_ ?_)
        · rfl
        · refine (dq rfl rfl).trans ?_
          refine (dq rfl rfl).trans ?_
          refine (dq rfl rfl).trans ?_
          refine (dq rfl rfl).trans ?_
          refine (dq_kxi (z := 86) rfl (lq rfl) (lq rfl) (lq rfl) kd_86).trans (it_c (kxi_c (fun r14 h13 => ?_)))
          refine (dq_ifeq rfl).trans (ie_c ?_ ?_)
          · refine (dq rfl rfl).trans ?_
            rfl
          · rfl
      · refine (dq rfl rfl).trans ?_
        refine (dq rfl rfl).trans ?_
        refine (dq rfl rfl).trans ?_
        refine (dq rfl rfl).trans ?_
        refine (dq rfl rfl).trans ?_
        refine (dq rfl rfl).trans ?_
        refine (dq_kxi (z := 79) rfl (lq rfl) (lq rfl) (lq rfl) kd_79).trans (it_c (kxi_c (fun r4 h3 => ?_)))
        refine (dq rfl rfl).trans ?_
        refine (dq rfl rfl).trans ?_
        refine (dq_kxv (z := 80) rfl (lq rfl) (lq rfl) (lq rfl) kd_80).trans (it_c (kxv_c (fun h5 => ?_)))
        refine (dq_iinc (v := 1) rfl rfl (by decide)).trans ?_
        rfl
theorem q_133_76 (x0 : Nat) (x1 : Int32) (x2 : Int32) (x3 : Int32) (x4 : Int32) (x5 : Int32) (x6 : Int32) (x7 : Int32) (x8 : Int32) (x9 : Int32) (x10 : Int32) (h : ia_H) : dn 133 76 [some (.ref x0), some (.int x1), some (.int x2), some (.int x3), some (.int x4), some (.int x5), some (.int x6), some (.int x7), some (.int x8), some (.int x9), some (.int x10)] [] h = dn 133 79 [some (.ref x0), some (.int x1), some (.int x2), some (.int x3), some (.int x4), some (.int x5), some (.int x6), some (.int x7), some (.int x8), some (.int x9), some (.int x10)] [.int 1] h := by
  refine (dq rfl rfl).trans ?_
  refine (dq rfl rfl).trans ?_
  rfl
theorem q_133_79 (x0 : Nat) (x1 : Int32) (x2 : Int32) (x3 : Int32) (x4 : Int32) (x5 : Int32) (x6 : Int32) (x7 : Int32) (x8 : Int32) (x9 : Int32) (x10 : Int32) (s0 : Int32) (h : ia_H) : dn 133 79 [some (.ref x0), some (.int x1), some (.int x2), some (.int x3), some (.int x4), some (.int x5), some (.int x6), some (.int x7), some (.int x8), some (.int x9), some (.int x10)] [.int s0] h = dn 133 92 [some (.ref x0), some (.int x1), some (.int x2), some (.int x3), some (.int x4), some (.int x5), some (.int x6), some (.int s0), some (.int x8), some (.int x9), some (.int x10)] [] h := by
  refine (dq rfl rfl).trans ?_
  refine (dq rfl rfl).trans ?_
  rfl
theorem q_133_92 (x0 : Nat) (x1 : Int32) (x2 : Int32) (x3 : Int32) (x4 : Int32) (x5 : Int32) (x6 : Int32) (x7 : Int32) (x8 : Int32) (x9 : Int32) (l10 : Option Value) (h : ia_H) : dn 133 92 [some (.ref x0), some (.int x1), some (.int x2), some (.int x3), some (.int x4), some (.int x5), some (.int x6), some (.int x7), some (.int x8), some (.int x9), l10] [] h = ((ia_gR h 8 x0 0).bind fun a1 => ((ia_ld h 0 a1 (0 + x1)).bind fun v2 => (if ia_ok h 8 [.ref x0, .int v2, .int x2] = true then kxv (cl 94 [.ref x0, .int v2, .int x2] h) (fun h3 => dn 133 39 [some (.ref x0), some (.int x1), some (.int x2), some (.int x3), some (.int x4), some (.int x5), some (.int x6), some (.int x7), some (.int (x8 + 1)), some (.int x9), l10] [] h3) else none))) := by
  refine (dq rfl rfl).trans ?_
  refine (dq rfl rfl).trans ?_
  refine (dq_getR rfl).trans (bn_c (fun a1 => ?_))
  refine (dq rfl rfl).trans ?_
  refine (dq rfl rfl).trans ?_
  refine (dq rfl rfl).trans ?_
  refine (dq_iald rfl).trans (bn_c (fun v2 => ?_))
  refine (dq rfl rfl).trans ?_
  refine (dq_kxv (z := 94) rfl (lq rfl) (lq rfl) (lq rfl) kd_94).trans (it_c (kxv_c (fun h3 => ?_)))
  refine (dq_iinc (v := 1) rfl rfl (by decide)).trans ?_
  refine (dq rfl rfl).trans ?_
  rfl
theorem q_133_103 (x0 : Nat) (x1 : Int32) (x2 : Int32) (x3 : Int32) (x4 : Int32) (x5 : Int32) (x6 : Int32) (x7 : Int32) (x8 : Int32) (l9 : Option Value) (l10 : Option Value) (h : ia_H) : dn 133 103 [some (.ref x0), some (.int x1), some (.int x2), some (.int x3), some (.int x4), some (.int x5), some (.int x6), some (.int x7), some (.int x8), l9, l10] [] h = ((ia_gR h 8 x0 0).bind fun a1 => ((ia_ld h 0 a1 1105).bind fun v2 => ((ia_gR h 8 x0 0).bind fun a3 => ((ia_ld h 0 a3 x4).bind fun v4 => (if ia_ok h 8 [.ref x0] = true then kxv (cl 82 [.ref x0] h) (fun h5 => (if x7 = 0 then some (some (.int (-4)), h5) else ((ia_pF h5 8 x0 12 (.int 0)).bind fun h6 => (if ia_ok h6 8 [.ref x0, .long ((v2 - x5).toInt64)] = true then kxv (cl 71 [.ref x0, .long ((v2 - x5).toInt64)] h6) (fun h7 => (if ia_ok h7 8 [.ref x0, .long (v4.toInt64)] = true then kxv (cl 71 [.ref x0, .long (v4.toInt64)] h7) (fun h8 => some (some (.int x6), h8)) else none)) else none)))) else none))))) := by
  refine (dq rfl rfl).trans ?_
  refine (dq_getR rfl).trans (bn_c (fun a1 => ?_))
  refine (dq rfl rfl).trans ?_
  refine (dq_iald rfl).trans (bn_c (fun v2 => ?_))
  refine (dq rfl rfl).trans ?_
  refine (dq rfl rfl).trans ?_
  refine (dq rfl rfl).trans ?_
  refine (dq rfl rfl).trans ?_
  refine (dq_getR rfl).trans (bn_c (fun a3 => ?_))
  refine (dq rfl rfl).trans ?_
  refine (dq_iald rfl).trans (bn_c (fun v4 => ?_))
  refine (dq rfl rfl).trans ?_
  refine (dq rfl rfl).trans ?_
  refine (dq_kxv (z := 82) rfl (lq rfl) (lq rfl) (lq rfl) kd_82).trans (it_c (kxv_c (fun h5 => ?_)))
  refine (dq rfl rfl).trans ?_
  refine (dq_ifne rfl).trans (ie_c ?_ ?_)
  · refine (dq rfl rfl).trans ?_
    exact dq_ret1 rfl
  · refine (dq rfl rfl).trans ?_
    refine (dq rfl rfl).trans ?_
    refine (dq_putI rfl).trans (bn_c (fun h6 => ?_))
    refine (dq rfl rfl).trans ?_
    refine (dq rfl rfl).trans ?_
    refine (dq rfl rfl).trans ?_
    refine (dq_kxv (z := 71) rfl (lq rfl) (lq rfl) (lq rfl) kd_71).trans (it_c (kxv_c (fun h7 => ?_)))
    refine (dq rfl rfl).trans ?_
    refine (dq rfl rfl).trans ?_
    refine (dq rfl rfl).trans ?_
    refine (dq_kxv (z := 71) rfl (lq rfl) (lq rfl) (lq rfl) kd_71).trans (it_c (kxv_c (fun h8 => ?_)))
    refine (dq rfl rfl).trans ?_
    exact dq_ret1 rfl
theorem q_134 (ab : Nat) (ac : Int32) (ad : Int32) (h : ia_H) : cl 134 [.ref ab, .int ac, .int ad] h = ((ia_pF h 8 ab 13 (.int 0)).bind fun h1 => kxi (cl 75 [.int ac] h1) (fun r3 h2 => (if r3 = 0 then some (some (.int (-1)), h2) else kxi (cl 69 [.long (ad.toInt64), .long 0, .long 40] h2) (fun r5 h4 => (if r5 = 0 then some (some (.int (-1)), h4) else dn 134 20 [some (.ref ab), some (.int ac), some (.int ad), some (.int 0), some (.int 0), some (.int 0)] [] h4))))) := by
  refine (dq rfl rfl).trans ?_
  refine (dq rfl rfl).trans ?_
  refine (dq_putI rfl).trans (bn_c (fun h1 => ?_))
  refine (dq rfl rfl).trans ?_
  refine (dq_kxi0 (z := 75) rfl (lq rfl) (lq rfl) (lq rfl) kd_75).trans (kxi_c (fun r3 h2 => ?_))
  refine (dq_ifeq rfl).trans (ie_c ?_ ?_)
  · refine (dq rfl rfl).trans ?_
    exact dq_ret1 rfl
  · refine (dq rfl rfl).trans ?_
    refine (dq rfl rfl).trans ?_
    refine (dq rfl rfl).trans ?_
    refine (dq rfl rfl).trans ?_
    refine (dq_kxi0 (z := 69) rfl (lq rfl) (lq rfl) (lq rfl) kd_69).trans (kxi_c (fun r5 h4 => ?_))
    refine (dq_ifne rfl).trans (ie_c ?_ ?_)
    · refine (dq rfl rfl).trans ?_
      exact dq_ret1 rfl
    · refine (dq rfl rfl).trans ?_
      refine (dq rfl rfl).trans ?_
      refine (dq rfl rfl).trans ?_
      refine (dq rfl rfl).trans ?_
      refine (dq rfl rfl).trans ?_
      refine (dq rfl rfl).trans ?_
      rfl
theorem q_134_20 (x0 : Nat) (x1 : Int32) (x2 : Int32) (x3 : Int32) (x4 : Int32) (x5 : Int32) (h : ia_H) : dn 134 20 [some (.ref x0), some (.int x1), some (.int x2), some (.int x3), some (.int x4), some (.int x5)] [] h = ((ia_gR h 8 x0 6).bind fun a1 => ((ia_ld h 0 a1 ((4 * x1) + 3)).bind fun v2 => (if v2 ≤ x5 then ((ia_pF h 8 x0 12 (.int 0)).bind fun h3 => (if ia_ok h3 8 [.ref x0, .long (x4.toInt64)] = true then kxv (cl 71 [.ref x0, .long (x4.toInt64)] h3) (fun h4 => some (some (.int x3), h4)) else none)) else ((ia_gR h 8 x0 7).bind fun a5 => ((ia_ld h 0 a5 ((4 * x1) + x5)).bind fun v6 => (if v6 ≤ x2 then ((ia_gR h 8 x0 8).bind fun a7 => ((ia_ld h 0 a7 ((4 * x1) + x5)).bind fun v8 => dn 134 20 [some (.ref x0), some (.int x1), some (.int x2), some (.int (x3 + v8)), some (.int (x4 + 1)), some (.int (x5 + 1))] [] h)) else dn 134 20 [some (.ref x0), some (.int x1), some (.int x2), some (.int x3), some (.int x4), some (.int (x5 + 1))] [] h)))))) := by
  refine (dq rfl rfl).trans ?_
  refine (dq rfl rfl).trans ?_
  refine (dq_getR rfl).trans (bn_c (fun a1 => ?_))
  refine (dq rfl rfl).trans ?_
  refine (dq rfl rfl).trans ?_
  refine (dq rfl rfl).trans ?_
  refine (dq rfl rfl).trans ?_
  refine (dq rfl rfl).trans ?_
  refine (dq_iald rfl).trans (bn_c (fun v2 => ?_))
  refine (dq_ige rfl).trans (ie_c ?_ ?_)
  · refine (dq rfl rfl).trans ?_
    refine (dq rfl rfl).trans ?_
    refine (dq_putI rfl).trans (bn_c (fun h3 => ?_))
    refine (dq rfl rfl).trans ?_
    refine (dq rfl rfl).trans ?_
    refine (dq rfl rfl).trans ?_
    refine (dq_kxv (z := 71) rfl (lq rfl) (lq rfl) (lq rfl) kd_71).trans (it_c (kxv_c (fun h4 => ?_)))
    refine (dq rfl rfl).trans ?_
    exact dq_ret1 rfl
  · refine (dq rfl rfl).trans ?_
    refine (dq_getR rfl).trans (bn_c (fun a5 => ?_))
    refine (dq rfl rfl).trans ?_
    refine (dq rfl rfl).trans ?_
    refine (dq rfl rfl).trans ?_
    refine (dq rfl rfl).trans ?_
    refine (dq rfl rfl).trans ?_
    refine (dq_iald rfl).trans (bn_c (fun v6 => ?_))
    refine (dq rfl rfl).trans ?_
    refine (dq_ile rfl).trans (ie_c ?_ ?_)
    · refine (dq rfl rfl).trans ?_
      refine (dq rfl rfl).trans ?_
      refine (dq_getR rfl).trans (bn_c (fun a7 => ?_))
      refine (dq rfl rfl).trans ?_
      refine (dq rfl rfl).trans ?_
      refine (dq rfl rfl).trans ?_
      refine (dq rfl rfl).trans ?_
      refine (dq rfl rfl).trans ?_
      refine (dq_iald rfl).trans (bn_c (fun v8 => ?_))
      refine (dq rfl rfl).trans ?_
      refine (dq rfl rfl).trans ?_
      refine (dq_iinc (v := 1) rfl rfl (by decide)).trans ?_
      refine (dq_iinc (v := 1) rfl rfl (by decide)).trans ?_
      refine (dq rfl rfl).trans ?_
      rfl
    · refine (dq rfl rfl).trans ?_
      refine (dq_iinc (v := 1) rfl rfl (by decide)).trans ?_
      refine (dq rfl rfl).trans ?_
      rfl
theorem q_135 (ab : Nat) (ac : Int32) (h : ia_H) : cl 135 [.ref ab, .int ac] h = ((ia_gR h 8 ab 30).bind fun a1 => ((ia_gI h 8 ab 31).bind fun v2 => ((ia_st h 3 a1 v2 ((ac.toInt8.toInt32).toInt8.toInt32)).bind fun h3 => ((ia_gI h3 8 ab 31).bind fun v4 => ((ia_pF h3 8 ab 31 (.int (v4 + 1))).bind fun h5 => some (none, h5)))))) := by
  refine (dq rfl rfl).trans ?_
  refine (dq_getR rfl).trans (bn_c (fun a1 => ?_))
  refine (dq rfl rfl).trans ?_
  refine (dq_getI rfl).trans (bn_c (fun v2 => ?_))
  refine (dq rfl rfl).trans ?_
  refine (dq rfl rfl).trans ?_
  refine (dq_bast rfl).trans (bn_c (fun h3 => ?_))
  refine (dq rfl rfl).trans ?_
  refine (dq rfl rfl).trans ?_
  refine (dq_getI rfl).trans (bn_c (fun v4 => ?_))
  refine (dq rfl rfl).trans ?_
  refine (dq rfl rfl).trans ?_
  refine (dq_putI rfl).trans (bn_c (fun h5 => ?_))
  exact dq_ret0 rfl
theorem q_136 (ab : Nat) (ac : Int32) (h : ia_H) : cl 136 [.ref ab, .int ac] h = (if ac ≤ 9 then (if ia_ok h 8 [.ref ab, .int (48 + (ac - ac / 10 * 10))] = true then kxv (cl 135 [.ref ab, .int (48 + (ac - ac / 10 * 10))] h) (fun h1 => some (none, h1)) else none) else (if ia_ok h 8 [.ref ab, .int (48 + (ac / 10))] = true then kxv (cl 135 [.ref ab, .int (48 + (ac / 10))] h) (fun h2 => (if ia_ok h2 8 [.ref ab, .int (48 + (ac - ac / 10 * 10))] = true then kxv (cl 135 [.ref ab, .int (48 + (ac - ac / 10 * 10))] h2) (fun h3 => some (none, h3)) else none)) else none)) := by
  refine (dq rfl rfl).trans ?_
  refine (dq rfl rfl).trans ?_
  refine (dq_ile rfl).trans (ie_c ?_ ?_)
  · refine (dq rfl rfl).trans ?_
    refine (dq rfl rfl).trans ?_
    refine (dq rfl rfl).trans ?_
    refine (dq rfl rfl).trans ?_
    refine (dq_i2zl rfl (by decide)).trans ?_
    refine (dq rfl rfl).trans ?_
    refine (dq_kxv (z := 135) rfl (lq rfl) (lq rfl) (lq rfl) kd_135).trans (it_c (kxv_c (fun h1 => ?_)))
    exact dq_ret0 rfl
  · refine (dq rfl rfl).trans ?_
    refine (dq rfl rfl).trans ?_
    refine (dq rfl rfl).trans ?_
    refine (dq rfl rfl).trans ?_
    refine (dq_i2zl rfl (by decide)).trans ?_
    refine (dq rfl rfl).trans ?_
    refine (dq_kxv (z := 135) rfl (lq rfl) (lq rfl) (lq rfl) kd_135).trans (it_c (kxv_c (fun h2 => ?_)))
    refine (dq rfl rfl).trans ?_
    refine (dq rfl rfl).trans ?_
    refine (dq rfl rfl).trans ?_
    refine (dq rfl rfl).trans ?_
    refine (dq_i2zl rfl (by decide)).trans ?_
    refine (dq rfl rfl).trans ?_
    refine (dq_kxv (z := 135) rfl (lq rfl) (lq rfl) (lq rfl) kd_135).trans (it_c (kxv_c (fun h3 => ?_)))
    exact dq_ret0 rfl
theorem q_137 (ab : Nat) (ac : Int32) (h : ia_H) : cl 137 [.ref ab, .int ac] h = (if ia_ok h 8 [.ref ab, .int ac] = true then kxv (cl 136 [.ref ab, .int ac] h) (fun h1 => ((ia_gR h1 8 ab 6).bind fun a2 => ((ia_ld h1 0 a2 (4 * ac)).bind fun v3 => (if v3 = 1 then dn 137 15 [some (.ref ab), some (.int ac), none] [.int 97, .ref ab] h1 else dn 137 15 [some (.ref ab), some (.int ac), none] [.int 111, .ref ab] h1)))) else none) := by
  refine (dq rfl rfl).trans ?_
  refine (dq rfl rfl).trans ?_
  refine (dq_kxv (z := 136) rfl (lq rfl) (lq rfl) (lq rfl) kd_136).trans (it_c (kxv_c (fun h1 => ?_)))
  refine (dq rfl rfl).trans ?_
  refine (dq rfl rfl).trans ?_
  refine (dq_getR rfl).trans (bn_c (fun a2 => ?_))
  refine (dq rfl rfl).trans ?_
  refine (dq rfl rfl).trans ?_
  refine (dq rfl rfl).trans ?_
  refine (dq_iald rfl).trans (bn_c (fun v3 => ?_))
  refine (dq rfl rfl).trans ?_
  refine (dq_ine rfl).trans (ie_c ?_ ?_)
  · refine (dq rfl rfl).trans ?_
    refine (dq rfl rfl).trans ?_
    rfl
  · refine (dq rfl rfl).trans ?_
    rfl
theorem q_137_15 (x0 : Nat) (x1 : Int32) (l2 : Option Value) (s0 : Nat) (s1 : Int32) (h : ia_H) : dn 137 15 [some (.ref x0), some (.int x1), l2] [.int s1, .ref s0] h = (if ia_ok h 8 [.ref s0, .int s1] = true then kxv (cl 135 [.ref s0, .int s1] h) (fun h1 => ((ia_gR h1 8 x0 6).bind fun a2 => ((ia_ld h1 0 a2 ((4 * x1) + 1)).bind fun v3 => (if ia_ok h1 8 [.ref x0, .int v3] = true then kxv (cl 136 [.ref x0, .int v3] h1) (fun h4 => (if ia_ok h4 8 [.ref x0, .int 120] = true then kxv (cl 135 [.ref x0, .int 120] h4) (fun h5 => ((ia_gR h5 8 x0 6).bind fun a6 => ((ia_ld h5 0 a6 ((4 * x1) + 2)).bind fun v7 => (if ia_ok h5 8 [.ref x0, .int v7] = true then kxv (cl 136 [.ref x0, .int v7] h5) (fun h8 => dn 137 41 [some (.ref x0), some (.int x1), some (.int 0)] [] h8) else none)))) else none)) else none)))) else none) := by
  refine (dq_kxv (z := 135) rfl (lq rfl) (lq rfl) (lq rfl) kd_135).trans (it_c (kxv_c (fun h1 => ?_)))
  refine (dq rfl rfl).trans ?_
  refine (dq rfl rfl).trans ?_
  refine (dq_getR rfl).trans (bn_c (fun a2 => ?_))
  refine (dq rfl rfl).trans ?_
  refine (dq rfl rfl).trans ?_
  refine (dq rfl rfl).trans ?_
  refine (dq rfl rfl).trans ?_
  refine (dq rfl rfl).trans ?_
  refine (dq_iald rfl).trans (bn_c (fun v3 => ?_))
  refine (dq_kxv (z := 136) rfl (lq rfl) (lq rfl) (lq rfl) kd_136).trans (it_c (kxv_c (fun h4 => ?_)))
  refine (dq rfl rfl).trans ?_
  refine (dq rfl rfl).trans ?_
  refine (dq_kxv (z := 135) rfl (lq rfl) (lq rfl) (lq rfl) kd_135).trans (it_c (kxv_c (fun h5 => ?_)))
  refine (dq rfl rfl).trans ?_
  refine (dq rfl rfl).trans ?_
  refine (dq_getR rfl).trans (bn_c (fun a6 => ?_))
  refine (dq rfl rfl).trans ?_
  refine (dq rfl rfl).trans ?_
  refine (dq rfl rfl).trans ?_
  refine (dq rfl rfl).trans ?_
  refine (dq rfl rfl).trans ?_
  refine (dq_iald rfl).trans (bn_c (fun v7 => ?_))
  refine (dq_kxv (z := 136) rfl (lq rfl) (lq rfl) (lq rfl) kd_136).trans (it_c (kxv_c (fun h8 => ?_)))
  refine (dq rfl rfl).trans ?_
  refine (dq rfl rfl).trans ?_
  rfl
theorem q_137_41 (x0 : Nat) (x1 : Int32) (x2 : Int32) (h : ia_H) : dn 137 41 [some (.ref x0), some (.int x1), some (.int x2)] [] h = ((ia_gR h 8 x0 6).bind fun a1 => ((ia_ld h 0 a1 ((4 * x1) + 3)).bind fun v2 => (if v2 ≤ x2 then some (none, h) else (if x2 = 0 then dn 137 57 [some (.ref x0), some (.int x1), some (.int x2)] [.int 58, .ref x0] h else dn 137 57 [some (.ref x0), some (.int x1), some (.int x2)] [.int 44, .ref x0] h)))) := by
  refine (dq rfl rfl).trans ?_
  refine (dq rfl rfl).trans ?_
  refine (dq_getR rfl).trans (bn_c (fun a1 => ?_))
  refine (dq rfl rfl).trans ?_
  refine (dq rfl rfl).trans ?_
  refine (dq rfl rfl).trans ?_
  refine (dq rfl rfl).trans ?_
  refine (dq rfl rfl).trans ?_
  refine (dq_iald rfl).trans (bn_c (fun v2 => ?_))
  refine (dq_ige rfl).trans (ie_c ?_ ?_)
  · exact dq_ret0 rfl
  · refine (dq rfl rfl).trans ?_
    refine (dq rfl rfl).trans ?_
    refine (dq_ifne rfl).trans (ie_c ?_ ?_)
    · refine (dq rfl rfl).trans ?_
      refine (dq rfl rfl).trans ?_
      rfl
    · refine (dq rfl rfl).trans ?_
      rfl
theorem q_137_57 (x0 : Nat) (x1 : Int32) (x2 : Int32) (s0 : Nat) (s1 : Int32) (h : ia_H) : dn 137 57 [some (.ref x0), some (.int x1), some (.int x2)] [.int s1, .ref s0] h = (if ia_ok h 8 [.ref s0, .int s1] = true then kxv (cl 135 [.ref s0, .int s1] h) (fun h1 => ((ia_gR h1 8 x0 7).bind fun a2 => ((ia_ld h1 0 a2 ((4 * x1) + x2)).bind fun v3 => (if ia_ok h1 8 [.ref x0, .int v3] = true then kxv (cl 136 [.ref x0, .int v3] h1) (fun h4 => (if ia_ok h4 8 [.ref x0, .int 47] = true then kxv (cl 135 [.ref x0, .int 47] h4) (fun h5 => ((ia_gR h5 8 x0 8).bind fun a6 => ((ia_ld h5 0 a6 ((4 * x1) + x2)).bind fun v7 => (if ia_ok h5 8 [.ref x0, .int v7] = true then kxv (cl 136 [.ref x0, .int v7] h5) (fun h8 => dn 137 41 [some (.ref x0), some (.int x1), some (.int (x2 + 1))] [] h8) else none)))) else none)) else none)))) else none) := by
  refine (dq_kxv (z := 135) rfl (lq rfl) (lq rfl) (lq rfl) kd_135).trans (it_c (kxv_c (fun h1 => ?_)))
  refine (dq rfl rfl).trans ?_
  refine (dq rfl rfl).trans ?_
  refine (dq_getR rfl).trans (bn_c (fun a2 => ?_))
  refine (dq rfl rfl).trans ?_
  refine (dq rfl rfl).trans ?_
  refine (dq rfl rfl).trans ?_
  refine (dq rfl rfl).trans ?_
  refine (dq rfl rfl).trans ?_
  refine (dq_iald rfl).trans (bn_c (fun v3 => ?_))
  refine (dq_kxv (z := 136) rfl (lq rfl) (lq rfl) (lq rfl) kd_136).trans (it_c (kxv_c (fun h4 => ?_)))
  refine (dq rfl rfl).trans ?_
  refine (dq rfl rfl).trans ?_
  refine (dq_kxv (z := 135) rfl (lq rfl) (lq rfl) (lq rfl) kd_135).trans (it_c (kxv_c (fun h5 => ?_)))
  refine (dq rfl rfl).trans ?_
  refine (dq rfl rfl).trans ?_
  refine (dq_getR rfl).trans (bn_c (fun a6 => ?_))
  refine (dq rfl rfl).trans ?_
  refine (dq rfl rfl).trans ?_
  refine (dq rfl rfl).trans ?_
  refine (dq rfl rfl).trans ?_
  refine (dq rfl rfl).trans ?_
  refine (dq_iald rfl).trans (bn_c (fun v7 => ?_))
  refine (dq_kxv (z := 136) rfl (lq rfl) (lq rfl) (lq rfl) kd_136).trans (it_c (kxv_c (fun h8 => ?_)))
  refine (dq_iinc (v := 1) rfl rfl (by decide)).trans ?_
  refine (dq rfl rfl).trans ?_
  rfl
theorem q_138 (ab : Nat) (ac : Int32) (h : ia_H) : cl 138 [.ref ab, .int ac] h = ((ia_pF h 8 ab 13 (.int 0)).bind fun h1 => ((ia_pF h1 8 ab 31 (.int 0)).bind fun h2 => dn 138 8 [some (.ref ab), some (.int ac), some (.int 0)] [] h2)) := by
  refine (dq rfl rfl).trans ?_
  refine (dq rfl rfl).trans ?_
  refine (dq_putI rfl).trans (bn_c (fun h1 => ?_))
  refine (dq rfl rfl).trans ?_
  refine (dq rfl rfl).trans ?_
  refine (dq_putI rfl).trans (bn_c (fun h2 => ?_))
  refine (dq rfl rfl).trans ?_
  refine (dq rfl rfl).trans ?_
  rfl
theorem q_138_8 (x0 : Nat) (x1 : Int32) (x2 : Int32) (h : ia_H) : dn 138 8 [some (.ref x0), some (.int x1), some (.int x2)] [] h = (if 4 ≤ x2 then (if x1 = (-1) then ((ia_gI h 8 x0 31).bind fun v6 => some (some (.int v6), h)) else ((ia_gI h 8 x0 31).bind fun v1 => kxi (cl 69 [.long (x1.toInt64), .long 0, .long ((v1 - 1).toInt64)] h) (fun r3 h2 => (if r3 = 0 then some (some (.int (-1)), h2) else ((ia_gR h2 8 x0 30).bind fun a4 => ((ia_ld h2 3 a4 x1).bind fun v5 => some (some (.int v5), h2))))))) else (if x2 ≤ 0 then (if ia_ok h 8 [.ref x0, .int x2] = true then kxv (cl 137 [.ref x0, .int x2] h) (fun h7 => dn 138 8 [some (.ref x0), some (.int x1), some (.int (x2 + 1))] [] h7) else none) else (if ia_ok h 8 [.ref x0, .int 59] = true then kxv (cl 135 [.ref x0, .int 59] h) (fun h8 => (if ia_ok h8 8 [.ref x0, .int x2] = true then kxv (cl 137 [.ref x0, .int x2] h8) (fun h9 => dn 138 8 [some (.ref x0), some (.int x1), some (.int (x2 + 1))] [] h9) else none)) else none))) := by
  refine (dq rfl rfl).trans ?_
  refine (dq rfl rfl).trans ?_
  refine (dq_ige rfl).trans (ie_c ?_ ?_)
  · refine (dq rfl rfl).trans ?_
    refine (dq rfl rfl).trans ?_
    refine (dq_ine rfl).trans (ie_c ?_ ?_)
    · refine (dq rfl rfl).trans ?_
      refine (dq_getI rfl).trans (bn_c (fun v6 => ?_))
      refine (dq rfl rfl).trans ?_
      exact dq_ret1 rfl
    · refine (dq rfl rfl).trans ?_
      refine (dq rfl rfl).trans ?_
      refine (dq rfl rfl).trans ?_
      refine (dq rfl rfl).trans ?_
      refine (dq_getI rfl).trans (bn_c (fun v1 => ?_))
      refine (dq rfl rfl).trans ?_
      refine (dq rfl rfl).trans ?_
      refine (dq rfl rfl).trans ?_
      refine (dq_kxi0 (z := 69) rfl (lq rfl) (lq rfl) (lq rfl) kd_69).trans (kxi_c (fun r3 h2 => ?_))
      refine (dq_ifeq rfl).trans (ie_c ?_ ?_)
      · refine (dq rfl rfl).trans ?_
        exact dq_ret1 rfl
      · refine (dq rfl rfl).trans ?_
        refine (dq_getR rfl).trans (bn_c (fun a4 => ?_))
        refine (dq rfl rfl).trans ?_
        refine (dq_ald rfl).trans (bn_c (fun v5 => ?_))
        refine (dq rfl rfl).trans ?_
        exact dq_ret1 rfl
  · refine (dq rfl rfl).trans ?_
    refine (dq_ifle rfl).trans (ie_c ?_ ?_)
    · refine (dq rfl rfl).trans ?_
      refine (dq rfl rfl).trans ?_
      refine (dq_kxv (z := 137) rfl (lq rfl) (lq rfl) (lq rfl) kd_137).trans (it_c (kxv_c (fun h7 => ?_)))
      refine (dq_iinc (v := 1) rfl rfl (by decide)).trans ?_
      refine (dq rfl rfl).trans ?_
      rfl
    · refine (dq rfl rfl).trans ?_
      refine (dq rfl rfl).trans ?_
      refine (dq_kxv (z := 135) rfl (lq rfl) (lq rfl) (lq rfl) kd_135).trans (it_c (kxv_c (fun h8 => ?_)))
      refine (dq rfl rfl).trans ?_
      refine (dq rfl rfl).trans ?_
      refine (dq_kxv (z := 137) rfl (lq rfl) (lq rfl) (lq rfl) kd_137).trans (it_c (kxv_c (fun h9 => ?_)))
      refine (dq_iinc (v := 1) rfl rfl (by decide)).trans ?_
      refine (dq rfl rfl).trans ?_
      rfl
theorem q_139 (ab : Nat) (ac : Int32) (ad : Int32) (h : ia_H) : cl 139 [.ref ab, .int ac, .int ad] h = ((ia_pF h 8 ab 13 (.int 0)).bind fun h1 => (if ia_ok h1 8 [.ref ab, .int ac] = true then kxi (cl 77 [.ref ab, .int ac] h1) (fun r3 h2 => (if r3 = 0 then some (some (.int (-1)), h2) else kxi (cl 75 [.int ad] h2) (fun r5 h4 => (if r5 = 0 then some (some (.int (-1)), h4) else ((ia_gR h4 8 ab 0).bind fun a6 => ((ia_ld h4 0 a6 ((12 + (4 * ac)) + ad)).bind fun v7 => dn 139 25 [some (.ref ab), some (.int ac), some (.int ad), some (.int v7), some (.int 0), none] [] h4)))))) else none)) := by
  refine (dq rfl rfl).trans ?_
  refine (dq rfl rfl).trans ?_
  refine (dq_putI rfl).trans (bn_c (fun h1 => ?_))
  refine (dq rfl rfl).trans ?_
  refine (dq rfl rfl).trans ?_
  refine (dq_kxi (z := 77) rfl (lq rfl) (lq rfl) (lq rfl) kd_77).trans (it_c (kxi_c (fun r3 h2 => ?_)))
  refine (dq_ifeq rfl).trans (ie_c ?_ ?_)
  · refine (dq rfl rfl).trans ?_
    exact dq_ret1 rfl
  · refine (dq rfl rfl).trans ?_
    refine (dq_kxi0 (z := 75) rfl (lq rfl) (lq rfl) (lq rfl) kd_75).trans (kxi_c (fun r5 h4 => ?_))
    refine (dq_ifne rfl).trans (ie_c ?_ ?_)
    · refine (dq rfl rfl).trans ?_
      exact dq_ret1 rfl
    · refine (dq rfl rfl).trans ?_
      refine (dq_getR rfl).trans (bn_c (fun a6 => ?_))
      refine (dq rfl rfl).trans ?_
      refine (dq rfl rfl).trans ?_
      refine (dq rfl rfl).trans ?_
      refine (dq rfl rfl).trans ?_
      refine (dq rfl rfl).trans ?_
      refine (dq rfl rfl).trans ?_
      refine (dq rfl rfl).trans ?_
      refine (dq_iald rfl).trans (bn_c (fun v7 => ?_))
      refine (dq rfl rfl).trans ?_
      refine (dq rfl rfl).trans ?_
      refine (dq rfl rfl).trans ?_
      rfl
theorem q_139_25 (x0 : Nat) (x1 : Int32) (x2 : Int32) (x3 : Int32) (x4 : Int32) (l5 : Option Value) (h : ia_H) : dn 139 25 [some (.ref x0), some (.int x1), some (.int x2), some (.int x3), some (.int x4), l5] [] h = ((ia_gR h 8 x0 6).bind fun a1 => ((ia_ld h 0 a1 ((4 * x2) + 3)).bind fun v2 => (if v2 ≤ x4 then dn 139 47 [some (.ref x0), some (.int x1), some (.int x2), some (.int x3), some (.int x4), l5] [] h else ((ia_gR h 8 x0 7).bind fun a3 => ((ia_ld h 0 a3 ((4 * x2) + x4)).bind fun v4 => (if x3 < v4 then dn 139 47 [some (.ref x0), some (.int x1), some (.int x2), some (.int x3), some (.int x4), l5] [] h else dn 139 25 [some (.ref x0), some (.int x1), some (.int x2), some (.int x3), some (.int (x4 + 1)), l5] [] h)))))) := by
  refine (dq rfl rfl).trans ?_
  refine (dq rfl rfl).trans ?_
  refine (dq_getR rfl).trans (bn_c (fun a1 => ?_))
  refine (dq rfl rfl).trans ?_
  refine (dq rfl rfl).trans ?_
  refine (dq rfl rfl).trans ?_
  refine (dq rfl rfl).trans ?_
  refine (dq rfl rfl).trans ?_
  refine (dq_iald rfl).trans (bn_c (fun v2 => ?_))
  refine (dq_ige rfl).trans (ie_c ?_ ?_)
  · rfl
  · refine (dq rfl rfl).trans ?_
    refine (dq_getR rfl).trans (bn_c (fun a3 => ?_))
    refine (dq rfl rfl).trans ?_
    refine (dq rfl rfl).trans ?_
    refine (dq rfl rfl).trans ?_
    refine (dq rfl rfl).trans ?_
    refine (dq rfl rfl).trans ?_
    refine (dq_iald rfl).trans (bn_c (fun v4 => ?_))
    refine (dq rfl rfl).trans ?_
    refine (dq_igt rfl).trans (ie_c ?_ ?_)
    · rfl
    · refine (dq_iinc (v := 1) rfl rfl (by decide)).trans ?_
      refine (dq rfl rfl).trans ?_
      rfl
theorem q_139_47 (x0 : Nat) (x1 : Int32) (x2 : Int32) (x3 : Int32) (x4 : Int32) (l5 : Option Value) (h : ia_H) : dn 139 47 [some (.ref x0), some (.int x1), some (.int x2), some (.int x3), some (.int x4), l5] [] h = ((ia_gR h 8 x0 6).bind fun a1 => ((ia_ld h 0 a1 ((4 * x2) + 3)).bind fun v2 => (if v2 ≤ x4 then dn 139 60 [some (.ref x0), some (.int x1), some (.int x2), some (.int x3), some (.int x4), l5] [.int 0] h else dn 139 60 [some (.ref x0), some (.int x1), some (.int x2), some (.int x3), some (.int x4), l5] [.int 1] h))) := by
  refine (dq rfl rfl).trans ?_
  refine (dq rfl rfl).trans ?_
  refine (dq_getR rfl).trans (bn_c (fun a1 => ?_))
  refine (dq rfl rfl).trans ?_
  refine (dq rfl rfl).trans ?_
  refine (dq rfl rfl).trans ?_
  refine (dq rfl rfl).trans ?_
  refine (dq rfl rfl).trans ?_
  refine (dq_iald rfl).trans (bn_c (fun v2 => ?_))
  refine (dq_ige rfl).trans (ie_c ?_ ?_)
  · refine (dq rfl rfl).trans ?_
    rfl
  · refine (dq rfl rfl).trans ?_
    refine (dq rfl rfl).trans ?_
    rfl
theorem q_139_60 (x0 : Nat) (x1 : Int32) (x2 : Int32) (x3 : Int32) (x4 : Int32) (l5 : Option Value) (s0 : Int32) (h : ia_H) : dn 139 60 [some (.ref x0), some (.int x1), some (.int x2), some (.int x3), some (.int x4), l5] [.int s0] h = ((ia_pF h 8 x0 12 (.int 0)).bind fun h1 => (if s0 = 0 then dn 139 80 [some (.ref x0), some (.int x1), some (.int x2), some (.int x3), some (.int x4), some (.int s0)] [.long (-1), .ref x0] h1 else ((ia_gR h1 8 x0 7).bind fun a2 => ((ia_ld h1 0 a2 ((4 * x2) + x4)).bind fun v3 => dn 139 80 [some (.ref x0), some (.int x1), some (.int x2), some (.int x3), some (.int x4), some (.int s0)] [.long ((v3 - x3).toInt64), .ref x0] h1)))) := by
  refine (dq rfl rfl).trans ?_
  refine (dq rfl rfl).trans ?_
  refine (dq rfl rfl).trans ?_
  refine (dq_putI rfl).trans (bn_c (fun h1 => ?_))
  refine (dq rfl rfl).trans ?_
  refine (dq rfl rfl).trans ?_
  refine (dq_ifeq rfl).trans (ie_c ?_ ?_)
  · refine (dq rfl rfl).trans ?_
    rfl
  · refine (dq rfl rfl).trans ?_
    refine (dq_getR rfl).trans (bn_c (fun a2 => ?_))
    refine (dq rfl rfl).trans ?_
    refine (dq rfl rfl).trans ?_
    refine (dq rfl rfl).trans ?_
    refine (dq rfl rfl).trans ?_
    refine (dq rfl rfl).trans ?_
    refine (dq_iald rfl).trans (bn_c (fun v3 => ?_))
    refine (dq rfl rfl).trans ?_
    refine (dq rfl rfl).trans ?_
    refine (dq rfl rfl).trans ?_
    refine (dq rfl rfl).trans ?_
    rfl
theorem q_139_80 (x0 : Nat) (x1 : Int32) (x2 : Int32) (x3 : Int32) (x4 : Int32) (x5 : Int32) (s0 : Nat) (s1 : Int64) (h : ia_H) : dn 139 80 [some (.ref x0), some (.int x1), some (.int x2), some (.int x3), some (.int x4), some (.int x5)] [.long s1, .ref s0] h = (if ia_ok h 8 [.ref s0, .long s1] = true then kxv (cl 71 [.ref s0, .long s1] h) (fun h1 => (if x5 = 0 then (if ia_ok h1 8 [.ref x0, .long (-1)] = true then kxv (cl 71 [.ref x0, .long (-1)] h1) (fun h2 => some (some (.int x3), h2)) else none) else ((ia_gR h1 8 x0 8).bind fun a3 => ((ia_ld h1 0 a3 ((4 * x2) + x4)).bind fun v4 => (if ia_ok h1 8 [.ref x0, .long (v4.toInt64)] = true then kxv (cl 71 [.ref x0, .long (v4.toInt64)] h1) (fun h5 => some (some (.int x3), h5)) else none))))) else none) := by
  refine (dq_kxv (z := 71) rfl (lq rfl) (lq rfl) (lq rfl) kd_71).trans (it_c (kxv_c (fun h1 => ?_)))
  refine (dq rfl rfl).trans ?_
  refine (dq rfl rfl).trans ?_
  refine (dq_ifeq rfl).trans (ie_c ?_ ?_)
  · refine (dq rfl rfl).trans ?_
    refine (dq_kxv (z := 71) rfl (lq rfl) (lq rfl) (lq rfl) kd_71).trans (it_c (kxv_c (fun h2 => ?_)))
    refine (dq rfl rfl).trans ?_
    exact dq_ret1 rfl
  · refine (dq rfl rfl).trans ?_
    refine (dq_getR rfl).trans (bn_c (fun a3 => ?_))
    refine (dq rfl rfl).trans ?_
    refine (dq rfl rfl).trans ?_
    refine (dq rfl rfl).trans ?_
    refine (dq rfl rfl).trans ?_
    refine (dq rfl rfl).trans ?_
    refine (dq_iald rfl).trans (bn_c (fun v4 => ?_))
    refine (dq rfl rfl).trans ?_
    refine (dq rfl rfl).trans ?_
    refine (dq_kxv (z := 71) rfl (lq rfl) (lq rfl) (lq rfl) kd_71).trans (it_c (kxv_c (fun h5 => ?_)))
    refine (dq rfl rfl).trans ?_
    exact dq_ret1 rfl
theorem q_140 (ab : Nat) (ac : Int32) (ad : Int32) (h : ia_H) : cl 140 [.ref ab, .int ac, .int ad] h = ((ia_pF h 8 ab 13 (.int 0)).bind fun h1 => kxi (cl 76 [.int ac] h1) (fun r3 h2 => (if r3 = 0 then some (some (.int (-1)), h2) else kxi (cl 75 [.int ad] h2) (fun r5 h4 => (if r5 = 0 then some (some (.int (-1)), h4) else dn 140 15 [some (.ref ab), some (.int ac), some (.int ad), some (.int 0), some (.int 0)] [] h4))))) := by
  refine (dq rfl rfl).trans ?_
  refine (dq rfl rfl).trans ?_
  refine (dq_putI rfl).trans (bn_c (fun h1 => ?_))
  refine (dq rfl rfl).trans ?_
  refine (dq_kxi0 (z := 76) rfl (lq rfl) (lq rfl) (lq rfl) kd_76).trans (kxi_c (fun r3 h2 => ?_))
  refine (dq_ifeq rfl).trans (ie_c ?_ ?_)
  · refine (dq rfl rfl).trans ?_
    exact dq_ret1 rfl
  · refine (dq rfl rfl).trans ?_
    refine (dq_kxi0 (z := 75) rfl (lq rfl) (lq rfl) (lq rfl) kd_75).trans (kxi_c (fun r5 h4 => ?_))
    refine (dq_ifne rfl).trans (ie_c ?_ ?_)
    · refine (dq rfl rfl).trans ?_
      exact dq_ret1 rfl
    · refine (dq rfl rfl).trans ?_
      refine (dq rfl rfl).trans ?_
      refine (dq rfl rfl).trans ?_
      refine (dq rfl rfl).trans ?_
      rfl
theorem q_140_15 (x0 : Nat) (x1 : Int32) (x2 : Int32) (x3 : Int32) (x4 : Int32) (h : ia_H) : dn 140 15 [some (.ref x0), some (.int x1), some (.int x2), some (.int x3), some (.int x4)] [] h = ((ia_gR h 8 x0 0).bind fun a1 => ((ia_ld h 0 a1 1104).bind fun v2 => (if v2 ≤ x4 then ((ia_pF h 8 x0 12 (.int 0)).bind fun h3 => (if ia_ok h3 8 [.ref x0, .int x1, .int x2] = true then kxi (cl 127 [.ref x0, .int x1, .int x2] h3) (fun r5 h4 => kxi (cl 72 [.int (x3 &&& (r5 ^^^ (-1)))] h4) (fun r7 h6 => (if ia_ok h6 8 [.ref x0, .long (r7.toInt64)] = true then kxv (cl 71 [.ref x0, .long (r7.toInt64)] h6) (fun h8 => some (some (.int x3), h8)) else none))) else none)) else ((ia_gR h 8 x0 0).bind fun a9 => ((ia_ld h 0 a9 (0 + x4)).bind fun v10 => (if v10 = x1 then ((ia_gR h 8 x0 0).bind fun a11 => ((ia_ld h 0 a11 ((12 + (4 * x4)) + x2)).bind fun v12 => (if ia_ok h 8 [.ref x0, .int x2, .int (v12 + 1)] = true then kxi (cl 96 [.ref x0, .int x2, .int (v12 + 1)] h) (fun r14 h13 => (if r14 ≤ 0 then dn 140 15 [some (.ref x0), some (.int x1), some (.int x2), some (.int (x3 ||| 0)), some (.int (x4 + 1))] [] h13 else dn 140 15 [some (.ref x0), some (.int x1), some (.int x2), some (.int (x3 ||| (1 <<< (x4 &&& 31)))), some (.int (x4 + 1))] [] h13)) else none))) else dn 140 15 [some (.ref x0), some (.int x1), some (.int x2), some (.int (x3 ||| 0)), some (.int (x4 + 1))] [] h)))))) := by
  refine (dq rfl rfl).trans ?_
  refine (dq rfl rfl).trans ?_
  refine (dq_getR rfl).trans (bn_c (fun a1 => ?_))
  refine (dq rfl rfl).trans ?_
  refine (dq_iald rfl).trans (bn_c (fun v2 => ?_))
  refine (dq_ige rfl).trans (ie_c ?_ ?_)
  · refine (dq rfl rfl).trans ?_
    refine (dq rfl rfl).trans ?_
    refine (dq_putI rfl).trans (bn_c (fun h3 => ?_))
    refine (dq rfl rfl).trans ?_
    refine (dq rfl rfl).trans ?_
    refine (dq rfl rfl).trans ?_
    refine (dq rfl rfl).trans ?_
    refine (dq rfl rfl).trans ?_
    refine (dq_kxi (z := 127) rfl (lq rfl) (lq rfl) (lq rfl) kd_127).trans (it_c (kxi_c (fun r5 h4 => ?_)))
    refine (dq rfl rfl).trans ?_
    refine (dq rfl rfl).trans ?_
    refine (dq rfl rfl).trans ?_
    refine (dq_kxi0 (z := 72) rfl (lq rfl) (lq rfl) (lq rfl) kd_72).trans (kxi_c (fun r7 h6 => ?_))
    refine (dq rfl rfl).trans ?_
    refine (dq_kxv (z := 71) rfl (lq rfl) (lq rfl) (lq rfl) kd_71).trans (it_c (kxv_c (fun h8 => ?_)))
    refine (dq rfl rfl).trans ?_
    exact dq_ret1 rfl
  · refine (dq rfl rfl).trans ?_
    refine (dq rfl rfl).trans ?_
    refine (dq_getR rfl).trans (bn_c (fun a9 => ?_))
    refine (dq rfl rfl).trans ?_
    refine (dq rfl rfl).trans ?_
    refine (dq rfl rfl).trans ?_
    refine (dq_iald rfl).trans (bn_c (fun v10 => ?_))
    refine (dq rfl rfl).trans ?_
    refine (dq_ine rfl).trans (ie_c ?_ ?_)
    · refine (dq rfl rfl).trans ?_
      refine (dq rfl rfl).trans ?_
      refine (dq rfl rfl).trans ?_
      refine (dq_getR rfl).trans (bn_c (fun a11 => ?_))
      refine (dq rfl rfl).trans ?_
      refine (dq rfl rfl).trans ?_
      refine (dq rfl rfl).trans ?_
      refine (dq rfl rfl).trans ?_
      refine (dq rfl rfl).trans ?_
      refine (dq rfl rfl).trans ?_
      refine (dq rfl rfl).trans ?_
      refine (dq_iald rfl).trans (bn_c (fun v12 => ?_))
      refine (dq rfl rfl).trans ?_
      refine (dq rfl rfl).trans ?_
      refine (dq_kxi (z := 96) rfl (lq rfl) (lq rfl) (lq rfl) kd_96).trans (it_c (kxi_c (fun r14 h13 => ?_)))
      refine (dq_ifle rfl).trans (ie_c ?_ ?_)
      · refine (dq rfl rfl).trans ?_
        refine (dq rfl rfl).trans ?_
        refine (dq rfl rfl).trans ?_
        refine (dq_iinc (v := 1) rfl rfl (by decide)).trans ?_
        refine (dq rfl rfl).trans ?_
        rfl
      · refine (dq rfl rfl).trans ?_
        refine (dq rfl rfl).trans ?_
        refine (dq rfl rfl).trans ?_
        refine (dq rfl rfl).trans ?_
        refine (dq rfl rfl).trans ?_
        refine (dq rfl rfl).trans ?_
        refine (dq_iinc (v := 1) rfl rfl (by decide)).trans ?_
        refine (dq rfl rfl).trans ?_
        rfl
    · refine (dq rfl rfl).trans ?_
      refine (dq rfl rfl).trans ?_
      refine (dq rfl rfl).trans ?_
      refine (dq_iinc (v := 1) rfl rfl (by decide)).trans ?_
      refine (dq rfl rfl).trans ?_
      rfl
theorem q_141 (ab : Nat) (ac : Int32) (ad : Int32) (h : ia_H) : cl 141 [.ref ab, .int ac, .int ad] h = ((ia_pF h 8 ab 13 (.int 0)).bind fun h1 => kxi (cl 76 [.int ac] h1) (fun r3 h2 => (if r3 = 0 then some (some (.int (-1)), h2) else kxi (cl 75 [.int ad] h2) (fun r5 h4 => (if r5 = 0 then some (some (.int (-1)), h4) else ((ia_gR h4 8 ab 0).bind fun a6 => ((ia_ld h4 0 a6 ((108 + (4 * ac)) + ad)).bind fun v7 => ((ia_pF h4 8 ab 12 (.int 0)).bind fun h8 => ((ia_gR h8 8 ab 6).bind fun a9 => ((ia_ld h8 0 a9 ((4 * ad) + 2)).bind fun v10 => (if v10 ≤ v7 then (if ia_ok h8 8 [.ref ab, .long (-1)] = true then kxv (cl 71 [.ref ab, .long (-1)] h8) (fun h11 => some (some (.int v7), h11)) else none) else ((ia_gR h8 8 ab 6).bind fun a12 => ((ia_ld h8 0 a12 ((4 * ad) + 2)).bind fun v13 => (if ia_ok h8 8 [.ref ab, .long ((v13 - v7).toInt64)] = true then kxv (cl 71 [.ref ab, .long ((v13 - v7).toInt64)] h8) (fun h14 => some (some (.int v7), h14)) else none)))))))))))))) := by
  refine (dq rfl rfl).trans ?_
  refine (dq rfl rfl).trans ?_
  refine (dq_putI rfl).trans (bn_c (fun h1 => ?_))
  refine (dq rfl rfl).trans ?_
  refine (dq_kxi0 (z := 76) rfl (lq rfl) (lq rfl) (lq rfl) kd_76).trans (kxi_c (fun r3 h2 => ?_))
  refine (dq_ifeq rfl).trans (ie_c ?_ ?_)
  · refine (dq rfl rfl).trans ?_
    exact dq_ret1 rfl
  · refine (dq rfl rfl).trans ?_
    refine (dq_kxi0 (z := 75) rfl (lq rfl) (lq rfl) (lq rfl) kd_75).trans (kxi_c (fun r5 h4 => ?_))
    refine (dq_ifne rfl).trans (ie_c ?_ ?_)
    · refine (dq rfl rfl).trans ?_
      exact dq_ret1 rfl
    · refine (dq rfl rfl).trans ?_
      refine (dq_getR rfl).trans (bn_c (fun a6 => ?_))
      refine (dq rfl rfl).trans ?_
      refine (dq rfl rfl).trans ?_
      refine (dq rfl rfl).trans ?_
      refine (dq rfl rfl).trans ?_
      refine (dq rfl rfl).trans ?_
      refine (dq rfl rfl).trans ?_
      refine (dq rfl rfl).trans ?_
      refine (dq_iald rfl).trans (bn_c (fun v7 => ?_))
      refine (dq rfl rfl).trans ?_
      refine (dq rfl rfl).trans ?_
      refine (dq rfl rfl).trans ?_
      refine (dq_putI rfl).trans (bn_c (fun h8 => ?_))
      refine (dq rfl rfl).trans ?_
      refine (dq rfl rfl).trans ?_
      refine (dq_getR rfl).trans (bn_c (fun a9 => ?_))
      refine (dq rfl rfl).trans ?_
      refine (dq rfl rfl).trans ?_
      refine (dq rfl rfl).trans ?_
      refine (dq rfl rfl).trans ?_
      refine (dq rfl rfl).trans ?_
      refine (dq_iald rfl).trans (bn_c (fun v10 => ?_))
      refine (dq rfl rfl).trans ?_
      refine (dq_ile rfl).trans (ie_c ?_ ?_)
      · refine (dq rfl rfl).trans ?_
        refine (dq_kxv (z := 71) rfl (lq rfl) (lq rfl) (lq rfl) kd_71).trans (it_c (kxv_c (fun h11 => ?_)))
        refine (dq rfl rfl).trans ?_
        exact dq_ret1 rfl
      · refine (dq rfl rfl).trans ?_
        refine (dq_getR rfl).trans (bn_c (fun a12 => ?_))
        refine (dq rfl rfl).trans ?_
        refine (dq rfl rfl).trans ?_
        refine (dq rfl rfl).trans ?_
        refine (dq rfl rfl).trans ?_
        refine (dq rfl rfl).trans ?_
        refine (dq_iald rfl).trans (bn_c (fun v13 => ?_))
        refine (dq rfl rfl).trans ?_
        refine (dq rfl rfl).trans ?_
        refine (dq rfl rfl).trans ?_
        refine (dq rfl rfl).trans ?_
        refine (dq_kxv (z := 71) rfl (lq rfl) (lq rfl) (lq rfl) kd_71).trans (it_c (kxv_c (fun h14 => ?_)))
        refine (dq rfl rfl).trans ?_
        exact dq_ret1 rfl
theorem q_142 (ab : Nat) (h : ia_H) : cl 142 [.ref ab] h = (if ia_ok h 8 [.ref ab] = true then kxv (cl 99 [.ref ab] h) (fun h1 => ((ia_pF h1 8 ab 35 (.int 0)).bind fun h2 => ((ia_gI h2 8 ab 21).bind fun v3 => (if v3 ≤ 0 then dn 142 12 [some (.ref ab), some (.int 0)] [] h2 else dn 142 12 [some (.ref ab), some (.int 1)] [] h2)))) else none) := by
  refine (dq rfl rfl).trans ?_
  refine (dq_kxv (z := 99) rfl (lq rfl) (lq rfl) (lq rfl) kd_99).trans (it_c (kxv_c (fun h1 => ?_)))
  refine (dq rfl rfl).trans ?_
  refine (dq rfl rfl).trans ?_
  refine (dq_putI rfl).trans (bn_c (fun h2 => ?_))
  refine (dq rfl rfl).trans ?_
  refine (dq_getI rfl).trans (bn_c (fun v3 => ?_))
  refine (dq_ifle rfl).trans (ie_c ?_ ?_)
  · refine (dq rfl rfl).trans ?_
    refine (dq rfl rfl).trans ?_
    rfl
  · refine (dq rfl rfl).trans ?_
    refine (dq rfl rfl).trans ?_
    refine (dq rfl rfl).trans ?_
    rfl
theorem q_142_12 (x0 : Nat) (x1 : Int32) (h : ia_H) : dn 142 12 [some (.ref x0), some (.int x1)] [] h = (if x1 = 0 then (if ia_ok h 8 [.ref x0] = true then kxv (cl 105 [.ref x0] h) (fun h1 => some (none, h1)) else none) else ((ia_gI h 8 x0 23).bind fun v2 => (if v2 = (-1) then ((ia_gR h 8 x0 32).bind fun a4 => ((ia_gI h 8 x0 35).bind fun v5 => (if ia_ok h 8 [.ref x0, .int 0, .int 3] = true then kxi (cl 103 [.ref x0, .int 0, .int 3] h) (fun r7 h6 => ((ia_st h6 0 a4 v5 r7).bind fun h8 => ((ia_gR h8 8 x0 33).bind fun a9 => ((ia_gI h8 8 x0 35).bind fun v10 => (if ia_ok h8 8 [.ref x0, .int 0, .int 3] = true then kxi (cl 103 [.ref x0, .int 0, .int 3] h8) (fun r12 h11 => ((ia_st h11 0 a9 v10 r12).bind fun h13 => ((ia_gR h13 8 x0 34).bind fun a14 => ((ia_gI h13 8 x0 35).bind fun v15 => (if ia_ok h13 8 [.ref x0, .int 0, .int 3] = true then kxi (cl 103 [.ref x0, .int 0, .int 3] h13) (fun r17 h16 => ((ia_st h16 0 a14 v15 r17).bind fun h18 => ((ia_gI h18 8 x0 23).bind fun v19 => (if v19 = (-1) then ((ia_gR h18 8 x0 33).bind fun a20 => ((ia_gI h18 8 x0 35).bind fun v21 => ((ia_ld h18 0 a20 v21).bind fun v22 => ((ia_gR h18 8 x0 34).bind fun a23 => ((ia_gI h18 8 x0 35).bind fun v24 => ((ia_ld h18 0 a23 v24).bind fun v25 => (if v22 = v25 then ((ia_gI h18 8 x0 22).bind fun v26 => (if ia_ok h18 8 [.ref x0, .int (v26 - 1)] = true then kxv (cl 101 [.ref x0, .int (v26 - 1)] h18) (fun h27 => dn 142 66 [some (.ref x0), some (.int x1)] [] h27) else none)) else dn 142 66 [some (.ref x0), some (.int x1)] [] h18))))))) else dn 142 66 [some (.ref x0), some (.int x1)] [] h18)))) else none))))) else none))))) else none))) else (if ia_ok h 8 [.ref x0] = true then kxv (cl 105 [.ref x0] h) (fun h3 => some (none, h3)) else none)))) := by
  refine (dq rfl rfl).trans ?_
  refine (dq_ifeq rfl).trans (ie_c ?_ ?_)
  · refine (dq rfl rfl).trans ?_
    refine (dq_kxv (z := 105) rfl (lq rfl) (lq rfl) (lq rfl) kd_105).trans (it_c (kxv_c (fun h1 => ?_)))
    exact dq_ret0 rfl
  · refine (dq rfl rfl).trans ?_
    refine (dq_getI rfl).trans (bn_c (fun v2 => ?_))
    refine (dq rfl rfl).trans ?_
    refine (dq_ine rfl).trans (ie_c ?_ ?_)
    · refine (dq rfl rfl).trans ?_
      refine (dq_getR rfl).trans (bn_c (fun a4 => ?_))
      refine (dq rfl rfl).trans ?_
      refine (dq_getI rfl).trans (bn_c (fun v5 => ?_))
      refine (dq rfl rfl).trans ?_
      refine (dq rfl rfl).trans ?_
      refine (dq rfl rfl).trans ?_
      refine (dq_kxi (z := 103) rfl (lq rfl) (lq rfl) (lq rfl) kd_103).trans (it_c (kxi_c (fun r7 h6 => ?_)))
      refine (dq_iast rfl).trans (bn_c (fun h8 => ?_))
      refine (dq rfl rfl).trans ?_
      refine (dq_getR rfl).trans (bn_c (fun a9 => ?_))
      refine (dq rfl rfl).trans ?_
      refine (dq_getI rfl).trans (bn_c (fun v10 => ?_))
      refine (dq rfl rfl).trans ?_
      refine (dq rfl rfl).trans ?_
      refine (dq rfl rfl).trans ?_
      refine (dq_kxi (z := 103) rfl (lq rfl) (lq rfl) (lq rfl) kd_103).trans (it_c (kxi_c (fun r12 h11 => ?_)))
      refine (dq_iast rfl).trans (bn_c (fun h13 => ?_))
      refine (dq rfl rfl).trans ?_
      refine (dq_getR rfl).trans (bn_c (fun a14 => ?_))
      refine (dq rfl rfl).trans ?_
      refine (dq_getI rfl).trans (bn_c (fun v15 => ?_))
      refine (dq rfl rfl).trans ?_
      refine (dq rfl rfl).trans ?_
      refine (dq rfl rfl).trans ?_
      refine (dq_kxi (z := 103) rfl (lq rfl) (lq rfl) (lq rfl) kd_103).trans (it_c (kxi_c (fun r17 h16 => ?_)))
      refine (dq_iast rfl).trans (bn_c (fun h18 => ?_))
      refine (dq rfl rfl).trans ?_
      refine (dq_getI rfl).trans (bn_c (fun v19 => ?_))
      refine (dq rfl rfl).trans ?_
      refine (dq_ine rfl).trans (ie_c ?_ ?_)
      · refine (dq rfl rfl).trans ?_
        refine (dq_getR rfl).trans (bn_c (fun a20 => ?_))
        refine (dq rfl rfl).trans ?_
        refine (dq_getI rfl).trans (bn_c (fun v21 => ?_))
        refine (dq_iald rfl).trans (bn_c (fun v22 => ?_))
        refine (dq rfl rfl).trans ?_
        refine (dq_getR rfl).trans (bn_c (fun a23 => ?_))
        refine (dq rfl rfl).trans ?_
        refine (dq_getI rfl).trans (bn_c (fun v24 => ?_))
        refine (dq_iald rfl).trans (bn_c (fun v25 => ?_))
        refine (dq_ine rfl).trans (ie_c ?_ ?_)
        · refine (dq rfl rfl).trans ?_
          refine (dq rfl rfl).trans ?_
          refine (dq_getI rfl).trans (bn_c (fun v26 => ?_))
          refine (dq rfl rfl).trans ?_
          refine (dq rfl rfl).trans ?_
          refine (dq_kxv (z := 101) rfl (lq rfl) (lq rfl) (lq rfl) kd_101).trans (it_c (kxv_c (fun h27 => ?_)))
          rfl
        · rfl
      · rfl
    · refine (dq rfl rfl).trans ?_
      refine (dq_kxv (z := 105) rfl (lq rfl) (lq rfl) (lq rfl) kd_105).trans (it_c (kxv_c (fun h3 => ?_)))
      exact dq_ret0 rfl
theorem q_142_66 (x0 : Nat) (x1 : Int32) (h : ia_H) : dn 142 66 [some (.ref x0), some (.int x1)] [] h = ((ia_gI h 8 x0 35).bind fun v1 => ((ia_pF h 8 x0 35 (.int (v1 + 1))).bind fun h2 => ((ia_gI h2 8 x0 23).bind fun v3 => (if v3 = (-1) then (if ia_ok h2 8 [.ref x0] = true then kxi (cl 100 [.ref x0] h2) (fun r5 h4 => (if r5 = 44 then ((ia_gI h4 8 x0 22).bind fun v6 => ((ia_pF h4 8 x0 22 (.int (v6 + 1))).bind fun h7 => dn 142 12 [some (.ref x0), some (.int 1)] [] h7)) else dn 142 82 [some (.ref x0), some (.int x1)] [] h4)) else none) else dn 142 82 [some (.ref x0), some (.int x1)] [] h2)))) := by
  refine (dq rfl rfl).trans ?_
  refine (dq rfl rfl).trans ?_
  refine (dq_getI rfl).trans (bn_c (fun v1 => ?_))
  refine (dq rfl rfl).trans ?_
  refine (dq rfl rfl).trans ?_
  refine (dq_putI rfl).trans (bn_c (fun h2 => ?_))
  refine (dq rfl rfl).trans ?_
  refine (dq_getI rfl).trans (bn_c (fun v3 => ?_))
  refine (dq rfl rfl).trans ?_
  refine (dq_ine rfl).trans (ie_c ?_ ?_)
  · refine (dq rfl rfl).trans ?_
    refine (dq_kxi (z := 100) rfl (lq rfl) (lq rfl) (lq rfl) kd_100).trans (it_c (kxi_c (fun r5 h4 => ?_)))
    refine (dq rfl rfl).trans ?_
    refine (dq_ine rfl).trans (ie_c ?_ ?_)
    · refine (dq rfl rfl).trans ?_
      refine (dq rfl rfl).trans ?_
      refine (dq rfl rfl).trans ?_
      refine (dq rfl rfl).trans ?_
      refine ((dq_ifeq rfl).trans (if_neg (by decide))).trans ?_
      refine (dq rfl rfl).trans ?_
      refine (dq rfl rfl).trans ?_
      refine (dq_getI rfl).trans (bn_c (fun v6 => ?_))
      refine (dq rfl rfl).trans ?_
      refine (dq rfl rfl).trans ?_
      refine (dq_putI rfl).trans (bn_c (fun h7 => ?_))
      refine (dq rfl rfl).trans ?_
      rfl
    · rfl
  · rfl
theorem q_142_82 (x0 : Nat) (x1 : Int32) (h : ia_H) : dn 142 82 [some (.ref x0), some (.int x1)] [] h = dn 142 12 [some (.ref x0), some (.int 0)] [] h := by
  refine (dq rfl rfl).trans ?_
  refine (dq rfl rfl).trans ?_
  refine (dq rfl rfl).trans ?_
  refine ((dq_ifeq rfl).trans (if_pos (by decide))).trans ?_
  rfl
theorem q_143 (ab : Nat) (ac : Int32) (ad : Int32) (h : ia_H) : cl 143 [.ref ab, .int ac, .int ad] h = ((ia_gR h 8 ab 33).bind fun a1 => ((ia_ld h 0 a1 ac).bind fun v2 => (if v2 = ad then some (some (.int 1), h) else ((ia_gR h 8 ab 34).bind fun a3 => ((ia_ld h 0 a3 ac).bind fun v4 => (if v4 = ad then some (some (.int 1), h) else some (some (.int 0), h))))))) := by
  refine (dq rfl rfl).trans ?_
  refine (dq_getR rfl).trans (bn_c (fun a1 => ?_))
  refine (dq rfl rfl).trans ?_
  refine (dq_iald rfl).trans (bn_c (fun v2 => ?_))
  refine (dq rfl rfl).trans ?_
  refine (dq_ieq rfl).trans (ie_c ?_ ?_)
  · refine (dq rfl rfl).trans ?_
    refine (dq rfl rfl).trans ?_
    exact dq_ret21 rfl
  · refine (dq rfl rfl).trans ?_
    refine (dq_getR rfl).trans (bn_c (fun a3 => ?_))
    refine (dq rfl rfl).trans ?_
    refine (dq_iald rfl).trans (bn_c (fun v4 => ?_))
    refine (dq rfl rfl).trans ?_
    refine (dq_ine rfl).trans (ie_c ?_ ?_)
    · refine (dq rfl rfl).trans ?_
      refine (dq rfl rfl).trans ?_
      exact dq_ret21 rfl
    · refine (dq rfl rfl).trans ?_
      exact dq_ret20 rfl
theorem q_144 (ab : Nat) (ac : Int32) (h : ia_H) : cl 144 [.ref ab, .int ac] h = ((ia_gR h 8 ab 32).bind fun a1 => ((ia_ld h 0 a1 ac).bind fun v2 => ((ia_gR h 8 ab 33).bind fun a3 => ((ia_ld h 0 a3 ac).bind fun v4 => ((ia_gR h 8 ab 34).bind fun a5 => ((ia_ld h 0 a5 ac).bind fun v6 => (if ia_ok h 8 [.ref ab, .int v2, .int v4, .int v6] = true then kxv (cl 95 [.ref ab, .int v2, .int v4, .int v6] h) (fun h7 => some (none, h7)) else none))))))) := by
  refine (dq rfl rfl).trans ?_
  refine (dq rfl rfl).trans ?_
  refine (dq_getR rfl).trans (bn_c (fun a1 => ?_))
  refine (dq rfl rfl).trans ?_
  refine (dq_iald rfl).trans (bn_c (fun v2 => ?_))
  refine (dq rfl rfl).trans ?_
  refine (dq_getR rfl).trans (bn_c (fun a3 => ?_))
  refine (dq rfl rfl).trans ?_
  refine (dq_iald rfl).trans (bn_c (fun v4 => ?_))
  refine (dq rfl rfl).trans ?_
  refine (dq_getR rfl).trans (bn_c (fun a5 => ?_))
  refine (dq rfl rfl).trans ?_
  refine (dq_iald rfl).trans (bn_c (fun v6 => ?_))
  refine (dq_kxv (z := 95) rfl (lq rfl) (lq rfl) (lq rfl) kd_95).trans (it_c (kxv_c (fun h7 => ?_)))
  exact dq_ret0 rfl
theorem q_145 (ab : Nat) (ac : Int32) (h : ia_H) : cl 145 [.ref ab, .int ac] h = dn 145 4 [some (.ref ab), some (.int ac), some (.int 0), some (.int 0)] [] h := by
  refine (dq rfl rfl).trans ?_
  refine (dq rfl rfl).trans ?_
  refine (dq rfl rfl).trans ?_
  refine (dq rfl rfl).trans ?_
  rfl
theorem q_145_4 (x0 : Nat) (x1 : Int32) (x2 : Int32) (x3 : Int32) (h : ia_H) : dn 145 4 [some (.ref x0), some (.int x1), some (.int x2), some (.int x3)] [] h = ((ia_gR h 8 x0 0).bind fun a1 => ((ia_ld h 0 a1 1105).bind fun v2 => (if v2 ≤ x3 then some (some (.int x2), h) else (if ia_ok h 8 [.ref x0, .int x3, .int 0] = true then kxi (cl 79 [.ref x0, .int x3, .int 0] h) (fun r4 h3 => (if r4 = x1 then (if ia_ok h3 8 [.ref x0, .int x3, .int 2] = true then kxi (cl 79 [.ref x0, .int x3, .int 2] h3) (fun r6 h5 => dn 145 4 [some (.ref x0), some (.int x1), some (.int (x2 + r6)), some (.int (x3 + 1))] [] h5) else none) else dn 145 4 [some (.ref x0), some (.int x1), some (.int (x2 + 0)), some (.int (x3 + 1))] [] h3)) else none)))) := by
  refine (dq rfl rfl).trans ?_
  refine (dq rfl rfl).trans ?_
  refine (dq_getR rfl).trans (bn_c (fun a1 => ?_))
  refine (dq rfl rfl).trans ?_
  refine (dq_iald rfl).trans (bn_c (fun v2 => ?_))
  refine (dq_ige rfl).trans (ie_c ?_ ?_)
  · refine (dq rfl rfl).trans ?_
    exact dq_ret1 rfl
  · refine (dq rfl rfl).trans ?_
    refine (dq rfl rfl).trans ?_
    refine (dq rfl rfl).trans ?_
    refine (dq rfl rfl).trans ?_
    refine (dq_kxi (z := 79) rfl (lq rfl) (lq rfl) (lq rfl) kd_79).trans (it_c (kxi_c (fun r4 h3 => ?_)))
    refine (dq rfl rfl).trans ?_
    refine (dq_ine rfl).trans (ie_c ?_ ?_)
    · refine (dq rfl rfl).trans ?_
      refine (dq rfl rfl).trans ?_
      refine (dq rfl rfl).trans ?_
      refine (dq_kxi (z := 79) rfl (lq rfl) (lq rfl) (lq rfl) kd_79).trans (it_c (kxi_c (fun r6 h5 => ?_)))
      refine (dq rfl rfl).trans ?_
      refine (dq rfl rfl).trans ?_
      refine (dq rfl rfl).trans ?_
      refine (dq_iinc (v := 1) rfl rfl (by decide)).trans ?_
      refine (dq rfl rfl).trans ?_
      rfl
    · refine (dq rfl rfl).trans ?_
      refine (dq rfl rfl).trans ?_
      refine (dq rfl rfl).trans ?_
      refine (dq_iinc (v := 1) rfl rfl (by decide)).trans ?_
      refine (dq rfl rfl).trans ?_
      rfl
theorem q_146 (ab : Nat) (ac : Int32) (h : ia_H) : cl 146 [.ref ab, .int ac] h = ((ia_pF h 8 ab 13 (.int 0)).bind fun h1 => (if ia_ok h1 8 [.ref ab] = true then kxv (cl 142 [.ref ab] h1) (fun h2 => ((ia_gI h2 8 ab 23).bind fun v3 => (if v3 = (-1) then (if ia_ok h2 8 [.ref ab, .int ac] = true then kxi (cl 77 [.ref ab, .int ac] h2) (fun r5 h4 => (if r5 = 0 then some (some (.long (-1)), h4) else (if ia_ok h4 8 [.ref ab] = true then kxv (cl 81 [.ref ab] h4) (fun h6 => dn 146 29 [some (.ref ab), some (.int ac), some (.long 0), none, some (.int 0), some (.int 0)] [] h6) else none))) else none) else ((ia_gI h2 8 ab 23).bind fun v7 => some (some (.long (((-21) - v7).toInt64)), h2))))) else none)) := by
  refine (dq rfl rfl).trans ?_
  refine (dq rfl rfl).trans ?_
  refine (dq_putI rfl).trans (bn_c (fun h1 => ?_))
  refine (dq rfl rfl).trans ?_
  refine (dq_kxv (z := 142) rfl (lq rfl) (lq rfl) (lq rfl) kd_142).trans (it_c (kxv_c (fun h2 => ?_)))
  refine (dq rfl rfl).trans ?_
  refine (dq_getI rfl).trans (bn_c (fun v3 => ?_))
  refine (dq rfl rfl).trans ?_
  refine (dq_ieq rfl).trans (ie_c ?_ ?_)
  · refine (dq rfl rfl).trans ?_
    refine (dq rfl rfl).trans ?_
    refine (dq_kxi (z := 77) rfl (lq rfl) (lq rfl) (lq rfl) kd_77).trans (it_c (kxi_c (fun r5 h4 => ?_)))
    refine (dq_ifne rfl).trans (ie_c ?_ ?_)
    · refine (dq rfl rfl).trans ?_
      exact dq_ret3 rfl
    · refine (dq rfl rfl).trans ?_
      refine (dq_kxv (z := 81) rfl (lq rfl) (lq rfl) (lq rfl) kd_81).trans (it_c (kxv_c (fun h6 => ?_)))
      refine (dq rfl rfl).trans ?_
      refine (dq rfl rfl).trans ?_
      refine (dq rfl rfl).trans ?_
      refine (dq rfl rfl).trans ?_
      refine (dq rfl rfl).trans ?_
      refine (dq rfl rfl).trans ?_
      rfl
  · refine (dq rfl rfl).trans ?_
    refine (dq rfl rfl).trans ?_
    refine (dq_getI rfl).trans (bn_c (fun v7 => ?_))
    refine (dq rfl rfl).trans ?_
    refine (dq rfl rfl).trans ?_
    exact dq_ret3 rfl
theorem q_146_29 (x0 : Nat) (x1 : Int32) (x2 : Int64) (x4 : Int32) (x5 : Int32) (h : ia_H) : dn 146 29 [some (.ref x0), some (.int x1), some (.long x2), none, some (.int x4), some (.int x5)] [] h = ((ia_gI h 8 x0 35).bind fun v1 => (if v1 ≤ x5 then (if ia_ok h 8 [.ref x0, .int x1] = true then kxi (cl 145 [.ref x0, .int x1] h) (fun r3 h2 => (if ia_ok h2 8 [.ref x0] = true then kxv (cl 82 [.ref x0] h2) (fun h4 => ((ia_pF h4 8 x0 12 (.int 0)).bind fun h5 => (if ia_ok h5 8 [.ref x0, .long (x4.toInt64)] = true then kxv (cl 71 [.ref x0, .long (x4.toInt64)] h5) (fun h6 => (if ia_ok h6 8 [.ref x0, .long (r3.toInt64)] = true then kxv (cl 71 [.ref x0, .long (r3.toInt64)] h6) (fun h7 => some (some (.long x2), h7)) else none)) else none))) else none)) else none) else ((ia_gR h 8 x0 0).bind fun a8 => ((ia_ld h 0 a8 (0 + x1)).bind fun v9 => (if ia_ok h 8 [.ref x0, .int x5, .int v9] = true then kxi (cl 143 [.ref x0, .int x5, .int v9] h) (fun r11 h10 => (if r11 = 0 then (if ia_ok h10 8 [.ref x0, .int x5] = true then kxv (cl 144 [.ref x0, .int x5] h10) (fun h12 => dn 146 29 [some (.ref x0), some (.int x1), some (.long x2), none, some (.int x4), some (.int (x5 + 1))] [] h12) else none) else ((ia_gR h10 8 x0 32).bind fun a13 => ((ia_ld h10 0 a13 x5).bind fun v14 => (if ia_ok h10 8 [.ref x0, .int x1, .int v14] = true then kxi (cl 91 [.ref x0, .int x1, .int v14] h10) (fun r16 h15 => (if r16 = 0 then (if ia_ok h15 8 [.ref x0, .int x5] = true then kxv (cl 144 [.ref x0, .int x5] h15) (fun h17 => dn 146 29 [some (.ref x0), some (.int x1), some (.long x2), none, some (.int x4), some (.int (x5 + 1))] [] h17) else none) else (if ia_ok h15 8 [.ref x0, .int x5] = true then kxv (cl 144 [.ref x0, .int x5] h15) (fun h18 => dn 146 29 [some (.ref x0), some (.int x1), some (.long (x2 ||| ((1 : Int64) <<< (x5.toInt64 &&& 63)))), none, some (.int (x4 + 1)), some (.int (x5 + 1))] [] h18) else none))) else none))))) else none))))) := by
  refine (dq rfl rfl).trans ?_
  refine (dq rfl rfl).trans ?_
  refine (dq_getI rfl).trans (bn_c (fun v1 => ?_))
  refine (dq_ige rfl).trans (ie_c ?_ ?_)
  · refine (dq rfl rfl).trans ?_
    refine (dq rfl rfl).trans ?_
    refine (dq_kxi (z := 145) rfl (lq rfl) (lq rfl) (lq rfl) kd_145).trans (it_c (kxi_c (fun r3 h2 => ?_)))
    refine (dq rfl rfl).trans ?_
    refine (dq rfl rfl).trans ?_
    refine (dq_kxv (z := 82) rfl (lq rfl) (lq rfl) (lq rfl) kd_82).trans (it_c (kxv_c (fun h4 => ?_)))
    refine (dq rfl rfl).trans ?_
    refine (dq rfl rfl).trans ?_
    refine (dq_putI rfl).trans (bn_c (fun h5 => ?_))
    refine (dq rfl rfl).trans ?_
    refine (dq rfl rfl).trans ?_
    refine (dq rfl rfl).trans ?_
    refine (dq_kxv (z := 71) rfl (lq rfl) (lq rfl) (lq rfl) kd_71).trans (it_c (kxv_c (fun h6 => ?_)))
    refine (dq rfl rfl).trans ?_
    refine (dq rfl rfl).trans ?_
    refine (dq rfl rfl).trans ?_
    refine (dq_kxv (z := 71) rfl (lq rfl) (lq rfl) (lq rfl) kd_71).trans (it_c (kxv_c (fun h7 => ?_)))
    refine (dq rfl rfl).trans ?_
    exact dq_ret3 rfl
  · refine (dq rfl rfl).trans ?_
    refine (dq rfl rfl).trans ?_
    refine (dq rfl rfl).trans ?_
    refine (dq_getR rfl).trans (bn_c (fun a8 => ?_))
    refine (dq rfl rfl).trans ?_
    refine (dq rfl rfl).trans ?_
    refine (dq rfl rfl).trans ?_
    refine (dq_iald rfl).trans (bn_c (fun v9 => ?_))
    refine (dq_kxi (z := 143) rfl (lq rfl) (lq rfl) (lq rfl) kd_143).trans (it_c (kxi_c (fun r11 h10 => ?_)))
    refine (dq_ifeq rfl).trans (ie_c ?_ ?_)
    · refine (dq rfl rfl).trans ?_
      refine (dq rfl rfl).trans ?_
      refine (dq_kxv (z := 144) rfl (lq rfl) (lq rfl) (lq rfl) kd_144).trans (it_c (kxv_c (fun h12 => ?_)))
      refine (dq_iinc (v := 1) rfl rfl (by decide)).trans ?_
      refine (dq rfl rfl).trans ?_
      rfl
    · refine (dq rfl rfl).trans ?_
      refine (dq rfl rfl).trans ?_
      refine (dq rfl rfl).trans ?_
      refine (dq_getR rfl).trans (bn_c (fun a13 => ?_))
      refine (dq rfl rfl).trans ?_
      refine (dq_iald rfl).trans (bn_c (fun v14 => ?_))
      refine (dq_kxi (z := 91) rfl (lq rfl) (lq rfl) (lq rfl) kd_91).trans (it_c (kxi_c (fun r16 h15 => ?_)))
      refine (dq_ifeq rfl).trans (ie_c ?_ ?_)
      · refine (dq rfl rfl).trans ?_
        refine (dq rfl rfl).trans ?_
        refine (dq_kxv (z := 144) rfl (lq rfl) (lq rfl) (lq rfl) kd_144).trans (it_c (kxv_c (fun h17 => ?_)))
        refine (dq_iinc (v := 1) rfl rfl (by decide)).trans ?_
        refine (dq rfl rfl).trans ?_
        rfl
      · refine (dq rfl rfl).trans ?_
        refine (dq rfl rfl).trans ?_
        refine (dq rfl rfl).trans ?_
        refine (dq rfl rfl).trans ?_
        refine (dq rfl rfl).trans ?_
        refine (dq rfl rfl).trans ?_
        refine (dq_iinc (v := 1) rfl rfl (by decide)).trans ?_
        refine (dq rfl rfl).trans ?_
        refine (dq rfl rfl).trans ?_
        refine (dq_kxv (z := 144) rfl (lq rfl) (lq rfl) (lq rfl) kd_144).trans (it_c (kxv_c (fun h18 => ?_)))
        refine (dq_iinc (v := 1) rfl rfl (by decide)).trans ?_
        refine (dq rfl rfl).trans ?_
        rfl
theorem q_147 (ab : Nat) (ac : Int32) (h : ia_H) : cl 147 [.ref ab, .int ac] h = ((ia_pF h 8 ab 13 (.int 0)).bind fun h1 => (if ia_ok h1 8 [.ref ab] = true then kxv (cl 142 [.ref ab] h1) (fun h2 => ((ia_gI h2 8 ab 23).bind fun v3 => (if v3 = (-1) then (if ia_ok h2 8 [.ref ab, .int ac] = true then kxi (cl 77 [.ref ab, .int ac] h2) (fun r5 h4 => (if r5 = 0 then some (some (.int (-1)), h4) else (if ia_ok h4 8 [.ref ab] = true then kxv (cl 81 [.ref ab] h4) (fun h6 => dn 147 28 [some (.ref ab), some (.int ac), some (.int (-2)), some (.int 0), some (.int 0), none] [] h6) else none))) else none) else ((ia_gI h2 8 ab 23).bind fun v7 => some (some (.int ((-21) - v7)), h2))))) else none)) := by
  refine (dq rfl rfl).trans ?_
  refine (dq rfl rfl).trans ?_
  refine (dq_putI rfl).trans (bn_c (fun h1 => ?_))
  refine (dq rfl rfl).trans ?_
  refine (dq_kxv (z := 142) rfl (lq rfl) (lq rfl) (lq rfl) kd_142).trans (it_c (kxv_c (fun h2 => ?_)))
  refine (dq rfl rfl).trans ?_
  refine (dq_getI rfl).trans (bn_c (fun v3 => ?_))
  refine (dq rfl rfl).trans ?_
  refine (dq_ieq rfl).trans (ie_c ?_ ?_)
  · refine (dq rfl rfl).trans ?_
    refine (dq rfl rfl).trans ?_
    refine (dq_kxi (z := 77) rfl (lq rfl) (lq rfl) (lq rfl) kd_77).trans (it_c (kxi_c (fun r5 h4 => ?_)))
    refine (dq_ifne rfl).trans (ie_c ?_ ?_)
    · refine (dq rfl rfl).trans ?_
      exact dq_ret1 rfl
    · refine (dq rfl rfl).trans ?_
      refine (dq_kxv (z := 81) rfl (lq rfl) (lq rfl) (lq rfl) kd_81).trans (it_c (kxv_c (fun h6 => ?_)))
      refine (dq rfl rfl).trans ?_
      refine (dq rfl rfl).trans ?_
      refine (dq rfl rfl).trans ?_
      refine (dq rfl rfl).trans ?_
      refine (dq rfl rfl).trans ?_
      refine (dq rfl rfl).trans ?_
      rfl
  · refine (dq rfl rfl).trans ?_
    refine (dq rfl rfl).trans ?_
    refine (dq_getI rfl).trans (bn_c (fun v7 => ?_))
    refine (dq rfl rfl).trans ?_
    exact dq_ret1 rfl
theorem q_147_28 (x0 : Nat) (x1 : Int32) (x2 : Int32) (x3 : Int32) (x4 : Int32) (l5 : Option Value) (h : ia_H) : dn 147 28 [some (.ref x0), some (.int x1), some (.int x2), some (.int x3), some (.int x4), l5] [] h = ((ia_gI h 8 x0 35).bind fun v1 => (if v1 ≤ x4 then dn 147 71 [some (.ref x0), some (.int x1), some (.int x2), some (.int x3), some (.int x4), l5] [] h else (if x2 = (-2) then ((ia_gR h 8 x0 0).bind fun a2 => ((ia_ld h 0 a2 (0 + x1)).bind fun v3 => (if ia_ok h 8 [.ref x0, .int x4, .int v3] = true then kxi (cl 143 [.ref x0, .int x4, .int v3] h) (fun r5 h4 => (if r5 = 0 then dn 147 58 [some (.ref x0), some (.int x1), some (.int x2), some (.int x3), some (.int x4), some (.int r5)] [] h4 else ((ia_gR h4 8 x0 32).bind fun a6 => ((ia_ld h4 0 a6 x4).bind fun v7 => (if ia_ok h4 8 [.ref x0, .int x1, .int v7] = true then kxi (cl 91 [.ref x0, .int x1, .int v7] h4) (fun r9 h8 => (if r9 = 0 then (if ia_ok h8 8 [.ref x0, .int x4] = true then kxv (cl 144 [.ref x0, .int x4] h8) (fun h10 => dn 147 28 [some (.ref x0), some (.int x1), some (.int x4), some (.int x3), some (.int (x4 + 1)), some (.int r5)] [] h10) else none) else dn 147 58 [some (.ref x0), some (.int x1), some (.int x2), some (.int x3), some (.int x4), some (.int r5)] [] h8)) else none))))) else none))) else dn 147 71 [some (.ref x0), some (.int x1), some (.int x2), some (.int x3), some (.int x4), l5] [] h))) := by
  refine (dq rfl rfl).trans ?_
  refine (dq rfl rfl).trans ?_
  refine (dq_getI rfl).trans (bn_c (fun v1 => ?_))
  refine (dq_ige rfl).trans (ie_c ?_ ?_)
  · rfl
  · refine (dq rfl rfl).trans ?_
    refine (dq rfl rfl).trans ?_
    refine (dq_ine rfl).trans (ie_c ?_ ?_)
    · refine (dq rfl rfl).trans ?_
      refine (dq rfl rfl).trans ?_
      refine (dq rfl rfl).trans ?_
      refine (dq_getR rfl).trans (bn_c (fun a2 => ?_))
      refine (dq rfl rfl).trans ?_
      refine (dq rfl rfl).trans ?_
      refine (dq rfl rfl).trans ?_
      refine (dq_iald rfl).trans (bn_c (fun v3 => ?_))
      refine (dq_kxi (z := 143) rfl (lq rfl) (lq rfl) (lq rfl) kd_143).trans (it_c (kxi_c (fun r5 h4 => ?_)))
      refine (dq rfl rfl).trans ?_
      refine (dq rfl rfl).trans ?_
      refine (dq_ifeq rfl).trans (ie_c ?_ ?_)
      · rfl
      · refine (dq rfl rfl).trans ?_
        refine (dq rfl rfl).trans ?_
        refine (dq rfl rfl).trans ?_
        refine (dq_getR rfl).trans (bn_c (fun a6 => ?_))
        refine (dq rfl rfl).trans ?_
        refine (dq_iald rfl).trans (bn_c (fun v7 => ?_))
        refine (dq_kxi (z := 91) rfl (lq rfl) (lq rfl) (lq rfl) kd_91).trans (it_c (kxi_c (fun r9 h8 => ?_)))
        refine (dq_ifne rfl).trans (ie_c ?_ ?_)
        · refine (dq rfl rfl).trans ?_
          refine (dq rfl rfl).trans ?_
          refine (dq rfl rfl).trans ?_
          refine (dq rfl rfl).trans ?_
          refine (dq rfl rfl).trans ?_
          refine (dq_kxv (z := 144) rfl (lq rfl) (lq rfl) (lq rfl) kd_144).trans (it_c (kxv_c (fun h10 => ?_)))
          refine (dq_iinc (v := 1) rfl rfl (by decide)).trans ?_
          refine (dq rfl rfl).trans ?_
          rfl
        · rfl
    · rfl
theorem q_147_58 (x0 : Nat) (x1 : Int32) (x2 : Int32) (x3 : Int32) (x4 : Int32) (x5 : Int32) (h : ia_H) : dn 147 58 [some (.ref x0), some (.int x1), some (.int x2), some (.int x3), some (.int x4), some (.int x5)] [] h = (if x5 = 0 then (if ia_ok h 8 [.ref x0, .int x4] = true then kxv (cl 144 [.ref x0, .int x4] h) (fun h1 => dn 147 28 [some (.ref x0), some (.int x1), some (.int x2), some (.int (x3 + 0)), some (.int (x4 + 1)), some (.int x5)] [] h1) else none) else (if ia_ok h 8 [.ref x0, .int x4] = true then kxv (cl 144 [.ref x0, .int x4] h) (fun h2 => dn 147 28 [some (.ref x0), some (.int x1), some (.int x2), some (.int (x3 + 1)), some (.int (x4 + 1)), some (.int x5)] [] h2) else none)) := by
  refine (dq rfl rfl).trans ?_
  refine (dq rfl rfl).trans ?_
  refine (dq_ifeq rfl).trans (ie_c ?_ ?_)
  · refine (dq rfl rfl).trans ?_
    refine (dq rfl rfl).trans ?_
    refine (dq rfl rfl).trans ?_
    refine (dq rfl rfl).trans ?_
    refine (dq rfl rfl).trans ?_
    refine (dq_kxv (z := 144) rfl (lq rfl) (lq rfl) (lq rfl) kd_144).trans (it_c (kxv_c (fun h1 => ?_)))
    refine (dq_iinc (v := 1) rfl rfl (by decide)).trans ?_
    refine (dq rfl rfl).trans ?_
    rfl
  · refine (dq rfl rfl).trans ?_
    refine (dq rfl rfl).trans ?_
    refine (dq rfl rfl).trans ?_
    refine (dq rfl rfl).trans ?_
    refine (dq rfl rfl).trans ?_
    refine (dq rfl rfl).trans ?_
    refine (dq_kxv (z := 144) rfl (lq rfl) (lq rfl) (lq rfl) kd_144).trans (it_c (kxv_c (fun h2 => ?_)))
    refine (dq_iinc (v := 1) rfl rfl (by decide)).trans ?_
    refine (dq rfl rfl).trans ?_
    rfl
theorem q_147_71 (x0 : Nat) (x1 : Int32) (x2 : Int32) (x3 : Int32) (x4 : Int32) (l5 : Option Value) (h : ia_H) : dn 147 71 [some (.ref x0), some (.int x1), some (.int x2), some (.int x3), some (.int x4), l5] [] h = (if ia_ok h 8 [.ref x0] = true then kxv (cl 82 [.ref x0] h) (fun h1 => (if x2 = (-2) then some (some (.int (-2)), h1) else ((ia_pF h1 8 x0 12 (.int 0)).bind fun h2 => (if ia_ok h2 8 [.ref x0, .long (x3.toInt64)] = true then kxv (cl 71 [.ref x0, .long (x3.toInt64)] h2) (fun h3 => some (some (.int x2), h3)) else none)))) else none) := by
  refine (dq rfl rfl).trans ?_
  refine (dq_kxv (z := 82) rfl (lq rfl) (lq rfl) (lq rfl) kd_82).trans (it_c (kxv_c (fun h1 => ?_)))
  refine (dq rfl rfl).trans ?_
  refine (dq rfl rfl).trans ?_
  refine (dq_ine rfl).trans (ie_c ?_ ?_)
  · refine (dq rfl rfl).trans ?_
    exact dq_ret1 rfl
  · refine (dq rfl rfl).trans ?_
    refine (dq rfl rfl).trans ?_
    refine (dq_putI rfl).trans (bn_c (fun h2 => ?_))
    refine (dq rfl rfl).trans ?_
    refine (dq rfl rfl).trans ?_
    refine (dq rfl rfl).trans ?_
    refine (dq_kxv (z := 71) rfl (lq rfl) (lq rfl) (lq rfl) kd_71).trans (it_c (kxv_c (fun h3 => ?_)))
    refine (dq rfl rfl).trans ?_
    exact dq_ret1 rfl
theorem q_148 (ab : Nat) (h : ia_H) : cl 148 [.ref ab] h = dn 148 4 [some (.ref ab), some (.int 0), some (.int 0), none] [] h := by
  refine (dq rfl rfl).trans ?_
  refine (dq rfl rfl).trans ?_
  refine (dq rfl rfl).trans ?_
  refine (dq rfl rfl).trans ?_
  rfl
theorem q_148_4 (x0 : Nat) (x1 : Int32) (x2 : Int32) (l3 : Option Value) (h : ia_H) : dn 148 4 [some (.ref x0), some (.int x1), some (.int x2), l3] [] h = ((ia_gR h 8 x0 0).bind fun a1 => ((ia_ld h 0 a1 1104).bind fun v2 => (if v2 ≤ x2 then some (some (.int x1), h) else dn 148 12 [some (.ref x0), some (.int x1), some (.int x2), some (.int 0)] [] h))) := by
  refine (dq rfl rfl).trans ?_
  refine (dq rfl rfl).trans ?_
  refine (dq_getR rfl).trans (bn_c (fun a1 => ?_))
  refine (dq rfl rfl).trans ?_
  refine (dq_iald rfl).trans (bn_c (fun v2 => ?_))
  refine (dq_ige rfl).trans (ie_c ?_ ?_)
  · refine (dq rfl rfl).trans ?_
    exact dq_ret1 rfl
  · refine (dq rfl rfl).trans ?_
    refine (dq rfl rfl).trans ?_
    rfl
theorem q_148_12 (x0 : Nat) (x1 : Int32) (x2 : Int32) (x3 : Int32) (h : ia_H) : dn 148 12 [some (.ref x0), some (.int x1), some (.int x2), some (.int x3)] [] h = (if 4 ≤ x3 then dn 148 4 [some (.ref x0), some (.int x1), some (.int (x2 + 1)), some (.int x3)] [] h else (if ia_ok h 8 [.ref x0, .int x2, .int x3] = true then kxi (cl 91 [.ref x0, .int x2, .int x3] h) (fun r2 h1 => (if r2 = 0 then dn 148 12 [some (.ref x0), some (.int (x1 ||| 0)), some (.int x2), some (.int (x3 + 1))] [] h1 else dn 148 12 [some (.ref x0), some (.int (x1 ||| (1 <<< (x2 &&& 31)))), some (.int x2), some (.int (x3 + 1))] [] h1)) else none)) := by
  refine (dq rfl rfl).trans ?_
  refine (dq rfl rfl).trans ?_
  refine (dq_ige rfl).trans (ie_c ?_ ?_)
  · refine (dq_iinc (v := 1) rfl rfl (by decide)).trans ?_
    refine (dq rfl rfl).trans ?_
    rfl
  · refine (dq rfl rfl).trans ?_
    refine (dq rfl rfl).trans ?_
    refine (dq rfl rfl).trans ?_
    refine (dq rfl rfl).trans ?_
    refine (dq_kxi (z := 91) rfl (lq rfl) (lq rfl) (lq rfl) kd_91).trans (it_c (kxi_c (fun r2 h1 => ?_)))
    refine (dq_ifeq rfl).trans (ie_c ?_ ?_)
    · refine (dq rfl rfl).trans ?_
      refine (dq rfl rfl).trans ?_
      refine (dq rfl rfl).trans ?_
      refine (dq_iinc (v := 1) rfl rfl (by decide)).trans ?_
      refine (dq rfl rfl).trans ?_
      rfl
    · refine (dq rfl rfl).trans ?_
      refine (dq rfl rfl).trans ?_
      refine (dq rfl rfl).trans ?_
      refine (dq rfl rfl).trans ?_
      refine (dq rfl rfl).trans ?_
      refine (dq rfl rfl).trans ?_
      refine (dq_iinc (v := 1) rfl rfl (by decide)).trans ?_
      refine (dq rfl rfl).trans ?_
      rfl
theorem q_149 (ab : Nat) (h : ia_H) : cl 149 [.ref ab] h = dn 149 4 [some (.ref ab), some (.int 0), some (.int 0)] [] h := by
  refine (dq rfl rfl).trans ?_
  refine (dq rfl rfl).trans ?_
  refine (dq rfl rfl).trans ?_
  refine (dq rfl rfl).trans ?_
  rfl
theorem q_149_4 (x0 : Nat) (x1 : Int32) (x2 : Int32) (h : ia_H) : dn 149 4 [some (.ref x0), some (.int x1), some (.int x2)] [] h = ((ia_gR h 8 x0 0).bind fun a1 => ((ia_ld h 0 a1 1105).bind fun v2 => (if v2 ≤ x2 then some (some (.int x1), h) else (if ia_ok h 8 [.ref x0, .int x2] = true then kxi (cl 87 [.ref x0, .int x2] h) (fun r4 h3 => (if r4 = 0 then dn 149 4 [some (.ref x0), some (.int (x1 + 0)), some (.int (x2 + 1))] [] h3 else dn 149 4 [some (.ref x0), some (.int (x1 + 1)), some (.int (x2 + 1))] [] h3)) else none)))) := by
  refine (dq rfl rfl).trans ?_
  refine (dq rfl rfl).trans ?_
  refine (dq_getR rfl).trans (bn_c (fun a1 => ?_))
  refine (dq rfl rfl).trans ?_
  refine (dq_iald rfl).trans (bn_c (fun v2 => ?_))
  refine (dq_ige rfl).trans (ie_c ?_ ?_)
  · refine (dq rfl rfl).trans ?_
    exact dq_ret1 rfl
  · refine (dq rfl rfl).trans ?_
    refine (dq rfl rfl).trans ?_
    refine (dq rfl rfl).trans ?_
    refine (dq_kxi (z := 87) rfl (lq rfl) (lq rfl) (lq rfl) kd_87).trans (it_c (kxi_c (fun r4 h3 => ?_)))
    refine (dq_ifeq rfl).trans (ie_c ?_ ?_)
    · refine (dq rfl rfl).trans ?_
      refine (dq rfl rfl).trans ?_
      refine (dq rfl rfl).trans ?_
      refine (dq_iinc (v := 1) rfl rfl (by decide)).trans ?_
      refine (dq rfl rfl).trans ?_
      rfl
    · refine (dq rfl rfl).trans ?_
      refine (dq rfl rfl).trans ?_
      refine (dq rfl rfl).trans ?_
      refine (dq rfl rfl).trans ?_
      refine (dq_iinc (v := 1) rfl rfl (by decide)).trans ?_
      refine (dq rfl rfl).trans ?_
      rfl
theorem q_150 (ab : Nat) (h : ia_H) : cl 150 [.ref ab] h = ((ia_pF h 8 ab 13 (.int 0)).bind fun h1 => (if ia_ok h1 8 [.ref ab] = true then kxv (cl 142 [.ref ab] h1) (fun h2 => ((ia_gI h2 8 ab 23).bind fun v3 => (if v3 = (-1) then (if ia_ok h2 8 [.ref ab] = true then kxv (cl 81 [.ref ab] h2) (fun h4 => dn 150 20 [some (.ref ab), some (.int 0), some (.int 0), none] [] h4) else none) else ((ia_gI h2 8 ab 23).bind fun v5 => some (some (.int ((-21) - v5)), h2))))) else none)) := by
  refine (dq rfl rfl).trans ?_
  refine (dq rfl rfl).trans ?_
  refine (dq_putI rfl).trans (bn_c (fun h1 => ?_))
  refine (dq rfl rfl).trans ?_
  refine (dq_kxv (z := 142) rfl (lq rfl) (lq rfl) (lq rfl) kd_142).trans (it_c (kxv_c (fun h2 => ?_)))
  refine (dq rfl rfl).trans ?_
  refine (dq_getI rfl).trans (bn_c (fun v3 => ?_))
  refine (dq rfl rfl).trans ?_
  refine (dq_ieq rfl).trans (ie_c ?_ ?_)
  · refine (dq rfl rfl).trans ?_
    refine (dq_kxv (z := 81) rfl (lq rfl) (lq rfl) (lq rfl) kd_81).trans (it_c (kxv_c (fun h4 => ?_)))
    refine (dq rfl rfl).trans ?_
    refine (dq rfl rfl).trans ?_
    refine (dq rfl rfl).trans ?_
    refine (dq rfl rfl).trans ?_
    rfl
  · refine (dq rfl rfl).trans ?_
    refine (dq rfl rfl).trans ?_
    refine (dq_getI rfl).trans (bn_c (fun v5 => ?_))
    refine (dq rfl rfl).trans ?_
    exact dq_ret1 rfl
theorem q_150_20 (x0 : Nat) (x1 : Int32) (x2 : Int32) (l3 : Option Value) (h : ia_H) : dn 150 20 [some (.ref x0), some (.int x1), some (.int x2), l3] [] h = ((ia_gI h 8 x0 35).bind fun v1 => (if v1 ≤ x2 then (if ia_ok h 8 [.ref x0] = true then kxi (cl 148 [.ref x0] h) (fun r3 h2 => (if ia_ok h2 8 [.ref x0] = true then kxi (cl 149 [.ref x0] h2) (fun r5 h4 => (if ia_ok h4 8 [.ref x0] = true then kxv (cl 82 [.ref x0] h4) (fun h6 => ((ia_pF h6 8 x0 12 (.int 0)).bind fun h7 => (if ia_ok h7 8 [.ref x0, .long (x1.toInt64)] = true then kxv (cl 71 [.ref x0, .long (x1.toInt64)] h7) (fun h8 => (if ia_ok h8 8 [.ref x0, .long (r5.toInt64)] = true then kxv (cl 71 [.ref x0, .long (r5.toInt64)] h8) (fun h9 => some (some (.int r3), h9)) else none)) else none))) else none)) else none)) else none) else (if ia_ok h 8 [.ref x0, .int x2] = true then kxv (cl 144 [.ref x0, .int x2] h) (fun h10 => ((ia_gI h10 8 x0 14).bind fun v11 => dn 150 20 [some (.ref x0), some (.int (x1 + v11)), some (.int (x2 + 1)), l3] [] h10)) else none))) := by
  refine (dq rfl rfl).trans ?_
  refine (dq rfl rfl).trans ?_
  refine (dq_getI rfl).trans (bn_c (fun v1 => ?_))
  refine (dq_ige rfl).trans (ie_c ?_ ?_)
  · refine (dq rfl rfl).trans ?_
    refine (dq_kxi (z := 148) rfl (lq rfl) (lq rfl) (lq rfl) kd_148).trans (it_c (kxi_c (fun r3 h2 => ?_)))
    refine (dq rfl rfl).trans ?_
    refine (dq rfl rfl).trans ?_
    refine (dq_kxi (z := 149) rfl (lq rfl) (lq rfl) (lq rfl) kd_149).trans (it_c (kxi_c (fun r5 h4 => ?_)))
    refine (dq rfl rfl).trans ?_
    refine (dq rfl rfl).trans ?_
    refine (dq_kxv (z := 82) rfl (lq rfl) (lq rfl) (lq rfl) kd_82).trans (it_c (kxv_c (fun h6 => ?_)))
    refine (dq rfl rfl).trans ?_
    refine (dq rfl rfl).trans ?_
    refine (dq_putI rfl).trans (bn_c (fun h7 => ?_))
    refine (dq rfl rfl).trans ?_
    refine (dq rfl rfl).trans ?_
    refine (dq rfl rfl).trans ?_
    refine (dq_kxv (z := 71) rfl (lq rfl) (lq rfl) (lq rfl) kd_71).trans (it_c (kxv_c (fun h8 => ?_)))
    refine (dq rfl rfl).trans ?_
    refine (dq rfl rfl).trans ?_
    refine (dq rfl rfl).trans ?_
    refine (dq_kxv (z := 71) rfl (lq rfl) (lq rfl) (lq rfl) kd_71).trans (it_c (kxv_c (fun h9 => ?_)))
    refine (dq rfl rfl).trans ?_
    exact dq_ret1 rfl
  · refine (dq rfl rfl).trans ?_
    refine (dq rfl rfl).trans ?_
    refine (dq_kxv (z := 144) rfl (lq rfl) (lq rfl) (lq rfl) kd_144).trans (it_c (kxv_c (fun h10 => ?_)))
    refine (dq rfl rfl).trans ?_
    refine (dq rfl rfl).trans ?_
    refine (dq_getI rfl).trans (bn_c (fun v11 => ?_))
    refine (dq rfl rfl).trans ?_
    refine (dq rfl rfl).trans ?_
    refine (dq_iinc (v := 1) rfl rfl (by decide)).trans ?_
    refine (dq rfl rfl).trans ?_
    rfl
theorem q_151 (ab : Nat) (ac : Int32) (ad : Int32) (h : ia_H) : cl 151 [.ref ab, .int ac, .int ad] h = ((ia_pF h 8 ab 13 (.int 0)).bind fun h1 => (if ia_ok h1 8 [.ref ab, .int ac] = true then kxi (cl 78 [.ref ab, .int ac] h1) (fun r3 h2 => (if r3 = 0 then some (some (.int (-1)), h2) else kxi (cl 69 [.long (ad.toInt64), .long 0, .long 7] h2) (fun r5 h4 => (if r5 = 0 then some (some (.int (-1)), h4) else (if ia_ok h4 8 [.ref ab, .int ac, .int ad] = true then kxi (cl 79 [.ref ab, .int ac, .int ad] h4) (fun r7 h6 => some (some (.int r7), h6)) else none))))) else none)) := by
  refine (dq rfl rfl).trans ?_
  refine (dq rfl rfl).trans ?_
  refine (dq_putI rfl).trans (bn_c (fun h1 => ?_))
  refine (dq rfl rfl).trans ?_
  refine (dq rfl rfl).trans ?_
  refine (dq_kxi (z := 78) rfl (lq rfl) (lq rfl) (lq rfl) kd_78).trans (it_c (kxi_c (fun r3 h2 => ?_)))
  refine (dq_ifeq rfl).trans (ie_c ?_ ?_)
  · refine (dq rfl rfl).trans ?_
    exact dq_ret1 rfl
  · refine (dq rfl rfl).trans ?_
    refine (dq rfl rfl).trans ?_
    refine (dq rfl rfl).trans ?_
    refine (dq rfl rfl).trans ?_
    refine (dq_kxi0 (z := 69) rfl (lq rfl) (lq rfl) (lq rfl) kd_69).trans (kxi_c (fun r5 h4 => ?_))
    refine (dq_ifeq rfl).trans (ie_c ?_ ?_)
    · refine (dq rfl rfl).trans ?_
      exact dq_ret1 rfl
    · refine (dq rfl rfl).trans ?_
      refine (dq rfl rfl).trans ?_
      refine (dq rfl rfl).trans ?_
      refine (dq_kxi (z := 79) rfl (lq rfl) (lq rfl) (lq rfl) kd_79).trans (it_c (kxi_c (fun r7 h6 => ?_)))
      refine (dq rfl rfl).trans ?_
      exact dq_ret1 rfl
theorem q_152 (ab : Nat) (ac : Int32) (h : ia_H) : cl 152 [.ref ab, .int ac] h = ((ia_pF h 8 ab 13 (.int 0)).bind fun h1 => (if ia_ok h1 8 [.ref ab, .int ac] = true then kxi (cl 77 [.ref ab, .int ac] h1) (fun r3 h2 => (if r3 = 0 then some (some (.int (-1)), h2) else ((ia_pF h2 8 ab 12 (.int 0)).bind fun h4 => dn 152 14 [some (.ref ab), some (.int ac), some (.int 0)] [] h4))) else none)) := by
  refine (dq rfl rfl).trans ?_
  refine (dq rfl rfl).trans ?_
  refine (dq_putI rfl).trans (bn_c (fun h1 => ?_))
  refine (dq rfl rfl).trans ?_
  refine (dq rfl rfl).trans ?_
  refine (dq_kxi (z := 77) rfl (lq rfl) (lq rfl) (lq rfl) kd_77).trans (it_c (kxi_c (fun r3 h2 => ?_)))
  refine (dq_ifne rfl).trans (ie_c ?_ ?_)
  · refine (dq rfl rfl).trans ?_
    exact dq_ret1 rfl
  · refine (dq rfl rfl).trans ?_
    refine (dq rfl rfl).trans ?_
    refine (dq_putI rfl).trans (bn_c (fun h4 => ?_))
    refine (dq rfl rfl).trans ?_
    refine (dq rfl rfl).trans ?_
    rfl
theorem q_152_14 (x0 : Nat) (x1 : Int32) (x2 : Int32) (h : ia_H) : dn 152 14 [some (.ref x0), some (.int x1), some (.int x2)] [] h = ((ia_gR h 8 x0 0).bind fun a1 => ((ia_ld h 0 a1 1105).bind fun v2 => (if v2 ≤ x2 then ((ia_gI h 8 x0 12).bind fun v3 => some (some (.int v3), h)) else (if ia_ok h 8 [.ref x0, .int x2, .int 0] = true then kxi (cl 79 [.ref x0, .int x2, .int 0] h) (fun r5 h4 => (if r5 = x1 then (if ia_ok h4 8 [.ref x0, .int x2] = true then kxi (cl 87 [.ref x0, .int x2] h4) (fun r7 h6 => (if r7 = 0 then dn 152 14 [some (.ref x0), some (.int x1), some (.int (x2 + 1))] [] h6 else (if ia_ok h6 8 [.ref x0, .long (x2.toInt64)] = true then kxv (cl 71 [.ref x0, .long (x2.toInt64)] h6) (fun h8 => dn 152 14 [some (.ref x0), some (.int x1), some (.int (x2 + 1))] [] h8) else none))) else none) else dn 152 14 [some (.ref x0), some (.int x1), some (.int (x2 + 1))] [] h4)) else none)))) := by
  refine (dq rfl rfl).trans ?_
  refine (dq rfl rfl).trans ?_
  refine (dq_getR rfl).trans (bn_c (fun a1 => ?_))
  refine (dq rfl rfl).trans ?_
  refine (dq_iald rfl).trans (bn_c (fun v2 => ?_))
  refine (dq_ige rfl).trans (ie_c ?_ ?_)
  · refine (dq rfl rfl).trans ?_
    refine (dq_getI rfl).trans (bn_c (fun v3 => ?_))
    exact dq_ret1 rfl
  · refine (dq rfl rfl).trans ?_
    refine (dq rfl rfl).trans ?_
    refine (dq rfl rfl).trans ?_
    refine (dq_kxi (z := 79) rfl (lq rfl) (lq rfl) (lq rfl) kd_79).trans (it_c (kxi_c (fun r5 h4 => ?_)))
    refine (dq rfl rfl).trans ?_
    refine (dq_ine rfl).trans (ie_c ?_ ?_)
    · refine (dq rfl rfl).trans ?_
      refine (dq rfl rfl).trans ?_
      refine (dq_kxi (z := 87) rfl (lq rfl) (lq rfl) (lq rfl) kd_87).trans (it_c (kxi_c (fun r7 h6 => ?_)))
      refine (dq_ifeq rfl).trans (ie_c ?_ ?_)
      · refine (dq_iinc (v := 1) rfl rfl (by decide)).trans ?_
        refine (dq rfl rfl).trans ?_
        rfl
      · refine (dq rfl rfl).trans ?_
        refine (dq rfl rfl).trans ?_
        refine (dq rfl rfl).trans ?_
        refine (dq_kxv (z := 71) rfl (lq rfl) (lq rfl) (lq rfl) kd_71).trans (it_c (kxv_c (fun h8 => ?_)))
        refine (dq_iinc (v := 1) rfl rfl (by decide)).trans ?_
        refine (dq rfl rfl).trans ?_
        rfl
    · refine (dq_iinc (v := 1) rfl rfl (by decide)).trans ?_
      refine (dq rfl rfl).trans ?_
      rfl
theorem q_153 (ab : Nat) (ac : Int32) (ad : Int32) (h : ia_H) : cl 153 [.ref ab, .int ac, .int ad] h = ((ia_pF h 8 ab 13 (.int 0)).bind fun h1 => (if ia_ok h1 8 [.ref ab, .int ac] = true then kxi (cl 77 [.ref ab, .int ac] h1) (fun r3 h2 => (if r3 = 0 then some (some (.int (-1)), h2) else kxi (cl 75 [.int ad] h2) (fun r5 h4 => (if r5 = 0 then some (some (.int (-1)), h4) else dn 153 14 [some (.ref ab), some (.int ac), some (.int ad), some (.int 0)] [] h4)))) else none)) := by
  refine (dq rfl rfl).trans ?_
  refine (dq rfl rfl).trans ?_
  refine (dq_putI rfl).trans (bn_c (fun h1 => ?_))
  refine (dq rfl rfl).trans ?_
  refine (dq rfl rfl).trans ?_
  refine (dq_kxi (z := 77) rfl (lq rfl) (lq rfl) (lq rfl) kd_77).trans (it_c (kxi_c (fun r3 h2 => ?_)))
  refine (dq_ifeq rfl).trans (ie_c ?_ ?_)
  · refine (dq rfl rfl).trans ?_
    exact dq_ret1 rfl
  · refine (dq rfl rfl).trans ?_
    refine (dq_kxi0 (z := 75) rfl (lq rfl) (lq rfl) (lq rfl) kd_75).trans (kxi_c (fun r5 h4 => ?_))
    refine (dq_ifne rfl).trans (ie_c ?_ ?_)
    · refine (dq rfl rfl).trans ?_
      exact dq_ret1 rfl
    · refine (dq rfl rfl).trans ?_
      refine (dq rfl rfl).trans ?_
      rfl
theorem q_153_14 (x0 : Nat) (x1 : Int32) (x2 : Int32) (x3 : Int32) (h : ia_H) : dn 153 14 [some (.ref x0), some (.int x1), some (.int x2), some (.int x3)] [] h = ((ia_gR h 8 x0 0).bind fun a1 => ((ia_ld h 0 a1 1105).bind fun v2 => (if v2 ≤ x3 then ((ia_pF h 8 x0 12 (.int 0)).bind fun h3 => dn 153 45 [some (.ref x0), some (.int x1), some (.int x2), some (.int 0)] [] h3) else (if ia_ok h 8 [.ref x0, .int x3, .int 0] = true then kxi (cl 79 [.ref x0, .int x3, .int 0] h) (fun r5 h4 => (if r5 = x1 then (if ia_ok h4 8 [.ref x0, .int x3, .int x2] = true then kxi (cl 89 [.ref x0, .int x3, .int x2] h4) (fun r7 h6 => (if r7 = 0 then dn 153 14 [some (.ref x0), some (.int x1), some (.int x2), some (.int (x3 + 1))] [] h6 else (if ia_ok h6 8 [.ref x0, .int x3, .int 4] = true then kxi (cl 79 [.ref x0, .int x3, .int 4] h6) (fun r9 h8 => (if r9 = 0 then dn 153 14 [some (.ref x0), some (.int x1), some (.int x2), some (.int (x3 + 1))] [] h8 else some (some (.int (-2)), h8))) else none))) else none) else dn 153 14 [some (.ref x0), some (.int x1), some (.int x2), some (.int (x3 + 1))] [] h4)) else none)))) := by
  refine (dq rfl rfl).trans ?_
  refine (dq rfl rfl).trans ?_
  refine (dq_getR rfl).trans (bn_c (fun a1 => ?_))
  refine (dq rfl rfl).trans ?_
  refine (dq_iald rfl).trans (bn_c (fun v2 => ?_))
  refine (dq_ige rfl).trans (ie_c ?_ ?_)
  · refine (dq rfl rfl).trans ?_
    refine (dq rfl rfl).trans ?_
    refine (dq_putI rfl).trans (bn_c (fun h3 => ?_))
    refine (dq rfl rfl).trans ?_
    refine (dq rfl rfl).trans ?_
    rfl
  · refine (dq rfl rfl).trans ?_
    refine (dq rfl rfl).trans ?_
    refine (dq rfl rfl).trans ?_
    refine (dq_kxi (z := 79) rfl (lq rfl) (lq rfl) (lq rfl) kd_79).trans (it_c (kxi_c (fun r5 h4 => ?_)))
    refine (dq rfl rfl).trans ?_
    refine (dq_ine rfl).trans (ie_c ?_ ?_)
    · refine (dq rfl rfl).trans ?_
      refine (dq rfl rfl).trans ?_
      refine (dq rfl rfl).trans ?_
      refine (dq_kxi (z := 89) rfl (lq rfl) (lq rfl) (lq rfl) kd_89).trans (it_c (kxi_c (fun r7 h6 => ?_)))
      refine (dq_ifeq rfl).trans (ie_c ?_ ?_)
      · refine (dq_iinc (v := 1) rfl rfl (by decide)).trans ?_
        refine (dq rfl rfl).trans ?_
        rfl
      · refine (dq rfl rfl).trans ?_
        refine (dq rfl rfl).trans ?_
        refine (dq rfl rfl).trans ?_
        refine (dq_kxi (z := 79) rfl (lq rfl) (lq rfl) (lq rfl) kd_79).trans (it_c (kxi_c (fun r9 h8 => ?_)))
        refine (dq_ifeq rfl).trans (ie_c ?_ ?_)
        · refine (dq_iinc (v := 1) rfl rfl (by decide)).trans ?_
          refine (dq rfl rfl).trans ?_
          rfl
        · refine (dq rfl rfl).trans ?_
          exact dq_ret1 rfl
    · refine (dq_iinc (v := 1) rfl rfl (by decide)).trans ?_
      refine (dq rfl rfl).trans ?_
      rfl
theorem q_153_45 (x0 : Nat) (x1 : Int32) (x2 : Int32) (x3 : Int32) (h : ia_H) : dn 153 45 [some (.ref x0), some (.int x1), some (.int x2), some (.int x3)] [] h = ((ia_gR h 8 x0 0).bind fun a1 => ((ia_ld h 0 a1 1105).bind fun v2 => (if v2 ≤ x3 then ((ia_gI h 8 x0 12).bind fun v3 => some (some (.int v3), h)) else (if ia_ok h 8 [.ref x0, .int x3, .int 0] = true then kxi (cl 79 [.ref x0, .int x3, .int 0] h) (fun r5 h4 => (if r5 = x1 then (if ia_ok h4 8 [.ref x0, .int x3, .int x2] = true then kxi (cl 89 [.ref x0, .int x3, .int x2] h4) (fun r7 h6 => (if r7 = 0 then dn 153 45 [some (.ref x0), some (.int x1), some (.int x2), some (.int (x3 + 1))] [] h6 else (if ia_ok h6 8 [.ref x0, .long (x3.toInt64)] = true then kxv (cl 71 [.ref x0, .long (x3.toInt64)] h6) (fun h8 => dn 153 45 [some (.ref x0), some (.int x1), some (.int x2), some (.int (x3 + 1))] [] h8) else none))) else none) else dn 153 45 [some (.ref x0), some (.int x1), some (.int x2), some (.int (x3 + 1))] [] h4)) else none)))) := by
  refine (dq rfl rfl).trans ?_
  refine (dq rfl rfl).trans ?_
  refine (dq_getR rfl).trans (bn_c (fun a1 => ?_))
  refine (dq rfl rfl).trans ?_
  refine (dq_iald rfl).trans (bn_c (fun v2 => ?_))
  refine (dq_ige rfl).trans (ie_c ?_ ?_)
  · refine (dq rfl rfl).trans ?_
    refine (dq_getI rfl).trans (bn_c (fun v3 => ?_))
    exact dq_ret1 rfl
  · refine (dq rfl rfl).trans ?_
    refine (dq rfl rfl).trans ?_
    refine (dq rfl rfl).trans ?_
    refine (dq_kxi (z := 79) rfl (lq rfl) (lq rfl) (lq rfl) kd_79).trans (it_c (kxi_c (fun r5 h4 => ?_)))
    refine (dq rfl rfl).trans ?_
    refine (dq_ine rfl).trans (ie_c ?_ ?_)
    · refine (dq rfl rfl).trans ?_
      refine (dq rfl rfl).trans ?_
      refine (dq rfl rfl).trans ?_
      refine (dq_kxi (z := 89) rfl (lq rfl) (lq rfl) (lq rfl) kd_89).trans (it_c (kxi_c (fun r7 h6 => ?_)))
      refine (dq_ifeq rfl).trans (ie_c ?_ ?_)
      · refine (dq_iinc (v := 1) rfl rfl (by decide)).trans ?_
        refine (dq rfl rfl).trans ?_
        rfl
      · refine (dq rfl rfl).trans ?_
        refine (dq rfl rfl).trans ?_
        refine (dq rfl rfl).trans ?_
        refine (dq_kxv (z := 71) rfl (lq rfl) (lq rfl) (lq rfl) kd_71).trans (it_c (kxv_c (fun h8 => ?_)))
        refine (dq_iinc (v := 1) rfl rfl (by decide)).trans ?_
        refine (dq rfl rfl).trans ?_
        rfl
    · refine (dq_iinc (v := 1) rfl rfl (by decide)).trans ?_
      refine (dq rfl rfl).trans ?_
      rfl
theorem q_154 (ab : Nat) (ac : Int32) (h : ia_H) : cl 154 [.ref ab, .int ac] h = ((ia_pF h 8 ab 13 (.int 0)).bind fun h1 => kxi (cl 75 [.int ac] h1) (fun r3 h2 => (if r3 = 0 then some (some (.int (-1)), h2) else dn 154 18 [some (.ref ab), some (.int ac), some (.int 0), some (.int 0), some (.int 0), some (.int 0), some (.int 0)] [] h2))) := by
  refine (dq rfl rfl).trans ?_
  refine (dq rfl rfl).trans ?_
  refine (dq_putI rfl).trans (bn_c (fun h1 => ?_))
  refine (dq rfl rfl).trans ?_
  refine (dq_kxi0 (z := 75) rfl (lq rfl) (lq rfl) (lq rfl) kd_75).trans (kxi_c (fun r3 h2 => ?_))
  refine (dq_ifne rfl).trans (ie_c ?_ ?_)
  · refine (dq rfl rfl).trans ?_
    exact dq_ret1 rfl
  · refine (dq rfl rfl).trans ?_
    refine (dq rfl rfl).trans ?_
    refine (dq rfl rfl).trans ?_
    refine (dq rfl rfl).trans ?_
    refine (dq rfl rfl).trans ?_
    refine (dq rfl rfl).trans ?_
    refine (dq rfl rfl).trans ?_
    refine (dq rfl rfl).trans ?_
    refine (dq rfl rfl).trans ?_
    refine (dq rfl rfl).trans ?_
    rfl
theorem q_154_18 (x0 : Nat) (x1 : Int32) (x2 : Int32) (x3 : Int32) (x4 : Int32) (x5 : Int32) (x6 : Int32) (h : ia_H) : dn 154 18 [some (.ref x0), some (.int x1), some (.int x2), some (.int x3), some (.int x4), some (.int x5), some (.int x6)] [] h = ((ia_gR h 8 x0 0).bind fun a1 => ((ia_ld h 0 a1 1105).bind fun v2 => (if v2 ≤ x6 then ((ia_pF h 8 x0 12 (.int 0)).bind fun h3 => (if ia_ok h3 8 [.ref x0, .long (x3.toInt64)] = true then kxv (cl 71 [.ref x0, .long (x3.toInt64)] h3) (fun h4 => (if ia_ok h4 8 [.ref x0, .long (x4.toInt64)] = true then kxv (cl 71 [.ref x0, .long (x4.toInt64)] h4) (fun h5 => (if ia_ok h5 8 [.ref x0, .long (x5.toInt64)] = true then kxv (cl 71 [.ref x0, .long (x5.toInt64)] h5) (fun h6 => some (some (.int x2), h6)) else none)) else none)) else none)) else (if ia_ok h 8 [.ref x0, .int x6, .int 1] = true then kxi (cl 79 [.ref x0, .int x6, .int 1] h) (fun r8 h7 => (if r8 = x1 then (if ia_ok h7 8 [.ref x0, .int x6] = true then kxi (cl 87 [.ref x0, .int x6] h7) (fun r10 h9 => (if r10 = 0 then dn 154 40 [some (.ref x0), some (.int x1), some (.int (x2 + 1)), some (.int x3), some (.int x4), some (.int x5), some (.int x6)] [.int 0, .int x3] h9 else dn 154 40 [some (.ref x0), some (.int x1), some (.int (x2 + 1)), some (.int x3), some (.int x4), some (.int x5), some (.int x6)] [.int 1, .int x3] h9)) else none) else dn 154 18 [some (.ref x0), some (.int x1), some (.int x2), some (.int x3), some (.int x4), some (.int x5), some (.int (x6 + 1))] [] h7)) else none)))) := by
  refine (dq rfl rfl).trans ?_
  refine (dq rfl rfl).trans ?_
  refine (dq_getR rfl).trans (bn_c (fun a1 => ?_))
  refine (dq rfl rfl).trans ?_
  refine (dq_iald rfl).trans (bn_c (fun v2 => ?_))
  refine (dq_ige rfl).trans (ie_c ?_ ?_)
  · refine (dq rfl rfl).trans ?_
    refine (dq rfl rfl).trans ?_
    refine (dq_putI rfl).trans (bn_c (fun h3 => ?_))
    refine (dq rfl rfl).trans ?_
    refine (dq rfl rfl).trans ?_
    refine (dq rfl rfl).trans ?_
    refine (dq_kxv (z := 71) rfl (lq rfl) (lq rfl) (lq rfl) kd_71).trans (it_c (kxv_c (fun h4 => ?_)))
    refine (dq rfl rfl).trans ?_
    refine (dq rfl rfl).trans ?_
    refine (dq rfl rfl).trans ?_
    refine (dq_kxv (z := 71) rfl (lq rfl) (lq rfl) (lq rfl) kd_71).trans (it_c (kxv_c (fun h5 => ?_)))
    refine (dq rfl rfl).trans ?_
    refine (dq rfl rfl).trans ?_
    refine (dq rfl rfl).trans ?_
    refine (dq_kxv (z := 71) rfl (lq rfl) (lq rfl) (lq rfl) kd_71).trans (it_c (kxv_c (fun h6 => ?_)))
    refine (dq rfl rfl).trans ?_
    exact dq_ret1 rfl
  · refine (dq rfl rfl).trans ?_
    refine (dq rfl rfl).trans ?_
    refine (dq rfl rfl).trans ?_
    refine (dq_kxi (z := 79) rfl (lq rfl) (lq rfl) (lq rfl) kd_79).trans (it_c (kxi_c (fun r8 h7 => ?_)))
    refine (dq rfl rfl).trans ?_
    refine (dq_ieq rfl).trans (ie_c ?_ ?_)
    · refine (dq_iinc (v := 1) rfl rfl (by decide)).trans ?_
      refine (dq rfl rfl).trans ?_
      refine (dq rfl rfl).trans ?_
      refine (dq rfl rfl).trans ?_
      refine (dq_kxi (z := 87) rfl (lq rfl) (lq rfl) (lq rfl) kd_87).trans (it_c (kxi_c (fun r10 h9 => ?_)))
      refine (dq_ifeq rfl).trans (ie_c ?_ ?_)
      · refine (dq rfl rfl).trans ?_
        rfl
      · refine (dq rfl rfl).trans ?_
        refine (dq rfl rfl).trans ?_
        rfl
    · refine (dq rfl rfl).trans ?_
      refine (dq_iinc (v := 1) rfl rfl (by decide)).trans ?_
      refine (dq rfl rfl).trans ?_
      rfl
theorem q_154_40 (x0 : Nat) (x1 : Int32) (x2 : Int32) (x3 : Int32) (x4 : Int32) (x5 : Int32) (x6 : Int32) (s0 : Int32) (s1 : Int32) (h : ia_H) : dn 154 40 [some (.ref x0), some (.int x1), some (.int x2), some (.int x3), some (.int x4), some (.int x5), some (.int x6)] [.int s1, .int s0] h = (if ia_ok h 8 [.ref x0, .int x6, .int 5] = true then kxi (cl 79 [.ref x0, .int x6, .int 5] h) (fun r2 h1 => (if ia_ok h1 8 [.ref x0, .int x6, .int 7] = true then kxi (cl 79 [.ref x0, .int x6, .int 7] h1) (fun r4 h3 => dn 154 18 [some (.ref x0), some (.int x1), some (.int x2), some (.int (s0 + s1)), some (.int (x4 + r2)), some (.int (x5 + r4)), some (.int (x6 + 1))] [] h3) else none)) else none) := by
  refine (dq rfl rfl).trans ?_
  refine (dq rfl rfl).trans ?_
  refine (dq rfl rfl).trans ?_
  refine (dq rfl rfl).trans ?_
  refine (dq rfl rfl).trans ?_
  refine (dq rfl rfl).trans ?_
  refine (dq_kxi (z := 79) rfl (lq rfl) (lq rfl) (lq rfl) kd_79).trans (it_c (kxi_c (fun r2 h1 => ?_)))
  refine (dq rfl rfl).trans ?_
  refine (dq rfl rfl).trans ?_
  refine (dq rfl rfl).trans ?_
  refine (dq rfl rfl).trans ?_
  refine (dq rfl rfl).trans ?_
  refine (dq rfl rfl).trans ?_
  refine (dq_kxi (z := 79) rfl (lq rfl) (lq rfl) (lq rfl) kd_79).trans (it_c (kxi_c (fun r4 h3 => ?_)))
  refine (dq rfl rfl).trans ?_
  refine (dq rfl rfl).trans ?_
  refine (dq_iinc (v := 1) rfl rfl (by decide)).trans ?_
  refine (dq rfl rfl).trans ?_
  rfl
theorem q_155 (ab : Nat) (h : ia_H) : cl 155 [.ref ab] h = ((ia_pF h 8 ab 13 (.int 0)).bind fun h1 => ((ia_gR h1 8 ab 0).bind fun a2 => ((ia_ld h1 0 a2 1104).bind fun v3 => (if v3 = 0 then some (some (.int (-1)), h1) else dn 155 14 [some (.ref ab), some (.int 0), some (.int 1)] [] h1)))) := by
  refine (dq rfl rfl).trans ?_
  refine (dq rfl rfl).trans ?_
  refine (dq_putI rfl).trans (bn_c (fun h1 => ?_))
  refine (dq rfl rfl).trans ?_
  refine (dq_getR rfl).trans (bn_c (fun a2 => ?_))
  refine (dq rfl rfl).trans ?_
  refine (dq_iald rfl).trans (bn_c (fun v3 => ?_))
  refine (dq_ifne rfl).trans (ie_c ?_ ?_)
  · refine (dq rfl rfl).trans ?_
    exact dq_ret1 rfl
  · refine (dq rfl rfl).trans ?_
    refine (dq rfl rfl).trans ?_
    refine (dq rfl rfl).trans ?_
    refine (dq rfl rfl).trans ?_
    rfl
theorem q_155_14 (x0 : Nat) (x1 : Int32) (x2 : Int32) (h : ia_H) : dn 155 14 [some (.ref x0), some (.int x1), some (.int x2)] [] h = ((ia_gR h 8 x0 0).bind fun a1 => ((ia_ld h 0 a1 1104).bind fun v2 => (if v2 ≤ x2 then ((ia_pF h 8 x0 12 (.int 0)).bind fun h3 => (if ia_ok h3 8 [.ref x0, .int x1] = true then kxi (cl 145 [.ref x0, .int x1] h3) (fun r5 h4 => (if ia_ok h4 8 [.ref x0, .long (r5.toInt64)] = true then kxv (cl 71 [.ref x0, .long (r5.toInt64)] h4) (fun h6 => some (some (.int x1), h6)) else none)) else none)) else (if ia_ok h 8 [.ref x0, .int x2] = true then kxi (cl 145 [.ref x0, .int x2] h) (fun r8 h7 => (if ia_ok h7 8 [.ref x0, .int x1] = true then kxi (cl 145 [.ref x0, .int x1] h7) (fun r10 h9 => (if r8 ≤ r10 then dn 155 14 [some (.ref x0), some (.int x1), some (.int (x2 + 1))] [] h9 else dn 155 14 [some (.ref x0), some (.int x2), some (.int (x2 + 1))] [] h9)) else none)) else none)))) := by
  refine (dq rfl rfl).trans ?_
  refine (dq rfl rfl).trans ?_
  refine (dq_getR rfl).trans (bn_c (fun a1 => ?_))
  refine (dq rfl rfl).trans ?_
  refine (dq_iald rfl).trans (bn_c (fun v2 => ?_))
  refine (dq_ige rfl).trans (ie_c ?_ ?_)
  · refine (dq rfl rfl).trans ?_
    refine (dq rfl rfl).trans ?_
    refine (dq_putI rfl).trans (bn_c (fun h3 => ?_))
    refine (dq rfl rfl).trans ?_
    refine (dq rfl rfl).trans ?_
    refine (dq rfl rfl).trans ?_
    refine (dq_kxi (z := 145) rfl (lq rfl) (lq rfl) (lq rfl) kd_145).trans (it_c (kxi_c (fun r5 h4 => ?_)))
    refine (dq rfl rfl).trans ?_
    refine (dq_kxv (z := 71) rfl (lq rfl) (lq rfl) (lq rfl) kd_71).trans (it_c (kxv_c (fun h6 => ?_)))
    refine (dq rfl rfl).trans ?_
    exact dq_ret1 rfl
  · refine (dq rfl rfl).trans ?_
    refine (dq rfl rfl).trans ?_
    refine (dq_kxi (z := 145) rfl (lq rfl) (lq rfl) (lq rfl) kd_145).trans (it_c (kxi_c (fun r8 h7 => ?_)))
    refine (dq rfl rfl).trans ?_
    refine (dq rfl rfl).trans ?_
    refine (dq_kxi (z := 145) rfl (lq rfl) (lq rfl) (lq rfl) kd_145).trans (it_c (kxi_c (fun r10 h9 => ?_)))
    refine (dq_ile rfl).trans (ie_c ?_ ?_)
    · refine (dq_iinc (v := 1) rfl rfl (by decide)).trans ?_
      refine (dq rfl rfl).trans ?_
      rfl
    · refine (dq rfl rfl).trans ?_
      refine (dq rfl rfl).trans ?_
      refine (dq_iinc (v := 1) rfl rfl (by decide)).trans ?_
      refine (dq rfl rfl).trans ?_
      rfl
theorem q_156 (ab : Nat) (ac : Int32) (h : ia_H) : cl 156 [.ref ab, .int ac] h = ((ia_pF h 8 ab 13 (.int 0)).bind fun h1 => kxi (cl 75 [.int ac] h1) (fun r3 h2 => (if r3 = 0 then some (some (.int (-1)), h2) else ((ia_gR h2 8 ab 0).bind fun a4 => ((ia_ld h2 0 a4 1104).bind fun v5 => (if v5 = 0 then some (some (.int (-2)), h2) else dn 156 21 [some (.ref ab), some (.int ac), some (.int 0), some (.int 0), some (.int 0), none, none] [] h2)))))) := by
  refine (dq rfl rfl).trans ?_
  refine (dq rfl rfl).trans ?_
  refine (dq_putI rfl).trans (bn_c (fun h1 => ?_))
  refine (dq rfl rfl).trans ?_
  refine (dq_kxi0 (z := 75) rfl (lq rfl) (lq rfl) (lq rfl) kd_75).trans (kxi_c (fun r3 h2 => ?_))
  refine (dq_ifne rfl).trans (ie_c ?_ ?_)
  · refine (dq rfl rfl).trans ?_
    exact dq_ret1 rfl
  · refine (dq rfl rfl).trans ?_
    refine (dq_getR rfl).trans (bn_c (fun a4 => ?_))
    refine (dq rfl rfl).trans ?_
    refine (dq_iald rfl).trans (bn_c (fun v5 => ?_))
    refine (dq_ifne rfl).trans (ie_c ?_ ?_)
    · refine (dq rfl rfl).trans ?_
      exact dq_ret1 rfl
    · refine (dq rfl rfl).trans ?_
      refine (dq rfl rfl).trans ?_
      refine (dq rfl rfl).trans ?_
      refine (dq rfl rfl).trans ?_
      refine (dq rfl rfl).trans ?_
      refine (dq rfl rfl).trans ?_
      rfl
theorem q_156_21 (x0 : Nat) (x1 : Int32) (x2 : Int32) (x3 : Int32) (x4 : Int32) (l5 : Option Value) (l6 : Option Value) (h : ia_H) : dn 156 21 [some (.ref x0), some (.int x1), some (.int x2), some (.int x3), some (.int x4), l5, l6] [] h = ((ia_gR h 8 x0 0).bind fun a1 => ((ia_ld h 0 a1 1104).bind fun v2 => (if v2 ≤ x4 then ((ia_pF h 8 x0 12 (.int 0)).bind fun h3 => ((ia_gR h3 8 x0 0).bind fun a4 => ((ia_ld h3 0 a4 ((12 + (4 * x2)) + x1)).bind fun v5 => (if ia_ok h3 8 [.ref x0, .long (v5.toInt64)] = true then kxv (cl 71 [.ref x0, .long (v5.toInt64)] h3) (fun h6 => (if ia_ok h6 8 [.ref x0, .long (x3.toInt64)] = true then kxv (cl 71 [.ref x0, .long (x3.toInt64)] h6) (fun h7 => some (some (.int x2), h7)) else none)) else none)))) else ((ia_gR h 8 x0 0).bind fun a8 => ((ia_ld h 0 a8 ((12 + (4 * x4)) + x1)).bind fun v9 => ((ia_gR h 8 x0 0).bind fun a10 => ((ia_ld h 0 a10 ((12 + (4 * x2)) + x1)).bind fun v11 => (if v9 ≤ v11 then dn 156 55 [some (.ref x0), some (.int x1), some (.int x2), some (.int x3), some (.int x4), some (.int v9), some (.int v11)] [.int x2] h else dn 156 55 [some (.ref x0), some (.int x1), some (.int x2), some (.int x3), some (.int x4), some (.int v9), some (.int v11)] [.int x4] h)))))))) := by
  refine (dq rfl rfl).trans ?_
  refine (dq rfl rfl).trans ?_
  refine (dq_getR rfl).trans (bn_c (fun a1 => ?_))
  refine (dq rfl rfl).trans ?_
  refine (dq_iald rfl).trans (bn_c (fun v2 => ?_))
  refine (dq_ige rfl).trans (ie_c ?_ ?_)
  · refine (dq rfl rfl).trans ?_
    refine (dq rfl rfl).trans ?_
    refine (dq_putI rfl).trans (bn_c (fun h3 => ?_))
    refine (dq rfl rfl).trans ?_
    refine (dq rfl rfl).trans ?_
    refine (dq_getR rfl).trans (bn_c (fun a4 => ?_))
    refine (dq rfl rfl).trans ?_
    refine (dq rfl rfl).trans ?_
    refine (dq rfl rfl).trans ?_
    refine (dq rfl rfl).trans ?_
    refine (dq rfl rfl).trans ?_
    refine (dq rfl rfl).trans ?_
    refine (dq rfl rfl).trans ?_
    refine (dq_iald rfl).trans (bn_c (fun v5 => ?_))
    refine (dq rfl rfl).trans ?_
    refine (dq_kxv (z := 71) rfl (lq rfl) (lq rfl) (lq rfl) kd_71).trans (it_c (kxv_c (fun h6 => ?_)))
    refine (dq rfl rfl).trans ?_
    refine (dq rfl rfl).trans ?_
    refine (dq rfl rfl).trans ?_
    refine (dq_kxv (z := 71) rfl (lq rfl) (lq rfl) (lq rfl) kd_71).trans (it_c (kxv_c (fun h7 => ?_)))
    refine (dq rfl rfl).trans ?_
    exact dq_ret1 rfl
  · refine (dq rfl rfl).trans ?_
    refine (dq_getR rfl).trans (bn_c (fun a8 => ?_))
    refine (dq rfl rfl).trans ?_
    refine (dq rfl rfl).trans ?_
    refine (dq rfl rfl).trans ?_
    refine (dq rfl rfl).trans ?_
    refine (dq rfl rfl).trans ?_
    refine (dq rfl rfl).trans ?_
    refine (dq rfl rfl).trans ?_
    refine (dq_iald rfl).trans (bn_c (fun v9 => ?_))
    refine (dq rfl rfl).trans ?_
    refine (dq rfl rfl).trans ?_
    refine (dq_getR rfl).trans (bn_c (fun a10 => ?_))
    refine (dq rfl rfl).trans ?_
    refine (dq rfl rfl).trans ?_
    refine (dq rfl rfl).trans ?_
    refine (dq rfl rfl).trans ?_
    refine (dq rfl rfl).trans ?_
    refine (dq rfl rfl).trans ?_
    refine (dq rfl rfl).trans ?_
    refine (dq_iald rfl).trans (bn_c (fun v11 => ?_))
    refine (dq rfl rfl).trans ?_
    refine (dq rfl rfl).trans ?_
    refine (dq rfl rfl).trans ?_
    refine (dq_ile rfl).trans (ie_c ?_ ?_)
    · refine (dq rfl rfl).trans ?_
      rfl
    · refine (dq rfl rfl).trans ?_
      refine (dq rfl rfl).trans ?_
      rfl
theorem q_156_55 (x0 : Nat) (x1 : Int32) (x2 : Int32) (x3 : Int32) (x4 : Int32) (x5 : Int32) (x6 : Int32) (s0 : Int32) (h : ia_H) : dn 156 55 [some (.ref x0), some (.int x1), some (.int x2), some (.int x3), some (.int x4), some (.int x5), some (.int x6)] [.int s0] h = (if x5 ≤ x6 then (if x5 = x6 then dn 156 21 [some (.ref x0), some (.int x1), some (.int s0), some (.int (x3 + 1)), some (.int (x4 + 1)), some (.int x5), some (.int x6)] [] h else dn 156 21 [some (.ref x0), some (.int x1), some (.int s0), some (.int x3), some (.int (x4 + 1)), some (.int x5), some (.int x6)] [] h) else dn 156 21 [some (.ref x0), some (.int x1), some (.int s0), some (.int 1), some (.int (x4 + 1)), some (.int x5), some (.int x6)] [] h) := by
  refine (dq rfl rfl).trans ?_
  refine (dq rfl rfl).trans ?_
  refine (dq rfl rfl).trans ?_
  refine (dq_ile rfl).trans (ie_c ?_ ?_)
  · refine (dq rfl rfl).trans ?_
    refine (dq rfl rfl).trans ?_
    refine (dq_ine rfl).trans (ie_c ?_ ?_)
    · refine (dq rfl rfl).trans ?_
      refine (dq rfl rfl).trans ?_
      refine (dq rfl rfl).trans ?_
      refine (dq rfl rfl).trans ?_
      refine (dq rfl rfl).trans ?_
      refine (dq_iinc (v := 1) rfl rfl (by decide)).trans ?_
      refine (dq rfl rfl).trans ?_
      rfl
    · refine (dq rfl rfl).trans ?_
      refine (dq rfl rfl).trans ?_
      refine (dq_iinc (v := 1) rfl rfl (by decide)).trans ?_
      refine (dq rfl rfl).trans ?_
      rfl
  · refine (dq rfl rfl).trans ?_
    refine (dq rfl rfl).trans ?_
    refine (dq rfl rfl).trans ?_
    refine (dq_iinc (v := 1) rfl rfl (by decide)).trans ?_
    refine (dq rfl rfl).trans ?_
    rfl
theorem q_157 (ab : Nat) (ac : Int32) (h : ia_H) : cl 157 [.ref ab, .int ac] h = ((ia_pF h 8 ab 13 (.int 0)).bind fun h1 => kxi (cl 75 [.int ac] h1) (fun r3 h2 => (if r3 = 0 then some (some (.int (-1)), h2) else dn 157 12 [some (.ref ab), some (.int ac), some (.int (-1)), some (.int 0)] [] h2))) := by
  refine (dq rfl rfl).trans ?_
  refine (dq rfl rfl).trans ?_
  refine (dq_putI rfl).trans (bn_c (fun h1 => ?_))
  refine (dq rfl rfl).trans ?_
  refine (dq_kxi0 (z := 75) rfl (lq rfl) (lq rfl) (lq rfl) kd_75).trans (kxi_c (fun r3 h2 => ?_))
  refine (dq_ifne rfl).trans (ie_c ?_ ?_)
  · refine (dq rfl rfl).trans ?_
    exact dq_ret1 rfl
  · refine (dq rfl rfl).trans ?_
    refine (dq rfl rfl).trans ?_
    refine (dq rfl rfl).trans ?_
    refine (dq rfl rfl).trans ?_
    rfl
theorem q_157_12 (x0 : Nat) (x1 : Int32) (x2 : Int32) (x3 : Int32) (h : ia_H) : dn 157 12 [some (.ref x0), some (.int x1), some (.int x2), some (.int x3)] [] h = ((ia_gR h 8 x0 0).bind fun a1 => ((ia_ld h 0 a1 1105).bind fun v2 => (if v2 ≤ x3 then (if x2 = (-1) then some (some (.int (-2)), h) else ((ia_pF h 8 x0 12 (.int 0)).bind fun h3 => (if ia_ok h3 8 [.ref x0, .int x2, .int 5] = true then kxi (cl 79 [.ref x0, .int x2, .int 5] h3) (fun r5 h4 => (if ia_ok h4 8 [.ref x0, .long (r5.toInt64)] = true then kxv (cl 71 [.ref x0, .long (r5.toInt64)] h4) (fun h6 => (if ia_ok h6 8 [.ref x0, .int x2, .int 7] = true then kxi (cl 79 [.ref x0, .int x2, .int 7] h6) (fun r8 h7 => (if ia_ok h7 8 [.ref x0, .int x2, .int 5] = true then kxi (cl 79 [.ref x0, .int x2, .int 5] h7) (fun r10 h9 => (if r10 = 0 then none else (if ia_ok h9 8 [.ref x0, .long (((1000 * r8) / r10).toInt64)] = true then kxv (cl 71 [.ref x0, .long (((1000 * r8) / r10).toInt64)] h9) (fun h11 => some (some (.int x2), h11)) else none))) else none)) else none)) else none)) else none))) else (if ia_ok h 8 [.ref x0, .int x3, .int 1] = true then kxi (cl 79 [.ref x0, .int x3, .int 1] h) (fun r13 h12 => (if r13 = x1 then (if x2 = (-1) then dn 157 12 [some (.ref x0), some (.int x1), some (.int x3), some (.int (x3 + 1))] [] h12 else (if ia_ok h12 8 [.ref x0, .int x3, .int 5] = true then kxi (cl 79 [.ref x0, .int x3, .int 5] h12) (fun r15 h14 => (if ia_ok h14 8 [.ref x0, .int x2, .int 5] = true then kxi (cl 79 [.ref x0, .int x2, .int 5] h14) (fun r17 h16 => (if r15 ≤ r17 then dn 157 12 [some (.ref x0), some (.int x1), some (.int x2), some (.int (x3 + 1))] [] h16 else dn 157 12 [some (.ref x0), some (.int x1), some (.int x3), some (.int (x3 + 1))] [] h16)) else none)) else none)) else dn 157 12 [some (.ref x0), some (.int x1), some (.int x2), some (.int (x3 + 1))] [] h12)) else none)))) := by
  refine (dq rfl rfl).trans ?_
  refine (dq rfl rfl).trans ?_
  refine (dq_getR rfl).trans (bn_c (fun a1 => ?_))
  refine (dq rfl rfl).trans ?_
  refine (dq_iald rfl).trans (bn_c (fun v2 => ?_))
  refine (dq_ige rfl).trans (ie_c ?_ ?_)
  · refine (dq rfl rfl).trans ?_
    refine (dq rfl rfl).trans ?_
    refine (dq_ine rfl).trans (ie_c ?_ ?_)
    · refine (dq rfl rfl).trans ?_
      exact dq_ret1 rfl
    · refine (dq rfl rfl).trans ?_
      refine (dq rfl rfl).trans ?_
      refine (dq_putI rfl).trans (bn_c (fun h3 => ?_))
      refine (dq rfl rfl).trans ?_
      refine (dq rfl rfl).trans ?_
      refine (dq rfl rfl).trans ?_
      refine (dq rfl rfl).trans ?_
      refine (dq_kxi (z := 79) rfl (lq rfl) (lq rfl) (lq rfl) kd_79).trans (it_c (kxi_c (fun r5 h4 => ?_)))
      refine (dq rfl rfl).trans ?_
      refine (dq_kxv (z := 71) rfl (lq rfl) (lq rfl) (lq rfl) kd_71).trans (it_c (kxv_c (fun h6 => ?_)))
      refine (dq rfl rfl).trans ?_
      refine (dq rfl rfl).trans ?_
      refine (dq rfl rfl).trans ?_
      refine (dq rfl rfl).trans ?_
      refine (dq rfl rfl).trans ?_
      refine (dq_kxi (z := 79) rfl (lq rfl) (lq rfl) (lq rfl) kd_79).trans (it_c (kxi_c (fun r8 h7 => ?_)))
      refine (dq rfl rfl).trans ?_
      refine (dq rfl rfl).trans ?_
      refine (dq rfl rfl).trans ?_
      refine (dq rfl rfl).trans ?_
      refine (dq_kxi (z := 79) rfl (lq rfl) (lq rfl) (lq rfl) kd_79).trans (it_c (kxi_c (fun r10 h9 => ?_)))
      refine (dq_i2z rfl).trans (ie_c rfl ?_)
      refine (dq rfl rfl).trans ?_
      refine (dq_kxv (z := 71) rfl (lq rfl) (lq rfl) (lq rfl) kd_71).trans (it_c (kxv_c (fun h11 => ?_)))
      refine (dq rfl rfl).trans ?_
      exact dq_ret1 rfl
  · refine (dq rfl rfl).trans ?_
    refine (dq rfl rfl).trans ?_
    refine (dq rfl rfl).trans ?_
    refine (dq_kxi (z := 79) rfl (lq rfl) (lq rfl) (lq rfl) kd_79).trans (it_c (kxi_c (fun r13 h12 => ?_)))
    refine (dq rfl rfl).trans ?_
    refine (dq_ine rfl).trans (ie_c ?_ ?_)
    · refine (dq rfl rfl).trans ?_
      refine (dq rfl rfl).trans ?_
      refine (dq_ieq rfl).trans (ie_c ?_ ?_)
      · refine (dq rfl rfl).trans ?_
        refine (dq rfl rfl).trans ?_
        refine (dq_iinc (v := 1) rfl rfl (by decide)).trans ?_
        refine (dq rfl rfl).trans ?_
        rfl
      · refine (dq rfl rfl).trans ?_
        refine (dq rfl rfl).trans ?_
        refine (dq rfl rfl).trans ?_
        refine (dq_kxi (z := 79) rfl (lq rfl) (lq rfl) (lq rfl) kd_79).trans (it_c (kxi_c (fun r15 h14 => ?_)))
        refine (dq rfl rfl).trans ?_
        refine (dq rfl rfl).trans ?_
        refine (dq rfl rfl).trans ?_
        refine (dq_kxi (z := 79) rfl (lq rfl) (lq rfl) (lq rfl) kd_79).trans (it_c (kxi_c (fun r17 h16 => ?_)))
        refine (dq_ile rfl).trans (ie_c ?_ ?_)
        · refine (dq_iinc (v := 1) rfl rfl (by decide)).trans ?_
          refine (dq rfl rfl).trans ?_
          rfl
        · refine (dq rfl rfl).trans ?_
          refine (dq rfl rfl).trans ?_
          refine (dq_iinc (v := 1) rfl rfl (by decide)).trans ?_
          refine (dq rfl rfl).trans ?_
          rfl
    · refine (dq_iinc (v := 1) rfl rfl (by decide)).trans ?_
      refine (dq rfl rfl).trans ?_
      rfl
theorem q_158 (ab : Nat) (ac : Int32) (h : ia_H) : cl 158 [.ref ab, .int ac] h = ((ia_gR h 8 ab 0).bind fun a1 => ((ia_ld h 0 a1 (60 + (3 * ac))).bind fun v2 => ((ia_gR h 8 ab 0).bind fun a3 => ((ia_ld h 0 a3 ((60 + (3 * ac)) + 1)).bind fun v4 => some (some (.int (v2 + (3 * v4))), h))))) := by
  refine (dq rfl rfl).trans ?_
  refine (dq_getR rfl).trans (bn_c (fun a1 => ?_))
  refine (dq rfl rfl).trans ?_
  refine (dq rfl rfl).trans ?_
  refine (dq rfl rfl).trans ?_
  refine (dq rfl rfl).trans ?_
  refine (dq rfl rfl).trans ?_
  refine (dq_iald rfl).trans (bn_c (fun v2 => ?_))
  refine (dq rfl rfl).trans ?_
  refine (dq rfl rfl).trans ?_
  refine (dq_getR rfl).trans (bn_c (fun a3 => ?_))
  refine (dq rfl rfl).trans ?_
  refine (dq rfl rfl).trans ?_
  refine (dq rfl rfl).trans ?_
  refine (dq rfl rfl).trans ?_
  refine (dq rfl rfl).trans ?_
  refine (dq rfl rfl).trans ?_
  refine (dq rfl rfl).trans ?_
  refine (dq_iald rfl).trans (bn_c (fun v4 => ?_))
  refine (dq rfl rfl).trans ?_
  refine (dq rfl rfl).trans ?_
  exact dq_ret1 rfl
theorem q_159 (ab : Nat) (ac : Int32) (h : ia_H) : cl 159 [.ref ab, .int ac] h = ((ia_pF h 8 ab 13 (.int 0)).bind fun h1 => kxi (cl 76 [.int ac] h1) (fun r3 h2 => (if r3 = 0 then some (some (.int (-1)), h2) else ((ia_pF h2 8 ab 12 (.int 0)).bind fun h4 => dn 159 13 [some (.ref ab), some (.int ac), some (.int 0)] [] h4)))) := by
  refine (dq rfl rfl).trans ?_
  refine (dq rfl rfl).trans ?_
  refine (dq_putI rfl).trans (bn_c (fun h1 => ?_))
  refine (dq rfl rfl).trans ?_
  refine (dq_kxi0 (z := 76) rfl (lq rfl) (lq rfl) (lq rfl) kd_76).trans (kxi_c (fun r3 h2 => ?_))
  refine (dq_ifne rfl).trans (ie_c ?_ ?_)
  · refine (dq rfl rfl).trans ?_
    exact dq_ret1 rfl
  · refine (dq rfl rfl).trans ?_
    refine (dq rfl rfl).trans ?_
    refine (dq_putI rfl).trans (bn_c (fun h4 => ?_))
    refine (dq rfl rfl).trans ?_
    refine (dq rfl rfl).trans ?_
    rfl
theorem q_159_13 (x0 : Nat) (x1 : Int32) (x2 : Int32) (h : ia_H) : dn 159 13 [some (.ref x0), some (.int x1), some (.int x2)] [] h = (if 3 ≤ x2 then (if ia_ok h 8 [.ref x0, .int x1] = true then kxi (cl 158 [.ref x0, .int x1] h) (fun r2 h1 => some (some (.int r2), h1)) else none) else ((ia_gR h 8 x0 0).bind fun a3 => ((ia_ld h 0 a3 ((60 + (3 * x1)) + x2)).bind fun v4 => (if ia_ok h 8 [.ref x0, .long (v4.toInt64)] = true then kxv (cl 71 [.ref x0, .long (v4.toInt64)] h) (fun h5 => dn 159 13 [some (.ref x0), some (.int x1), some (.int (x2 + 1))] [] h5) else none)))) := by
  refine (dq rfl rfl).trans ?_
  refine (dq rfl rfl).trans ?_
  refine (dq_ige rfl).trans (ie_c ?_ ?_)
  · refine (dq rfl rfl).trans ?_
    refine (dq rfl rfl).trans ?_
    refine (dq_kxi (z := 158) rfl (lq rfl) (lq rfl) (lq rfl) kd_158).trans (it_c (kxi_c (fun r2 h1 => ?_)))
    exact dq_ret1 rfl
  · refine (dq rfl rfl).trans ?_
    refine (dq rfl rfl).trans ?_
    refine (dq_getR rfl).trans (bn_c (fun a3 => ?_))
    refine (dq rfl rfl).trans ?_
    refine (dq rfl rfl).trans ?_
    refine (dq rfl rfl).trans ?_
    refine (dq rfl rfl).trans ?_
    refine (dq rfl rfl).trans ?_
    refine (dq rfl rfl).trans ?_
    refine (dq rfl rfl).trans ?_
    refine (dq_iald rfl).trans (bn_c (fun v4 => ?_))
    refine (dq rfl rfl).trans ?_
    refine (dq_kxv (z := 71) rfl (lq rfl) (lq rfl) (lq rfl) kd_71).trans (it_c (kxv_c (fun h5 => ?_)))
    refine (dq_iinc (v := 1) rfl rfl (by decide)).trans ?_
    refine (dq rfl rfl).trans ?_
    rfl
theorem q_160 (ab : Nat) (h : ia_H) : cl 160 [.ref ab] h = ((ia_pF h 8 ab 13 (.int 0)).bind fun h1 => ((ia_pF h1 8 ab 12 (.int 0)).bind fun h2 => dn 160 10 [some (.ref ab), some (.int 0), some (.int 0), none, none] [] h2)) := by
  refine (dq rfl rfl).trans ?_
  refine (dq rfl rfl).trans ?_
  refine (dq_putI rfl).trans (bn_c (fun h1 => ?_))
  refine (dq rfl rfl).trans ?_
  refine (dq rfl rfl).trans ?_
  refine (dq_putI rfl).trans (bn_c (fun h2 => ?_))
  refine (dq rfl rfl).trans ?_
  refine (dq rfl rfl).trans ?_
  refine (dq rfl rfl).trans ?_
  refine (dq rfl rfl).trans ?_
  rfl
theorem q_160_10 (x0 : Nat) (x1 : Int32) (x2 : Int32) (l3 : Option Value) (l4 : Option Value) (h : ia_H) : dn 160 10 [some (.ref x0), some (.int x1), some (.int x2), l3, l4] [] h = (if 4 ≤ x2 then ((ia_gR h 8 x0 11).bind fun a1 => ((ia_ldL h a1 0).bind fun v2 => some (some (.int (v2.toInt32)), h))) else dn 160 17 [some (.ref x0), some (.int x1), some (.int x2), some (.int (-1)), some (.int 0)] [] h) := by
  refine (dq rfl rfl).trans ?_
  refine (dq rfl rfl).trans ?_
  refine (dq_ige rfl).trans (ie_c ?_ ?_)
  · refine (dq rfl rfl).trans ?_
    refine (dq_getR rfl).trans (bn_c (fun a1 => ?_))
    refine (dq rfl rfl).trans ?_
    refine (dq_lald rfl).trans (bn_c (fun v2 => ?_))
    refine (dq rfl rfl).trans ?_
    exact dq_ret1 rfl
  · refine (dq rfl rfl).trans ?_
    refine (dq rfl rfl).trans ?_
    refine (dq rfl rfl).trans ?_
    refine (dq rfl rfl).trans ?_
    rfl
theorem q_160_17 (x0 : Nat) (x1 : Int32) (x2 : Int32) (x3 : Int32) (x4 : Int32) (h : ia_H) : dn 160 17 [some (.ref x0), some (.int x1), some (.int x2), some (.int x3), some (.int x4)] [] h = (if 4 ≤ x4 then (if ia_ok h 8 [.ref x0, .long (x3.toInt64)] = true then kxv (cl 71 [.ref x0, .long (x3.toInt64)] h) (fun h1 => dn 160 10 [some (.ref x0), some (.int (x1 ||| (1 <<< (x3 &&& 31)))), some (.int (x2 + 1)), some (.int x3), some (.int x4)] [] h1) else none) else (if ((x1 >>> (x4 &&& 31)) &&& 1) = 0 then (if x3 = (-1) then dn 160 17 [some (.ref x0), some (.int x1), some (.int x2), some (.int x4), some (.int (x4 + 1))] [] h else (if ia_ok h 8 [.ref x0, .int x4] = true then kxi (cl 158 [.ref x0, .int x4] h) (fun r3 h2 => (if ia_ok h2 8 [.ref x0, .int x3] = true then kxi (cl 158 [.ref x0, .int x3] h2) (fun r5 h4 => (if r5 ≤ r3 then dn 160 17 [some (.ref x0), some (.int x1), some (.int x2), some (.int x3), some (.int (x4 + 1))] [] h4 else dn 160 17 [some (.ref x0), some (.int x1), some (.int x2), some (.int x4), some (.int (x4 + 1))] [] h4)) else none)) else none)) else dn 160 17 [some (.ref x0), some (.int x1), some (.int x2), some (.int x3), some (.int (x4 + 1))] [] h)) := by
  refine (dq rfl rfl).trans ?_
  refine (dq rfl rfl).trans ?_
  refine (dq_ige rfl).trans (ie_c ?_ ?_)
  · refine (dq rfl rfl).trans ?_
    refine (dq rfl rfl).trans ?_
    refine (dq rfl rfl).trans ?_
    refine (dq rfl rfl).trans ?_
    refine (dq rfl rfl).trans ?_
    refine (dq rfl rfl).trans ?_
    refine (dq rfl rfl).trans ?_
    refine (dq rfl rfl).trans ?_
    refine (dq rfl rfl).trans ?_
    refine (dq_kxv (z := 71) rfl (lq rfl) (lq rfl) (lq rfl) kd_71).trans (it_c (kxv_c (fun h1 => ?_)))
    refine (dq_iinc (v := 1) rfl rfl (by decide)).trans ?_
    refine (dq rfl rfl).trans ?_
    rfl
  · refine (dq rfl rfl).trans ?_
    refine (dq rfl rfl).trans ?_
    refine (dq rfl rfl).trans ?_
    refine (dq rfl rfl).trans ?_
    refine (dq rfl rfl).trans ?_
    refine (dq_ifne rfl).trans (ie_c ?_ ?_)
    · refine (dq rfl rfl).trans ?_
      refine (dq rfl rfl).trans ?_
      refine (dq_ieq rfl).trans (ie_c ?_ ?_)
      · refine (dq rfl rfl).trans ?_
        refine (dq rfl rfl).trans ?_
        refine (dq_iinc (v := 1) rfl rfl (by decide)).trans ?_
        refine (dq rfl rfl).trans ?_
        rfl
      · refine (dq rfl rfl).trans ?_
        refine (dq rfl rfl).trans ?_
        refine (dq_kxi (z := 158) rfl (lq rfl) (lq rfl) (lq rfl) kd_158).trans (it_c (kxi_c (fun r3 h2 => ?_)))
        refine (dq rfl rfl).trans ?_
        refine (dq rfl rfl).trans ?_
        refine (dq_kxi (z := 158) rfl (lq rfl) (lq rfl) (lq rfl) kd_158).trans (it_c (kxi_c (fun r5 h4 => ?_)))
        refine (dq_ige rfl).trans (ie_c ?_ ?_)
        · refine (dq_iinc (v := 1) rfl rfl (by decide)).trans ?_
          refine (dq rfl rfl).trans ?_
          rfl
        · refine (dq rfl rfl).trans ?_
          refine (dq rfl rfl).trans ?_
          refine (dq_iinc (v := 1) rfl rfl (by decide)).trans ?_
          refine (dq rfl rfl).trans ?_
          rfl
    · refine (dq_iinc (v := 1) rfl rfl (by decide)).trans ?_
      refine (dq rfl rfl).trans ?_
      rfl
theorem q_161 (ab : Nat) (ac : Int32) (h : ia_H) : cl 161 [.ref ab, .int ac] h = ((ia_pF h 8 ab 13 (.int 0)).bind fun h1 => (if ia_ok h1 8 [.ref ab, .int ac] = true then kxi (cl 77 [.ref ab, .int ac] h1) (fun r3 h2 => (if r3 = 0 then some (some (.int (-1)), h2) else ((ia_pF h2 8 ab 12 (.int 0)).bind fun h4 => ((ia_gR h4 8 ab 0).bind fun a5 => ((ia_ld h4 0 a5 ((72 + (3 * ac)) + 1)).bind fun v6 => (if ia_ok h4 8 [.ref ab, .long (v6.toInt64)] = true then kxv (cl 71 [.ref ab, .long (v6.toInt64)] h4) (fun h7 => ((ia_gR h7 8 ab 0).bind fun a8 => ((ia_ld h7 0 a8 ((72 + (3 * ac)) + 2)).bind fun v9 => (if ia_ok h7 8 [.ref ab, .long (v9.toInt64)] = true then kxv (cl 71 [.ref ab, .long (v9.toInt64)] h7) (fun h10 => ((ia_gR h10 8 ab 0).bind fun a11 => ((ia_ld h10 0 a11 (72 + (3 * ac))).bind fun v12 => some (some (.int v12), h10)))) else none)))) else none)))))) else none)) := by
  refine (dq rfl rfl).trans ?_
  refine (dq rfl rfl).trans ?_
  refine (dq_putI rfl).trans (bn_c (fun h1 => ?_))
  refine (dq rfl rfl).trans ?_
  refine (dq rfl rfl).trans ?_
  refine (dq_kxi (z := 77) rfl (lq rfl) (lq rfl) (lq rfl) kd_77).trans (it_c (kxi_c (fun r3 h2 => ?_)))
  refine (dq_ifne rfl).trans (ie_c ?_ ?_)
  · refine (dq rfl rfl).trans ?_
    exact dq_ret1 rfl
  · refine (dq rfl rfl).trans ?_
    refine (dq rfl rfl).trans ?_
    refine (dq_putI rfl).trans (bn_c (fun h4 => ?_))
    refine (dq rfl rfl).trans ?_
    refine (dq rfl rfl).trans ?_
    refine (dq_getR rfl).trans (bn_c (fun a5 => ?_))
    refine (dq rfl rfl).trans ?_
    refine (dq rfl rfl).trans ?_
    refine (dq rfl rfl).trans ?_
    refine (dq rfl rfl).trans ?_
    refine (dq rfl rfl).trans ?_
    refine (dq rfl rfl).trans ?_
    refine (dq rfl rfl).trans ?_
    refine (dq_iald rfl).trans (bn_c (fun v6 => ?_))
    refine (dq rfl rfl).trans ?_
    refine (dq_kxv (z := 71) rfl (lq rfl) (lq rfl) (lq rfl) kd_71).trans (it_c (kxv_c (fun h7 => ?_)))
    refine (dq rfl rfl).trans ?_
    refine (dq rfl rfl).trans ?_
    refine (dq_getR rfl).trans (bn_c (fun a8 => ?_))
    refine (dq rfl rfl).trans ?_
    refine (dq rfl rfl).trans ?_
    refine (dq rfl rfl).trans ?_
    refine (dq rfl rfl).trans ?_
    refine (dq rfl rfl).trans ?_
    refine (dq rfl rfl).trans ?_
    refine (dq rfl rfl).trans ?_
    refine (dq_iald rfl).trans (bn_c (fun v9 => ?_))
    refine (dq rfl rfl).trans ?_
    refine (dq_kxv (z := 71) rfl (lq rfl) (lq rfl) (lq rfl) kd_71).trans (it_c (kxv_c (fun h10 => ?_)))
    refine (dq rfl rfl).trans ?_
    refine (dq_getR rfl).trans (bn_c (fun a11 => ?_))
    refine (dq rfl rfl).trans ?_
    refine (dq rfl rfl).trans ?_
    refine (dq rfl rfl).trans ?_
    refine (dq rfl rfl).trans ?_
    refine (dq rfl rfl).trans ?_
    refine (dq_iald rfl).trans (bn_c (fun v12 => ?_))
    exact dq_ret1 rfl
theorem q_162 (ab : Nat) (h : ia_H) : cl 162 [.ref ab] h = ((ia_pF h 8 ab 13 (.int 0)).bind fun h1 => dn 162 5 [some (.ref ab), some (.int 0)] [] h1) := by
  refine (dq rfl rfl).trans ?_
  refine (dq rfl rfl).trans ?_
  refine (dq_putI rfl).trans (bn_c (fun h1 => ?_))
  refine (dq rfl rfl).trans ?_
  refine (dq rfl rfl).trans ?_
  rfl
theorem q_162_5 (x0 : Nat) (x1 : Int32) (h : ia_H) : dn 162 5 [some (.ref x0), some (.int x1)] [] h = (if 1108 ≤ x1 then ((ia_pF h 8 x0 3 (.int 1)).bind fun h1 => ((ia_gR h1 8 x0 0).bind fun a2 => ((ia_ld h1 0 a2 1106).bind fun v3 => some (some (.int v3), h1)))) else ((ia_gR h 8 x0 2).bind fun a4 => ((ia_gR h 8 x0 0).bind fun a5 => ((ia_ld h 0 a5 x1).bind fun v6 => ((ia_st h 0 a4 x1 v6).bind fun h7 => dn 162 5 [some (.ref x0), some (.int (x1 + 1))] [] h7))))) := by
  refine (dq rfl rfl).trans ?_
  refine (dq rfl rfl).trans ?_
  refine (dq_ige rfl).trans (ie_c ?_ ?_)
  · refine (dq rfl rfl).trans ?_
    refine (dq rfl rfl).trans ?_
    refine (dq_putZ1 rfl).trans (bn_c (fun h1 => ?_))
    refine (dq rfl rfl).trans ?_
    refine (dq_getR rfl).trans (bn_c (fun a2 => ?_))
    refine (dq rfl rfl).trans ?_
    refine (dq_iald rfl).trans (bn_c (fun v3 => ?_))
    exact dq_ret1 rfl
  · refine (dq rfl rfl).trans ?_
    refine (dq_getR rfl).trans (bn_c (fun a4 => ?_))
    refine (dq rfl rfl).trans ?_
    refine (dq rfl rfl).trans ?_
    refine (dq_getR rfl).trans (bn_c (fun a5 => ?_))
    refine (dq rfl rfl).trans ?_
    refine (dq_iald rfl).trans (bn_c (fun v6 => ?_))
    refine (dq_iast rfl).trans (bn_c (fun h7 => ?_))
    refine (dq_iinc (v := 1) rfl rfl (by decide)).trans ?_
    refine (dq rfl rfl).trans ?_
    rfl
theorem q_163 (ab : Nat) (h : ia_H) : cl 163 [.ref ab] h = ((ia_pF h 8 ab 13 (.int 0)).bind fun h1 => ((ia_gI h1 8 ab 3).bind fun v2 => (if v2 = 0 then some (some (.int (-2)), h1) else (if ia_ok h1 8 [.ref ab] = true then kxv (cl 84 [.ref ab] h1) (fun h3 => dn 163 12 [some (.ref ab), some (.int 0)] [] h3) else none)))) := by
  refine (dq rfl rfl).trans ?_
  refine (dq rfl rfl).trans ?_
  refine (dq_putI rfl).trans (bn_c (fun h1 => ?_))
  refine (dq rfl rfl).trans ?_
  refine (dq_getI rfl).trans (bn_c (fun v2 => ?_))
  refine (dq_ifne rfl).trans (ie_c ?_ ?_)
  · refine (dq rfl rfl).trans ?_
    exact dq_ret1 rfl
  · refine (dq rfl rfl).trans ?_
    refine (dq_kxv (z := 84) rfl (lq rfl) (lq rfl) (lq rfl) kd_84).trans (it_c (kxv_c (fun h3 => ?_)))
    refine (dq rfl rfl).trans ?_
    refine (dq rfl rfl).trans ?_
    rfl
theorem q_163_12 (x0 : Nat) (x1 : Int32) (h : ia_H) : dn 163 12 [some (.ref x0), some (.int x1)] [] h = (if 1108 ≤ x1 then ((ia_gR h 8 x0 0).bind fun a1 => ((ia_ld h 0 a1 1106).bind fun v2 => some (some (.int v2), h))) else ((ia_gR h 8 x0 0).bind fun a3 => ((ia_gR h 8 x0 2).bind fun a4 => ((ia_ld h 0 a4 x1).bind fun v5 => ((ia_st h 0 a3 x1 v5).bind fun h6 => dn 163 12 [some (.ref x0), some (.int (x1 + 1))] [] h6))))) := by
  refine (dq rfl rfl).trans ?_
  refine (dq rfl rfl).trans ?_
  refine (dq_ige rfl).trans (ie_c ?_ ?_)
  · refine (dq rfl rfl).trans ?_
    refine (dq_getR rfl).trans (bn_c (fun a1 => ?_))
    refine (dq rfl rfl).trans ?_
    refine (dq_iald rfl).trans (bn_c (fun v2 => ?_))
    exact dq_ret1 rfl
  · refine (dq rfl rfl).trans ?_
    refine (dq_getR rfl).trans (bn_c (fun a3 => ?_))
    refine (dq rfl rfl).trans ?_
    refine (dq rfl rfl).trans ?_
    refine (dq_getR rfl).trans (bn_c (fun a4 => ?_))
    refine (dq rfl rfl).trans ?_
    refine (dq_iald rfl).trans (bn_c (fun v5 => ?_))
    refine (dq_iast rfl).trans (bn_c (fun h6 => ?_))
    refine (dq_iinc (v := 1) rfl rfl (by decide)).trans ?_
    refine (dq rfl rfl).trans ?_
    rfl
theorem q_164 (ab : Nat) (h : ia_H) : cl 164 [.ref ab] h = ((ia_gR h 8 ab 0).bind fun a1 => ((ia_ld h 0 a1 1107).bind fun v2 => some (some (.int (if v2 < 60 then v2 else 60)), h))) := by
  refine (dq rfl rfl).trans ?_
  refine (dq rfl rfl).trans ?_
  refine (dq_getR rfl).trans (bn_c (fun a1 => ?_))
  refine (dq rfl rfl).trans ?_
  refine (dq_iald rfl).trans (bn_c (fun v2 => ?_))
  refine (dq rfl rfl).trans ?_
  exact dq_ret1 rfl
theorem q_165 (ab : Nat) (ac : Int32) (h : ia_H) : cl 165 [.ref ab, .int ac] h = ((ia_gR h 8 ab 0).bind fun a1 => ((ia_ld h 0 a1 1107).bind fun v2 => some (some (.int (124 + (3 * (((v2 - 1) - ac) - ((v2 - 1) - ac) / 60 * 60)))), h))) := by
  refine (dq rfl rfl).trans ?_
  refine (dq rfl rfl).trans ?_
  refine (dq rfl rfl).trans ?_
  refine (dq_getR rfl).trans (bn_c (fun a1 => ?_))
  refine (dq rfl rfl).trans ?_
  refine (dq_iald rfl).trans (bn_c (fun v2 => ?_))
  refine (dq rfl rfl).trans ?_
  refine (dq rfl rfl).trans ?_
  refine (dq rfl rfl).trans ?_
  refine (dq rfl rfl).trans ?_
  refine (dq rfl rfl).trans ?_
  refine (dq_i2zl rfl (by decide)).trans ?_
  refine (dq rfl rfl).trans ?_
  refine (dq rfl rfl).trans ?_
  exact dq_ret1 rfl
theorem q_166 (ab : Nat) (ac : Int32) (ad : Int32) (h : ia_H) : cl 166 [.ref ab, .int ac, .int ad] h = ((ia_pF h 8 ab 13 (.int 0)).bind fun h1 => (if ia_ok h1 8 [.ref ab] = true then kxi (cl 164 [.ref ab] h1) (fun r3 h2 => kxi (cl 69 [.long (ac.toInt64), .long 0, .long ((r3 - 1).toInt64)] h2) (fun r5 h4 => (if r5 = 0 then some (some (.int (-1)), h4) else kxi (cl 69 [.long (ad.toInt64), .long 0, .long 2] h4) (fun r7 h6 => (if r7 = 0 then some (some (.int (-1)), h6) else ((ia_gR h6 8 ab 0).bind fun a8 => (if ia_ok h6 8 [.ref ab, .int ac] = true then kxi (cl 165 [.ref ab, .int ac] h6) (fun r10 h9 => ((ia_ld h9 0 a8 (r10 + ad)).bind fun v11 => some (some (.int v11), h9))) else none))))))) else none)) := by
  refine (dq rfl rfl).trans ?_
  refine (dq rfl rfl).trans ?_
  refine (dq_putI rfl).trans (bn_c (fun h1 => ?_))
  refine (dq rfl rfl).trans ?_
  refine (dq rfl rfl).trans ?_
  refine (dq rfl rfl).trans ?_
  refine (dq rfl rfl).trans ?_
  refine (dq_kxi (z := 164) rfl (lq rfl) (lq rfl) (lq rfl) kd_164).trans (it_c (kxi_c (fun r3 h2 => ?_)))
  refine (dq rfl rfl).trans ?_
  refine (dq rfl rfl).trans ?_
  refine (dq rfl rfl).trans ?_
  refine (dq_kxi0 (z := 69) rfl (lq rfl) (lq rfl) (lq rfl) kd_69).trans (kxi_c (fun r5 h4 => ?_))
  refine (dq_ifeq rfl).trans (ie_c ?_ ?_)
  · refine (dq rfl rfl).trans ?_
    exact dq_ret1 rfl
  · refine (dq rfl rfl).trans ?_
    refine (dq rfl rfl).trans ?_
    refine (dq rfl rfl).trans ?_
    refine (dq rfl rfl).trans ?_
    refine (dq_kxi0 (z := 69) rfl (lq rfl) (lq rfl) (lq rfl) kd_69).trans (kxi_c (fun r7 h6 => ?_))
    refine (dq_ifeq rfl).trans (ie_c ?_ ?_)
    · refine (dq rfl rfl).trans ?_
      exact dq_ret1 rfl
    · refine (dq rfl rfl).trans ?_
      refine (dq_getR rfl).trans (bn_c (fun a8 => ?_))
      refine (dq rfl rfl).trans ?_
      refine (dq rfl rfl).trans ?_
      refine (dq_kxi (z := 165) rfl (lq rfl) (lq rfl) (lq rfl) kd_165).trans (it_c (kxi_c (fun r10 h9 => ?_)))
      refine (dq rfl rfl).trans ?_
      refine (dq rfl rfl).trans ?_
      refine (dq_iald rfl).trans (bn_c (fun v11 => ?_))
      refine (dq rfl rfl).trans ?_
      exact dq_ret1 rfl
theorem q_167 (ab : Nat) (ac : Int32) (h : ia_H) : cl 167 [.ref ab, .int ac] h = ((ia_pF h 8 ab 13 (.int 0)).bind fun h1 => (if ia_ok h1 8 [.ref ab, .int ac] = true then kxi (cl 77 [.ref ab, .int ac] h1) (fun r3 h2 => (if r3 = 0 then some (some (.int (-1)), h2) else ((ia_pF h2 8 ab 12 (.int 6)).bind fun h4 => dn 167 14 [some (.ref ab), some (.int ac), some (.int 0), none] [] h4))) else none)) := by
  refine (dq rfl rfl).trans ?_
  refine (dq rfl rfl).trans ?_
  refine (dq_putI rfl).trans (bn_c (fun h1 => ?_))
  refine (dq rfl rfl).trans ?_
  refine (dq rfl rfl).trans ?_
  refine (dq_kxi (z := 77) rfl (lq rfl) (lq rfl) (lq rfl) kd_77).trans (it_c (kxi_c (fun r3 h2 => ?_)))
  refine (dq_ifne rfl).trans (ie_c ?_ ?_)
  · refine (dq rfl rfl).trans ?_
    exact dq_ret1 rfl
  · refine (dq rfl rfl).trans ?_
    refine (dq rfl rfl).trans ?_
    refine (dq_putI rfl).trans (bn_c (fun h4 => ?_))
    refine (dq rfl rfl).trans ?_
    refine (dq rfl rfl).trans ?_
    rfl
theorem q_167_14 (x0 : Nat) (x1 : Int32) (x2 : Int32) (l3 : Option Value) (h : ia_H) : dn 167 14 [some (.ref x0), some (.int x1), some (.int x2), l3] [] h = (if 6 ≤ x2 then dn 167 28 [some (.ref x0), some (.int x1), some (.int 0), some (.int 0)] [] h else ((ia_gR h 8 x0 11).bind fun a1 => ((ia_stL h a1 x2 0).bind fun h2 => dn 167 14 [some (.ref x0), some (.int x1), some (.int (x2 + 1)), l3] [] h2))) := by
  refine (dq rfl rfl).trans ?_
  refine (dq rfl rfl).trans ?_
  refine (dq_ige rfl).trans (ie_c ?_ ?_)
  · refine (dq rfl rfl).trans ?_
    refine (dq rfl rfl).trans ?_
    refine (dq rfl rfl).trans ?_
    refine (dq rfl rfl).trans ?_
    rfl
  · refine (dq rfl rfl).trans ?_
    refine (dq_getR rfl).trans (bn_c (fun a1 => ?_))
    refine (dq rfl rfl).trans ?_
    refine (dq rfl rfl).trans ?_
    refine (dq_last rfl).trans (bn_c (fun h2 => ?_))
    refine (dq_iinc (v := 1) rfl rfl (by decide)).trans ?_
    refine (dq rfl rfl).trans ?_
    rfl
theorem q_167_28 (x0 : Nat) (x1 : Int32) (x2 : Int32) (x3 : Int32) (h : ia_H) : dn 167 28 [some (.ref x0), some (.int x1), some (.int x2), some (.int x3)] [] h = (if ia_ok h 8 [.ref x0] = true then kxi (cl 164 [.ref x0] h) (fun r2 h1 => (if r2 ≤ x3 then some (some (.int x2), h1) else ((ia_gR h1 8 x0 0).bind fun a3 => (if ia_ok h1 8 [.ref x0, .int x3] = true then kxi (cl 165 [.ref x0, .int x3] h1) (fun r5 h4 => ((ia_ld h4 0 a3 (r5 + 1)).bind fun v6 => (if ia_ok h4 8 [.ref x0, .int v6, .int 0] = true then kxi (cl 79 [.ref x0, .int v6, .int 0] h4) (fun r8 h7 => (if r8 = x1 then ((ia_gR h7 8 x0 11).bind fun a9 => ((ia_gR h7 8 x0 0).bind fun a10 => (if ia_ok h7 8 [.ref x0, .int x3] = true then kxi (cl 165 [.ref x0, .int x3] h7) (fun r12 h11 => ((ia_ld h11 0 a10 r12).bind fun v13 => ((ia_ldL h11 a9 v13).bind fun v14 => ((ia_stL h11 a9 v13 (v14 + 1)).bind fun h15 => dn 167 28 [some (.ref x0), some (.int x1), some (.int (x2 + 1)), some (.int (x3 + 1))] [] h15)))) else none))) else dn 167 28 [some (.ref x0), some (.int x1), some (.int x2), some (.int (x3 + 1))] [] h7)) else none))) else none)))) else none) := by
  refine (dq rfl rfl).trans ?_
  refine (dq rfl rfl).trans ?_
  refine (dq_kxi (z := 164) rfl (lq rfl) (lq rfl) (lq rfl) kd_164).trans (it_c (kxi_c (fun r2 h1 => ?_)))
  refine (dq_ige rfl).trans (ie_c ?_ ?_)
  · refine (dq rfl rfl).trans ?_
    exact dq_ret1 rfl
  · refine (dq rfl rfl).trans ?_
    refine (dq rfl rfl).trans ?_
    refine (dq_getR rfl).trans (bn_c (fun a3 => ?_))
    refine (dq rfl rfl).trans ?_
    refine (dq rfl rfl).trans ?_
    refine (dq_kxi (z := 165) rfl (lq rfl) (lq rfl) (lq rfl) kd_165).trans (it_c (kxi_c (fun r5 h4 => ?_)))
    refine (dq rfl rfl).trans ?_
    refine (dq rfl rfl).trans ?_
    refine (dq_iald rfl).trans (bn_c (fun v6 => ?_))
    refine (dq rfl rfl).trans ?_
    refine (dq_kxi (z := 79) rfl (lq rfl) (lq rfl) (lq rfl) kd_79).trans (it_c (kxi_c (fun r8 h7 => ?_)))
    refine (dq rfl rfl).trans ?_
    refine (dq_ieq rfl).trans (ie_c ?_ ?_)
    · refine (dq rfl rfl).trans ?_
      refine (dq_getR rfl).trans (bn_c (fun a9 => ?_))
      refine (dq rfl rfl).trans ?_
      refine (dq_getR rfl).trans (bn_c (fun a10 => ?_))
      refine (dq rfl rfl).trans ?_
      refine (dq rfl rfl).trans ?_
      refine (dq_kxi (z := 165) rfl (lq rfl) (lq rfl) (lq rfl) kd_165).trans (it_c (kxi_c (fun r12 h11 => ?_)))
      refine (dq_iald rfl).trans (bn_c (fun v13 => ?_))
      refine (dq rfl rfl).trans ?_
      refine (dq_lald rfl).trans (bn_c (fun v14 => ?_))
      refine (dq rfl rfl).trans ?_
      refine (dq rfl rfl).trans ?_
      refine (dq_last rfl).trans (bn_c (fun h15 => ?_))
      refine (dq_iinc (v := 1) rfl rfl (by decide)).trans ?_
      refine (dq_iinc (v := 1) rfl rfl (by decide)).trans ?_
      refine (dq rfl rfl).trans ?_
      rfl
    · refine (dq rfl rfl).trans ?_
      refine (dq_iinc (v := 1) rfl rfl (by decide)).trans ?_
      refine (dq rfl rfl).trans ?_
      rfl
theorem q_168 (ab : Nat) (h : ia_H) : cl 168 [.ref ab] h = ((ia_pF h 8 ab 13 (.int 0)).bind fun h1 => ((ia_gI h1 8 ab 5).bind fun v2 => (if v2 = 0 then some (some (.int (-2)), h1) else ((ia_gI h1 8 ab 5).bind fun v3 => ((ia_pF h1 8 ab 5 (.int (v3 - 1))).bind fun h4 => dn 168 16 [some (.ref ab), some (.int 0)] [] h4))))) := by
  refine (dq rfl rfl).trans ?_
  refine (dq rfl rfl).trans ?_
  refine (dq_putI rfl).trans (bn_c (fun h1 => ?_))
  refine (dq rfl rfl).trans ?_
  refine (dq_getI rfl).trans (bn_c (fun v2 => ?_))
  refine (dq_ifne rfl).trans (ie_c ?_ ?_)
  · refine (dq rfl rfl).trans ?_
    exact dq_ret1 rfl
  · refine (dq rfl rfl).trans ?_
    refine (dq rfl rfl).trans ?_
    refine (dq_getI rfl).trans (bn_c (fun v3 => ?_))
    refine (dq rfl rfl).trans ?_
    refine (dq rfl rfl).trans ?_
    refine (dq_putI rfl).trans (bn_c (fun h4 => ?_))
    refine (dq rfl rfl).trans ?_
    refine (dq rfl rfl).trans ?_
    rfl
theorem q_168_16 (x0 : Nat) (x1 : Int32) (h : ia_H) : dn 168 16 [some (.ref x0), some (.int x1)] [] h = (if 1108 ≤ x1 then ((ia_gI h 8 x0 5).bind fun v1 => some (some (.int v1), h)) else ((ia_gR h 8 x0 0).bind fun a2 => ((ia_gR h 8 x0 4).bind fun a3 => ((ia_gI h 8 x0 5).bind fun v4 => ((ia_ld h 0 a3 ((1108 * v4) + x1)).bind fun v5 => ((ia_st h 0 a2 x1 v5).bind fun h6 => dn 168 16 [some (.ref x0), some (.int (x1 + 1))] [] h6)))))) := by
  refine (dq rfl rfl).trans ?_
  refine (dq rfl rfl).trans ?_
  refine (dq_ige rfl).trans (ie_c ?_ ?_)
  · refine (dq rfl rfl).trans ?_
    refine (dq_getI rfl).trans (bn_c (fun v1 => ?_))
    exact dq_ret1 rfl
  · refine (dq rfl rfl).trans ?_
    refine (dq_getR rfl).trans (bn_c (fun a2 => ?_))
    refine (dq rfl rfl).trans ?_
    refine (dq rfl rfl).trans ?_
    refine (dq_getR rfl).trans (bn_c (fun a3 => ?_))
    refine (dq rfl rfl).trans ?_
    refine (dq rfl rfl).trans ?_
    refine (dq_getI rfl).trans (bn_c (fun v4 => ?_))
    refine (dq rfl rfl).trans ?_
    refine (dq rfl rfl).trans ?_
    refine (dq rfl rfl).trans ?_
    refine (dq_iald rfl).trans (bn_c (fun v5 => ?_))
    refine (dq_iast rfl).trans (bn_c (fun h6 => ?_))
    refine (dq_iinc (v := 1) rfl rfl (by decide)).trans ?_
    refine (dq rfl rfl).trans ?_
    rfl
theorem q_169 (ab : Nat) (h : ia_H) : cl 169 [.ref ab] h = dn 169 4 [some (.ref ab), some (.int 0), some (.int 0)] [] h := by
  refine (dq rfl rfl).trans ?_
  refine (dq rfl rfl).trans ?_
  refine (dq rfl rfl).trans ?_
  refine (dq rfl rfl).trans ?_
  rfl
theorem q_169_4 (x0 : Nat) (x1 : Int32) (x2 : Int32) (h : ia_H) : dn 169 4 [some (.ref x0), some (.int x1), some (.int x2)] [] h = ((ia_gR h 8 x0 0).bind fun a1 => ((ia_ld h 0 a1 1105).bind fun v2 => (if v2 ≤ x2 then some (some (.int x1), h) else (if ia_ok h 8 [.ref x0, .int x2, .int 4] = true then kxi (cl 79 [.ref x0, .int x2, .int 4] h) (fun r4 h3 => (if r4 = 1 then dn 169 4 [some (.ref x0), some (.int (x1 + 1)), some (.int (x2 + 1))] [] h3 else dn 169 4 [some (.ref x0), some (.int (x1 + 0)), some (.int (x2 + 1))] [] h3)) else none)))) := by
  refine (dq rfl rfl).trans ?_
  refine (dq rfl rfl).trans ?_
  refine (dq_getR rfl).trans (bn_c (fun a1 => ?_))
  refine (dq rfl rfl).trans ?_
  refine (dq_iald rfl).trans (bn_c (fun v2 => ?_))
  refine (dq_ige rfl).trans (ie_c ?_ ?_)
  · refine (dq rfl rfl).trans ?_
    exact dq_ret1 rfl
  · refine (dq rfl rfl).trans ?_
    refine (dq rfl rfl).trans ?_
    refine (dq rfl rfl).trans ?_
    refine (dq rfl rfl).trans ?_
    refine (dq_kxi (z := 79) rfl (lq rfl) (lq rfl) (lq rfl) kd_79).trans (it_c (kxi_c (fun r4 h3 => ?_)))
    refine (dq rfl rfl).trans ?_
    refine (dq_ine rfl).trans (ie_c ?_ ?_)
    · refine (dq rfl rfl).trans ?_
      refine (dq rfl rfl).trans ?_
      refine (dq rfl rfl).trans ?_
      refine (dq rfl rfl).trans ?_
      refine (dq_iinc (v := 1) rfl rfl (by decide)).trans ?_
      refine (dq rfl rfl).trans ?_
      rfl
    · refine (dq rfl rfl).trans ?_
      refine (dq rfl rfl).trans ?_
      refine (dq rfl rfl).trans ?_
      refine (dq_iinc (v := 1) rfl rfl (by decide)).trans ?_
      refine (dq rfl rfl).trans ?_
      rfl
theorem q_170 (ab : Nat) (ac : Int32) (h : ia_H) : cl 170 [.ref ab, .int ac] h = ((ia_pF h 8 ab 13 (.int 0)).bind fun h1 => (if ac.toInt < 0 ∨ (11 : Int) ≤ ac.toInt then dn 170 44 [some (.ref ab), some (.int ac)] [] h1 else dn 170 ([5, 10, 15, 18, 21, 26, 29, 32, 35, 38, 41].getD ac.toInt.toNat 44) [some (.ref ab), some (.int ac)] [] h1)) := by
  refine (dq rfl rfl).trans ?_
  refine (dq rfl rfl).trans ?_
  refine (dq_putI rfl).trans (bn_c (fun h1 => ?_))
  refine (dq rfl rfl).trans ?_
  refine (dq_sw rfl).trans ?_
  rfl
theorem q_170_5 (x0 : Nat) (x1 : Int32) (h : ia_H) : dn 170 5 [some (.ref x0), some (.int x1)] [] h = ((ia_gR h 8 x0 0).bind fun a1 => ((ia_ld h 0 a1 1104).bind fun v2 => some (some (.int v2), h))) := by
  refine (dq rfl rfl).trans ?_
  refine (dq_getR rfl).trans (bn_c (fun a1 => ?_))
  refine (dq rfl rfl).trans ?_
  refine (dq_iald rfl).trans (bn_c (fun v2 => ?_))
  exact dq_ret1 rfl
theorem q_170_10 (x0 : Nat) (x1 : Int32) (h : ia_H) : dn 170 10 [some (.ref x0), some (.int x1)] [] h = ((ia_gR h 8 x0 0).bind fun a1 => ((ia_ld h 0 a1 1105).bind fun v2 => some (some (.int v2), h))) := by
  refine (dq rfl rfl).trans ?_
  refine (dq_getR rfl).trans (bn_c (fun a1 => ?_))
  refine (dq rfl rfl).trans ?_
  refine (dq_iald rfl).trans (bn_c (fun v2 => ?_))
  exact dq_ret1 rfl
theorem q_170_15 (x0 : Nat) (x1 : Int32) (h : ia_H) : dn 170 15 [some (.ref x0), some (.int x1)] [] h = (if ia_ok h 8 [.ref x0] = true then kxi (cl 149 [.ref x0] h) (fun r2 h1 => some (some (.int r2), h1)) else none) := by
  refine (dq rfl rfl).trans ?_
  refine (dq_kxi (z := 149) rfl (lq rfl) (lq rfl) (lq rfl) kd_149).trans (it_c (kxi_c (fun r2 h1 => ?_)))
  exact dq_ret1 rfl
theorem q_170_18 (x0 : Nat) (x1 : Int32) (h : ia_H) : dn 170 18 [some (.ref x0), some (.int x1)] [] h = (if ia_ok h 8 [.ref x0] = true then kxi (cl 169 [.ref x0] h) (fun r2 h1 => some (some (.int r2), h1)) else none) := by
  refine (dq rfl rfl).trans ?_
  refine (dq_kxi (z := 169) rfl (lq rfl) (lq rfl) (lq rfl) kd_169).trans (it_c (kxi_c (fun r2 h1 => ?_)))
  exact dq_ret1 rfl
theorem q_170_21 (x0 : Nat) (x1 : Int32) (h : ia_H) : dn 170 21 [some (.ref x0), some (.int x1)] [] h = ((ia_gR h 8 x0 0).bind fun a1 => ((ia_ld h 0 a1 1106).bind fun v2 => some (some (.int v2), h))) := by
  refine (dq rfl rfl).trans ?_
  refine (dq_getR rfl).trans (bn_c (fun a1 => ?_))
  refine (dq rfl rfl).trans ?_
  refine (dq_iald rfl).trans (bn_c (fun v2 => ?_))
  exact dq_ret1 rfl
theorem q_170_26 (x0 : Nat) (x1 : Int32) (h : ia_H) : dn 170 26 [some (.ref x0), some (.int x1)] [] h = ((ia_gI h 8 x0 5).bind fun v1 => some (some (.int v1), h)) := by
  refine (dq rfl rfl).trans ?_
  refine (dq_getI rfl).trans (bn_c (fun v1 => ?_))
  exact dq_ret1 rfl
theorem q_170_29 (x0 : Nat) (x1 : Int32) (h : ia_H) : dn 170 29 [some (.ref x0), some (.int x1)] [] h = (if ia_ok h 8 [.ref x0] = true then kxi (cl 164 [.ref x0] h) (fun r2 h1 => some (some (.int r2), h1)) else none) := by
  refine (dq rfl rfl).trans ?_
  refine (dq_kxi (z := 164) rfl (lq rfl) (lq rfl) (lq rfl) kd_164).trans (it_c (kxi_c (fun r2 h1 => ?_)))
  exact dq_ret1 rfl
theorem q_170_32 (x0 : Nat) (x1 : Int32) (h : ia_H) : dn 170 32 [some (.ref x0), some (.int x1)] [] h = (if ia_ok h 8 [.ref x0] = true then kxi (cl 123 [.ref x0] h) (fun r2 h1 => some (some (.int r2), h1)) else none) := by
  refine (dq rfl rfl).trans ?_
  refine (dq_kxi (z := 123) rfl (lq rfl) (lq rfl) (lq rfl) kd_123).trans (it_c (kxi_c (fun r2 h1 => ?_)))
  exact dq_ret1 rfl
theorem q_170_35 (x0 : Nat) (x1 : Int32) (h : ia_H) : dn 170 35 [some (.ref x0), some (.int x1)] [] h = (if ia_ok h 8 [.ref x0] = true then kxi (cl 148 [.ref x0] h) (fun r2 h1 => some (some (.int r2), h1)) else none) := by
  refine (dq rfl rfl).trans ?_
  refine (dq_kxi (z := 148) rfl (lq rfl) (lq rfl) (lq rfl) kd_148).trans (it_c (kxi_c (fun r2 h1 => ?_)))
  exact dq_ret1 rfl
theorem q_170_38 (x0 : Nat) (x1 : Int32) (h : ia_H) : dn 170 38 [some (.ref x0), some (.int x1)] [] h = ((ia_gI h 8 x0 12).bind fun v1 => some (some (.int v1), h)) := by
  refine (dq rfl rfl).trans ?_
  refine (dq_getI rfl).trans (bn_c (fun v1 => ?_))
  exact dq_ret1 rfl
theorem q_170_41 (x0 : Nat) (x1 : Int32) (h : ia_H) : dn 170 41 [some (.ref x0), some (.int x1)] [] h = ((ia_gI h 8 x0 10).bind fun v1 => some (some (.int v1), h)) := by
  refine (dq rfl rfl).trans ?_
  refine (dq_getI rfl).trans (bn_c (fun v1 => ?_))
  exact dq_ret1 rfl
theorem q_170_44 (x0 : Nat) (x1 : Int32) (h : ia_H) : dn 170 44 [some (.ref x0), some (.int x1)] [] h = some (some (.int (-1)), h) := by
  refine (dq rfl rfl).trans ?_
  exact dq_ret1 rfl
theorem q_171 (ab : Nat) (ac : Int32) (h : ia_H) : cl 171 [.ref ab, .int ac] h = ((ia_pF h 8 ab 13 (.int 0)).bind fun h1 => ((ia_gI h1 8 ab 12).bind fun v2 => kxi (cl 69 [.long (ac.toInt64), .long 0, .long ((v2 - 1).toInt64)] h1) (fun r4 h3 => (if r4 = 0 then (if ia_ok h3 8 [.ref ab] = true then kxi (cl 70 [.ref ab] h3) (fun r6 h5 => some (some (.long (r6.toInt64)), h5)) else none) else ((ia_gR h3 8 ab 11).bind fun a7 => ((ia_ldL h3 a7 ac).bind fun v8 => some (some (.long v8), h3))))))) := by
  refine (dq rfl rfl).trans ?_
  refine (dq rfl rfl).trans ?_
  refine (dq_putI rfl).trans (bn_c (fun h1 => ?_))
  refine (dq rfl rfl).trans ?_
  refine (dq rfl rfl).trans ?_
  refine (dq rfl rfl).trans ?_
  refine (dq rfl rfl).trans ?_
  refine (dq_getI rfl).trans (bn_c (fun v2 => ?_))
  refine (dq rfl rfl).trans ?_
  refine (dq rfl rfl).trans ?_
  refine (dq rfl rfl).trans ?_
  refine (dq_kxi0 (z := 69) rfl (lq rfl) (lq rfl) (lq rfl) kd_69).trans (kxi_c (fun r4 h3 => ?_))
  refine (dq_ifeq rfl).trans (ie_c ?_ ?_)
  · refine (dq rfl rfl).trans ?_
    refine (dq_kxi (z := 70) rfl (lq rfl) (lq rfl) (lq rfl) kd_70).trans (it_c (kxi_c (fun r6 h5 => ?_)))
    refine (dq rfl rfl).trans ?_
    exact dq_ret3 rfl
  · refine (dq rfl rfl).trans ?_
    refine (dq_getR rfl).trans (bn_c (fun a7 => ?_))
    refine (dq rfl rfl).trans ?_
    refine (dq_lald rfl).trans (bn_c (fun v8 => ?_))
    refine (dq rfl rfl).trans ?_
    exact dq_ret3 rfl
theorem q_172 (ab : Nat) (h : ia_H) : cl 172 [.ref ab] h = ((ia_pF (ia_new h 8 (.inl (4, 8, ia_zero 4))) 6 ab 0 (.ref (h.1))).bind fun h1 => some (none, h1)) := by
  refine (dq rfl rfl).trans ?_
  refine (dq rfl rfl).trans ?_
  refine (dq rfl rfl).trans ?_
  refine (dq rfl rfl).trans ?_
  refine (dq_newa (n := 8) rfl (by decide +kernel)).trans ?_
  refine (dq_putR rfl).trans (bn_c (fun h1 => ?_))
  exact dq_ret0 rfl
theorem q_173 (ab : Nat) (h : ia_H) : cl 173 [.ref ab] h = ((ia_pF h 6 ab 2 (.int 0)).bind fun h1 => some (none, h1)) := by
  refine (dq rfl rfl).trans ?_
  refine (dq rfl rfl).trans ?_
  refine (dq_putI rfl).trans (bn_c (fun h1 => ?_))
  exact dq_ret0 rfl
theorem q_174 (ab : Nat) (ac : Nat) (h : ia_H) : cl 174 [.ref ab, .ref ac] h = ((ia_gR h 6 ab 0).bind fun a1 => ((ia_gI h 6 ab 1).bind fun v2 => ((ia_ldR h a1 v2).bind fun o => o.elim (kxv (cl 204 [.ref (h.1)] (ia_new h 11 (.inr (5, [.int 0, .int 0, .int 0, .int 0, .null, .null, .null, .null, .null, .null, .null])))) (fun h4 => ((ia_gR h4 6 ab 0).bind fun a5 => ((ia_gI h4 6 ab 1).bind fun v6 => ((ia_stR h4 a5 v6 (h.1)).bind fun h7 => dn 174 18 [some (.ref ab), some (.ref ac), some (.ref (h.1))] [] h7))))) fun a3 => dn 174 18 [some (.ref ab), some (.ref ac), some (.ref a3)] [] h))) := by
  refine (dq rfl rfl).trans ?_
  refine (dq_getR rfl).trans (bn_c (fun a1 => ?_))
  refine (dq rfl rfl).trans ?_
  refine (dq_getI rfl).trans (bn_c (fun v2 => ?_))
  refine (dq_rald rfl).trans (bn_c (fun o => oe_c ?_ (fun a3 => ?_)))
  · refine (dq rfl rfl).trans ?_
    refine (dq rfl rfl).trans ?_
    refine (dq rfl rfl).trans ?_
    refine (dq rfl rfl).trans ?_
    refine (dq rfl rfl).trans ?_
    refine (dq_kxv1 (z := 204) rfl (lq rfl) (lq rfl) (lq rfl) kd_204 rfl).trans (kxv_c (fun h4 => ?_))
    refine (dq rfl rfl).trans ?_
    refine (dq rfl rfl).trans ?_
    refine (dq_getR rfl).trans (bn_c (fun a5 => ?_))
    refine (dq rfl rfl).trans ?_
    refine (dq_getI rfl).trans (bn_c (fun v6 => ?_))
    refine (dq rfl rfl).trans ?_
    refine (dq_rast rfl).trans (bn_c (fun h7 => ?_))
    rfl
  · refine (dq rfl rfl).trans ?_
    refine (dq rfl rfl).trans ?_
    refine (dq rfl rfl).trans ?_
    rfl
theorem q_174_18 (x0 : Nat) (x1 : Nat) (x2 : Nat) (h : ia_H) : dn 174 18 [some (.ref x0), some (.ref x1), some (.ref x2)] [] h = (if ia_ok h 5 [.ref x2, .ref x1] = true then kxv (cl 205 [.ref x2, .ref x1] h) (fun h1 => ((ia_gI h1 6 x0 1).bind fun v2 => ((ia_pF h1 6 x0 1 (.int ((v2 + 1) - (v2 + 1) / 8 * 8))).bind fun h3 => ((ia_gI h3 6 x0 2).bind fun v4 => ((ia_pF h3 6 x0 2 (.int (if 8 < (v4 + 1) then 8 else (v4 + 1)))).bind fun h5 => some (none, h5)))))) else none) := by
  refine (dq rfl rfl).trans ?_
  refine (dq rfl rfl).trans ?_
  refine (dq_kxv (z := 205) rfl (lq rfl) (lq rfl) (lq rfl) kd_205).trans (it_c (kxv_c (fun h1 => ?_)))
  refine (dq rfl rfl).trans ?_
  refine (dq rfl rfl).trans ?_
  refine (dq_getI rfl).trans (bn_c (fun v2 => ?_))
  refine (dq rfl rfl).trans ?_
  refine (dq rfl rfl).trans ?_
  refine (dq rfl rfl).trans ?_
  refine (dq_i2zl rfl (by decide)).trans ?_
  refine (dq_putI rfl).trans (bn_c (fun h3 => ?_))
  refine (dq rfl rfl).trans ?_
  refine (dq rfl rfl).trans ?_
  refine (dq_getI rfl).trans (bn_c (fun v4 => ?_))
  refine (dq rfl rfl).trans ?_
  refine (dq rfl rfl).trans ?_
  refine (dq rfl rfl).trans ?_
  refine (dq rfl rfl).trans ?_
  refine (dq_putI rfl).trans (bn_c (fun h5 => ?_))
  exact dq_ret0 rfl
theorem q_175 (ab : Nat) (ac : Nat) (h : ia_H) : cl 175 [.ref ab, .ref ac] h = ((ia_gI h 6 ab 2).bind fun v1 => (if v1 = 0 then some (some (.int 0), h) else ((ia_gI h 6 ab 1).bind fun v2 => ((ia_gR h 6 ab 0).bind fun a3 => ((ia_ldR h a3 (((v2 + 8) - 1) - ((v2 + 8) - 1) / 8 * 8)).bind fun o => o.elim (some (some (.int 0), h)) fun a4 => (if ia_ok h 5 [.ref ac, .ref a4] = true then kxv (cl 205 [.ref ac, .ref a4] h) (fun h5 => ((ia_pF h5 6 ab 1 (.int (((v2 + 8) - 1) - ((v2 + 8) - 1) / 8 * 8))).bind fun h6 => ((ia_gI h6 6 ab 2).bind fun v7 => ((ia_pF h6 6 ab 2 (.int (v7 - 1))).bind fun h8 => some (some (.int 1), h8))))) else none)))))) := by
  refine (dq rfl rfl).trans ?_
  refine (dq_getI rfl).trans (bn_c (fun v1 => ?_))
  refine (dq_ifne rfl).trans (ie_c ?_ ?_)
  · refine (dq rfl rfl).trans ?_
    exact dq_ret20 rfl
  · refine (dq rfl rfl).trans ?_
    refine (dq_getI rfl).trans (bn_c (fun v2 => ?_))
    refine (dq rfl rfl).trans ?_
    refine (dq rfl rfl).trans ?_
    refine (dq rfl rfl).trans ?_
    refine (dq rfl rfl).trans ?_
    refine (dq rfl rfl).trans ?_
    refine (dq_i2zl rfl (by decide)).trans ?_
    refine (dq rfl rfl).trans ?_
    refine (dq rfl rfl).trans ?_
    refine (dq_getR rfl).trans (bn_c (fun a3 => ?_))
    refine (dq rfl rfl).trans ?_
    refine (dq_rald rfl).trans (bn_c (fun o => oe_c ?_ (fun a4 => ?_)))
    · refine (dq rfl rfl).trans ?_
      refine (dq rfl rfl).trans ?_
      refine (dq rfl rfl).trans ?_
      refine (dq rfl rfl).trans ?_
      exact dq_ret20 rfl
    · refine (dq rfl rfl).trans ?_
      refine (dq rfl rfl).trans ?_
      refine (dq rfl rfl).trans ?_
      refine (dq rfl rfl).trans ?_
      refine (dq rfl rfl).trans ?_
      refine (dq_kxv (z := 205) rfl (lq rfl) (lq rfl) (lq rfl) kd_205).trans (it_c (kxv_c (fun h5 => ?_)))
      refine (dq rfl rfl).trans ?_
      refine (dq rfl rfl).trans ?_
      refine (dq_putI rfl).trans (bn_c (fun h6 => ?_))
      refine (dq rfl rfl).trans ?_
      refine (dq rfl rfl).trans ?_
      refine (dq_getI rfl).trans (bn_c (fun v7 => ?_))
      refine (dq rfl rfl).trans ?_
      refine (dq rfl rfl).trans ?_
      refine (dq_putI rfl).trans (bn_c (fun h8 => ?_))
      refine (dq rfl rfl).trans ?_
      exact dq_ret21 rfl
theorem q_176 (ab : Nat) (h : ia_H) : cl 176 [.ref ab] h = ((ia_pF (ia_new h 201 (.inl (0, 201, ia_zero 0))) 2 ab 0 (.ref (h.1))).bind fun h1 => some (none, h1)) := by
  refine (dq rfl rfl).trans ?_
  refine (dq rfl rfl).trans ?_
  refine (dq rfl rfl).trans ?_
  refine (dq rfl rfl).trans ?_
  refine (dq_newa (n := 201) rfl (by decide +kernel)).trans ?_
  refine (dq_putR rfl).trans (bn_c (fun h1 => ?_))
  exact dq_ret0 rfl
theorem q_177 (ab : Nat) (h : ia_H) : cl 177 [.ref ab] h = ((ia_pF h 2 ab 1 (.int 0)).bind fun h1 => some (none, h1)) := by
  refine (dq rfl rfl).trans ?_
  refine (dq rfl rfl).trans ?_
  refine (dq_putI rfl).trans (bn_c (fun h1 => ?_))
  exact dq_ret0 rfl
theorem q_178 (ab : Nat) (ac : Int32) (ad : Int32) (ae : Int32) (h : ia_H) : cl 178 [.ref ab, .int ac, .int ad, .int ae] h = ((ia_gI h 2 ab 1).bind fun v1 => (if 67 ≤ v1 then some (none, h) else ((ia_gI h 2 ab 1).bind fun v2 => ((ia_gR h 2 ab 0).bind fun a3 => ((ia_st h 0 a3 (v2 * 3) ac).bind fun h4 => ((ia_gR h4 2 ab 0).bind fun a5 => ((ia_st h4 0 a5 ((v2 * 3) + 1) ad).bind fun h6 => ((ia_gR h6 2 ab 0).bind fun a7 => ((ia_st h6 0 a7 ((v2 * 3) + 2) ae).bind fun h8 => ((ia_gI h8 2 ab 1).bind fun v9 => ((ia_pF h8 2 ab 1 (.int (v9 + 1))).bind fun h10 => some (none, h10)))))))))))) := by
  refine (dq rfl rfl).trans ?_
  refine (dq_getI rfl).trans (bn_c (fun v1 => ?_))
  refine (dq rfl rfl).trans ?_
  refine (dq_ige rfl).trans (ie_c ?_ ?_)
  · exact dq_ret0 rfl
  · refine (dq rfl rfl).trans ?_
    refine (dq_getI rfl).trans (bn_c (fun v2 => ?_))
    refine (dq rfl rfl).trans ?_
    refine (dq rfl rfl).trans ?_
    refine (dq rfl rfl).trans ?_
    refine (dq rfl rfl).trans ?_
    refine (dq_getR rfl).trans (bn_c (fun a3 => ?_))
    refine (dq rfl rfl).trans ?_
    refine (dq rfl rfl).trans ?_
    refine (dq_iast rfl).trans (bn_c (fun h4 => ?_))
    refine (dq rfl rfl).trans ?_
    refine (dq_getR rfl).trans (bn_c (fun a5 => ?_))
    refine (dq rfl rfl).trans ?_
    refine (dq rfl rfl).trans ?_
    refine (dq rfl rfl).trans ?_
    refine (dq rfl rfl).trans ?_
    refine (dq_iast rfl).trans (bn_c (fun h6 => ?_))
    refine (dq rfl rfl).trans ?_
    refine (dq_getR rfl).trans (bn_c (fun a7 => ?_))
    refine (dq rfl rfl).trans ?_
    refine (dq rfl rfl).trans ?_
    refine (dq rfl rfl).trans ?_
    refine (dq rfl rfl).trans ?_
    refine (dq_iast rfl).trans (bn_c (fun h8 => ?_))
    refine (dq rfl rfl).trans ?_
    refine (dq rfl rfl).trans ?_
    refine (dq_getI rfl).trans (bn_c (fun v9 => ?_))
    refine (dq rfl rfl).trans ?_
    refine (dq rfl rfl).trans ?_
    refine (dq_putI rfl).trans (bn_c (fun h10 => ?_))
    exact dq_ret0 rfl
theorem q_179 (ab : Nat) (ac : Int32) (h : ia_H) : cl 179 [.ref ab, .int ac] h = ((ia_gR h 2 ab 0).bind fun a1 => ((ia_ld h 0 a1 (ac * 3)).bind fun v2 => some (some (.int v2), h))) := by
  refine (dq rfl rfl).trans ?_
  refine (dq_getR rfl).trans (bn_c (fun a1 => ?_))
  refine (dq rfl rfl).trans ?_
  refine (dq rfl rfl).trans ?_
  refine (dq rfl rfl).trans ?_
  refine (dq_iald rfl).trans (bn_c (fun v2 => ?_))
  exact dq_ret1 rfl
theorem q_180 (ab : Nat) (ac : Int32) (h : ia_H) : cl 180 [.ref ab, .int ac] h = ((ia_gR h 2 ab 0).bind fun a1 => ((ia_ld h 0 a1 ((ac * 3) + 1)).bind fun v2 => some (some (.int v2), h))) := by
  refine (dq rfl rfl).trans ?_
  refine (dq_getR rfl).trans (bn_c (fun a1 => ?_))
  refine (dq rfl rfl).trans ?_
  refine (dq rfl rfl).trans ?_
  refine (dq rfl rfl).trans ?_
  refine (dq rfl rfl).trans ?_
  refine (dq rfl rfl).trans ?_
  refine (dq_iald rfl).trans (bn_c (fun v2 => ?_))
  exact dq_ret1 rfl
theorem q_181 (ab : Nat) (ac : Int32) (h : ia_H) : cl 181 [.ref ab, .int ac] h = ((ia_gR h 2 ab 0).bind fun a1 => ((ia_ld h 0 a1 ((ac * 3) + 2)).bind fun v2 => some (some (.int v2), h))) := by
  refine (dq rfl rfl).trans ?_
  refine (dq_getR rfl).trans (bn_c (fun a1 => ?_))
  refine (dq rfl rfl).trans ?_
  refine (dq rfl rfl).trans ?_
  refine (dq rfl rfl).trans ?_
  refine (dq rfl rfl).trans ?_
  refine (dq rfl rfl).trans ?_
  refine (dq_iald rfl).trans (bn_c (fun v2 => ?_))
  exact dq_ret1 rfl
theorem q_182 (ab : Nat) (ac : Nat) (ad : Nat) (ae : Int32) (af : Int32) (ag : Int32) (h : ia_H) : cl 182 [.ref ab, .ref ac, .ref ad, .int ae, .int af, .int ag] h = ((ia_pF h 7 ab 0 (.ref ac)).bind fun h1 => ((ia_pF h1 7 ab 1 (.ref ad)).bind fun h2 => ((ia_pF h2 7 ab 2 (.int ae)).bind fun h3 => ((ia_pF h3 7 ab 3 (.int af)).bind fun h4 => ((ia_pF h4 7 ab 4 (.int ag)).bind fun h5 => some (none, h5)))))) := by
  refine (dq rfl rfl).trans ?_
  refine (dq rfl rfl).trans ?_
  refine (dq rfl rfl).trans ?_
  refine (dq rfl rfl).trans ?_
  refine (dq_putR rfl).trans (bn_c (fun h1 => ?_))
  refine (dq rfl rfl).trans ?_
  refine (dq rfl rfl).trans ?_
  refine (dq_putR rfl).trans (bn_c (fun h2 => ?_))
  refine (dq rfl rfl).trans ?_
  refine (dq rfl rfl).trans ?_
  refine (dq_putI rfl).trans (bn_c (fun h3 => ?_))
  refine (dq rfl rfl).trans ?_
  refine (dq rfl rfl).trans ?_
  refine (dq_putI rfl).trans (bn_c (fun h4 => ?_))
  refine (dq rfl rfl).trans ?_
  refine (dq rfl rfl).trans ?_
  refine (dq_putI rfl).trans (bn_c (fun h5 => ?_))
  exact dq_ret0 rfl
theorem q_183 (ab : Nat) (h : ia_H) : cl 183 [.ref ab] h = ((ia_gR h 7 ab 0).bind fun a1 => ((ia_gI h 5 a1 1).bind fun v2 => ((ia_pF h 5 a1 1 (.int (v2 + 1))).bind fun h3 => ((ia_gR h3 7 ab 0).bind fun a4 => ((ia_gI h3 7 ab 3).bind fun v5 => ((ia_gI h3 7 ab 2).bind fun v6 => (if ia_ok h3 5 [.ref a4, .int v5, .int v6] = true then kxi (cl 226 [.ref a4, .int v5, .int v6] h3) (fun r8 h7 => ((ia_gR h7 7 ab 0).bind fun a9 => ((ia_gI h7 7 ab 4).bind fun v10 => ((ia_gI h7 7 ab 2).bind fun v11 => (if ia_ok h7 5 [.ref a9, .int v10, .int v11] = true then kxi (cl 226 [.ref a9, .int v10, .int v11] h7) (fun r13 h12 => ((ia_pF h12 7 ab 5 (.int (r8 ||| r13))).bind fun h14 => dn 183 26 [some (.ref ab), some (.int 0)] [] h14)) else none))))) else none))))))) := by
  refine (dq rfl rfl).trans ?_
  refine (dq_getR rfl).trans (bn_c (fun a1 => ?_))
  refine (dq rfl rfl).trans ?_
  refine (dq_getI rfl).trans (bn_c (fun v2 => ?_))
  refine (dq rfl rfl).trans ?_
  refine (dq rfl rfl).trans ?_
  refine (dq_putI rfl).trans (bn_c (fun h3 => ?_))
  refine (dq rfl rfl).trans ?_
  refine (dq rfl rfl).trans ?_
  refine (dq_getR rfl).trans (bn_c (fun a4 => ?_))
  refine (dq rfl rfl).trans ?_
  refine (dq_getI rfl).trans (bn_c (fun v5 => ?_))
  refine (dq rfl rfl).trans ?_
  refine (dq_getI rfl).trans (bn_c (fun v6 => ?_))
  refine (dq_kxi (z := 226) rfl (lq rfl) (lq rfl) (lq rfl) kd_226).trans (it_c (kxi_c (fun r8 h7 => ?_)))
  refine (dq rfl rfl).trans ?_
  refine (dq_getR rfl).trans (bn_c (fun a9 => ?_))
  refine (dq rfl rfl).trans ?_
  refine (dq_getI rfl).trans (bn_c (fun v10 => ?_))
  refine (dq rfl rfl).trans ?_
  refine (dq_getI rfl).trans (bn_c (fun v11 => ?_))
  refine (dq_kxi (z := 226) rfl (lq rfl) (lq rfl) (lq rfl) kd_226).trans (it_c (kxi_c (fun r13 h12 => ?_)))
  refine (dq rfl rfl).trans ?_
  refine (dq_putI rfl).trans (bn_c (fun h14 => ?_))
  refine (dq rfl rfl).trans ?_
  refine (dq rfl rfl).trans ?_
  rfl
theorem q_183_26 (x0 : Nat) (x1 : Int32) (h : ia_H) : dn 183 26 [some (.ref x0), some (.int x1)] [] h = ((ia_gR h 7 x0 0).bind fun a1 => ((ia_gI h 5 a1 0).bind fun v2 => (if v2 ≤ x1 then ((ia_gI h 7 x0 5).bind fun v3 => kxi (cl 257 [.int v3] h) (fun r5 h4 => some (some (.int r5), h4))) else ((ia_gI h 7 x0 5).bind fun v6 => kxi (cl 55 [.int v6, .int x1] h) (fun r8 h7 => (if r8 = 0 then dn 183 26 [some (.ref x0), some (.int (x1 + 1))] [] h7 else ((ia_gR h7 7 x0 0).bind fun a9 => ((ia_gI h7 7 x0 2).bind fun v10 => (if ia_ok h7 5 [.ref a9, .int x1, .int v10] = true then kxi (cl 231 [.ref a9, .int x1, .int v10] h7) (fun r12 h11 => dn 183 26 [some (.ref x0), some (.int (x1 + 1))] [] h11) else none))))))))) := by
  refine (dq rfl rfl).trans ?_
  refine (dq rfl rfl).trans ?_
  refine (dq_getR rfl).trans (bn_c (fun a1 => ?_))
  refine (dq_getI rfl).trans (bn_c (fun v2 => ?_))
  refine (dq_ige rfl).trans (ie_c ?_ ?_)
  · refine (dq rfl rfl).trans ?_
    refine (dq_getI rfl).trans (bn_c (fun v3 => ?_))
    refine (dq_kxi0 (z := 257) rfl (lq rfl) (lq rfl) (lq rfl) kd_257).trans (kxi_c (fun r5 h4 => ?_))
    exact dq_ret1 rfl
  · refine (dq rfl rfl).trans ?_
    refine (dq_getI rfl).trans (bn_c (fun v6 => ?_))
    refine (dq rfl rfl).trans ?_
    refine (dq_kxi0 (z := 55) rfl (lq rfl) (lq rfl) (lq rfl) kd_55).trans (kxi_c (fun r8 h7 => ?_))
    refine (dq_ifeq rfl).trans (ie_c ?_ ?_)
    · refine (dq_iinc (v := 1) rfl rfl (by decide)).trans ?_
      refine (dq rfl rfl).trans ?_
      rfl
    · refine (dq rfl rfl).trans ?_
      refine (dq_getR rfl).trans (bn_c (fun a9 => ?_))
      refine (dq rfl rfl).trans ?_
      refine (dq rfl rfl).trans ?_
      refine (dq_getI rfl).trans (bn_c (fun v10 => ?_))
      refine (dq_kxi (z := 231) rfl (lq rfl) (lq rfl) (lq rfl) kd_231).trans (it_c (kxi_c (fun r12 h11 => ?_)))
      refine (dq rfl rfl).trans ?_
      refine (dq_iinc (v := 1) rfl rfl (by decide)).trans ?_
      refine (dq rfl rfl).trans ?_
      rfl
theorem q_184 (ab : Nat) (ac : Int32) (ad : Int32) (h : ia_H) : cl 184 [.ref ab, .int ac, .int ad] h = ((ia_gR h 7 ab 0).bind fun a1 => ((ia_gR h 5 a1 4).bind fun a2 => ((ia_ld h 0 a2 ad).bind fun v3 => ((ia_gI h 7 ab 3).bind fun v4 => (if v3 = v4 then dn 184 16 [some (.ref ab), some (.int ac), some (.int ad), some (.int v3), none] [] h else ((ia_gI h 7 ab 4).bind fun v5 => (if v3 = v5 then dn 184 16 [some (.ref ab), some (.int ac), some (.int ad), some (.int v3), none] [] h else some (some (.int (-2)), h)))))))) := by
  refine (dq rfl rfl).trans ?_
  refine (dq_getR rfl).trans (bn_c (fun a1 => ?_))
  refine (dq_getR rfl).trans (bn_c (fun a2 => ?_))
  refine (dq rfl rfl).trans ?_
  refine (dq_iald rfl).trans (bn_c (fun v3 => ?_))
  refine (dq rfl rfl).trans ?_
  refine (dq rfl rfl).trans ?_
  refine (dq rfl rfl).trans ?_
  refine (dq_getI rfl).trans (bn_c (fun v4 => ?_))
  refine (dq_ieq rfl).trans (ie_c ?_ ?_)
  · rfl
  · refine (dq rfl rfl).trans ?_
    refine (dq rfl rfl).trans ?_
    refine (dq_getI rfl).trans (bn_c (fun v5 => ?_))
    refine (dq_ieq rfl).trans (ie_c ?_ ?_)
    · rfl
    · refine (dq rfl rfl).trans ?_
      exact dq_ret1 rfl
theorem q_184_16 (x0 : Nat) (x1 : Int32) (x2 : Int32) (x3 : Int32) (l4 : Option Value) (h : ia_H) : dn 184 16 [some (.ref x0), some (.int x1), some (.int x2), some (.int x3), l4] [] h = ((ia_gI h 7 x0 5).bind fun v1 => ((ia_gI h 7 x0 7).bind fun v2 => kxi (cl 55 [.int (v1 ||| v2), .int x2] h) (fun r4 h3 => (if r4 = 0 then (if ia_ok h3 7 [.ref x0, .int x1, .int x2] = true then kxi (cl 185 [.ref x0, .int x1, .int x2] h3) (fun r6 h5 => (if r6 ≤ 0 then dn 184 40 [some (.ref x0), some (.int x1), some (.int x2), some (.int x3), some (.int r6)] [] h5 else ((ia_gR h5 7 x0 0).bind fun a7 => ((ia_gI h5 5 a7 2).bind fun v8 => (if v8 < 100 then dn 184 40 [some (.ref x0), some (.int x1), some (.int x2), some (.int x3), some (.int r6)] [] h5 else some (some (.int (-4)), h5)))))) else none) else some (some (.int (-3)), h3))))) := by
  refine (dq rfl rfl).trans ?_
  refine (dq_getI rfl).trans (bn_c (fun v1 => ?_))
  refine (dq rfl rfl).trans ?_
  refine (dq_getI rfl).trans (bn_c (fun v2 => ?_))
  refine (dq rfl rfl).trans ?_
  refine (dq rfl rfl).trans ?_
  refine (dq_kxi0 (z := 55) rfl (lq rfl) (lq rfl) (lq rfl) kd_55).trans (kxi_c (fun r4 h3 => ?_))
  refine (dq_ifeq rfl).trans (ie_c ?_ ?_)
  · refine (dq rfl rfl).trans ?_
    refine (dq rfl rfl).trans ?_
    refine (dq rfl rfl).trans ?_
    refine (dq_kxi (z := 185) rfl (lq rfl) (lq rfl) (lq rfl) kd_185).trans (it_c (kxi_c (fun r6 h5 => ?_)))
    refine (dq rfl rfl).trans ?_
    refine (dq rfl rfl).trans ?_
    refine (dq_ifle rfl).trans (ie_c ?_ ?_)
    · rfl
    · refine (dq rfl rfl).trans ?_
      refine (dq_getR rfl).trans (bn_c (fun a7 => ?_))
      refine (dq_getI rfl).trans (bn_c (fun v8 => ?_))
      refine (dq rfl rfl).trans ?_
      refine (dq_ilt rfl).trans (ie_c ?_ ?_)
      · rfl
      · refine (dq rfl rfl).trans ?_
        exact dq_ret1 rfl
  · refine (dq rfl rfl).trans ?_
    exact dq_ret1 rfl
theorem q_184_40 (x0 : Nat) (x1 : Int32) (x2 : Int32) (x3 : Int32) (x4 : Int32) (h : ia_H) : dn 184 40 [some (.ref x0), some (.int x1), some (.int x2), some (.int x3), some (.int x4)] [] h = ((ia_gR h 7 x0 0).bind fun a1 => (if ia_ok h 5 [.ref a1, .int x2, .int x1] = true then kxv (cl 214 [.ref a1, .int x2, .int x1] h) (fun h2 => (if x1 = 1 then dn 184 53 [some (.ref x0), some (.int x1), some (.int x2), some (.int x3), some (.int x4)] [] h2 else ((ia_gI h2 7 x0 6).bind fun v3 => kxi (cl 55 [.int v3, .int x2] h2) (fun r5 h4 => (if r5 = 0 then dn 184 65 [some (.ref x0), some (.int x1), some (.int x2), some (.int x3), some (.int x4)] [] h4 else dn 184 53 [some (.ref x0), some (.int x1), some (.int x2), some (.int x3), some (.int x4)] [] h4))))) else none)) := by
  refine (dq rfl rfl).trans ?_
  refine (dq_getR rfl).trans (bn_c (fun a1 => ?_))
  refine (dq rfl rfl).trans ?_
  refine (dq rfl rfl).trans ?_
  refine (dq_kxv (z := 214) rfl (lq rfl) (lq rfl) (lq rfl) kd_214).trans (it_c (kxv_c (fun h2 => ?_)))
  refine (dq rfl rfl).trans ?_
  refine (dq rfl rfl).trans ?_
  refine (dq_ieq rfl).trans (ie_c ?_ ?_)
  · rfl
  · refine (dq rfl rfl).trans ?_
    refine (dq_getI rfl).trans (bn_c (fun v3 => ?_))
    refine (dq rfl rfl).trans ?_
    refine (dq_kxi0 (z := 55) rfl (lq rfl) (lq rfl) (lq rfl) kd_55).trans (kxi_c (fun r5 h4 => ?_))
    refine (dq_ifeq rfl).trans (ie_c ?_ ?_)
    · rfl
    · rfl
theorem q_184_53 (x0 : Nat) (x1 : Int32) (x2 : Int32) (x3 : Int32) (x4 : Int32) (h : ia_H) : dn 184 53 [some (.ref x0), some (.int x1), some (.int x2), some (.int x3), some (.int x4)] [] h = ((ia_gI h 7 x0 7).bind fun v1 => kxi (cl 54 [.int x2] h) (fun r3 h2 => ((ia_pF h2 7 x0 7 (.int (v1 ||| r3))).bind fun h4 => ((ia_gR h4 7 x0 0).bind fun a5 => (if ia_ok h4 5 [.ref a5, .int x2, .int 2] = true then kxv (cl 214 [.ref a5, .int x2, .int 2] h4) (fun h6 => dn 184 65 [some (.ref x0), some (.int x1), some (.int x2), some (.int x3), some (.int x4)] [] h6) else none))))) := by
  refine (dq rfl rfl).trans ?_
  refine (dq rfl rfl).trans ?_
  refine (dq_getI rfl).trans (bn_c (fun v1 => ?_))
  refine (dq rfl rfl).trans ?_
  refine (dq_kxi0 (z := 54) rfl (lq rfl) (lq rfl) (lq rfl) kd_54).trans (kxi_c (fun r3 h2 => ?_))
  refine (dq rfl rfl).trans ?_
  refine (dq_putI rfl).trans (bn_c (fun h4 => ?_))
  refine (dq rfl rfl).trans ?_
  refine (dq_getR rfl).trans (bn_c (fun a5 => ?_))
  refine (dq rfl rfl).trans ?_
  refine (dq rfl rfl).trans ?_
  refine (dq_kxv (z := 214) rfl (lq rfl) (lq rfl) (lq rfl) kd_214).trans (it_c (kxv_c (fun h6 => ?_)))
  rfl
theorem q_184_65 (x0 : Nat) (x1 : Int32) (x2 : Int32) (x3 : Int32) (x4 : Int32) (h : ia_H) : dn 184 65 [some (.ref x0), some (.int x1), some (.int x2), some (.int x3), some (.int x4)] [] h = (if x1 = 0 then ((ia_gR h 7 x0 0).bind fun a1 => ((ia_gI h 7 x0 2).bind fun v2 => ((ia_gI h 7 x0 6).bind fun v3 => kxi (cl 55 [.int v3, .int x2] h) (fun r5 h4 => (if r5 = 0 then dn 184 80 [some (.ref x0), some (.int x1), some (.int x2), some (.int x3), some (.int x4)] [.int 1, .int v2, .int x2, .ref a1] h4 else dn 184 80 [some (.ref x0), some (.int x1), some (.int x2), some (.int x3), some (.int x4)] [.int (-1), .int v2, .int x2, .ref a1] h4))))) else dn 184 88 [some (.ref x0), some (.int x1), some (.int x2), some (.int x3), some (.int x4)] [] h) := by
  refine (dq rfl rfl).trans ?_
  refine (dq_ifne rfl).trans (ie_c ?_ ?_)
  · refine (dq rfl rfl).trans ?_
    refine (dq_getR rfl).trans (bn_c (fun a1 => ?_))
    refine (dq rfl rfl).trans ?_
    refine (dq rfl rfl).trans ?_
    refine (dq_getI rfl).trans (bn_c (fun v2 => ?_))
    refine (dq rfl rfl).trans ?_
    refine (dq_getI rfl).trans (bn_c (fun v3 => ?_))
    refine (dq rfl rfl).trans ?_
    refine (dq_kxi0 (z := 55) rfl (lq rfl) (lq rfl) (lq rfl) kd_55).trans (kxi_c (fun r5 h4 => ?_))
    refine (dq_ifeq rfl).trans (ie_c ?_ ?_)
    · refine (dq rfl rfl).trans ?_
      rfl
    · refine (dq rfl rfl).trans ?_
      refine (dq rfl rfl).trans ?_
      rfl
  · rfl
theorem q_184_80 (x0 : Nat) (x1 : Int32) (x2 : Int32) (x3 : Int32) (x4 : Int32) (s0 : Nat) (s1 : Int32) (s2 : Int32) (s3 : Int32) (h : ia_H) : dn 184 80 [some (.ref x0), some (.int x1), some (.int x2), some (.int x3), some (.int x4)] [.int s3, .int s2, .int s1, .ref s0] h = (if ia_ok h 5 [.ref s0, .int s1, .int s2, .int s3] = true then kxv (cl 209 [.ref s0, .int s1, .int s2, .int s3] h) (fun h1 => ((ia_gI h1 7 x0 6).bind fun v2 => kxi (cl 54 [.int x2] h1) (fun r4 h3 => ((ia_pF h3 7 x0 6 (.int (v2 ||| r4))).bind fun h5 => dn 184 88 [some (.ref x0), some (.int x1), some (.int x2), some (.int x3), some (.int x4)] [] h5)))) else none) := by
  refine (dq_kxv (z := 209) rfl (lq rfl) (lq rfl) (lq rfl) kd_209).trans (it_c (kxv_c (fun h1 => ?_)))
  refine (dq rfl rfl).trans ?_
  refine (dq rfl rfl).trans ?_
  refine (dq_getI rfl).trans (bn_c (fun v2 => ?_))
  refine (dq rfl rfl).trans ?_
  refine (dq_kxi0 (z := 54) rfl (lq rfl) (lq rfl) (lq rfl) kd_54).trans (kxi_c (fun r4 h3 => ?_))
  refine (dq rfl rfl).trans ?_
  refine (dq_putI rfl).trans (bn_c (fun h5 => ?_))
  rfl
theorem q_184_88 (x0 : Nat) (x1 : Int32) (x2 : Int32) (x3 : Int32) (x4 : Int32) (h : ia_H) : dn 184 88 [some (.ref x0), some (.int x1), some (.int x2), some (.int x3), some (.int x4)] [] h = (if x4 ≤ 0 then some (some (.int 0), h) else ((ia_gR h 7 x0 0).bind fun a1 => ((ia_gI h 7 x0 2).bind fun v2 => ((ia_gR h 7 x0 1).bind fun a3 => ((ia_gI h 7 x0 2).bind fun v4 => (if ia_ok h 4 [.ref a3, .int v4, .int 0] = true then kxi (cl 195 [.ref a3, .int v4, .int 0] h) (fun r6 h5 => (if ia_ok h5 5 [.ref a1, .int x2, .int v2, .int x4, .int r6] = true then kxi (cl 230 [.ref a1, .int x2, .int v2, .int x4, .int r6] h5) (fun r8 h7 => some (some (.int 0), h7)) else none)) else none)))))) := by
  refine (dq rfl rfl).trans ?_
  refine (dq_ifle rfl).trans (ie_c ?_ ?_)
  · refine (dq rfl rfl).trans ?_
    exact dq_ret1 rfl
  · refine (dq rfl rfl).trans ?_
    refine (dq_getR rfl).trans (bn_c (fun a1 => ?_))
    refine (dq rfl rfl).trans ?_
    refine (dq rfl rfl).trans ?_
    refine (dq_getI rfl).trans (bn_c (fun v2 => ?_))
    refine (dq rfl rfl).trans ?_
    refine (dq rfl rfl).trans ?_
    refine (dq_getR rfl).trans (bn_c (fun a3 => ?_))
    refine (dq rfl rfl).trans ?_
    refine (dq_getI rfl).trans (bn_c (fun v4 => ?_))
    refine (dq rfl rfl).trans ?_
    refine (dq_kxi (z := 195) rfl (lq rfl) (lq rfl) (lq rfl) kd_195).trans (it_c (kxi_c (fun r6 h5 => ?_)))
    refine (dq_kxi (z := 230) rfl (lq rfl) (lq rfl) (lq rfl) kd_230).trans (it_c (kxi_c (fun r8 h7 => ?_)))
    refine (dq rfl rfl).trans ?_
    refine (dq rfl rfl).trans ?_
    exact dq_ret1 rfl
theorem q_185 (ab : Nat) (ac : Int32) (ad : Int32) (h : ia_H) : cl 185 [.ref ab, .int ac, .int ad] h = (if ac = 1 then ((ia_gR h 7 ab 1).bind fun a12 => ((ia_gI h 7 ab 2).bind fun v13 => (if ia_ok h 4 [.ref a12, .int v13, .int 1] = true then kxi (cl 195 [.ref a12, .int v13, .int 1] h) (fun r15 h14 => some (some (.int r15), h14)) else none))) else ((ia_gI h 7 ab 6).bind fun v1 => kxi (cl 55 [.int v1, .int ad] h) (fun r3 h2 => (if r3 = 0 then ((ia_gR h2 7 ab 1).bind fun a4 => ((ia_gI h2 7 ab 2).bind fun v5 => ((ia_gR h2 7 ab 0).bind fun a6 => ((ia_gI h2 7 ab 2).bind fun v7 => (if ia_ok h2 5 [.ref a6, .int ad, .int v7] = true then kxi (cl 208 [.ref a6, .int ad, .int v7] h2) (fun r9 h8 => (if ia_ok h8 4 [.ref a4, .int v5, .int (r9 + 1)] = true then kxi (cl 201 [.ref a4, .int v5, .int (r9 + 1)] h8) (fun r11 h10 => some (some (.int r11), h10)) else none)) else none))))) else some (some (.int 1), h2))))) := by
  refine (dq rfl rfl).trans ?_
  refine (dq rfl rfl).trans ?_
  refine (dq_ine rfl).trans (ie_c ?_ ?_)
  · refine (dq rfl rfl).trans ?_
    refine (dq_getR rfl).trans (bn_c (fun a12 => ?_))
    refine (dq rfl rfl).trans ?_
    refine (dq_getI rfl).trans (bn_c (fun v13 => ?_))
    refine (dq rfl rfl).trans ?_
    refine (dq_kxi (z := 195) rfl (lq rfl) (lq rfl) (lq rfl) kd_195).trans (it_c (kxi_c (fun r15 h14 => ?_)))
    exact dq_ret1 rfl
  · refine (dq rfl rfl).trans ?_
    refine (dq_getI rfl).trans (bn_c (fun v1 => ?_))
    refine (dq rfl rfl).trans ?_
    refine (dq_kxi0 (z := 55) rfl (lq rfl) (lq rfl) (lq rfl) kd_55).trans (kxi_c (fun r3 h2 => ?_))
    refine (dq_ifeq rfl).trans (ie_c ?_ ?_)
    · refine (dq rfl rfl).trans ?_
      refine (dq_getR rfl).trans (bn_c (fun a4 => ?_))
      refine (dq rfl rfl).trans ?_
      refine (dq_getI rfl).trans (bn_c (fun v5 => ?_))
      refine (dq rfl rfl).trans ?_
      refine (dq_getR rfl).trans (bn_c (fun a6 => ?_))
      refine (dq rfl rfl).trans ?_
      refine (dq rfl rfl).trans ?_
      refine (dq_getI rfl).trans (bn_c (fun v7 => ?_))
      refine (dq_kxi (z := 208) rfl (lq rfl) (lq rfl) (lq rfl) kd_208).trans (it_c (kxi_c (fun r9 h8 => ?_)))
      refine (dq rfl rfl).trans ?_
      refine (dq rfl rfl).trans ?_
      refine (dq_kxi (z := 201) rfl (lq rfl) (lq rfl) (lq rfl) kd_201).trans (it_c (kxi_c (fun r11 h10 => ?_)))
      exact dq_ret1 rfl
    · refine (dq rfl rfl).trans ?_
      refine (dq rfl rfl).trans ?_
      exact dq_ret1 rfl
theorem q_186 (ab : Nat) (h : ia_H) : cl 186 [.ref ab] h = ((ia_gI h 7 ab 3).bind fun v1 => (if ia_ok h 7 [.ref ab, .int v1] = true then kxv (cl 187 [.ref ab, .int v1] h) (fun h2 => ((ia_gI h2 7 ab 4).bind fun v3 => (if ia_ok h2 7 [.ref ab, .int v3] = true then kxv (cl 187 [.ref ab, .int v3] h2) (fun h4 => some (none, h4)) else none))) else none)) := by
  refine (dq rfl rfl).trans ?_
  refine (dq rfl rfl).trans ?_
  refine (dq_getI rfl).trans (bn_c (fun v1 => ?_))
  refine (dq_kxv (z := 187) rfl (lq rfl) (lq rfl) (lq rfl) kd_187).trans (it_c (kxv_c (fun h2 => ?_)))
  refine (dq rfl rfl).trans ?_
  refine (dq rfl rfl).trans ?_
  refine (dq_getI rfl).trans (bn_c (fun v3 => ?_))
  refine (dq_kxv (z := 187) rfl (lq rfl) (lq rfl) (lq rfl) kd_187).trans (it_c (kxv_c (fun h4 => ?_)))
  exact dq_ret0 rfl
theorem q_187 (ab : Nat) (ac : Int32) (h : ia_H) : cl 187 [.ref ab, .int ac] h = ((ia_gR h 7 ab 1).bind fun a1 => ((ia_gI h 7 ab 2).bind fun v2 => ((ia_gR h 7 ab 0).bind fun a3 => ((ia_gI h 7 ab 2).bind fun v4 => (if ia_ok h 5 [.ref a3, .int ac, .int v4] = true then kxi (cl 212 [.ref a3, .int ac, .int v4] h) (fun r6 h5 => (if ia_ok h5 4 [.ref a1, .int v2, .int r6] = true then kxi (cl 203 [.ref a1, .int v2, .int r6] h5) (fun r8 h7 => (if r8 = 0 then some (none, h7) else ((ia_gR h7 7 ab 0).bind fun a9 => ((ia_gI h7 7 ab 2).bind fun v10 => (if ia_ok h7 5 [.ref a9, .int ac, .int v10] = true then kxv (cl 213 [.ref a9, .int ac, .int v10] h7) (fun h11 => some (none, h11)) else none))))) else none)) else none))))) := by
  refine (dq rfl rfl).trans ?_
  refine (dq_getR rfl).trans (bn_c (fun a1 => ?_))
  refine (dq rfl rfl).trans ?_
  refine (dq_getI rfl).trans (bn_c (fun v2 => ?_))
  refine (dq rfl rfl).trans ?_
  refine (dq_getR rfl).trans (bn_c (fun a3 => ?_))
  refine (dq rfl rfl).trans ?_
  refine (dq rfl rfl).trans ?_
  refine (dq_getI rfl).trans (bn_c (fun v4 => ?_))
  refine (dq_kxi (z := 212) rfl (lq rfl) (lq rfl) (lq rfl) kd_212).trans (it_c (kxi_c (fun r6 h5 => ?_)))
  refine (dq_kxi (z := 203) rfl (lq rfl) (lq rfl) (lq rfl) kd_203).trans (it_c (kxi_c (fun r8 h7 => ?_)))
  refine (dq_ifeq rfl).trans (ie_c ?_ ?_)
  · exact dq_ret0 rfl
  · refine (dq rfl rfl).trans ?_
    refine (dq_getR rfl).trans (bn_c (fun a9 => ?_))
    refine (dq rfl rfl).trans ?_
    refine (dq rfl rfl).trans ?_
    refine (dq_getI rfl).trans (bn_c (fun v10 => ?_))
    refine (dq_kxv (z := 213) rfl (lq rfl) (lq rfl) (lq rfl) kd_213).trans (it_c (kxv_c (fun h11 => ?_)))
    exact dq_ret0 rfl
theorem q_188 (ab : Nat) (h : ia_H) : cl 188 [.ref ab] h = ((ia_pF (ia_new h 100 (.inl (0, 100, ia_zero 0))) 3 ab 0 (.ref (h.1))).bind fun h1 => some (none, h1)) := by
  refine (dq rfl rfl).trans ?_
  refine (dq rfl rfl).trans ?_
  refine (dq rfl rfl).trans ?_
  refine (dq rfl rfl).trans ?_
  refine (dq_newa (n := 100) rfl (by decide +kernel)).trans ?_
  refine (dq_putR rfl).trans (bn_c (fun h1 => ?_))
  exact dq_ret0 rfl
theorem q_189 (ab : Nat) (h : ia_H) : cl 189 [.ref ab] h = ((ia_pF h 3 ab 1 (.int 0)).bind fun h1 => some (some (.ref ab), h1)) := by
  refine (dq rfl rfl).trans ?_
  refine (dq rfl rfl).trans ?_
  refine (dq_putI rfl).trans (bn_c (fun h1 => ?_))
  refine (dq rfl rfl).trans ?_
  exact dq_ret4 rfl
theorem q_190 (ab : Nat) (ac : Int32) (h : ia_H) : cl 190 [.ref ab, .int ac] h = ((ia_gI h 3 ab 1).bind fun v1 => ((ia_gR h 3 ab 0).bind fun a2 => ((ia_len h a2).bind fun v3 => (if v3 ≤ v1 then some (some (.ref ab), h) else ((ia_gR h 3 ab 0).bind fun a4 => ((ia_gI h 3 ab 1).bind fun v5 => ((ia_st h 0 a4 v5 ac).bind fun h6 => ((ia_gI h6 3 ab 1).bind fun v7 => ((ia_pF h6 3 ab 1 (.int (v7 + 1))).bind fun h8 => some (some (.ref ab), h8)))))))))) := by
  refine (dq rfl rfl).trans ?_
  refine (dq_getI rfl).trans (bn_c (fun v1 => ?_))
  refine (dq rfl rfl).trans ?_
  refine (dq_getR rfl).trans (bn_c (fun a2 => ?_))
  refine (dq_alen rfl).trans (bn_c (fun v3 => ?_))
  refine (dq_ige rfl).trans (ie_c ?_ ?_)
  · refine (dq rfl rfl).trans ?_
    exact dq_ret4 rfl
  · refine (dq rfl rfl).trans ?_
    refine (dq_getR rfl).trans (bn_c (fun a4 => ?_))
    refine (dq rfl rfl).trans ?_
    refine (dq_getI rfl).trans (bn_c (fun v5 => ?_))
    refine (dq rfl rfl).trans ?_
    refine (dq_iast rfl).trans (bn_c (fun h6 => ?_))
    refine (dq rfl rfl).trans ?_
    refine (dq rfl rfl).trans ?_
    refine (dq_getI rfl).trans (bn_c (fun v7 => ?_))
    refine (dq rfl rfl).trans ?_
    refine (dq rfl rfl).trans ?_
    refine (dq_putI rfl).trans (bn_c (fun h8 => ?_))
    refine (dq rfl rfl).trans ?_
    exact dq_ret4 rfl
theorem q_191 (ab : Nat) (ac : Int32) (h : ia_H) : cl 191 [.ref ab, .int ac] h = (if ac < 0 then some (some (.int (-1)), h) else ((ia_gI h 3 ab 1).bind fun v1 => (if v1 ≤ ac then some (some (.int (-1)), h) else ((ia_gR h 3 ab 0).bind fun a2 => ((ia_ld h 0 a2 ac).bind fun v3 => some (some (.int v3), h)))))) := by
  refine (dq rfl rfl).trans ?_
  refine (dq_iflt rfl).trans (ie_c ?_ ?_)
  · refine (dq rfl rfl).trans ?_
    exact dq_ret1 rfl
  · refine (dq rfl rfl).trans ?_
    refine (dq rfl rfl).trans ?_
    refine (dq_getI rfl).trans (bn_c (fun v1 => ?_))
    refine (dq_ige rfl).trans (ie_c ?_ ?_)
    · refine (dq rfl rfl).trans ?_
      exact dq_ret1 rfl
    · refine (dq rfl rfl).trans ?_
      refine (dq_getR rfl).trans (bn_c (fun a2 => ?_))
      refine (dq rfl rfl).trans ?_
      refine (dq_iald rfl).trans (bn_c (fun v3 => ?_))
      refine (dq rfl rfl).trans ?_
      exact dq_ret1 rfl
theorem q_192 (ab : Nat) (h : ia_H) : cl 192 [.ref ab] h = ((ia_pF (ia_new h 48 (.inl (0, 48, ia_zero 0))) 4 ab 0 (.ref (h.1))).bind fun h1 => (if ia_ok h1 4 [.ref ab] = true then kxv (cl 193 [.ref ab] h1) (fun h2 => some (none, h2)) else none)) := by
  refine (dq rfl rfl).trans ?_
  refine (dq rfl rfl).trans ?_
  refine (dq rfl rfl).trans ?_
  refine (dq rfl rfl).trans ?_
  refine (dq_newa (n := 48) rfl (by decide +kernel)).trans ?_
  refine (dq_putR rfl).trans (bn_c (fun h1 => ?_))
  refine (dq rfl rfl).trans ?_
  refine (dq_kxv (z := 193) rfl (lq rfl) (lq rfl) (lq rfl) kd_193).trans (it_c (kxv_c (fun h2 => ?_)))
  exact dq_ret0 rfl
theorem q_193 (ab : Nat) (h : ia_H) : cl 193 [.ref ab] h = ((ia_gR h 4 ab 0).bind fun a1 => kxv (cl 256 [.ref a1, .int 0] h) (fun h2 => dn 193 6 [some (.ref ab), some (.int 0)] [] h2)) := by
  refine (dq rfl rfl).trans ?_
  refine (dq_getR rfl).trans (bn_c (fun a1 => ?_))
  refine (dq rfl rfl).trans ?_
  refine (dq_kxv0 (z := 256) rfl (lq rfl) (lq rfl) (lq rfl) kd_256).trans (kxv_c (fun h2 => ?_))
  refine (dq rfl rfl).trans ?_
  refine (dq rfl rfl).trans ?_
  rfl
theorem q_193_6 (x0 : Nat) (x1 : Int32) (h : ia_H) : dn 193 6 [some (.ref x0), some (.int x1)] [] h = (if 4 ≤ x1 then some (none, h) else (if ia_ok h 4 [.ref x0, .int x1, .int 1, .int 1] = true then kxv (cl 196 [.ref x0, .int x1, .int 1, .int 1] h) (fun h1 => dn 193 6 [some (.ref x0), some (.int (x1 + 1))] [] h1) else none)) := by
  refine (dq rfl rfl).trans ?_
  refine (dq rfl rfl).trans ?_
  refine (dq_ige rfl).trans (ie_c ?_ ?_)
  · exact dq_ret0 rfl
  · refine (dq rfl rfl).trans ?_
    refine (dq rfl rfl).trans ?_
    refine (dq rfl rfl).trans ?_
    refine (dq rfl rfl).trans ?_
    refine (dq_kxv (z := 196) rfl (lq rfl) (lq rfl) (lq rfl) kd_196).trans (it_c (kxv_c (fun h1 => ?_)))
    refine (dq_iinc (v := 1) rfl rfl (by decide)).trans ?_
    refine (dq rfl rfl).trans ?_
    rfl
theorem q_194 (ab : Nat) (ac : Nat) (h : ia_H) : cl 194 [.ref ab, .ref ac] h = ((ia_gR h 4 ac 0).bind fun a1 => ((ia_gR h 4 ab 0).bind fun a2 => ((ia_gR h 4 ab 0).bind fun a3 => ((ia_len h a3).bind fun v4 => ((ia_cp h a1 a2 0 0 v4).bind fun h5 => some (none, h5)))))) := by
  refine (dq rfl rfl).trans ?_
  refine (dq_getR rfl).trans (bn_c (fun a1 => ?_))
  refine (dq rfl rfl).trans ?_
  refine (dq rfl rfl).trans ?_
  refine (dq_getR rfl).trans (bn_c (fun a2 => ?_))
  refine (dq rfl rfl).trans ?_
  refine (dq rfl rfl).trans ?_
  refine (dq_getR rfl).trans (bn_c (fun a3 => ?_))
  refine (dq_alen rfl).trans (bn_c (fun v4 => ?_))
  refine (dq_copy rfl (lq rfl)).trans (bn_c (fun h5 => ?_))
  exact dq_ret0 rfl

/-! equations of the law, by program (wip/whole/dec.py) -/
set_option maxRecDepth 20000 in
theorem q_259 (ab : UInt32) (h : ia_H) : cl 259 [.float ab] h = kxv (cl 0 [.ref (h.1)] (ia_new h 11 (.inr (0, [.null, .null, .null, .null, .null, .null, .null, .null, .null, .null, .int 0])))) (fun h1 => kxv (cl 67 [.ref (h1.1)] (ia_new h1 36 (.inr (8, [.null, .null, .null, .int 0, .null, .int 0, .null, .null, .null, .null, .int 0, .null, .int 0, .int 0, .int 0, .int 0, .null, .null, .int 0, .int 0, .int 0, .int 0, .int 0, .int 0, .null, .null, .null, .null, .null, .null, .null, .int 0, .null, .null, .null, .int 0])))) (fun h2 => dn 259 13 [some (.float ab), some (.ref (h.1)), some (.ref (h1.1)), some (.ref (h2.1)), some (.int 0), none, none, none] [] (ia_new h2 1 (.inl (1, 1, ia_zero 1))))) := by
  refine (dq rfl rfl).trans ?_
  refine (dq rfl rfl).trans ?_
  refine (dq_kxv1 (z := 0) rfl (lq rfl) (lq rfl) (lq rfl) kd_0 rfl).trans (kxv_c (fun h1 => ?_))
  refine (dq rfl rfl).trans ?_
  refine (dq rfl rfl).trans ?_
  refine (dq rfl rfl).trans ?_
  refine (dq_kxv1 (z := 67) rfl (lq rfl) (lq rfl) (lq rfl) kd_67 rfl).trans (kxv_c (fun h2 => ?_))
  refine (dq rfl rfl).trans ?_
  refine (dq rfl rfl).trans ?_
  refine (dq_newa (n := 1) rfl (by decide +kernel)).trans ?_
  refine (dq rfl rfl).trans ?_
  refine (dq rfl rfl).trans ?_
  refine (dq rfl rfl).trans ?_
  rfl
set_option maxRecDepth 20000 in
theorem q_259_13 (x0 : UInt32) (x1 : Nat) (x2 : Nat) (x3 : Nat) (x4 : Int32) (l5 : Option Value) (l6 : Option Value) (l7 : Option Value) (h : ia_H) : dn 259 13 [some (.float x0), some (.ref x1), some (.ref x2), some (.ref x3), some (.int x4), l5, l6, l7] [] h = (if ((Int32.ofNat h.2.2.1.1) - 4) < x4 then some (some (.int 1), h) else (if x4 < 0 ∨ h.2.2.1.1 ≤ x4.toNatClampNeg then none else (if ((h.2.2.1.2 x4.toNatClampNeg) &&& 63).toInt < 0 ∨ (49 : Int) ≤ ((h.2.2.1.2 x4.toNatClampNeg) &&& 63).toInt then dn 259 1042 [some (.float x0), some (.ref x1), some (.ref x2), some (.ref x3), some (.int x4), l5, l6, l7] [] h else dn 259 ([25, 42, 59, 66, 73, 100, 117, 134, 151, 188, 215, 242, 279, 286, 303, 348, 373, 400, 407, 434, 461, 488, 505, 542, 569, 596, 623, 660, 687, 714, 732, 749, 756, 783, 800, 827, 844, 851, 868, 885, 902, 909, 926, 933, 940, 967, 984, 991, 1008].getD ((h.2.2.1.2 x4.toNatClampNeg) &&& 63).toInt.toNat 1042) [some (.float x0), some (.ref x1), some (.ref x2), some (.ref x3), some (.int x4), l5, l6, l7] [] h))) := by
  refine (dq rfl rfl).trans ?_
  refine (dq rfl rfl).trans ?_
  refine (dq rfl rfl).trans ?_
  refine (dq rfl rfl).trans ?_
  refine (dq rfl rfl).trans ?_
  refine (dq_igt rfl).trans (ie_c ?_ ?_)
  · refine (dq rfl rfl).trans ?_
    exact dq_ret21 rfl
  · refine (dq rfl rfl).trans ?_
    refine (dq rfl rfl).trans ?_
    refine (dq_sld rfl).trans (ie_c rfl ?_)
    refine (dq rfl rfl).trans ?_
    refine (dq rfl rfl).trans ?_
    refine (dq_sw rfl).trans ?_
    rfl
set_option maxRecDepth 20000 in
theorem q_259_25 (x0 : UInt32) (x1 : Nat) (x2 : Nat) (x3 : Nat) (x4 : Int32) (l5 : Option Value) (l6 : Option Value) (l7 : Option Value) (h : ia_H) : dn 259 25 [some (.float x0), some (.ref x1), some (.ref x2), some (.ref x3), some (.int x4), l5, l6, l7] [] h = (if (x4 + 1) < 0 ∨ h.2.2.1.1 ≤ (x4 + 1).toNatClampNeg then none else (if ia_ok h 0 [.ref x1, .int (h.2.2.1.2 (x4 + 1).toNatClampNeg)] = true then kxi (cl 1 [.ref x1, .int (h.2.2.1.2 (x4 + 1).toNatClampNeg)] h) (fun r3 h2 => (if (x4 + 1) < 0 ∨ h2.2.2.1.1 ≤ (x4 + 1).toNatClampNeg then none else (if ia_ok h2 8 [.ref x2, .int (h2.2.2.1.2 (x4 + 1).toNatClampNeg)] = true then kxi (cl 73 [.ref x2, .int (h2.2.2.1.2 (x4 + 1).toNatClampNeg)] h2) (fun r6 h5 => (if r3 = r6 then dn 259 1042 [some (.float x0), some (.ref x1), some (.ref x2), some (.ref x3), some (.int x4), l5, l6, l7] [] h5 else some (some (.int 0), h5))) else none))) else none)) := by
  refine (dq rfl rfl).trans ?_
  refine (dq rfl rfl).trans ?_
  refine (dq rfl rfl).trans ?_
  refine (dq rfl rfl).trans ?_
  refine (dq rfl rfl).trans ?_
  refine (dq_sld rfl).trans (ie_c rfl ?_)
  refine (dq_kxi (z := 1) rfl (lq rfl) (lq rfl) (lq rfl) kd_1).trans (it_c (kxi_c (fun r3 h2 => ?_)))
  refine (dq rfl rfl).trans ?_
  refine (dq rfl rfl).trans ?_
  refine (dq rfl rfl).trans ?_
  refine (dq rfl rfl).trans ?_
  refine (dq rfl rfl).trans ?_
  refine (dq_sld rfl).trans (ie_c rfl ?_)
  refine (dq_kxi (z := 73) rfl (lq rfl) (lq rfl) (lq rfl) kd_73).trans (it_c (kxi_c (fun r6 h5 => ?_)))
  refine (dq_ieq rfl).trans (ie_c ?_ ?_)
  · rfl
  · refine (dq rfl rfl).trans ?_
    exact dq_ret20 rfl
set_option maxRecDepth 20000 in
theorem q_259_42 (x0 : UInt32) (x1 : Nat) (x2 : Nat) (x3 : Nat) (x4 : Int32) (l5 : Option Value) (l6 : Option Value) (l7 : Option Value) (h : ia_H) : dn 259 42 [some (.float x0), some (.ref x1), some (.ref x2), some (.ref x3), some (.int x4), l5, l6, l7] [] h = (if (x4 + 1) < 0 ∨ h.2.2.1.1 ≤ (x4 + 1).toNatClampNeg then none else (if ia_ok h 0 [.ref x1, .int (h.2.2.1.2 (x4 + 1).toNatClampNeg)] = true then kxi (cl 2 [.ref x1, .int (h.2.2.1.2 (x4 + 1).toNatClampNeg)] h) (fun r3 h2 => (if (x4 + 1) < 0 ∨ h2.2.2.1.1 ≤ (x4 + 1).toNatClampNeg then none else (if ia_ok h2 8 [.ref x2, .int (h2.2.2.1.2 (x4 + 1).toNatClampNeg)] = true then kxi (cl 74 [.ref x2, .int (h2.2.2.1.2 (x4 + 1).toNatClampNeg)] h2) (fun r6 h5 => (if r3 = r6 then dn 259 1042 [some (.float x0), some (.ref x1), some (.ref x2), some (.ref x3), some (.int x4), l5, l6, l7] [] h5 else some (some (.int 0), h5))) else none))) else none)) := by
  refine (dq rfl rfl).trans ?_
  refine (dq rfl rfl).trans ?_
  refine (dq rfl rfl).trans ?_
  refine (dq rfl rfl).trans ?_
  refine (dq rfl rfl).trans ?_
  refine (dq_sld rfl).trans (ie_c rfl ?_)
  refine (dq_kxi (z := 2) rfl (lq rfl) (lq rfl) (lq rfl) kd_2).trans (it_c (kxi_c (fun r3 h2 => ?_)))
  refine (dq rfl rfl).trans ?_
  refine (dq rfl rfl).trans ?_
  refine (dq rfl rfl).trans ?_
  refine (dq rfl rfl).trans ?_
  refine (dq rfl rfl).trans ?_
  refine (dq_sld rfl).trans (ie_c rfl ?_)
  refine (dq_kxi (z := 74) rfl (lq rfl) (lq rfl) (lq rfl) kd_74).trans (it_c (kxi_c (fun r6 h5 => ?_)))
  refine (dq_ieq rfl).trans (ie_c ?_ ?_)
  · rfl
  · refine (dq rfl rfl).trans ?_
    exact dq_ret20 rfl
set_option maxRecDepth 20000 in
theorem q_259_59 (x0 : UInt32) (x1 : Nat) (x2 : Nat) (x3 : Nat) (x4 : Int32) (l5 : Option Value) (l6 : Option Value) (l7 : Option Value) (h : ia_H) : dn 259 59 [some (.float x0), some (.ref x1), some (.ref x2), some (.ref x3), some (.int x4), l5, l6, l7] [] h = (if ia_ok h 0 [.ref x1] = true then kxi (cl 3 [.ref x1] h) (fun r2 h1 => (if ia_ok h1 8 [.ref x2] = true then kxi (cl 108 [.ref x2] h1) (fun r4 h3 => (if r2 = r4 then dn 259 1042 [some (.float x0), some (.ref x1), some (.ref x2), some (.ref x3), some (.int x4), l5, l6, l7] [] h3 else some (some (.int 0), h3))) else none)) else none) := by
  refine (dq rfl rfl).trans ?_
  refine (dq_kxi (z := 3) rfl (lq rfl) (lq rfl) (lq rfl) kd_3).trans (it_c (kxi_c (fun r2 h1 => ?_)))
  refine (dq rfl rfl).trans ?_
  refine (dq_kxi (z := 108) rfl (lq rfl) (lq rfl) (lq rfl) kd_108).trans (it_c (kxi_c (fun r4 h3 => ?_)))
  refine (dq_ieq rfl).trans (ie_c ?_ ?_)
  · rfl
  · refine (dq rfl rfl).trans ?_
    exact dq_ret20 rfl
set_option maxRecDepth 20000 in
theorem q_259_66 (x0 : UInt32) (x1 : Nat) (x2 : Nat) (x3 : Nat) (x4 : Int32) (l5 : Option Value) (l6 : Option Value) (l7 : Option Value) (h : ia_H) : dn 259 66 [some (.float x0), some (.ref x1), some (.ref x2), some (.ref x3), some (.int x4), l5, l6, l7] [] h = (if ia_ok h 0 [.ref x1] = true then kxi (cl 4 [.ref x1] h) (fun r2 h1 => (if ia_ok h1 8 [.ref x2] = true then kxi (cl 109 [.ref x2] h1) (fun r4 h3 => (if r2 = r4 then dn 259 1042 [some (.float x0), some (.ref x1), some (.ref x2), some (.ref x3), some (.int x4), l5, l6, l7] [] h3 else some (some (.int 0), h3))) else none)) else none) := by
  refine (dq rfl rfl).trans ?_
  refine (dq_kxi (z := 4) rfl (lq rfl) (lq rfl) (lq rfl) kd_4).trans (it_c (kxi_c (fun r2 h1 => ?_)))
  refine (dq rfl rfl).trans ?_
  refine (dq_kxi (z := 109) rfl (lq rfl) (lq rfl) (lq rfl) kd_109).trans (it_c (kxi_c (fun r4 h3 => ?_)))
  refine (dq_ieq rfl).trans (ie_c ?_ ?_)
  · rfl
  · refine (dq rfl rfl).trans ?_
    exact dq_ret20 rfl
set_option maxRecDepth 20000 in
theorem q_259_73 (x0 : UInt32) (x1 : Nat) (x2 : Nat) (x3 : Nat) (x4 : Int32) (l5 : Option Value) (l6 : Option Value) (l7 : Option Value) (h : ia_H) : dn 259 73 [some (.float x0), some (.ref x1), some (.ref x2), some (.ref x3), some (.int x4), l5, l6, l7] [] h = (if (x4 + 1) < 0 ∨ h.2.2.1.1 ≤ (x4 + 1).toNatClampNeg then none else (if (x4 + 2) < 0 ∨ h.2.2.1.1 ≤ (x4 + 2).toNatClampNeg then none else (if ia_ok h 0 [.ref x1, .int (h.2.2.1.2 (x4 + 1).toNatClampNeg), .int (h.2.2.1.2 (x4 + 2).toNatClampNeg)] = true then kxi (cl 5 [.ref x1, .int (h.2.2.1.2 (x4 + 1).toNatClampNeg), .int (h.2.2.1.2 (x4 + 2).toNatClampNeg)] h) (fun r4 h3 => (if (x4 + 1) < 0 ∨ h3.2.2.1.1 ≤ (x4 + 1).toNatClampNeg then none else (if (x4 + 2) < 0 ∨ h3.2.2.1.1 ≤ (x4 + 2).toNatClampNeg then none else (if ia_ok h3 8 [.ref x2, .int (h3.2.2.1.2 (x4 + 1).toNatClampNeg), .int (h3.2.2.1.2 (x4 + 2).toNatClampNeg)] = true then kxi (cl 110 [.ref x2, .int (h3.2.2.1.2 (x4 + 1).toNatClampNeg), .int (h3.2.2.1.2 (x4 + 2).toNatClampNeg)] h3) (fun r8 h7 => (if r4 = r8 then dn 259 1042 [some (.float x0), some (.ref x1), some (.ref x2), some (.ref x3), some (.int x4), l5, l6, l7] [] h7 else some (some (.int 0), h7))) else none)))) else none))) := by
  refine (dq rfl rfl).trans ?_
  refine (dq rfl rfl).trans ?_
  refine (dq rfl rfl).trans ?_
  refine (dq rfl rfl).trans ?_
  refine (dq rfl rfl).trans ?_
  refine (dq_sld rfl).trans (ie_c rfl ?_)
  refine (dq rfl rfl).trans ?_
  refine (dq rfl rfl).trans ?_
  refine (dq rfl rfl).trans ?_
  refine (dq rfl rfl).trans ?_
  refine (dq_sld rfl).trans (ie_c rfl ?_)
  refine (dq_kxi (z := 5) rfl (lq rfl) (lq rfl) (lq rfl) kd_5).trans (it_c (kxi_c (fun r4 h3 => ?_)))
  refine (dq rfl rfl).trans ?_
  refine (dq rfl rfl).trans ?_
  refine (dq rfl rfl).trans ?_
  refine (dq rfl rfl).trans ?_
  refine (dq rfl rfl).trans ?_
  refine (dq_sld rfl).trans (ie_c rfl ?_)
  refine (dq rfl rfl).trans ?_
  refine (dq rfl rfl).trans ?_
  refine (dq rfl rfl).trans ?_
  refine (dq rfl rfl).trans ?_
  refine (dq_sld rfl).trans (ie_c rfl ?_)
  refine (dq_kxi (z := 110) rfl (lq rfl) (lq rfl) (lq rfl) kd_110).trans (it_c (kxi_c (fun r8 h7 => ?_)))
  refine (dq_ieq rfl).trans (ie_c ?_ ?_)
  · rfl
  · refine (dq rfl rfl).trans ?_
    exact dq_ret20 rfl
set_option maxRecDepth 20000 in
theorem q_259_100 (x0 : UInt32) (x1 : Nat) (x2 : Nat) (x3 : Nat) (x4 : Int32) (l5 : Option Value) (l6 : Option Value) (l7 : Option Value) (h : ia_H) : dn 259 100 [some (.float x0), some (.ref x1), some (.ref x2), some (.ref x3), some (.int x4), l5, l6, l7] [] h = (if (x4 + 1) < 0 ∨ h.2.2.1.1 ≤ (x4 + 1).toNatClampNeg then none else (if ia_ok h 0 [.ref x1, .int (h.2.2.1.2 (x4 + 1).toNatClampNeg)] = true then kxi (cl 6 [.ref x1, .int (h.2.2.1.2 (x4 + 1).toNatClampNeg)] h) (fun r3 h2 => (if (x4 + 1) < 0 ∨ h2.2.2.1.1 ≤ (x4 + 1).toNatClampNeg then none else (if ia_ok h2 8 [.ref x2, .int (h2.2.2.1.2 (x4 + 1).toNatClampNeg)] = true then kxi (cl 138 [.ref x2, .int (h2.2.2.1.2 (x4 + 1).toNatClampNeg)] h2) (fun r6 h5 => (if r3 = r6 then dn 259 1042 [some (.float x0), some (.ref x1), some (.ref x2), some (.ref x3), some (.int x4), l5, l6, l7] [] h5 else some (some (.int 0), h5))) else none))) else none)) := by
  refine (dq rfl rfl).trans ?_
  refine (dq rfl rfl).trans ?_
  refine (dq rfl rfl).trans ?_
  refine (dq rfl rfl).trans ?_
  refine (dq rfl rfl).trans ?_
  refine (dq_sld rfl).trans (ie_c rfl ?_)
  refine (dq_kxi (z := 6) rfl (lq rfl) (lq rfl) (lq rfl) kd_6).trans (it_c (kxi_c (fun r3 h2 => ?_)))
  refine (dq rfl rfl).trans ?_
  refine (dq rfl rfl).trans ?_
  refine (dq rfl rfl).trans ?_
  refine (dq rfl rfl).trans ?_
  refine (dq rfl rfl).trans ?_
  refine (dq_sld rfl).trans (ie_c rfl ?_)
  refine (dq_kxi (z := 138) rfl (lq rfl) (lq rfl) (lq rfl) kd_138).trans (it_c (kxi_c (fun r6 h5 => ?_)))
  refine (dq_ieq rfl).trans (ie_c ?_ ?_)
  · rfl
  · refine (dq rfl rfl).trans ?_
    exact dq_ret20 rfl
set_option maxRecDepth 20000 in
theorem q_259_117 (x0 : UInt32) (x1 : Nat) (x2 : Nat) (x3 : Nat) (x4 : Int32) (l5 : Option Value) (l6 : Option Value) (l7 : Option Value) (h : ia_H) : dn 259 117 [some (.float x0), some (.ref x1), some (.ref x2), some (.ref x3), some (.int x4), l5, l6, l7] [] h = (if (x4 + 1) < 0 ∨ h.2.2.1.1 ≤ (x4 + 1).toNatClampNeg then none else (if ia_ok h 0 [.ref x1, .int (h.2.2.1.2 (x4 + 1).toNatClampNeg)] = true then kxi (cl 7 [.ref x1, .int (h.2.2.1.2 (x4 + 1).toNatClampNeg)] h) (fun r3 h2 => (if (x4 + 1) < 0 ∨ h2.2.2.1.1 ≤ (x4 + 1).toNatClampNeg then none else (if ia_ok h2 8 [.ref x2, .int (h2.2.2.1.2 (x4 + 1).toNatClampNeg)] = true then kxi (cl 111 [.ref x2, .int (h2.2.2.1.2 (x4 + 1).toNatClampNeg)] h2) (fun r6 h5 => (if r3 = r6 then dn 259 1042 [some (.float x0), some (.ref x1), some (.ref x2), some (.ref x3), some (.int x4), l5, l6, l7] [] h5 else some (some (.int 0), h5))) else none))) else none)) := by
  refine (dq rfl rfl).trans ?_
  refine (dq rfl rfl).trans ?_
  refine (dq rfl rfl).trans ?_
  refine (dq rfl rfl).trans ?_
  refine (dq rfl rfl).trans ?_
  refine (dq_sld rfl).trans (ie_c rfl ?_)
  refine (dq_kxi (z := 7) rfl (lq rfl) (lq rfl) (lq rfl) kd_7).trans (it_c (kxi_c (fun r3 h2 => ?_)))
  refine (dq rfl rfl).trans ?_
  refine (dq rfl rfl).trans ?_
  refine (dq rfl rfl).trans ?_
  refine (dq rfl rfl).trans ?_
  refine (dq rfl rfl).trans ?_
  refine (dq_sld rfl).trans (ie_c rfl ?_)
  refine (dq_kxi (z := 111) rfl (lq rfl) (lq rfl) (lq rfl) kd_111).trans (it_c (kxi_c (fun r6 h5 => ?_)))
  refine (dq_ieq rfl).trans (ie_c ?_ ?_)
  · rfl
  · refine (dq rfl rfl).trans ?_
    exact dq_ret20 rfl
set_option maxRecDepth 20000 in
theorem q_259_134 (x0 : UInt32) (x1 : Nat) (x2 : Nat) (x3 : Nat) (x4 : Int32) (l5 : Option Value) (l6 : Option Value) (l7 : Option Value) (h : ia_H) : dn 259 134 [some (.float x0), some (.ref x1), some (.ref x2), some (.ref x3), some (.int x4), l5, l6, l7] [] h = (if (x4 + 1) < 0 ∨ h.2.2.1.1 ≤ (x4 + 1).toNatClampNeg then none else (if ia_ok h 0 [.ref x1, .int (h.2.2.1.2 (x4 + 1).toNatClampNeg)] = true then kxi (cl 8 [.ref x1, .int (h.2.2.1.2 (x4 + 1).toNatClampNeg)] h) (fun r3 h2 => (if (x4 + 1) < 0 ∨ h2.2.2.1.1 ≤ (x4 + 1).toNatClampNeg then none else (if ia_ok h2 8 [.ref x2, .int (h2.2.2.1.2 (x4 + 1).toNatClampNeg)] = true then kxi (cl 112 [.ref x2, .int (h2.2.2.1.2 (x4 + 1).toNatClampNeg)] h2) (fun r6 h5 => (if r3 = r6 then dn 259 1042 [some (.float x0), some (.ref x1), some (.ref x2), some (.ref x3), some (.int x4), l5, l6, l7] [] h5 else some (some (.int 0), h5))) else none))) else none)) := by
  refine (dq rfl rfl).trans ?_
  refine (dq rfl rfl).trans ?_
  refine (dq rfl rfl).trans ?_
  refine (dq rfl rfl).trans ?_
  refine (dq rfl rfl).trans ?_
  refine (dq_sld rfl).trans (ie_c rfl ?_)
  refine (dq_kxi (z := 8) rfl (lq rfl) (lq rfl) (lq rfl) kd_8).trans (it_c (kxi_c (fun r3 h2 => ?_)))
  refine (dq rfl rfl).trans ?_
  refine (dq rfl rfl).trans ?_
  refine (dq rfl rfl).trans ?_
  refine (dq rfl rfl).trans ?_
  refine (dq rfl rfl).trans ?_
  refine (dq_sld rfl).trans (ie_c rfl ?_)
  refine (dq_kxi (z := 112) rfl (lq rfl) (lq rfl) (lq rfl) kd_112).trans (it_c (kxi_c (fun r6 h5 => ?_)))
  refine (dq_ieq rfl).trans (ie_c ?_ ?_)
  · rfl
  · refine (dq rfl rfl).trans ?_
    exact dq_ret20 rfl
set_option maxRecDepth 20000 in
theorem q_259_151 (x0 : UInt32) (x1 : Nat) (x2 : Nat) (x3 : Nat) (x4 : Int32) (l5 : Option Value) (l6 : Option Value) (l7 : Option Value) (h : ia_H) : dn 259 151 [some (.float x0), some (.ref x1), some (.ref x2), some (.ref x3), some (.int x4), l5, l6, l7] [] h = (if (x4 + 1) < 0 ∨ h.2.2.1.1 ≤ (x4 + 1).toNatClampNeg then none else (if (x4 + 2) < 0 ∨ h.2.2.1.1 ≤ (x4 + 2).toNatClampNeg then none else (if (x4 + 3) < 0 ∨ h.2.2.1.1 ≤ (x4 + 3).toNatClampNeg then none else (if ia_ok h 0 [.ref x1, .int (h.2.2.1.2 (x4 + 1).toNatClampNeg), .int (h.2.2.1.2 (x4 + 2).toNatClampNeg), .int (h.2.2.1.2 (x4 + 3).toNatClampNeg)] = true then kxi (cl 9 [.ref x1, .int (h.2.2.1.2 (x4 + 1).toNatClampNeg), .int (h.2.2.1.2 (x4 + 2).toNatClampNeg), .int (h.2.2.1.2 (x4 + 3).toNatClampNeg)] h) (fun r5 h4 => (if (x4 + 1) < 0 ∨ h4.2.2.1.1 ≤ (x4 + 1).toNatClampNeg then none else (if (x4 + 2) < 0 ∨ h4.2.2.1.1 ≤ (x4 + 2).toNatClampNeg then none else (if (x4 + 3) < 0 ∨ h4.2.2.1.1 ≤ (x4 + 3).toNatClampNeg then none else (if ia_ok h4 8 [.ref x2, .int (h4.2.2.1.2 (x4 + 1).toNatClampNeg), .int (h4.2.2.1.2 (x4 + 2).toNatClampNeg), .int (h4.2.2.1.2 (x4 + 3).toNatClampNeg)] = true then kxi (cl 114 [.ref x2, .int (h4.2.2.1.2 (x4 + 1).toNatClampNeg), .int (h4.2.2.1.2 (x4 + 2).toNatClampNeg), .int (h4.2.2.1.2 (x4 + 3).toNatClampNeg)] h4) (fun r10 h9 => (if r5 = r10 then dn 259 1042 [some (.float x0), some (.ref x1), some (.ref x2), some (.ref x3), some (.int x4), l5, l6, l7] [] h9 else some (some (.int 0), h9))) else none))))) else none)))) := by
  refine (dq rfl rfl).trans ?_
  refine (dq rfl rfl).trans ?_
  refine (dq rfl rfl).trans ?_
  refine (dq rfl rfl).trans ?_
  refine (dq rfl rfl).trans ?_
  refine (dq_sld rfl).trans (ie_c rfl ?_)
  refine (dq rfl rfl).trans ?_
  refine (dq rfl rfl).trans ?_
  refine (dq rfl rfl).trans ?_
  refine (dq rfl rfl).trans ?_
  refine (dq_sld rfl).trans (ie_c rfl ?_)
  refine (dq rfl rfl).trans ?_
  refine (dq rfl rfl).trans ?_
  refine (dq rfl rfl).trans ?_
  refine (dq rfl rfl).trans ?_
  refine (dq_sld rfl).trans (ie_c rfl ?_)
  refine (dq_kxi (z := 9) rfl (lq rfl) (lq rfl) (lq rfl) kd_9).trans (it_c (kxi_c (fun r5 h4 => ?_)))
  refine (dq rfl rfl).trans ?_
  refine (dq rfl rfl).trans ?_
  refine (dq rfl rfl).trans ?_
  refine (dq rfl rfl).trans ?_
  refine (dq rfl rfl).trans ?_
  refine (dq_sld rfl).trans (ie_c rfl ?_)
  refine (dq rfl rfl).trans ?_
  refine (dq rfl rfl).trans ?_
  refine (dq rfl rfl).trans ?_
  refine (dq rfl rfl).trans ?_
  refine (dq_sld rfl).trans (ie_c rfl ?_)
  refine (dq rfl rfl).trans ?_
  refine (dq rfl rfl).trans ?_
  refine (dq rfl rfl).trans ?_
  refine (dq rfl rfl).trans ?_
  refine (dq_sld rfl).trans (ie_c rfl ?_)
  refine (dq_kxi (z := 114) rfl (lq rfl) (lq rfl) (lq rfl) kd_114).trans (it_c (kxi_c (fun r10 h9 => ?_)))
  refine (dq_ieq rfl).trans (ie_c ?_ ?_)
  · rfl
  · refine (dq rfl rfl).trans ?_
    exact dq_ret20 rfl
set_option maxRecDepth 20000 in
theorem q_259_188 (x0 : UInt32) (x1 : Nat) (x2 : Nat) (x3 : Nat) (x4 : Int32) (l5 : Option Value) (l6 : Option Value) (l7 : Option Value) (h : ia_H) : dn 259 188 [some (.float x0), some (.ref x1), some (.ref x2), some (.ref x3), some (.int x4), l5, l6, l7] [] h = (if (x4 + 1) < 0 ∨ h.2.2.1.1 ≤ (x4 + 1).toNatClampNeg then none else (if (x4 + 2) < 0 ∨ h.2.2.1.1 ≤ (x4 + 2).toNatClampNeg then none else (if ia_ok h 0 [.ref x1, .int (h.2.2.1.2 (x4 + 1).toNatClampNeg), .int (h.2.2.1.2 (x4 + 2).toNatClampNeg)] = true then kxi (cl 10 [.ref x1, .int (h.2.2.1.2 (x4 + 1).toNatClampNeg), .int (h.2.2.1.2 (x4 + 2).toNatClampNeg)] h) (fun r4 h3 => (if (x4 + 1) < 0 ∨ h3.2.2.1.1 ≤ (x4 + 1).toNatClampNeg then none else (if (x4 + 2) < 0 ∨ h3.2.2.1.1 ≤ (x4 + 2).toNatClampNeg then none else (if ia_ok h3 8 [.ref x2, .int (h3.2.2.1.2 (x4 + 1).toNatClampNeg), .int (h3.2.2.1.2 (x4 + 2).toNatClampNeg)] = true then kxi (cl 115 [.ref x2, .int (h3.2.2.1.2 (x4 + 1).toNatClampNeg), .int (h3.2.2.1.2 (x4 + 2).toNatClampNeg)] h3) (fun r8 h7 => (if r4 = r8 then dn 259 1042 [some (.float x0), some (.ref x1), some (.ref x2), some (.ref x3), some (.int x4), l5, l6, l7] [] h7 else some (some (.int 0), h7))) else none)))) else none))) := by
  refine (dq rfl rfl).trans ?_
  refine (dq rfl rfl).trans ?_
  refine (dq rfl rfl).trans ?_
  refine (dq rfl rfl).trans ?_
  refine (dq rfl rfl).trans ?_
  refine (dq_sld rfl).trans (ie_c rfl ?_)
  refine (dq rfl rfl).trans ?_
  refine (dq rfl rfl).trans ?_
  refine (dq rfl rfl).trans ?_
  refine (dq rfl rfl).trans ?_
  refine (dq_sld rfl).trans (ie_c rfl ?_)
  refine (dq_kxi (z := 10) rfl (lq rfl) (lq rfl) (lq rfl) kd_10).trans (it_c (kxi_c (fun r4 h3 => ?_)))
  refine (dq rfl rfl).trans ?_
  refine (dq rfl rfl).trans ?_
  refine (dq rfl rfl).trans ?_
  refine (dq rfl rfl).trans ?_
  refine (dq rfl rfl).trans ?_
  refine (dq_sld rfl).trans (ie_c rfl ?_)
  refine (dq rfl rfl).trans ?_
  refine (dq rfl rfl).trans ?_
  refine (dq rfl rfl).trans ?_
  refine (dq rfl rfl).trans ?_
  refine (dq_sld rfl).trans (ie_c rfl ?_)
  refine (dq_kxi (z := 115) rfl (lq rfl) (lq rfl) (lq rfl) kd_115).trans (it_c (kxi_c (fun r8 h7 => ?_)))
  refine (dq_ieq rfl).trans (ie_c ?_ ?_)
  · rfl
  · refine (dq rfl rfl).trans ?_
    exact dq_ret20 rfl
set_option maxRecDepth 20000 in
theorem q_259_215 (x0 : UInt32) (x1 : Nat) (x2 : Nat) (x3 : Nat) (x4 : Int32) (l5 : Option Value) (l6 : Option Value) (l7 : Option Value) (h : ia_H) : dn 259 215 [some (.float x0), some (.ref x1), some (.ref x2), some (.ref x3), some (.int x4), l5, l6, l7] [] h = (if (x4 + 1) < 0 ∨ h.2.2.1.1 ≤ (x4 + 1).toNatClampNeg then none else (if (x4 + 2) < 0 ∨ h.2.2.1.1 ≤ (x4 + 2).toNatClampNeg then none else (if ia_ok h 0 [.ref x1, .int (h.2.2.1.2 (x4 + 1).toNatClampNeg), .int (h.2.2.1.2 (x4 + 2).toNatClampNeg)] = true then kxi (cl 11 [.ref x1, .int (h.2.2.1.2 (x4 + 1).toNatClampNeg), .int (h.2.2.1.2 (x4 + 2).toNatClampNeg)] h) (fun r4 h3 => (if (x4 + 1) < 0 ∨ h3.2.2.1.1 ≤ (x4 + 1).toNatClampNeg then none else (if (x4 + 2) < 0 ∨ h3.2.2.1.1 ≤ (x4 + 2).toNatClampNeg then none else (if ia_ok h3 8 [.ref x2, .int (h3.2.2.1.2 (x4 + 1).toNatClampNeg), .int (h3.2.2.1.2 (x4 + 2).toNatClampNeg)] = true then kxi (cl 116 [.ref x2, .int (h3.2.2.1.2 (x4 + 1).toNatClampNeg), .int (h3.2.2.1.2 (x4 + 2).toNatClampNeg)] h3) (fun r8 h7 => (if r4 = r8 then dn 259 1042 [some (.float x0), some (.ref x1), some (.ref x2), some (.ref x3), some (.int x4), l5, l6, l7] [] h7 else some (some (.int 0), h7))) else none)))) else none))) := by
  refine (dq rfl rfl).trans ?_
  refine (dq rfl rfl).trans ?_
  refine (dq rfl rfl).trans ?_
  refine (dq rfl rfl).trans ?_
  refine (dq rfl rfl).trans ?_
  refine (dq_sld rfl).trans (ie_c rfl ?_)
  refine (dq rfl rfl).trans ?_
  refine (dq rfl rfl).trans ?_
  refine (dq rfl rfl).trans ?_
  refine (dq rfl rfl).trans ?_
  refine (dq_sld rfl).trans (ie_c rfl ?_)
  refine (dq_kxi (z := 11) rfl (lq rfl) (lq rfl) (lq rfl) kd_11).trans (it_c (kxi_c (fun r4 h3 => ?_)))
  refine (dq rfl rfl).trans ?_
  refine (dq rfl rfl).trans ?_
  refine (dq rfl rfl).trans ?_
  refine (dq rfl rfl).trans ?_
  refine (dq rfl rfl).trans ?_
  refine (dq_sld rfl).trans (ie_c rfl ?_)
  refine (dq rfl rfl).trans ?_
  refine (dq rfl rfl).trans ?_
  refine (dq rfl rfl).trans ?_
  refine (dq rfl rfl).trans ?_
  refine (dq_sld rfl).trans (ie_c rfl ?_)
  refine (dq_kxi (z := 116) rfl (lq rfl) (lq rfl) (lq rfl) kd_116).trans (it_c (kxi_c (fun r8 h7 => ?_)))
  refine (dq_ieq rfl).trans (ie_c ?_ ?_)
  · rfl
  · refine (dq rfl rfl).trans ?_
    exact dq_ret20 rfl
set_option maxRecDepth 20000 in
theorem q_259_242 (x0 : UInt32) (x1 : Nat) (x2 : Nat) (x3 : Nat) (x4 : Int32) (l5 : Option Value) (l6 : Option Value) (l7 : Option Value) (h : ia_H) : dn 259 242 [some (.float x0), some (.ref x1), some (.ref x2), some (.ref x3), some (.int x4), l5, l6, l7] [] h = (if (x4 + 1) < 0 ∨ h.2.2.1.1 ≤ (x4 + 1).toNatClampNeg then none else (if (x4 + 2) < 0 ∨ h.2.2.1.1 ≤ (x4 + 2).toNatClampNeg then none else (if (x4 + 3) < 0 ∨ h.2.2.1.1 ≤ (x4 + 3).toNatClampNeg then none else (if ia_ok h 0 [.ref x1, .int (h.2.2.1.2 (x4 + 1).toNatClampNeg), .int (h.2.2.1.2 (x4 + 2).toNatClampNeg), .int (h.2.2.1.2 (x4 + 3).toNatClampNeg)] = true then kxi (cl 12 [.ref x1, .int (h.2.2.1.2 (x4 + 1).toNatClampNeg), .int (h.2.2.1.2 (x4 + 2).toNatClampNeg), .int (h.2.2.1.2 (x4 + 3).toNatClampNeg)] h) (fun r5 h4 => (if (x4 + 1) < 0 ∨ h4.2.2.1.1 ≤ (x4 + 1).toNatClampNeg then none else (if (x4 + 2) < 0 ∨ h4.2.2.1.1 ≤ (x4 + 2).toNatClampNeg then none else (if (x4 + 3) < 0 ∨ h4.2.2.1.1 ≤ (x4 + 3).toNatClampNeg then none else (if ia_ok h4 8 [.ref x2, .int (h4.2.2.1.2 (x4 + 1).toNatClampNeg), .int (h4.2.2.1.2 (x4 + 2).toNatClampNeg), .int (h4.2.2.1.2 (x4 + 3).toNatClampNeg)] = true then kxi (cl 117 [.ref x2, .int (h4.2.2.1.2 (x4 + 1).toNatClampNeg), .int (h4.2.2.1.2 (x4 + 2).toNatClampNeg), .int (h4.2.2.1.2 (x4 + 3).toNatClampNeg)] h4) (fun r10 h9 => (if r5 = r10 then dn 259 1042 [some (.float x0), some (.ref x1), some (.ref x2), some (.ref x3), some (.int x4), l5, l6, l7] [] h9 else some (some (.int 0), h9))) else none))))) else none)))) := by
  refine (dq rfl rfl).trans ?_
  refine (dq rfl rfl).trans ?_
  refine (dq rfl rfl).trans ?_
  refine (dq rfl rfl).trans ?_
  refine (dq rfl rfl).trans ?_
  refine (dq_sld rfl).trans (ie_c rfl ?_)
  refine (dq rfl rfl).trans ?_
  refine (dq rfl rfl).trans ?_
  refine (dq rfl rfl).trans ?_
  refine (dq rfl rfl).trans ?_
  refine (dq_sld rfl).trans (ie_c rfl ?_)
  refine (dq rfl rfl).trans ?_
  refine (dq rfl rfl).trans ?_
  refine (dq rfl rfl).trans ?_
  refine (dq rfl rfl).trans ?_
  refine (dq_sld rfl).trans (ie_c rfl ?_)
  refine (dq_kxi (z := 12) rfl (lq rfl) (lq rfl) (lq rfl) kd_12).trans (it_c (kxi_c (fun r5 h4 => ?_)))
  refine (dq rfl rfl).trans ?_
  refine (dq rfl rfl).trans ?_
  refine (dq rfl rfl).trans ?_
  refine (dq rfl rfl).trans ?_
  refine (dq rfl rfl).trans ?_
  refine (dq_sld rfl).trans (ie_c rfl ?_)
  refine (dq rfl rfl).trans ?_
  refine (dq rfl rfl).trans ?_
  refine (dq rfl rfl).trans ?_
  refine (dq rfl rfl).trans ?_
  refine (dq_sld rfl).trans (ie_c rfl ?_)
  refine (dq rfl rfl).trans ?_
  refine (dq rfl rfl).trans ?_
  refine (dq rfl rfl).trans ?_
  refine (dq rfl rfl).trans ?_
  refine (dq_sld rfl).trans (ie_c rfl ?_)
  refine (dq_kxi (z := 117) rfl (lq rfl) (lq rfl) (lq rfl) kd_117).trans (it_c (kxi_c (fun r10 h9 => ?_)))
  refine (dq_ieq rfl).trans (ie_c ?_ ?_)
  · rfl
  · refine (dq rfl rfl).trans ?_
    exact dq_ret20 rfl
set_option maxRecDepth 20000 in
theorem q_259_279 (x0 : UInt32) (x1 : Nat) (x2 : Nat) (x3 : Nat) (x4 : Int32) (l5 : Option Value) (l6 : Option Value) (l7 : Option Value) (h : ia_H) : dn 259 279 [some (.float x0), some (.ref x1), some (.ref x2), some (.ref x3), some (.int x4), l5, l6, l7] [] h = (if ia_ok h 0 [.ref x1] = true then kxi (cl 13 [.ref x1] h) (fun r2 h1 => (if ia_ok h1 8 [.ref x2] = true then kxi (cl 118 [.ref x2] h1) (fun r4 h3 => (if r2 = r4 then dn 259 1042 [some (.float x0), some (.ref x1), some (.ref x2), some (.ref x3), some (.int x4), l5, l6, l7] [] h3 else some (some (.int 0), h3))) else none)) else none) := by
  refine (dq rfl rfl).trans ?_
  refine (dq_kxi (z := 13) rfl (lq rfl) (lq rfl) (lq rfl) kd_13).trans (it_c (kxi_c (fun r2 h1 => ?_)))
  refine (dq rfl rfl).trans ?_
  refine (dq_kxi (z := 118) rfl (lq rfl) (lq rfl) (lq rfl) kd_118).trans (it_c (kxi_c (fun r4 h3 => ?_)))
  refine (dq_ieq rfl).trans (ie_c ?_ ?_)
  · rfl
  · refine (dq rfl rfl).trans ?_
    exact dq_ret20 rfl
set_option maxRecDepth 20000 in
theorem q_259_286 (x0 : UInt32) (x1 : Nat) (x2 : Nat) (x3 : Nat) (x4 : Int32) (l5 : Option Value) (l6 : Option Value) (l7 : Option Value) (h : ia_H) : dn 259 286 [some (.float x0), some (.ref x1), some (.ref x2), some (.ref x3), some (.int x4), l5, l6, l7] [] h = (if (x4 + 1) < 0 ∨ h.2.2.1.1 ≤ (x4 + 1).toNatClampNeg then none else (if ia_ok h 0 [.ref x1, .int (h.2.2.1.2 (x4 + 1).toNatClampNeg)] = true then kxi (cl 14 [.ref x1, .int (h.2.2.1.2 (x4 + 1).toNatClampNeg)] h) (fun r3 h2 => (if (x4 + 1) < 0 ∨ h2.2.2.1.1 ≤ (x4 + 1).toNatClampNeg then none else (if ia_ok h2 8 [.ref x2, .int (h2.2.2.1.2 (x4 + 1).toNatClampNeg)] = true then kxi (cl 120 [.ref x2, .int (h2.2.2.1.2 (x4 + 1).toNatClampNeg)] h2) (fun r6 h5 => (if r3 = r6 then dn 259 1042 [some (.float x0), some (.ref x1), some (.ref x2), some (.ref x3), some (.int x4), l5, l6, l7] [] h5 else some (some (.int 0), h5))) else none))) else none)) := by
  refine (dq rfl rfl).trans ?_
  refine (dq rfl rfl).trans ?_
  refine (dq rfl rfl).trans ?_
  refine (dq rfl rfl).trans ?_
  refine (dq rfl rfl).trans ?_
  refine (dq_sld rfl).trans (ie_c rfl ?_)
  refine (dq_kxi (z := 14) rfl (lq rfl) (lq rfl) (lq rfl) kd_14).trans (it_c (kxi_c (fun r3 h2 => ?_)))
  refine (dq rfl rfl).trans ?_
  refine (dq rfl rfl).trans ?_
  refine (dq rfl rfl).trans ?_
  refine (dq rfl rfl).trans ?_
  refine (dq rfl rfl).trans ?_
  refine (dq_sld rfl).trans (ie_c rfl ?_)
  refine (dq_kxi (z := 120) rfl (lq rfl) (lq rfl) (lq rfl) kd_120).trans (it_c (kxi_c (fun r6 h5 => ?_)))
  refine (dq_ieq rfl).trans (ie_c ?_ ?_)
  · rfl
  · refine (dq rfl rfl).trans ?_
    exact dq_ret20 rfl
set_option maxRecDepth 20000 in
theorem q_259_303 (x0 : UInt32) (x1 : Nat) (x2 : Nat) (x3 : Nat) (x4 : Int32) (l5 : Option Value) (l6 : Option Value) (l7 : Option Value) (h : ia_H) : dn 259 303 [some (.float x0), some (.ref x1), some (.ref x2), some (.ref x3), some (.int x4), l5, l6, l7] [] h = (if (x4 + 1) < 0 ∨ h.2.2.1.1 ≤ (x4 + 1).toNatClampNeg then none else (if (x4 + 2) < 0 ∨ h.2.2.1.1 ≤ (x4 + 2).toNatClampNeg then none else (if (h.2.2.1.2 (x4 + 2).toNatClampNeg) = 0 then dn 259 318 [some (.float x0), some (.ref x1), some (.ref x2), some (.ref x3), some (.int x4), l5, l6, l7] [.int 0, .int (h.2.2.1.2 (x4 + 1).toNatClampNeg), .ref x1] h else dn 259 318 [some (.float x0), some (.ref x1), some (.ref x2), some (.ref x3), some (.int x4), l5, l6, l7] [.int 1, .int (h.2.2.1.2 (x4 + 1).toNatClampNeg), .ref x1] h))) := by
  refine (dq rfl rfl).trans ?_
  refine (dq rfl rfl).trans ?_
  refine (dq rfl rfl).trans ?_
  refine (dq rfl rfl).trans ?_
  refine (dq rfl rfl).trans ?_
  refine (dq_sld rfl).trans (ie_c rfl ?_)
  refine (dq rfl rfl).trans ?_
  refine (dq rfl rfl).trans ?_
  refine (dq rfl rfl).trans ?_
  refine (dq rfl rfl).trans ?_
  refine (dq_sld rfl).trans (ie_c rfl ?_)
  refine (dq_ifeq rfl).trans (ie_c ?_ ?_)
  · refine (dq rfl rfl).trans ?_
    rfl
  · refine (dq rfl rfl).trans ?_
    refine (dq rfl rfl).trans ?_
    rfl
set_option maxRecDepth 20000 in
theorem q_259_318 (x0 : UInt32) (x1 : Nat) (x2 : Nat) (x3 : Nat) (x4 : Int32) (l5 : Option Value) (l6 : Option Value) (l7 : Option Value) (s0 : Nat) (s1 : Int32) (s2 : Int32) (h : ia_H) : dn 259 318 [some (.float x0), some (.ref x1), some (.ref x2), some (.ref x3), some (.int x4), l5, l6, l7] [.int s2, .int s1, .ref s0] h = (if (x4 + 3) < 0 ∨ h.2.2.1.1 ≤ (x4 + 3).toNatClampNeg then none else (if ia_ok h 0 [.ref s0, .int s1, .int s2, .int (h.2.2.1.2 (x4 + 3).toNatClampNeg)] = true then kxi (cl 15 [.ref s0, .int s1, .int s2, .int (h.2.2.1.2 (x4 + 3).toNatClampNeg)] h) (fun r3 h2 => (if (x4 + 1) < 0 ∨ h2.2.2.1.1 ≤ (x4 + 1).toNatClampNeg then none else (if (x4 + 2) < 0 ∨ h2.2.2.1.1 ≤ (x4 + 2).toNatClampNeg then none else (if (h2.2.2.1.2 (x4 + 2).toNatClampNeg) = 0 then dn 259 339 [some (.float x0), some (.ref x1), some (.ref x2), some (.ref x3), some (.int x4), l5, l6, l7] [.int 0, .int (h2.2.2.1.2 (x4 + 1).toNatClampNeg), .ref x2, .int r3] h2 else dn 259 339 [some (.float x0), some (.ref x1), some (.ref x2), some (.ref x3), some (.int x4), l5, l6, l7] [.int 1, .int (h2.2.2.1.2 (x4 + 1).toNatClampNeg), .ref x2, .int r3] h2)))) else none)) := by
  refine (dq rfl rfl).trans ?_
  refine (dq rfl rfl).trans ?_
  refine (dq rfl rfl).trans ?_
  refine (dq rfl rfl).trans ?_
  refine (dq_sld rfl).trans (ie_c rfl ?_)
  refine (dq_kxi (z := 15) rfl (lq rfl) (lq rfl) (lq rfl) kd_15).trans (it_c (kxi_c (fun r3 h2 => ?_)))
  refine (dq rfl rfl).trans ?_
  refine (dq rfl rfl).trans ?_
  refine (dq rfl rfl).trans ?_
  refine (dq rfl rfl).trans ?_
  refine (dq rfl rfl).trans ?_
  refine (dq_sld rfl).trans (ie_c rfl ?_)
  refine (dq rfl rfl).trans ?_
  refine (dq rfl rfl).trans ?_
  refine (dq rfl rfl).trans ?_
  refine (dq rfl rfl).trans ?_
  refine (dq_sld rfl).trans (ie_c rfl ?_)
  refine (dq_ifeq rfl).trans (ie_c ?_ ?_)
  · refine (dq rfl rfl).trans ?_
    rfl
  · refine (dq rfl rfl).trans ?_
    refine (dq rfl rfl).trans ?_
    rfl
set_option maxRecDepth 20000 in
theorem q_259_339 (x0 : UInt32) (x1 : Nat) (x2 : Nat) (x3 : Nat) (x4 : Int32) (l5 : Option Value) (l6 : Option Value) (l7 : Option Value) (s0 : Int32) (s1 : Nat) (s2 : Int32) (s3 : Int32) (h : ia_H) : dn 259 339 [some (.float x0), some (.ref x1), some (.ref x2), some (.ref x3), some (.int x4), l5, l6, l7] [.int s3, .int s2, .ref s1, .int s0] h = (if (x4 + 3) < 0 ∨ h.2.2.1.1 ≤ (x4 + 3).toNatClampNeg then none else (if ia_ok h 8 [.ref s1, .int s2, .int s3, .int (h.2.2.1.2 (x4 + 3).toNatClampNeg)] = true then kxi (cl 121 [.ref s1, .int s2, .int s3, .int (h.2.2.1.2 (x4 + 3).toNatClampNeg)] h) (fun r3 h2 => (if s0 = r3 then dn 259 1042 [some (.float x0), some (.ref x1), some (.ref x2), some (.ref x3), some (.int x4), l5, l6, l7] [] h2 else some (some (.int 0), h2))) else none)) := by
  refine (dq rfl rfl).trans ?_
  refine (dq rfl rfl).trans ?_
  refine (dq rfl rfl).trans ?_
  refine (dq rfl rfl).trans ?_
  refine (dq_sld rfl).trans (ie_c rfl ?_)
  refine (dq_kxi (z := 121) rfl (lq rfl) (lq rfl) (lq rfl) kd_121).trans (it_c (kxi_c (fun r3 h2 => ?_)))
  refine (dq_ieq rfl).trans (ie_c ?_ ?_)
  · rfl
  · refine (dq rfl rfl).trans ?_
    exact dq_ret20 rfl
set_option maxRecDepth 20000 in
theorem q_259_348 (x0 : UInt32) (x1 : Nat) (x2 : Nat) (x3 : Nat) (x4 : Int32) (l5 : Option Value) (l6 : Option Value) (l7 : Option Value) (h : ia_H) : dn 259 348 [some (.float x0), some (.ref x1), some (.ref x2), some (.ref x3), some (.int x4), l5, l6, l7] [] h = (if (x4 + 1) < 0 ∨ h.2.2.1.1 ≤ (x4 + 1).toNatClampNeg then none else (if (h.2.2.1.2 (x4 + 1).toNatClampNeg) = 0 then dn 259 358 [some (.float x0), some (.ref x1), some (.ref x2), some (.ref x3), some (.int x4), l5, l6, l7] [.int 0, .ref x1] h else dn 259 358 [some (.float x0), some (.ref x1), some (.ref x2), some (.ref x3), some (.int x4), l5, l6, l7] [.int 1, .ref x1] h)) := by
  refine (dq rfl rfl).trans ?_
  refine (dq rfl rfl).trans ?_
  refine (dq rfl rfl).trans ?_
  refine (dq rfl rfl).trans ?_
  refine (dq rfl rfl).trans ?_
  refine (dq_sld rfl).trans (ie_c rfl ?_)
  refine (dq_ifeq rfl).trans (ie_c ?_ ?_)
  · refine (dq rfl rfl).trans ?_
    rfl
  · refine (dq rfl rfl).trans ?_
    refine (dq rfl rfl).trans ?_
    rfl
set_option maxRecDepth 20000 in
theorem q_259_358 (x0 : UInt32) (x1 : Nat) (x2 : Nat) (x3 : Nat) (x4 : Int32) (l5 : Option Value) (l6 : Option Value) (l7 : Option Value) (s0 : Nat) (s1 : Int32) (h : ia_H) : dn 259 358 [some (.float x0), some (.ref x1), some (.ref x2), some (.ref x3), some (.int x4), l5, l6, l7] [.int s1, .ref s0] h = (if ia_ok h 0 [.ref s0, .int s1] = true then kxi (cl 16 [.ref s0, .int s1] h) (fun r2 h1 => (if (x4 + 1) < 0 ∨ h1.2.2.1.1 ≤ (x4 + 1).toNatClampNeg then none else (if (h1.2.2.1.2 (x4 + 1).toNatClampNeg) = 0 then (if ia_ok h1 8 [.ref x2, .int 0] = true then kxi (cl 119 [.ref x2, .int 0] h1) (fun r5 h4 => (if r2 = r5 then dn 259 1042 [some (.float x0), some (.ref x1), some (.ref x2), some (.ref x3), some (.int x4), l5, l6, l7] [] h4 else some (some (.int 0), h4))) else none) else (if ia_ok h1 8 [.ref x2, .int 1] = true then kxi (cl 119 [.ref x2, .int 1] h1) (fun r7 h6 => (if r2 = r7 then dn 259 1042 [some (.float x0), some (.ref x1), some (.ref x2), some (.ref x3), some (.int x4), l5, l6, l7] [] h6 else some (some (.int 0), h6))) else none)))) else none) := by
  refine (dq_kxi (z := 16) rfl (lq rfl) (lq rfl) (lq rfl) kd_16).trans (it_c (kxi_c (fun r2 h1 => ?_)))
  refine (dq rfl rfl).trans ?_
  refine (dq rfl rfl).trans ?_
  refine (dq rfl rfl).trans ?_
  refine (dq rfl rfl).trans ?_
  refine (dq rfl rfl).trans ?_
  refine (dq_sld rfl).trans (ie_c rfl ?_)
  refine (dq_ifeq rfl).trans (ie_c ?_ ?_)
  · refine (dq rfl rfl).trans ?_
    refine (dq_kxi (z := 119) rfl (lq rfl) (lq rfl) (lq rfl) kd_119).trans (it_c (kxi_c (fun r5 h4 => ?_)))
    refine (dq_ieq rfl).trans (ie_c ?_ ?_)
    · rfl
    · refine (dq rfl rfl).trans ?_
      exact dq_ret20 rfl
  · refine (dq rfl rfl).trans ?_
    refine (dq rfl rfl).trans ?_
    refine (dq_kxi (z := 119) rfl (lq rfl) (lq rfl) (lq rfl) kd_119).trans (it_c (kxi_c (fun r7 h6 => ?_)))
    refine (dq_ieq rfl).trans (ie_c ?_ ?_)
    · rfl
    · refine (dq rfl rfl).trans ?_
      exact dq_ret20 rfl
set_option maxRecDepth 20000 in
theorem q_259_373 (x0 : UInt32) (x1 : Nat) (x2 : Nat) (x3 : Nat) (x4 : Int32) (l5 : Option Value) (l6 : Option Value) (l7 : Option Value) (h : ia_H) : dn 259 373 [some (.float x0), some (.ref x1), some (.ref x2), some (.ref x3), some (.int x4), l5, l6, l7] [] h = (if (x4 + 1) < 0 ∨ h.2.2.1.1 ≤ (x4 + 1).toNatClampNeg then none else (if (x4 + 2) < 0 ∨ h.2.2.1.1 ≤ (x4 + 2).toNatClampNeg then none else (if ia_ok h 0 [.ref x1, .int (h.2.2.1.2 (x4 + 1).toNatClampNeg), .int (h.2.2.1.2 (x4 + 2).toNatClampNeg)] = true then kxi (cl 17 [.ref x1, .int (h.2.2.1.2 (x4 + 1).toNatClampNeg), .int (h.2.2.1.2 (x4 + 2).toNatClampNeg)] h) (fun r4 h3 => (if (x4 + 1) < 0 ∨ h3.2.2.1.1 ≤ (x4 + 1).toNatClampNeg then none else (if (x4 + 2) < 0 ∨ h3.2.2.1.1 ≤ (x4 + 2).toNatClampNeg then none else (if ia_ok h3 8 [.ref x2, .int (h3.2.2.1.2 (x4 + 1).toNatClampNeg), .int (h3.2.2.1.2 (x4 + 2).toNatClampNeg)] = true then kxi (cl 122 [.ref x2, .int (h3.2.2.1.2 (x4 + 1).toNatClampNeg), .int (h3.2.2.1.2 (x4 + 2).toNatClampNeg)] h3) (fun r8 h7 => (if r4 = r8 then dn 259 1042 [some (.float x0), some (.ref x1), some (.ref x2), some (.ref x3), some (.int x4), l5, l6, l7] [] h7 else some (some (.int 0), h7))) else none)))) else none))) := by
  refine (dq rfl rfl).trans ?_
  refine (dq rfl rfl).trans ?_
  refine (dq rfl rfl).trans ?_
  refine (dq rfl rfl).trans ?_
  refine (dq rfl rfl).trans ?_
  refine (dq_sld rfl).trans (ie_c rfl ?_)
  refine (dq rfl rfl).trans ?_
  refine (dq rfl rfl).trans ?_
  refine (dq rfl rfl).trans ?_
  refine (dq rfl rfl).trans ?_
  refine (dq_sld rfl).trans (ie_c rfl ?_)
  refine (dq_kxi (z := 17) rfl (lq rfl) (lq rfl) (lq rfl) kd_17).trans (it_c (kxi_c (fun r4 h3 => ?_)))
  refine (dq rfl rfl).trans ?_
  refine (dq rfl rfl).trans ?_
  refine (dq rfl rfl).trans ?_
  refine (dq rfl rfl).trans ?_
  refine (dq rfl rfl).trans ?_
  refine (dq_sld rfl).trans (ie_c rfl ?_)
  refine (dq rfl rfl).trans ?_
  refine (dq rfl rfl).trans ?_
  refine (dq rfl rfl).trans ?_
  refine (dq rfl rfl).trans ?_
  refine (dq_sld rfl).trans (ie_c rfl ?_)
  refine (dq_kxi (z := 122) rfl (lq rfl) (lq rfl) (lq rfl) kd_122).trans (it_c (kxi_c (fun r8 h7 => ?_)))
  refine (dq_ieq rfl).trans (ie_c ?_ ?_)
  · rfl
  · refine (dq rfl rfl).trans ?_
    exact dq_ret20 rfl
set_option maxRecDepth 20000 in
theorem q_259_400 (x0 : UInt32) (x1 : Nat) (x2 : Nat) (x3 : Nat) (x4 : Int32) (l5 : Option Value) (l6 : Option Value) (l7 : Option Value) (h : ia_H) : dn 259 400 [some (.float x0), some (.ref x1), some (.ref x2), some (.ref x3), some (.int x4), l5, l6, l7] [] h = (if ia_ok h 0 [.ref x1] = true then kxi (cl 18 [.ref x1] h) (fun r2 h1 => (if ia_ok h1 8 [.ref x2] = true then kxi (cl 124 [.ref x2] h1) (fun r4 h3 => (if r2 = r4 then dn 259 1042 [some (.float x0), some (.ref x1), some (.ref x2), some (.ref x3), some (.int x4), l5, l6, l7] [] h3 else some (some (.int 0), h3))) else none)) else none) := by
  refine (dq rfl rfl).trans ?_
  refine (dq_kxi (z := 18) rfl (lq rfl) (lq rfl) (lq rfl) kd_18).trans (it_c (kxi_c (fun r2 h1 => ?_)))
  refine (dq rfl rfl).trans ?_
  refine (dq_kxi (z := 124) rfl (lq rfl) (lq rfl) (lq rfl) kd_124).trans (it_c (kxi_c (fun r4 h3 => ?_)))
  refine (dq_ieq rfl).trans (ie_c ?_ ?_)
  · rfl
  · refine (dq rfl rfl).trans ?_
    exact dq_ret20 rfl
set_option maxRecDepth 20000 in
theorem q_259_407 (x0 : UInt32) (x1 : Nat) (x2 : Nat) (x3 : Nat) (x4 : Int32) (l5 : Option Value) (l6 : Option Value) (l7 : Option Value) (h : ia_H) : dn 259 407 [some (.float x0), some (.ref x1), some (.ref x2), some (.ref x3), some (.int x4), l5, l6, l7] [] h = (if (x4 + 1) < 0 ∨ h.2.2.1.1 ≤ (x4 + 1).toNatClampNeg then none else (if (x4 + 2) < 0 ∨ h.2.2.1.1 ≤ (x4 + 2).toNatClampNeg then none else (if ia_ok h 0 [.ref x1, .int (h.2.2.1.2 (x4 + 1).toNatClampNeg), .int (h.2.2.1.2 (x4 + 2).toNatClampNeg)] = true then kxi (cl 19 [.ref x1, .int (h.2.2.1.2 (x4 + 1).toNatClampNeg), .int (h.2.2.1.2 (x4 + 2).toNatClampNeg)] h) (fun r4 h3 => (if (x4 + 1) < 0 ∨ h3.2.2.1.1 ≤ (x4 + 1).toNatClampNeg then none else (if (x4 + 2) < 0 ∨ h3.2.2.1.1 ≤ (x4 + 2).toNatClampNeg then none else (if ia_ok h3 8 [.ref x2, .int (h3.2.2.1.2 (x4 + 1).toNatClampNeg), .int (h3.2.2.1.2 (x4 + 2).toNatClampNeg)] = true then kxi (cl 125 [.ref x2, .int (h3.2.2.1.2 (x4 + 1).toNatClampNeg), .int (h3.2.2.1.2 (x4 + 2).toNatClampNeg)] h3) (fun r8 h7 => (if r4 = r8 then dn 259 1042 [some (.float x0), some (.ref x1), some (.ref x2), some (.ref x3), some (.int x4), l5, l6, l7] [] h7 else some (some (.int 0), h7))) else none)))) else none))) := by
  refine (dq rfl rfl).trans ?_
  refine (dq rfl rfl).trans ?_
  refine (dq rfl rfl).trans ?_
  refine (dq rfl rfl).trans ?_
  refine (dq rfl rfl).trans ?_
  refine (dq_sld rfl).trans (ie_c rfl ?_)
  refine (dq rfl rfl).trans ?_
  refine (dq rfl rfl).trans ?_
  refine (dq rfl rfl).trans ?_
  refine (dq rfl rfl).trans ?_
  refine (dq_sld rfl).trans (ie_c rfl ?_)
  refine (dq_kxi (z := 19) rfl (lq rfl) (lq rfl) (lq rfl) kd_19).trans (it_c (kxi_c (fun r4 h3 => ?_)))
  refine (dq rfl rfl).trans ?_
  refine (dq rfl rfl).trans ?_
  refine (dq rfl rfl).trans ?_
  refine (dq rfl rfl).trans ?_
  refine (dq rfl rfl).trans ?_
  refine (dq_sld rfl).trans (ie_c rfl ?_)
  refine (dq rfl rfl).trans ?_
  refine (dq rfl rfl).trans ?_
  refine (dq rfl rfl).trans ?_
  refine (dq rfl rfl).trans ?_
  refine (dq_sld rfl).trans (ie_c rfl ?_)
  refine (dq_kxi (z := 125) rfl (lq rfl) (lq rfl) (lq rfl) kd_125).trans (it_c (kxi_c (fun r8 h7 => ?_)))
  refine (dq_ieq rfl).trans (ie_c ?_ ?_)
  · rfl
  · refine (dq rfl rfl).trans ?_
    exact dq_ret20 rfl
set_option maxRecDepth 20000 in
theorem q_259_434 (x0 : UInt32) (x1 : Nat) (x2 : Nat) (x3 : Nat) (x4 : Int32) (l5 : Option Value) (l6 : Option Value) (l7 : Option Value) (h : ia_H) : dn 259 434 [some (.float x0), some (.ref x1), some (.ref x2), some (.ref x3), some (.int x4), l5, l6, l7] [] h = (if (x4 + 1) < 0 ∨ h.2.2.1.1 ≤ (x4 + 1).toNatClampNeg then none else (if (x4 + 2) < 0 ∨ h.2.2.1.1 ≤ (x4 + 2).toNatClampNeg then none else (if ia_ok h 0 [.ref x1, .int (h.2.2.1.2 (x4 + 1).toNatClampNeg), .int (h.2.2.1.2 (x4 + 2).toNatClampNeg)] = true then kxi (cl 20 [.ref x1, .int (h.2.2.1.2 (x4 + 1).toNatClampNeg), .int (h.2.2.1.2 (x4 + 2).toNatClampNeg)] h) (fun r4 h3 => (if (x4 + 1) < 0 ∨ h3.2.2.1.1 ≤ (x4 + 1).toNatClampNeg then none else (if (x4 + 2) < 0 ∨ h3.2.2.1.1 ≤ (x4 + 2).toNatClampNeg then none else (if ia_ok h3 8 [.ref x2, .int (h3.2.2.1.2 (x4 + 1).toNatClampNeg), .int (h3.2.2.1.2 (x4 + 2).toNatClampNeg)] = true then kxi (cl 128 [.ref x2, .int (h3.2.2.1.2 (x4 + 1).toNatClampNeg), .int (h3.2.2.1.2 (x4 + 2).toNatClampNeg)] h3) (fun r8 h7 => (if r4 = r8 then dn 259 1042 [some (.float x0), some (.ref x1), some (.ref x2), some (.ref x3), some (.int x4), l5, l6, l7] [] h7 else some (some (.int 0), h7))) else none)))) else none))) := by
  refine (dq rfl rfl).trans ?_
  refine (dq rfl rfl).trans ?_
  refine (dq rfl rfl).trans ?_
  refine (dq rfl rfl).trans ?_
  refine (dq rfl rfl).trans ?_
  refine (dq_sld rfl).trans (ie_c rfl ?_)
  refine (dq rfl rfl).trans ?_
  refine (dq rfl rfl).trans ?_
  refine (dq rfl rfl).trans ?_
  refine (dq rfl rfl).trans ?_
  refine (dq_sld rfl).trans (ie_c rfl ?_)
  refine (dq_kxi (z := 20) rfl (lq rfl) (lq rfl) (lq rfl) kd_20).trans (it_c (kxi_c (fun r4 h3 => ?_)))
  refine (dq rfl rfl).trans ?_
  refine (dq rfl rfl).trans ?_
  refine (dq rfl rfl).trans ?_
  refine (dq rfl rfl).trans ?_
  refine (dq rfl rfl).trans ?_
  refine (dq_sld rfl).trans (ie_c rfl ?_)
  refine (dq rfl rfl).trans ?_
  refine (dq rfl rfl).trans ?_
  refine (dq rfl rfl).trans ?_
  refine (dq rfl rfl).trans ?_
  refine (dq_sld rfl).trans (ie_c rfl ?_)
  refine (dq_kxi (z := 128) rfl (lq rfl) (lq rfl) (lq rfl) kd_128).trans (it_c (kxi_c (fun r8 h7 => ?_)))
  refine (dq_ieq rfl).trans (ie_c ?_ ?_)
  · rfl
  · refine (dq rfl rfl).trans ?_
    exact dq_ret20 rfl
set_option maxRecDepth 20000 in
theorem q_259_461 (x0 : UInt32) (x1 : Nat) (x2 : Nat) (x3 : Nat) (x4 : Int32) (l5 : Option Value) (l6 : Option Value) (l7 : Option Value) (h : ia_H) : dn 259 461 [some (.float x0), some (.ref x1), some (.ref x2), some (.ref x3), some (.int x4), l5, l6, l7] [] h = (if (x4 + 1) < 0 ∨ h.2.2.1.1 ≤ (x4 + 1).toNatClampNeg then none else (if (x4 + 2) < 0 ∨ h.2.2.1.1 ≤ (x4 + 2).toNatClampNeg then none else (if ia_ok h 0 [.ref x1, .int (h.2.2.1.2 (x4 + 1).toNatClampNeg), .int (h.2.2.1.2 (x4 + 2).toNatClampNeg)] = true then kxi (cl 21 [.ref x1, .int (h.2.2.1.2 (x4 + 1).toNatClampNeg), .int (h.2.2.1.2 (x4 + 2).toNatClampNeg)] h) (fun r4 h3 => (if (x4 + 1) < 0 ∨ h3.2.2.1.1 ≤ (x4 + 1).toNatClampNeg then none else (if (x4 + 2) < 0 ∨ h3.2.2.1.1 ≤ (x4 + 2).toNatClampNeg then none else (if ia_ok h3 8 [.ref x2, .int (h3.2.2.1.2 (x4 + 1).toNatClampNeg), .int (h3.2.2.1.2 (x4 + 2).toNatClampNeg)] = true then kxi (cl 129 [.ref x2, .int (h3.2.2.1.2 (x4 + 1).toNatClampNeg), .int (h3.2.2.1.2 (x4 + 2).toNatClampNeg)] h3) (fun r8 h7 => (if r4 = r8 then dn 259 1042 [some (.float x0), some (.ref x1), some (.ref x2), some (.ref x3), some (.int x4), l5, l6, l7] [] h7 else some (some (.int 0), h7))) else none)))) else none))) := by
  refine (dq rfl rfl).trans ?_
  refine (dq rfl rfl).trans ?_
  refine (dq rfl rfl).trans ?_
  refine (dq rfl rfl).trans ?_
  refine (dq rfl rfl).trans ?_
  refine (dq_sld rfl).trans (ie_c rfl ?_)
  refine (dq rfl rfl).trans ?_
  refine (dq rfl rfl).trans ?_
  refine (dq rfl rfl).trans ?_
  refine (dq rfl rfl).trans ?_
  refine (dq_sld rfl).trans (ie_c rfl ?_)
  refine (dq_kxi (z := 21) rfl (lq rfl) (lq rfl) (lq rfl) kd_21).trans (it_c (kxi_c (fun r4 h3 => ?_)))
  refine (dq rfl rfl).trans ?_
  refine (dq rfl rfl).trans ?_
  refine (dq rfl rfl).trans ?_
  refine (dq rfl rfl).trans ?_
  refine (dq rfl rfl).trans ?_
  refine (dq_sld rfl).trans (ie_c rfl ?_)
  refine (dq rfl rfl).trans ?_
  refine (dq rfl rfl).trans ?_
  refine (dq rfl rfl).trans ?_
  refine (dq rfl rfl).trans ?_
  refine (dq_sld rfl).trans (ie_c rfl ?_)
  refine (dq_kxi (z := 129) rfl (lq rfl) (lq rfl) (lq rfl) kd_129).trans (it_c (kxi_c (fun r8 h7 => ?_)))
  refine (dq_ieq rfl).trans (ie_c ?_ ?_)
  · rfl
  · refine (dq rfl rfl).trans ?_
    exact dq_ret20 rfl
set_option maxRecDepth 20000 in
theorem q_259_488 (x0 : UInt32) (x1 : Nat) (x2 : Nat) (x3 : Nat) (x4 : Int32) (l5 : Option Value) (l6 : Option Value) (l7 : Option Value) (h : ia_H) : dn 259 488 [some (.float x0), some (.ref x1), some (.ref x2), some (.ref x3), some (.int x4), l5, l6, l7] [] h = (if (x4 + 1) < 0 ∨ h.2.2.1.1 ≤ (x4 + 1).toNatClampNeg then none else (if ia_ok h 0 [.ref x1, .int (h.2.2.1.2 (x4 + 1).toNatClampNeg)] = true then kxi (cl 22 [.ref x1, .int (h.2.2.1.2 (x4 + 1).toNatClampNeg)] h) (fun r3 h2 => (if (x4 + 1) < 0 ∨ h2.2.2.1.1 ≤ (x4 + 1).toNatClampNeg then none else (if ia_ok h2 8 [.ref x2, .int (h2.2.2.1.2 (x4 + 1).toNatClampNeg)] = true then kxi (cl 130 [.ref x2, .int (h2.2.2.1.2 (x4 + 1).toNatClampNeg)] h2) (fun r6 h5 => (if r3 = r6 then dn 259 1042 [some (.float x0), some (.ref x1), some (.ref x2), some (.ref x3), some (.int x4), l5, l6, l7] [] h5 else some (some (.int 0), h5))) else none))) else none)) := by
  refine (dq rfl rfl).trans ?_
  refine (dq rfl rfl).trans ?_
  refine (dq rfl rfl).trans ?_
  refine (dq rfl rfl).trans ?_
  refine (dq rfl rfl).trans ?_
  refine (dq_sld rfl).trans (ie_c rfl ?_)
  refine (dq_kxi (z := 22) rfl (lq rfl) (lq rfl) (lq rfl) kd_22).trans (it_c (kxi_c (fun r3 h2 => ?_)))
  refine (dq rfl rfl).trans ?_
  refine (dq rfl rfl).trans ?_
  refine (dq rfl rfl).trans ?_
  refine (dq rfl rfl).trans ?_
  refine (dq rfl rfl).trans ?_
  refine (dq_sld rfl).trans (ie_c rfl ?_)
  refine (dq_kxi (z := 130) rfl (lq rfl) (lq rfl) (lq rfl) kd_130).trans (it_c (kxi_c (fun r6 h5 => ?_)))
  refine (dq_ieq rfl).trans (ie_c ?_ ?_)
  · rfl
  · refine (dq rfl rfl).trans ?_
    exact dq_ret20 rfl
set_option maxRecDepth 20000 in
theorem q_259_505 (x0 : UInt32) (x1 : Nat) (x2 : Nat) (x3 : Nat) (x4 : Int32) (l5 : Option Value) (l6 : Option Value) (l7 : Option Value) (h : ia_H) : dn 259 505 [some (.float x0), some (.ref x1), some (.ref x2), some (.ref x3), some (.int x4), l5, l6, l7] [] h = (if (x4 + 1) < 0 ∨ h.2.2.1.1 ≤ (x4 + 1).toNatClampNeg then none else (if (x4 + 2) < 0 ∨ h.2.2.1.1 ≤ (x4 + 2).toNatClampNeg then none else (if (x4 + 3) < 0 ∨ h.2.2.1.1 ≤ (x4 + 3).toNatClampNeg then none else (if ia_ok h 0 [.ref x1, .int (h.2.2.1.2 (x4 + 1).toNatClampNeg), .int (h.2.2.1.2 (x4 + 2).toNatClampNeg), .int (h.2.2.1.2 (x4 + 3).toNatClampNeg)] = true then kxi (cl 23 [.ref x1, .int (h.2.2.1.2 (x4 + 1).toNatClampNeg), .int (h.2.2.1.2 (x4 + 2).toNatClampNeg), .int (h.2.2.1.2 (x4 + 3).toNatClampNeg)] h) (fun r5 h4 => (if (x4 + 1) < 0 ∨ h4.2.2.1.1 ≤ (x4 + 1).toNatClampNeg then none else (if (x4 + 2) < 0 ∨ h4.2.2.1.1 ≤ (x4 + 2).toNatClampNeg then none else (if (x4 + 3) < 0 ∨ h4.2.2.1.1 ≤ (x4 + 3).toNatClampNeg then none else (if ia_ok h4 8 [.ref x2, .int (h4.2.2.1.2 (x4 + 1).toNatClampNeg), .int (h4.2.2.1.2 (x4 + 2).toNatClampNeg), .int (h4.2.2.1.2 (x4 + 3).toNatClampNeg)] = true then kxi (cl 131 [.ref x2, .int (h4.2.2.1.2 (x4 + 1).toNatClampNeg), .int (h4.2.2.1.2 (x4 + 2).toNatClampNeg), .int (h4.2.2.1.2 (x4 + 3).toNatClampNeg)] h4) (fun r10 h9 => (if r5 = r10 then dn 259 1042 [some (.float x0), some (.ref x1), some (.ref x2), some (.ref x3), some (.int x4), l5, l6, l7] [] h9 else some (some (.int 0), h9))) else none))))) else none)))) := by
  refine (dq rfl rfl).trans ?_
  refine (dq rfl rfl).trans ?_
  refine (dq rfl rfl).trans ?_
  refine (dq rfl rfl).trans ?_
  refine (dq rfl rfl).trans ?_
  refine (dq_sld rfl).trans (ie_c rfl ?_)
  refine (dq rfl rfl).trans ?_
  refine (dq rfl rfl).trans ?_
  refine (dq rfl rfl).trans ?_
  refine (dq rfl rfl).trans ?_
  refine (dq_sld rfl).trans (ie_c rfl ?_)
  refine (dq rfl rfl).trans ?_
  refine (dq rfl rfl).trans ?_
  refine (dq rfl rfl).trans ?_
  refine (dq rfl rfl).trans ?_
  refine (dq_sld rfl).trans (ie_c rfl ?_)
  refine (dq_kxi (z := 23) rfl (lq rfl) (lq rfl) (lq rfl) kd_23).trans (it_c (kxi_c (fun r5 h4 => ?_)))
  refine (dq rfl rfl).trans ?_
  refine (dq rfl rfl).trans ?_
  refine (dq rfl rfl).trans ?_
  refine (dq rfl rfl).trans ?_
  refine (dq rfl rfl).trans ?_
  refine (dq_sld rfl).trans (ie_c rfl ?_)
  refine (dq rfl rfl).trans ?_
  refine (dq rfl rfl).trans ?_
  refine (dq rfl rfl).trans ?_
  refine (dq rfl rfl).trans ?_
  refine (dq_sld rfl).trans (ie_c rfl ?_)
  refine (dq rfl rfl).trans ?_
  refine (dq rfl rfl).trans ?_
  refine (dq rfl rfl).trans ?_
  refine (dq rfl rfl).trans ?_
  refine (dq_sld rfl).trans (ie_c rfl ?_)
  refine (dq_kxi (z := 131) rfl (lq rfl) (lq rfl) (lq rfl) kd_131).trans (it_c (kxi_c (fun r10 h9 => ?_)))
  refine (dq_ieq rfl).trans (ie_c ?_ ?_)
  · rfl
  · refine (dq rfl rfl).trans ?_
    exact dq_ret20 rfl
set_option maxRecDepth 20000 in
theorem q_259_542 (x0 : UInt32) (x1 : Nat) (x2 : Nat) (x3 : Nat) (x4 : Int32) (l5 : Option Value) (l6 : Option Value) (l7 : Option Value) (h : ia_H) : dn 259 542 [some (.float x0), some (.ref x1), some (.ref x2), some (.ref x3), some (.int x4), l5, l6, l7] [] h = (if (x4 + 1) < 0 ∨ h.2.2.1.1 ≤ (x4 + 1).toNatClampNeg then none else (if (x4 + 2) < 0 ∨ h.2.2.1.1 ≤ (x4 + 2).toNatClampNeg then none else (if ia_ok h 0 [.ref x1, .int (h.2.2.1.2 (x4 + 1).toNatClampNeg), .int (h.2.2.1.2 (x4 + 2).toNatClampNeg)] = true then kxi (cl 24 [.ref x1, .int (h.2.2.1.2 (x4 + 1).toNatClampNeg), .int (h.2.2.1.2 (x4 + 2).toNatClampNeg)] h) (fun r4 h3 => (if (x4 + 1) < 0 ∨ h3.2.2.1.1 ≤ (x4 + 1).toNatClampNeg then none else (if (x4 + 2) < 0 ∨ h3.2.2.1.1 ≤ (x4 + 2).toNatClampNeg then none else (if ia_ok h3 8 [.ref x2, .int (h3.2.2.1.2 (x4 + 1).toNatClampNeg), .int (h3.2.2.1.2 (x4 + 2).toNatClampNeg)] = true then kxi (cl 132 [.ref x2, .int (h3.2.2.1.2 (x4 + 1).toNatClampNeg), .int (h3.2.2.1.2 (x4 + 2).toNatClampNeg)] h3) (fun r8 h7 => (if r4 = r8 then dn 259 1042 [some (.float x0), some (.ref x1), some (.ref x2), some (.ref x3), some (.int x4), l5, l6, l7] [] h7 else some (some (.int 0), h7))) else none)))) else none))) := by
  refine (dq rfl rfl).trans ?_
  refine (dq rfl rfl).trans ?_
  refine (dq rfl rfl).trans ?_
  refine (dq rfl rfl).trans ?_
  refine (dq rfl rfl).trans ?_
  refine (dq_sld rfl).trans (ie_c rfl ?_)
  refine (dq rfl rfl).trans ?_
  refine (dq rfl rfl).trans ?_
  refine (dq rfl rfl).trans ?_
  refine (dq rfl rfl).trans ?_
  refine (dq_sld rfl).trans (ie_c rfl ?_)
  refine (dq_kxi (z := 24) rfl (lq rfl) (lq rfl) (lq rfl) kd_24).trans (it_c (kxi_c (fun r4 h3 => ?_)))
  refine (dq rfl rfl).trans ?_
  refine (dq rfl rfl).trans ?_
  refine (dq rfl rfl).trans ?_
  refine (dq rfl rfl).trans ?_
  refine (dq rfl rfl).trans ?_
  refine (dq_sld rfl).trans (ie_c rfl ?_)
  refine (dq rfl rfl).trans ?_
  refine (dq rfl rfl).trans ?_
  refine (dq rfl rfl).trans ?_
  refine (dq rfl rfl).trans ?_
  refine (dq_sld rfl).trans (ie_c rfl ?_)
  refine (dq_kxi (z := 132) rfl (lq rfl) (lq rfl) (lq rfl) kd_132).trans (it_c (kxi_c (fun r8 h7 => ?_)))
  refine (dq_ieq rfl).trans (ie_c ?_ ?_)
  · rfl
  · refine (dq rfl rfl).trans ?_
    exact dq_ret20 rfl
set_option maxRecDepth 20000 in
theorem q_259_569 (x0 : UInt32) (x1 : Nat) (x2 : Nat) (x3 : Nat) (x4 : Int32) (l5 : Option Value) (l6 : Option Value) (l7 : Option Value) (h : ia_H) : dn 259 569 [some (.float x0), some (.ref x1), some (.ref x2), some (.ref x3), some (.int x4), l5, l6, l7] [] h = (if (x4 + 1) < 0 ∨ h.2.2.1.1 ≤ (x4 + 1).toNatClampNeg then none else (if (x4 + 2) < 0 ∨ h.2.2.1.1 ≤ (x4 + 2).toNatClampNeg then none else (if ia_ok h 0 [.ref x1, .int (h.2.2.1.2 (x4 + 1).toNatClampNeg), .int (h.2.2.1.2 (x4 + 2).toNatClampNeg)] = true then kxi (cl 25 [.ref x1, .int (h.2.2.1.2 (x4 + 1).toNatClampNeg), .int (h.2.2.1.2 (x4 + 2).toNatClampNeg)] h) (fun r4 h3 => (if (x4 + 1) < 0 ∨ h3.2.2.1.1 ≤ (x4 + 1).toNatClampNeg then none else (if (x4 + 2) < 0 ∨ h3.2.2.1.1 ≤ (x4 + 2).toNatClampNeg then none else (if ia_ok h3 8 [.ref x2, .int (h3.2.2.1.2 (x4 + 1).toNatClampNeg), .int (h3.2.2.1.2 (x4 + 2).toNatClampNeg)] = true then kxi (cl 139 [.ref x2, .int (h3.2.2.1.2 (x4 + 1).toNatClampNeg), .int (h3.2.2.1.2 (x4 + 2).toNatClampNeg)] h3) (fun r8 h7 => (if r4 = r8 then dn 259 1042 [some (.float x0), some (.ref x1), some (.ref x2), some (.ref x3), some (.int x4), l5, l6, l7] [] h7 else some (some (.int 0), h7))) else none)))) else none))) := by
  refine (dq rfl rfl).trans ?_
  refine (dq rfl rfl).trans ?_
  refine (dq rfl rfl).trans ?_
  refine (dq rfl rfl).trans ?_
  refine (dq rfl rfl).trans ?_
  refine (dq_sld rfl).trans (ie_c rfl ?_)
  refine (dq rfl rfl).trans ?_
  refine (dq rfl rfl).trans ?_
  refine (dq rfl rfl).trans ?_
  refine (dq rfl rfl).trans ?_
  refine (dq_sld rfl).trans (ie_c rfl ?_)
  refine (dq_kxi (z := 25) rfl (lq rfl) (lq rfl) (lq rfl) kd_25).trans (it_c (kxi_c (fun r4 h3 => ?_)))
  refine (dq rfl rfl).trans ?_
  refine (dq rfl rfl).trans ?_
  refine (dq rfl rfl).trans ?_
  refine (dq rfl rfl).trans ?_
  refine (dq rfl rfl).trans ?_
  refine (dq_sld rfl).trans (ie_c rfl ?_)
  refine (dq rfl rfl).trans ?_
  refine (dq rfl rfl).trans ?_
  refine (dq rfl rfl).trans ?_
  refine (dq rfl rfl).trans ?_
  refine (dq_sld rfl).trans (ie_c rfl ?_)
  refine (dq_kxi (z := 139) rfl (lq rfl) (lq rfl) (lq rfl) kd_139).trans (it_c (kxi_c (fun r8 h7 => ?_)))
  refine (dq_ieq rfl).trans (ie_c ?_ ?_)
  · rfl
  · refine (dq rfl rfl).trans ?_
    exact dq_ret20 rfl
set_option maxRecDepth 20000 in
theorem q_259_596 (x0 : UInt32) (x1 : Nat) (x2 : Nat) (x3 : Nat) (x4 : Int32) (l5 : Option Value) (l6 : Option Value) (l7 : Option Value) (h : ia_H) : dn 259 596 [some (.float x0), some (.ref x1), some (.ref x2), some (.ref x3), some (.int x4), l5, l6, l7] [] h = (if (x4 + 1) < 0 ∨ h.2.2.1.1 ≤ (x4 + 1).toNatClampNeg then none else (if (x4 + 2) < 0 ∨ h.2.2.1.1 ≤ (x4 + 2).toNatClampNeg then none else (if ia_ok h 0 [.ref x1, .int (h.2.2.1.2 (x4 + 1).toNatClampNeg), .int (h.2.2.1.2 (x4 + 2).toNatClampNeg)] = true then kxi (cl 26 [.ref x1, .int (h.2.2.1.2 (x4 + 1).toNatClampNeg), .int (h.2.2.1.2 (x4 + 2).toNatClampNeg)] h) (fun r4 h3 => (if (x4 + 1) < 0 ∨ h3.2.2.1.1 ≤ (x4 + 1).toNatClampNeg then none else (if (x4 + 2) < 0 ∨ h3.2.2.1.1 ≤ (x4 + 2).toNatClampNeg then none else (if ia_ok h3 8 [.ref x2, .int (h3.2.2.1.2 (x4 + 1).toNatClampNeg), .int (h3.2.2.1.2 (x4 + 2).toNatClampNeg)] = true then kxi (cl 140 [.ref x2, .int (h3.2.2.1.2 (x4 + 1).toNatClampNeg), .int (h3.2.2.1.2 (x4 + 2).toNatClampNeg)] h3) (fun r8 h7 => (if r4 = r8 then dn 259 1042 [some (.float x0), some (.ref x1), some (.ref x2), some (.ref x3), some (.int x4), l5, l6, l7] [] h7 else some (some (.int 0), h7))) else none)))) else none))) := by
  refine (dq rfl rfl).trans ?_
  refine (dq rfl rfl).trans ?_
  refine (dq rfl rfl).trans ?_
  refine (dq rfl rfl).trans ?_
  refine (dq rfl rfl).trans ?_
  refine (dq_sld rfl).trans (ie_c rfl ?_)
  refine (dq rfl rfl).trans ?_
  refine (dq rfl rfl).trans ?_
  refine (dq rfl rfl).trans ?_
  refine (dq rfl rfl).trans ?_
  refine (dq_sld rfl).trans (ie_c rfl ?_)
  refine (dq_kxi (z := 26) rfl (lq rfl) (lq rfl) (lq rfl) kd_26).trans (it_c (kxi_c (fun r4 h3 => ?_)))
  refine (dq rfl rfl).trans ?_
  refine (dq rfl rfl).trans ?_
  refine (dq rfl rfl).trans ?_
  refine (dq rfl rfl).trans ?_
  refine (dq rfl rfl).trans ?_
  refine (dq_sld rfl).trans (ie_c rfl ?_)
  refine (dq rfl rfl).trans ?_
  refine (dq rfl rfl).trans ?_
  refine (dq rfl rfl).trans ?_
  refine (dq rfl rfl).trans ?_
  refine (dq_sld rfl).trans (ie_c rfl ?_)
  refine (dq_kxi (z := 140) rfl (lq rfl) (lq rfl) (lq rfl) kd_140).trans (it_c (kxi_c (fun r8 h7 => ?_)))
  refine (dq_ieq rfl).trans (ie_c ?_ ?_)
  · rfl
  · refine (dq rfl rfl).trans ?_
    exact dq_ret20 rfl
set_option maxRecDepth 20000 in
theorem q_259_623 (x0 : UInt32) (x1 : Nat) (x2 : Nat) (x3 : Nat) (x4 : Int32) (l5 : Option Value) (l6 : Option Value) (l7 : Option Value) (h : ia_H) : dn 259 623 [some (.float x0), some (.ref x1), some (.ref x2), some (.ref x3), some (.int x4), l5, l6, l7] [] h = (if (x4 + 1) < 0 ∨ h.2.2.1.1 ≤ (x4 + 1).toNatClampNeg then none else (if (x4 + 2) < 0 ∨ h.2.2.1.1 ≤ (x4 + 2).toNatClampNeg then none else (if (x4 + 3) < 0 ∨ h.2.2.1.1 ≤ (x4 + 3).toNatClampNeg then none else (if ia_ok h 0 [.ref x1, .int (h.2.2.1.2 (x4 + 1).toNatClampNeg), .int (h.2.2.1.2 (x4 + 2).toNatClampNeg), .int (h.2.2.1.2 (x4 + 3).toNatClampNeg)] = true then kxi (cl 27 [.ref x1, .int (h.2.2.1.2 (x4 + 1).toNatClampNeg), .int (h.2.2.1.2 (x4 + 2).toNatClampNeg), .int (h.2.2.1.2 (x4 + 3).toNatClampNeg)] h) (fun r5 h4 => (if (x4 + 1) < 0 ∨ h4.2.2.1.1 ≤ (x4 + 1).toNatClampNeg then none else (if (x4 + 2) < 0 ∨ h4.2.2.1.1 ≤ (x4 + 2).toNatClampNeg then none else (if (x4 + 3) < 0 ∨ h4.2.2.1.1 ≤ (x4 + 3).toNatClampNeg then none else (if ia_ok h4 8 [.ref x2, .int (h4.2.2.1.2 (x4 + 1).toNatClampNeg), .int (h4.2.2.1.2 (x4 + 2).toNatClampNeg), .int (h4.2.2.1.2 (x4 + 3).toNatClampNeg)] = true then kxi (cl 133 [.ref x2, .int (h4.2.2.1.2 (x4 + 1).toNatClampNeg), .int (h4.2.2.1.2 (x4 + 2).toNatClampNeg), .int (h4.2.2.1.2 (x4 + 3).toNatClampNeg)] h4) (fun r10 h9 => (if r5 = r10 then dn 259 1042 [some (.float x0), some (.ref x1), some (.ref x2), some (.ref x3), some (.int x4), l5, l6, l7] [] h9 else some (some (.int 0), h9))) else none))))) else none)))) := by
  refine (dq rfl rfl).trans ?_
  refine (dq rfl rfl).trans ?_
  refine (dq rfl rfl).trans ?_
  refine (dq rfl rfl).trans ?_
  refine (dq rfl rfl).trans ?_
  refine (dq_sld rfl).trans (ie_c rfl ?_)
  refine (dq rfl rfl).trans ?_
  refine (dq rfl rfl).trans ?_
  refine (dq rfl rfl).trans ?_
  refine (dq rfl rfl).trans ?_
  refine (dq_sld rfl).trans (ie_c rfl ?_)
  refine (dq rfl rfl).trans ?_
  refine (dq rfl rfl).trans ?_
  refine (dq rfl rfl).trans ?_
  refine (dq rfl rfl).trans ?_
  refine (dq_sld rfl).trans (ie_c rfl ?_)
  refine (dq_kxi (z := 27) rfl (lq rfl) (lq rfl) (lq rfl) kd_27).trans (it_c (kxi_c (fun r5 h4 => ?_)))
  refine (dq rfl rfl).trans ?_
  refine (dq rfl rfl).trans ?_
  refine (dq rfl rfl).trans ?_
  refine (dq rfl rfl).trans ?_
  refine (dq rfl rfl).trans ?_
  refine (dq_sld rfl).trans (ie_c rfl ?_)
  refine (dq rfl rfl).trans ?_
  refine (dq rfl rfl).trans ?_
  refine (dq rfl rfl).trans ?_
  refine (dq rfl rfl).trans ?_
  refine (dq_sld rfl).trans (ie_c rfl ?_)
  refine (dq rfl rfl).trans ?_
  refine (dq rfl rfl).trans ?_
  refine (dq rfl rfl).trans ?_
  refine (dq rfl rfl).trans ?_
  refine (dq_sld rfl).trans (ie_c rfl ?_)
  refine (dq_kxi (z := 133) rfl (lq rfl) (lq rfl) (lq rfl) kd_133).trans (it_c (kxi_c (fun r10 h9 => ?_)))
  refine (dq_ieq rfl).trans (ie_c ?_ ?_)
  · rfl
  · refine (dq rfl rfl).trans ?_
    exact dq_ret20 rfl
set_option maxRecDepth 20000 in
theorem q_259_660 (x0 : UInt32) (x1 : Nat) (x2 : Nat) (x3 : Nat) (x4 : Int32) (l5 : Option Value) (l6 : Option Value) (l7 : Option Value) (h : ia_H) : dn 259 660 [some (.float x0), some (.ref x1), some (.ref x2), some (.ref x3), some (.int x4), l5, l6, l7] [] h = (if (x4 + 1) < 0 ∨ h.2.2.1.1 ≤ (x4 + 1).toNatClampNeg then none else (if (x4 + 2) < 0 ∨ h.2.2.1.1 ≤ (x4 + 2).toNatClampNeg then none else (if ia_ok h 0 [.ref x1, .int (h.2.2.1.2 (x4 + 1).toNatClampNeg), .int (h.2.2.1.2 (x4 + 2).toNatClampNeg)] = true then kxi (cl 28 [.ref x1, .int (h.2.2.1.2 (x4 + 1).toNatClampNeg), .int (h.2.2.1.2 (x4 + 2).toNatClampNeg)] h) (fun r4 h3 => (if (x4 + 1) < 0 ∨ h3.2.2.1.1 ≤ (x4 + 1).toNatClampNeg then none else (if (x4 + 2) < 0 ∨ h3.2.2.1.1 ≤ (x4 + 2).toNatClampNeg then none else (if ia_ok h3 8 [.ref x2, .int (h3.2.2.1.2 (x4 + 1).toNatClampNeg), .int (h3.2.2.1.2 (x4 + 2).toNatClampNeg)] = true then kxi (cl 134 [.ref x2, .int (h3.2.2.1.2 (x4 + 1).toNatClampNeg), .int (h3.2.2.1.2 (x4 + 2).toNatClampNeg)] h3) (fun r8 h7 => (if r4 = r8 then dn 259 1042 [some (.float x0), some (.ref x1), some (.ref x2), some (.ref x3), some (.int x4), l5, l6, l7] [] h7 else some (some (.int 0), h7))) else none)))) else none))) := by
  refine (dq rfl rfl).trans ?_
  refine (dq rfl rfl).trans ?_
  refine (dq rfl rfl).trans ?_
  refine (dq rfl rfl).trans ?_
  refine (dq rfl rfl).trans ?_
  refine (dq_sld rfl).trans (ie_c rfl ?_)
  refine (dq rfl rfl).trans ?_
  refine (dq rfl rfl).trans ?_
  refine (dq rfl rfl).trans ?_
  refine (dq rfl rfl).trans ?_
  refine (dq_sld rfl).trans (ie_c rfl ?_)
  refine (dq_kxi (z := 28) rfl (lq rfl) (lq rfl) (lq rfl) kd_28).trans (it_c (kxi_c (fun r4 h3 => ?_)))
  refine (dq rfl rfl).trans ?_
  refine (dq rfl rfl).trans ?_
  refine (dq rfl rfl).trans ?_
  refine (dq rfl rfl).trans ?_
  refine (dq rfl rfl).trans ?_
  refine (dq_sld rfl).trans (ie_c rfl ?_)
  refine (dq rfl rfl).trans ?_
  refine (dq rfl rfl).trans ?_
  refine (dq rfl rfl).trans ?_
  refine (dq rfl rfl).trans ?_
  refine (dq_sld rfl).trans (ie_c rfl ?_)
  refine (dq_kxi (z := 134) rfl (lq rfl) (lq rfl) (lq rfl) kd_134).trans (it_c (kxi_c (fun r8 h7 => ?_)))
  refine (dq_ieq rfl).trans (ie_c ?_ ?_)
  · rfl
  · refine (dq rfl rfl).trans ?_
    exact dq_ret20 rfl
set_option maxRecDepth 20000 in
theorem q_259_687 (x0 : UInt32) (x1 : Nat) (x2 : Nat) (x3 : Nat) (x4 : Int32) (l5 : Option Value) (l6 : Option Value) (l7 : Option Value) (h : ia_H) : dn 259 687 [some (.float x0), some (.ref x1), some (.ref x2), some (.ref x3), some (.int x4), l5, l6, l7] [] h = (if (x4 + 1) < 0 ∨ h.2.2.1.1 ≤ (x4 + 1).toNatClampNeg then none else (if (x4 + 2) < 0 ∨ h.2.2.1.1 ≤ (x4 + 2).toNatClampNeg then none else (if ia_ok h 0 [.ref x1, .int (h.2.2.1.2 (x4 + 1).toNatClampNeg), .int (h.2.2.1.2 (x4 + 2).toNatClampNeg)] = true then kxi (cl 29 [.ref x1, .int (h.2.2.1.2 (x4 + 1).toNatClampNeg), .int (h.2.2.1.2 (x4 + 2).toNatClampNeg)] h) (fun r4 h3 => (if (x4 + 1) < 0 ∨ h3.2.2.1.1 ≤ (x4 + 1).toNatClampNeg then none else (if (x4 + 2) < 0 ∨ h3.2.2.1.1 ≤ (x4 + 2).toNatClampNeg then none else (if ia_ok h3 8 [.ref x2, .int (h3.2.2.1.2 (x4 + 1).toNatClampNeg), .int (h3.2.2.1.2 (x4 + 2).toNatClampNeg)] = true then kxi (cl 141 [.ref x2, .int (h3.2.2.1.2 (x4 + 1).toNatClampNeg), .int (h3.2.2.1.2 (x4 + 2).toNatClampNeg)] h3) (fun r8 h7 => (if r4 = r8 then dn 259 1042 [some (.float x0), some (.ref x1), some (.ref x2), some (.ref x3), some (.int x4), l5, l6, l7] [] h7 else some (some (.int 0), h7))) else none)))) else none))) := by
  refine (dq rfl rfl).trans ?_
  refine (dq rfl rfl).trans ?_
  refine (dq rfl rfl).trans ?_
  refine (dq rfl rfl).trans ?_
  refine (dq rfl rfl).trans ?_
  refine (dq_sld rfl).trans (ie_c rfl ?_)
  refine (dq rfl rfl).trans ?_
  refine (dq rfl rfl).trans ?_
  refine (dq rfl rfl).trans ?_
  refine (dq rfl rfl).trans ?_
  refine (dq_sld rfl).trans (ie_c rfl ?_)
  refine (dq_kxi (z := 29) rfl (lq rfl) (lq rfl) (lq rfl) kd_29).trans (it_c (kxi_c (fun r4 h3 => ?_)))
  refine (dq rfl rfl).trans ?_
  refine (dq rfl rfl).trans ?_
  refine (dq rfl rfl).trans ?_
  refine (dq rfl rfl).trans ?_
  refine (dq rfl rfl).trans ?_
  refine (dq_sld rfl).trans (ie_c rfl ?_)
  refine (dq rfl rfl).trans ?_
  refine (dq rfl rfl).trans ?_
  refine (dq rfl rfl).trans ?_
  refine (dq rfl rfl).trans ?_
  refine (dq_sld rfl).trans (ie_c rfl ?_)
  refine (dq_kxi (z := 141) rfl (lq rfl) (lq rfl) (lq rfl) kd_141).trans (it_c (kxi_c (fun r8 h7 => ?_)))
  refine (dq_ieq rfl).trans (ie_c ?_ ?_)
  · rfl
  · refine (dq rfl rfl).trans ?_
    exact dq_ret20 rfl
set_option maxRecDepth 20000 in
theorem q_259_714 (x0 : UInt32) (x1 : Nat) (x2 : Nat) (x3 : Nat) (x4 : Int32) (l5 : Option Value) (l6 : Option Value) (l7 : Option Value) (h : ia_H) : dn 259 714 [some (.float x0), some (.ref x1), some (.ref x2), some (.ref x3), some (.int x4), l5, l6, l7] [] h = (if (x4 + 1) < 0 ∨ h.2.2.1.1 ≤ (x4 + 1).toNatClampNeg then none else (if ia_ok h 0 [.ref x1, .int (h.2.2.1.2 (x4 + 1).toNatClampNeg)] = true then kxl (cl 30 [.ref x1, .int (h.2.2.1.2 (x4 + 1).toNatClampNeg)] h) (fun r3 h2 => (if (x4 + 1) < 0 ∨ h2.2.2.1.1 ≤ (x4 + 1).toNatClampNeg then none else (if ia_ok h2 8 [.ref x2, .int (h2.2.2.1.2 (x4 + 1).toNatClampNeg)] = true then kxl (cl 146 [.ref x2, .int (h2.2.2.1.2 (x4 + 1).toNatClampNeg)] h2) (fun r6 h5 => (if (lg_cmp r3 r6) = 0 then dn 259 1042 [some (.float x0), some (.ref x1), some (.ref x2), some (.ref x3), some (.int x4), l5, l6, l7] [] h5 else some (some (.int 0), h5))) else none))) else none)) := by
  refine (dq rfl rfl).trans ?_
  refine (dq rfl rfl).trans ?_
  refine (dq rfl rfl).trans ?_
  refine (dq rfl rfl).trans ?_
  refine (dq rfl rfl).trans ?_
  refine (dq_sld rfl).trans (ie_c rfl ?_)
  refine (dq_kxl (z := 30) rfl (lq rfl) (lq rfl) (lq rfl) kd_30).trans (it_c (kxl_c (fun r3 h2 => ?_)))
  refine (dq rfl rfl).trans ?_
  refine (dq rfl rfl).trans ?_
  refine (dq rfl rfl).trans ?_
  refine (dq rfl rfl).trans ?_
  refine (dq rfl rfl).trans ?_
  refine (dq_sld rfl).trans (ie_c rfl ?_)
  refine (dq_kxl (z := 146) rfl (lq rfl) (lq rfl) (lq rfl) kd_146).trans (it_c (kxl_c (fun r6 h5 => ?_)))
  refine (dq rfl rfl).trans ?_
  refine (dq_ifeq rfl).trans (ie_c ?_ ?_)
  · rfl
  · refine (dq rfl rfl).trans ?_
    exact dq_ret20 rfl
set_option maxRecDepth 20000 in
theorem q_259_732 (x0 : UInt32) (x1 : Nat) (x2 : Nat) (x3 : Nat) (x4 : Int32) (l5 : Option Value) (l6 : Option Value) (l7 : Option Value) (h : ia_H) : dn 259 732 [some (.float x0), some (.ref x1), some (.ref x2), some (.ref x3), some (.int x4), l5, l6, l7] [] h = (if (x4 + 1) < 0 ∨ h.2.2.1.1 ≤ (x4 + 1).toNatClampNeg then none else (if ia_ok h 0 [.ref x1, .int (h.2.2.1.2 (x4 + 1).toNatClampNeg)] = true then kxi (cl 31 [.ref x1, .int (h.2.2.1.2 (x4 + 1).toNatClampNeg)] h) (fun r3 h2 => (if (x4 + 1) < 0 ∨ h2.2.2.1.1 ≤ (x4 + 1).toNatClampNeg then none else (if ia_ok h2 8 [.ref x2, .int (h2.2.2.1.2 (x4 + 1).toNatClampNeg)] = true then kxi (cl 147 [.ref x2, .int (h2.2.2.1.2 (x4 + 1).toNatClampNeg)] h2) (fun r6 h5 => (if r3 = r6 then dn 259 1042 [some (.float x0), some (.ref x1), some (.ref x2), some (.ref x3), some (.int x4), l5, l6, l7] [] h5 else some (some (.int 0), h5))) else none))) else none)) := by
  refine (dq rfl rfl).trans ?_
  refine (dq rfl rfl).trans ?_
  refine (dq rfl rfl).trans ?_
  refine (dq rfl rfl).trans ?_
  refine (dq rfl rfl).trans ?_
  refine (dq_sld rfl).trans (ie_c rfl ?_)
  refine (dq_kxi (z := 31) rfl (lq rfl) (lq rfl) (lq rfl) kd_31).trans (it_c (kxi_c (fun r3 h2 => ?_)))
  refine (dq rfl rfl).trans ?_
  refine (dq rfl rfl).trans ?_
  refine (dq rfl rfl).trans ?_
  refine (dq rfl rfl).trans ?_
  refine (dq rfl rfl).trans ?_
  refine (dq_sld rfl).trans (ie_c rfl ?_)
  refine (dq_kxi (z := 147) rfl (lq rfl) (lq rfl) (lq rfl) kd_147).trans (it_c (kxi_c (fun r6 h5 => ?_)))
  refine (dq_ieq rfl).trans (ie_c ?_ ?_)
  · rfl
  · refine (dq rfl rfl).trans ?_
    exact dq_ret20 rfl
set_option maxRecDepth 20000 in
theorem q_259_749 (x0 : UInt32) (x1 : Nat) (x2 : Nat) (x3 : Nat) (x4 : Int32) (l5 : Option Value) (l6 : Option Value) (l7 : Option Value) (h : ia_H) : dn 259 749 [some (.float x0), some (.ref x1), some (.ref x2), some (.ref x3), some (.int x4), l5, l6, l7] [] h = (if ia_ok h 0 [.ref x1] = true then kxi (cl 32 [.ref x1] h) (fun r2 h1 => (if ia_ok h1 8 [.ref x2] = true then kxi (cl 150 [.ref x2] h1) (fun r4 h3 => (if r2 = r4 then dn 259 1042 [some (.float x0), some (.ref x1), some (.ref x2), some (.ref x3), some (.int x4), l5, l6, l7] [] h3 else some (some (.int 0), h3))) else none)) else none) := by
  refine (dq rfl rfl).trans ?_
  refine (dq_kxi (z := 32) rfl (lq rfl) (lq rfl) (lq rfl) kd_32).trans (it_c (kxi_c (fun r2 h1 => ?_)))
  refine (dq rfl rfl).trans ?_
  refine (dq_kxi (z := 150) rfl (lq rfl) (lq rfl) (lq rfl) kd_150).trans (it_c (kxi_c (fun r4 h3 => ?_)))
  refine (dq_ieq rfl).trans (ie_c ?_ ?_)
  · rfl
  · refine (dq rfl rfl).trans ?_
    exact dq_ret20 rfl
set_option maxRecDepth 20000 in
theorem q_259_756 (x0 : UInt32) (x1 : Nat) (x2 : Nat) (x3 : Nat) (x4 : Int32) (l5 : Option Value) (l6 : Option Value) (l7 : Option Value) (h : ia_H) : dn 259 756 [some (.float x0), some (.ref x1), some (.ref x2), some (.ref x3), some (.int x4), l5, l6, l7] [] h = (if (x4 + 1) < 0 ∨ h.2.2.1.1 ≤ (x4 + 1).toNatClampNeg then none else (if (x4 + 2) < 0 ∨ h.2.2.1.1 ≤ (x4 + 2).toNatClampNeg then none else (if ia_ok h 0 [.ref x1, .int (h.2.2.1.2 (x4 + 1).toNatClampNeg), .int (h.2.2.1.2 (x4 + 2).toNatClampNeg)] = true then kxi (cl 33 [.ref x1, .int (h.2.2.1.2 (x4 + 1).toNatClampNeg), .int (h.2.2.1.2 (x4 + 2).toNatClampNeg)] h) (fun r4 h3 => (if (x4 + 1) < 0 ∨ h3.2.2.1.1 ≤ (x4 + 1).toNatClampNeg then none else (if (x4 + 2) < 0 ∨ h3.2.2.1.1 ≤ (x4 + 2).toNatClampNeg then none else (if ia_ok h3 8 [.ref x2, .int (h3.2.2.1.2 (x4 + 1).toNatClampNeg), .int (h3.2.2.1.2 (x4 + 2).toNatClampNeg)] = true then kxi (cl 151 [.ref x2, .int (h3.2.2.1.2 (x4 + 1).toNatClampNeg), .int (h3.2.2.1.2 (x4 + 2).toNatClampNeg)] h3) (fun r8 h7 => (if r4 = r8 then dn 259 1042 [some (.float x0), some (.ref x1), some (.ref x2), some (.ref x3), some (.int x4), l5, l6, l7] [] h7 else some (some (.int 0), h7))) else none)))) else none))) := by
  refine (dq rfl rfl).trans ?_
  refine (dq rfl rfl).trans ?_
  refine (dq rfl rfl).trans ?_
  refine (dq rfl rfl).trans ?_
  refine (dq rfl rfl).trans ?_
  refine (dq_sld rfl).trans (ie_c rfl ?_)
  refine (dq rfl rfl).trans ?_
  refine (dq rfl rfl).trans ?_
  refine (dq rfl rfl).trans ?_
  refine (dq rfl rfl).trans ?_
  refine (dq_sld rfl).trans (ie_c rfl ?_)
  refine (dq_kxi (z := 33) rfl (lq rfl) (lq rfl) (lq rfl) kd_33).trans (it_c (kxi_c (fun r4 h3 => ?_)))
  refine (dq rfl rfl).trans ?_
  refine (dq rfl rfl).trans ?_
  refine (dq rfl rfl).trans ?_
  refine (dq rfl rfl).trans ?_
  refine (dq rfl rfl).trans ?_
  refine (dq_sld rfl).trans (ie_c rfl ?_)
  refine (dq rfl rfl).trans ?_
  refine (dq rfl rfl).trans ?_
  refine (dq rfl rfl).trans ?_
  refine (dq rfl rfl).trans ?_
  refine (dq_sld rfl).trans (ie_c rfl ?_)
  refine (dq_kxi (z := 151) rfl (lq rfl) (lq rfl) (lq rfl) kd_151).trans (it_c (kxi_c (fun r8 h7 => ?_)))
  refine (dq_ieq rfl).trans (ie_c ?_ ?_)
  · rfl
  · refine (dq rfl rfl).trans ?_
    exact dq_ret20 rfl
set_option maxRecDepth 20000 in
theorem q_259_783 (x0 : UInt32) (x1 : Nat) (x2 : Nat) (x3 : Nat) (x4 : Int32) (l5 : Option Value) (l6 : Option Value) (l7 : Option Value) (h : ia_H) : dn 259 783 [some (.float x0), some (.ref x1), some (.ref x2), some (.ref x3), some (.int x4), l5, l6, l7] [] h = (if (x4 + 1) < 0 ∨ h.2.2.1.1 ≤ (x4 + 1).toNatClampNeg then none else (if ia_ok h 0 [.ref x1, .int (h.2.2.1.2 (x4 + 1).toNatClampNeg)] = true then kxi (cl 34 [.ref x1, .int (h.2.2.1.2 (x4 + 1).toNatClampNeg)] h) (fun r3 h2 => (if (x4 + 1) < 0 ∨ h2.2.2.1.1 ≤ (x4 + 1).toNatClampNeg then none else (if ia_ok h2 8 [.ref x2, .int (h2.2.2.1.2 (x4 + 1).toNatClampNeg)] = true then kxi (cl 152 [.ref x2, .int (h2.2.2.1.2 (x4 + 1).toNatClampNeg)] h2) (fun r6 h5 => (if r3 = r6 then dn 259 1042 [some (.float x0), some (.ref x1), some (.ref x2), some (.ref x3), some (.int x4), l5, l6, l7] [] h5 else some (some (.int 0), h5))) else none))) else none)) := by
  refine (dq rfl rfl).trans ?_
  refine (dq rfl rfl).trans ?_
  refine (dq rfl rfl).trans ?_
  refine (dq rfl rfl).trans ?_
  refine (dq rfl rfl).trans ?_
  refine (dq_sld rfl).trans (ie_c rfl ?_)
  refine (dq_kxi (z := 34) rfl (lq rfl) (lq rfl) (lq rfl) kd_34).trans (it_c (kxi_c (fun r3 h2 => ?_)))
  refine (dq rfl rfl).trans ?_
  refine (dq rfl rfl).trans ?_
  refine (dq rfl rfl).trans ?_
  refine (dq rfl rfl).trans ?_
  refine (dq rfl rfl).trans ?_
  refine (dq_sld rfl).trans (ie_c rfl ?_)
  refine (dq_kxi (z := 152) rfl (lq rfl) (lq rfl) (lq rfl) kd_152).trans (it_c (kxi_c (fun r6 h5 => ?_)))
  refine (dq_ieq rfl).trans (ie_c ?_ ?_)
  · rfl
  · refine (dq rfl rfl).trans ?_
    exact dq_ret20 rfl
set_option maxRecDepth 20000 in
theorem q_259_800 (x0 : UInt32) (x1 : Nat) (x2 : Nat) (x3 : Nat) (x4 : Int32) (l5 : Option Value) (l6 : Option Value) (l7 : Option Value) (h : ia_H) : dn 259 800 [some (.float x0), some (.ref x1), some (.ref x2), some (.ref x3), some (.int x4), l5, l6, l7] [] h = (if (x4 + 1) < 0 ∨ h.2.2.1.1 ≤ (x4 + 1).toNatClampNeg then none else (if (x4 + 2) < 0 ∨ h.2.2.1.1 ≤ (x4 + 2).toNatClampNeg then none else (if ia_ok h 0 [.ref x1, .int (h.2.2.1.2 (x4 + 1).toNatClampNeg), .int (h.2.2.1.2 (x4 + 2).toNatClampNeg)] = true then kxi (cl 35 [.ref x1, .int (h.2.2.1.2 (x4 + 1).toNatClampNeg), .int (h.2.2.1.2 (x4 + 2).toNatClampNeg)] h) (fun r4 h3 => (if (x4 + 1) < 0 ∨ h3.2.2.1.1 ≤ (x4 + 1).toNatClampNeg then none else (if (x4 + 2) < 0 ∨ h3.2.2.1.1 ≤ (x4 + 2).toNatClampNeg then none else (if ia_ok h3 8 [.ref x2, .int (h3.2.2.1.2 (x4 + 1).toNatClampNeg), .int (h3.2.2.1.2 (x4 + 2).toNatClampNeg)] = true then kxi (cl 153 [.ref x2, .int (h3.2.2.1.2 (x4 + 1).toNatClampNeg), .int (h3.2.2.1.2 (x4 + 2).toNatClampNeg)] h3) (fun r8 h7 => (if r4 = r8 then dn 259 1042 [some (.float x0), some (.ref x1), some (.ref x2), some (.ref x3), some (.int x4), l5, l6, l7] [] h7 else some (some (.int 0), h7))) else none)))) else none))) := by
  refine (dq rfl rfl).trans ?_
  refine (dq rfl rfl).trans ?_
  refine (dq rfl rfl).trans ?_
  refine (dq rfl rfl).trans ?_
  refine (dq rfl rfl).trans ?_
  refine (dq_sld rfl).trans (ie_c rfl ?_)
  refine (dq rfl rfl).trans ?_
  refine (dq rfl rfl).trans ?_
  refine (dq rfl rfl).trans ?_
  refine (dq rfl rfl).trans ?_
  refine (dq_sld rfl).trans (ie_c rfl ?_)
  refine (dq_kxi (z := 35) rfl (lq rfl) (lq rfl) (lq rfl) kd_35).trans (it_c (kxi_c (fun r4 h3 => ?_)))
  refine (dq rfl rfl).trans ?_
  refine (dq rfl rfl).trans ?_
  refine (dq rfl rfl).trans ?_
  refine (dq rfl rfl).trans ?_
  refine (dq rfl rfl).trans ?_
  refine (dq_sld rfl).trans (ie_c rfl ?_)
  refine (dq rfl rfl).trans ?_
  refine (dq rfl rfl).trans ?_
  refine (dq rfl rfl).trans ?_
  refine (dq rfl rfl).trans ?_
  refine (dq_sld rfl).trans (ie_c rfl ?_)
  refine (dq_kxi (z := 153) rfl (lq rfl) (lq rfl) (lq rfl) kd_153).trans (it_c (kxi_c (fun r8 h7 => ?_)))
  refine (dq_ieq rfl).trans (ie_c ?_ ?_)
  · rfl
  · refine (dq rfl rfl).trans ?_
    exact dq_ret20 rfl
set_option maxRecDepth 20000 in
theorem q_259_827 (x0 : UInt32) (x1 : Nat) (x2 : Nat) (x3 : Nat) (x4 : Int32) (l5 : Option Value) (l6 : Option Value) (l7 : Option Value) (h : ia_H) : dn 259 827 [some (.float x0), some (.ref x1), some (.ref x2), some (.ref x3), some (.int x4), l5, l6, l7] [] h = (if (x4 + 1) < 0 ∨ h.2.2.1.1 ≤ (x4 + 1).toNatClampNeg then none else (if ia_ok h 0 [.ref x1, .int (h.2.2.1.2 (x4 + 1).toNatClampNeg)] = true then kxi (cl 36 [.ref x1, .int (h.2.2.1.2 (x4 + 1).toNatClampNeg)] h) (fun r3 h2 => (if (x4 + 1) < 0 ∨ h2.2.2.1.1 ≤ (x4 + 1).toNatClampNeg then none else (if ia_ok h2 8 [.ref x2, .int (h2.2.2.1.2 (x4 + 1).toNatClampNeg)] = true then kxi (cl 154 [.ref x2, .int (h2.2.2.1.2 (x4 + 1).toNatClampNeg)] h2) (fun r6 h5 => (if r3 = r6 then dn 259 1042 [some (.float x0), some (.ref x1), some (.ref x2), some (.ref x3), some (.int x4), l5, l6, l7] [] h5 else some (some (.int 0), h5))) else none))) else none)) := by
  refine (dq rfl rfl).trans ?_
  refine (dq rfl rfl).trans ?_
  refine (dq rfl rfl).trans ?_
  refine (dq rfl rfl).trans ?_
  refine (dq rfl rfl).trans ?_
  refine (dq_sld rfl).trans (ie_c rfl ?_)
  refine (dq_kxi (z := 36) rfl (lq rfl) (lq rfl) (lq rfl) kd_36).trans (it_c (kxi_c (fun r3 h2 => ?_)))
  refine (dq rfl rfl).trans ?_
  refine (dq rfl rfl).trans ?_
  refine (dq rfl rfl).trans ?_
  refine (dq rfl rfl).trans ?_
  refine (dq rfl rfl).trans ?_
  refine (dq_sld rfl).trans (ie_c rfl ?_)
  refine (dq_kxi (z := 154) rfl (lq rfl) (lq rfl) (lq rfl) kd_154).trans (it_c (kxi_c (fun r6 h5 => ?_)))
  refine (dq_ieq rfl).trans (ie_c ?_ ?_)
  · rfl
  · refine (dq rfl rfl).trans ?_
    exact dq_ret20 rfl
set_option maxRecDepth 20000 in
theorem q_259_844 (x0 : UInt32) (x1 : Nat) (x2 : Nat) (x3 : Nat) (x4 : Int32) (l5 : Option Value) (l6 : Option Value) (l7 : Option Value) (h : ia_H) : dn 259 844 [some (.float x0), some (.ref x1), some (.ref x2), some (.ref x3), some (.int x4), l5, l6, l7] [] h = (if ia_ok h 0 [.ref x1] = true then kxi (cl 37 [.ref x1] h) (fun r2 h1 => (if ia_ok h1 8 [.ref x2] = true then kxi (cl 155 [.ref x2] h1) (fun r4 h3 => (if r2 = r4 then dn 259 1042 [some (.float x0), some (.ref x1), some (.ref x2), some (.ref x3), some (.int x4), l5, l6, l7] [] h3 else some (some (.int 0), h3))) else none)) else none) := by
  refine (dq rfl rfl).trans ?_
  refine (dq_kxi (z := 37) rfl (lq rfl) (lq rfl) (lq rfl) kd_37).trans (it_c (kxi_c (fun r2 h1 => ?_)))
  refine (dq rfl rfl).trans ?_
  refine (dq_kxi (z := 155) rfl (lq rfl) (lq rfl) (lq rfl) kd_155).trans (it_c (kxi_c (fun r4 h3 => ?_)))
  refine (dq_ieq rfl).trans (ie_c ?_ ?_)
  · rfl
  · refine (dq rfl rfl).trans ?_
    exact dq_ret20 rfl
set_option maxRecDepth 20000 in
theorem q_259_851 (x0 : UInt32) (x1 : Nat) (x2 : Nat) (x3 : Nat) (x4 : Int32) (l5 : Option Value) (l6 : Option Value) (l7 : Option Value) (h : ia_H) : dn 259 851 [some (.float x0), some (.ref x1), some (.ref x2), some (.ref x3), some (.int x4), l5, l6, l7] [] h = (if (x4 + 1) < 0 ∨ h.2.2.1.1 ≤ (x4 + 1).toNatClampNeg then none else (if ia_ok h 0 [.ref x1, .int (h.2.2.1.2 (x4 + 1).toNatClampNeg)] = true then kxi (cl 38 [.ref x1, .int (h.2.2.1.2 (x4 + 1).toNatClampNeg)] h) (fun r3 h2 => (if (x4 + 1) < 0 ∨ h2.2.2.1.1 ≤ (x4 + 1).toNatClampNeg then none else (if ia_ok h2 8 [.ref x2, .int (h2.2.2.1.2 (x4 + 1).toNatClampNeg)] = true then kxi (cl 156 [.ref x2, .int (h2.2.2.1.2 (x4 + 1).toNatClampNeg)] h2) (fun r6 h5 => (if r3 = r6 then dn 259 1042 [some (.float x0), some (.ref x1), some (.ref x2), some (.ref x3), some (.int x4), l5, l6, l7] [] h5 else some (some (.int 0), h5))) else none))) else none)) := by
  refine (dq rfl rfl).trans ?_
  refine (dq rfl rfl).trans ?_
  refine (dq rfl rfl).trans ?_
  refine (dq rfl rfl).trans ?_
  refine (dq rfl rfl).trans ?_
  refine (dq_sld rfl).trans (ie_c rfl ?_)
  refine (dq_kxi (z := 38) rfl (lq rfl) (lq rfl) (lq rfl) kd_38).trans (it_c (kxi_c (fun r3 h2 => ?_)))
  refine (dq rfl rfl).trans ?_
  refine (dq rfl rfl).trans ?_
  refine (dq rfl rfl).trans ?_
  refine (dq rfl rfl).trans ?_
  refine (dq rfl rfl).trans ?_
  refine (dq_sld rfl).trans (ie_c rfl ?_)
  refine (dq_kxi (z := 156) rfl (lq rfl) (lq rfl) (lq rfl) kd_156).trans (it_c (kxi_c (fun r6 h5 => ?_)))
  refine (dq_ieq rfl).trans (ie_c ?_ ?_)
  · rfl
  · refine (dq rfl rfl).trans ?_
    exact dq_ret20 rfl
set_option maxRecDepth 20000 in
theorem q_259_868 (x0 : UInt32) (x1 : Nat) (x2 : Nat) (x3 : Nat) (x4 : Int32) (l5 : Option Value) (l6 : Option Value) (l7 : Option Value) (h : ia_H) : dn 259 868 [some (.float x0), some (.ref x1), some (.ref x2), some (.ref x3), some (.int x4), l5, l6, l7] [] h = (if (x4 + 1) < 0 ∨ h.2.2.1.1 ≤ (x4 + 1).toNatClampNeg then none else (if ia_ok h 0 [.ref x1, .int (h.2.2.1.2 (x4 + 1).toNatClampNeg)] = true then kxi (cl 39 [.ref x1, .int (h.2.2.1.2 (x4 + 1).toNatClampNeg)] h) (fun r3 h2 => (if (x4 + 1) < 0 ∨ h2.2.2.1.1 ≤ (x4 + 1).toNatClampNeg then none else (if ia_ok h2 8 [.ref x2, .int (h2.2.2.1.2 (x4 + 1).toNatClampNeg)] = true then kxi (cl 157 [.ref x2, .int (h2.2.2.1.2 (x4 + 1).toNatClampNeg)] h2) (fun r6 h5 => (if r3 = r6 then dn 259 1042 [some (.float x0), some (.ref x1), some (.ref x2), some (.ref x3), some (.int x4), l5, l6, l7] [] h5 else some (some (.int 0), h5))) else none))) else none)) := by
  refine (dq rfl rfl).trans ?_
  refine (dq rfl rfl).trans ?_
  refine (dq rfl rfl).trans ?_
  refine (dq rfl rfl).trans ?_
  refine (dq rfl rfl).trans ?_
  refine (dq_sld rfl).trans (ie_c rfl ?_)
  refine (dq_kxi (z := 39) rfl (lq rfl) (lq rfl) (lq rfl) kd_39).trans (it_c (kxi_c (fun r3 h2 => ?_)))
  refine (dq rfl rfl).trans ?_
  refine (dq rfl rfl).trans ?_
  refine (dq rfl rfl).trans ?_
  refine (dq rfl rfl).trans ?_
  refine (dq rfl rfl).trans ?_
  refine (dq_sld rfl).trans (ie_c rfl ?_)
  refine (dq_kxi (z := 157) rfl (lq rfl) (lq rfl) (lq rfl) kd_157).trans (it_c (kxi_c (fun r6 h5 => ?_)))
  refine (dq_ieq rfl).trans (ie_c ?_ ?_)
  · rfl
  · refine (dq rfl rfl).trans ?_
    exact dq_ret20 rfl
set_option maxRecDepth 20000 in
theorem q_259_885 (x0 : UInt32) (x1 : Nat) (x2 : Nat) (x3 : Nat) (x4 : Int32) (l5 : Option Value) (l6 : Option Value) (l7 : Option Value) (h : ia_H) : dn 259 885 [some (.float x0), some (.ref x1), some (.ref x2), some (.ref x3), some (.int x4), l5, l6, l7] [] h = (if (x4 + 1) < 0 ∨ h.2.2.1.1 ≤ (x4 + 1).toNatClampNeg then none else (if ia_ok h 0 [.ref x1, .int (h.2.2.1.2 (x4 + 1).toNatClampNeg)] = true then kxi (cl 40 [.ref x1, .int (h.2.2.1.2 (x4 + 1).toNatClampNeg)] h) (fun r3 h2 => (if (x4 + 1) < 0 ∨ h2.2.2.1.1 ≤ (x4 + 1).toNatClampNeg then none else (if ia_ok h2 8 [.ref x2, .int (h2.2.2.1.2 (x4 + 1).toNatClampNeg)] = true then kxi (cl 159 [.ref x2, .int (h2.2.2.1.2 (x4 + 1).toNatClampNeg)] h2) (fun r6 h5 => (if r3 = r6 then dn 259 1042 [some (.float x0), some (.ref x1), some (.ref x2), some (.ref x3), some (.int x4), l5, l6, l7] [] h5 else some (some (.int 0), h5))) else none))) else none)) := by
  refine (dq rfl rfl).trans ?_
  refine (dq rfl rfl).trans ?_
  refine (dq rfl rfl).trans ?_
  refine (dq rfl rfl).trans ?_
  refine (dq rfl rfl).trans ?_
  refine (dq_sld rfl).trans (ie_c rfl ?_)
  refine (dq_kxi (z := 40) rfl (lq rfl) (lq rfl) (lq rfl) kd_40).trans (it_c (kxi_c (fun r3 h2 => ?_)))
  refine (dq rfl rfl).trans ?_
  refine (dq rfl rfl).trans ?_
  refine (dq rfl rfl).trans ?_
  refine (dq rfl rfl).trans ?_
  refine (dq rfl rfl).trans ?_
  refine (dq_sld rfl).trans (ie_c rfl ?_)
  refine (dq_kxi (z := 159) rfl (lq rfl) (lq rfl) (lq rfl) kd_159).trans (it_c (kxi_c (fun r6 h5 => ?_)))
  refine (dq_ieq rfl).trans (ie_c ?_ ?_)
  · rfl
  · refine (dq rfl rfl).trans ?_
    exact dq_ret20 rfl
set_option maxRecDepth 20000 in
theorem q_259_902 (x0 : UInt32) (x1 : Nat) (x2 : Nat) (x3 : Nat) (x4 : Int32) (l5 : Option Value) (l6 : Option Value) (l7 : Option Value) (h : ia_H) : dn 259 902 [some (.float x0), some (.ref x1), some (.ref x2), some (.ref x3), some (.int x4), l5, l6, l7] [] h = (if ia_ok h 0 [.ref x1] = true then kxi (cl 41 [.ref x1] h) (fun r2 h1 => (if ia_ok h1 8 [.ref x2] = true then kxi (cl 160 [.ref x2] h1) (fun r4 h3 => (if r2 = r4 then dn 259 1042 [some (.float x0), some (.ref x1), some (.ref x2), some (.ref x3), some (.int x4), l5, l6, l7] [] h3 else some (some (.int 0), h3))) else none)) else none) := by
  refine (dq rfl rfl).trans ?_
  refine (dq_kxi (z := 41) rfl (lq rfl) (lq rfl) (lq rfl) kd_41).trans (it_c (kxi_c (fun r2 h1 => ?_)))
  refine (dq rfl rfl).trans ?_
  refine (dq_kxi (z := 160) rfl (lq rfl) (lq rfl) (lq rfl) kd_160).trans (it_c (kxi_c (fun r4 h3 => ?_)))
  refine (dq_ieq rfl).trans (ie_c ?_ ?_)
  · rfl
  · refine (dq rfl rfl).trans ?_
    exact dq_ret20 rfl
set_option maxRecDepth 20000 in
theorem q_259_909 (x0 : UInt32) (x1 : Nat) (x2 : Nat) (x3 : Nat) (x4 : Int32) (l5 : Option Value) (l6 : Option Value) (l7 : Option Value) (h : ia_H) : dn 259 909 [some (.float x0), some (.ref x1), some (.ref x2), some (.ref x3), some (.int x4), l5, l6, l7] [] h = (if (x4 + 1) < 0 ∨ h.2.2.1.1 ≤ (x4 + 1).toNatClampNeg then none else (if ia_ok h 0 [.ref x1, .int (h.2.2.1.2 (x4 + 1).toNatClampNeg)] = true then kxi (cl 42 [.ref x1, .int (h.2.2.1.2 (x4 + 1).toNatClampNeg)] h) (fun r3 h2 => (if (x4 + 1) < 0 ∨ h2.2.2.1.1 ≤ (x4 + 1).toNatClampNeg then none else (if ia_ok h2 8 [.ref x2, .int (h2.2.2.1.2 (x4 + 1).toNatClampNeg)] = true then kxi (cl 161 [.ref x2, .int (h2.2.2.1.2 (x4 + 1).toNatClampNeg)] h2) (fun r6 h5 => (if r3 = r6 then dn 259 1042 [some (.float x0), some (.ref x1), some (.ref x2), some (.ref x3), some (.int x4), l5, l6, l7] [] h5 else some (some (.int 0), h5))) else none))) else none)) := by
  refine (dq rfl rfl).trans ?_
  refine (dq rfl rfl).trans ?_
  refine (dq rfl rfl).trans ?_
  refine (dq rfl rfl).trans ?_
  refine (dq rfl rfl).trans ?_
  refine (dq_sld rfl).trans (ie_c rfl ?_)
  refine (dq_kxi (z := 42) rfl (lq rfl) (lq rfl) (lq rfl) kd_42).trans (it_c (kxi_c (fun r3 h2 => ?_)))
  refine (dq rfl rfl).trans ?_
  refine (dq rfl rfl).trans ?_
  refine (dq rfl rfl).trans ?_
  refine (dq rfl rfl).trans ?_
  refine (dq rfl rfl).trans ?_
  refine (dq_sld rfl).trans (ie_c rfl ?_)
  refine (dq_kxi (z := 161) rfl (lq rfl) (lq rfl) (lq rfl) kd_161).trans (it_c (kxi_c (fun r6 h5 => ?_)))
  refine (dq_ieq rfl).trans (ie_c ?_ ?_)
  · rfl
  · refine (dq rfl rfl).trans ?_
    exact dq_ret20 rfl
set_option maxRecDepth 20000 in
theorem q_259_926 (x0 : UInt32) (x1 : Nat) (x2 : Nat) (x3 : Nat) (x4 : Int32) (l5 : Option Value) (l6 : Option Value) (l7 : Option Value) (h : ia_H) : dn 259 926 [some (.float x0), some (.ref x1), some (.ref x2), some (.ref x3), some (.int x4), l5, l6, l7] [] h = (if ia_ok h 0 [.ref x1] = true then kxi (cl 43 [.ref x1] h) (fun r2 h1 => (if ia_ok h1 8 [.ref x2] = true then kxi (cl 162 [.ref x2] h1) (fun r4 h3 => (if r2 = r4 then dn 259 1042 [some (.float x0), some (.ref x1), some (.ref x2), some (.ref x3), some (.int x4), l5, l6, l7] [] h3 else some (some (.int 0), h3))) else none)) else none) := by
  refine (dq rfl rfl).trans ?_
  refine (dq_kxi (z := 43) rfl (lq rfl) (lq rfl) (lq rfl) kd_43).trans (it_c (kxi_c (fun r2 h1 => ?_)))
  refine (dq rfl rfl).trans ?_
  refine (dq_kxi (z := 162) rfl (lq rfl) (lq rfl) (lq rfl) kd_162).trans (it_c (kxi_c (fun r4 h3 => ?_)))
  refine (dq_ieq rfl).trans (ie_c ?_ ?_)
  · rfl
  · refine (dq rfl rfl).trans ?_
    exact dq_ret20 rfl
set_option maxRecDepth 20000 in
theorem q_259_933 (x0 : UInt32) (x1 : Nat) (x2 : Nat) (x3 : Nat) (x4 : Int32) (l5 : Option Value) (l6 : Option Value) (l7 : Option Value) (h : ia_H) : dn 259 933 [some (.float x0), some (.ref x1), some (.ref x2), some (.ref x3), some (.int x4), l5, l6, l7] [] h = (if ia_ok h 0 [.ref x1] = true then kxi (cl 44 [.ref x1] h) (fun r2 h1 => (if ia_ok h1 8 [.ref x2] = true then kxi (cl 163 [.ref x2] h1) (fun r4 h3 => (if r2 = r4 then dn 259 1042 [some (.float x0), some (.ref x1), some (.ref x2), some (.ref x3), some (.int x4), l5, l6, l7] [] h3 else some (some (.int 0), h3))) else none)) else none) := by
  refine (dq rfl rfl).trans ?_
  refine (dq_kxi (z := 44) rfl (lq rfl) (lq rfl) (lq rfl) kd_44).trans (it_c (kxi_c (fun r2 h1 => ?_)))
  refine (dq rfl rfl).trans ?_
  refine (dq_kxi (z := 163) rfl (lq rfl) (lq rfl) (lq rfl) kd_163).trans (it_c (kxi_c (fun r4 h3 => ?_)))
  refine (dq_ieq rfl).trans (ie_c ?_ ?_)
  · rfl
  · refine (dq rfl rfl).trans ?_
    exact dq_ret20 rfl
set_option maxRecDepth 20000 in
theorem q_259_940 (x0 : UInt32) (x1 : Nat) (x2 : Nat) (x3 : Nat) (x4 : Int32) (l5 : Option Value) (l6 : Option Value) (l7 : Option Value) (h : ia_H) : dn 259 940 [some (.float x0), some (.ref x1), some (.ref x2), some (.ref x3), some (.int x4), l5, l6, l7] [] h = (if (x4 + 1) < 0 ∨ h.2.2.1.1 ≤ (x4 + 1).toNatClampNeg then none else (if (x4 + 2) < 0 ∨ h.2.2.1.1 ≤ (x4 + 2).toNatClampNeg then none else (if ia_ok h 0 [.ref x1, .int (h.2.2.1.2 (x4 + 1).toNatClampNeg), .int (h.2.2.1.2 (x4 + 2).toNatClampNeg)] = true then kxi (cl 45 [.ref x1, .int (h.2.2.1.2 (x4 + 1).toNatClampNeg), .int (h.2.2.1.2 (x4 + 2).toNatClampNeg)] h) (fun r4 h3 => (if (x4 + 1) < 0 ∨ h3.2.2.1.1 ≤ (x4 + 1).toNatClampNeg then none else (if (x4 + 2) < 0 ∨ h3.2.2.1.1 ≤ (x4 + 2).toNatClampNeg then none else (if ia_ok h3 8 [.ref x2, .int (h3.2.2.1.2 (x4 + 1).toNatClampNeg), .int (h3.2.2.1.2 (x4 + 2).toNatClampNeg)] = true then kxi (cl 166 [.ref x2, .int (h3.2.2.1.2 (x4 + 1).toNatClampNeg), .int (h3.2.2.1.2 (x4 + 2).toNatClampNeg)] h3) (fun r8 h7 => (if r4 = r8 then dn 259 1042 [some (.float x0), some (.ref x1), some (.ref x2), some (.ref x3), some (.int x4), l5, l6, l7] [] h7 else some (some (.int 0), h7))) else none)))) else none))) := by
  refine (dq rfl rfl).trans ?_
  refine (dq rfl rfl).trans ?_
  refine (dq rfl rfl).trans ?_
  refine (dq rfl rfl).trans ?_
  refine (dq rfl rfl).trans ?_
  refine (dq_sld rfl).trans (ie_c rfl ?_)
  refine (dq rfl rfl).trans ?_
  refine (dq rfl rfl).trans ?_
  refine (dq rfl rfl).trans ?_
  refine (dq rfl rfl).trans ?_
  refine (dq_sld rfl).trans (ie_c rfl ?_)
  refine (dq_kxi (z := 45) rfl (lq rfl) (lq rfl) (lq rfl) kd_45).trans (it_c (kxi_c (fun r4 h3 => ?_)))
  refine (dq rfl rfl).trans ?_
  refine (dq rfl rfl).trans ?_
  refine (dq rfl rfl).trans ?_
  refine (dq rfl rfl).trans ?_
  refine (dq rfl rfl).trans ?_
  refine (dq_sld rfl).trans (ie_c rfl ?_)
  refine (dq rfl rfl).trans ?_
  refine (dq rfl rfl).trans ?_
  refine (dq rfl rfl).trans ?_
  refine (dq rfl rfl).trans ?_
  refine (dq_sld rfl).trans (ie_c rfl ?_)
  refine (dq_kxi (z := 166) rfl (lq rfl) (lq rfl) (lq rfl) kd_166).trans (it_c (kxi_c (fun r8 h7 => ?_)))
  refine (dq_ieq rfl).trans (ie_c ?_ ?_)
  · rfl
  · refine (dq rfl rfl).trans ?_
    exact dq_ret20 rfl
set_option maxRecDepth 20000 in
theorem q_259_967 (x0 : UInt32) (x1 : Nat) (x2 : Nat) (x3 : Nat) (x4 : Int32) (l5 : Option Value) (l6 : Option Value) (l7 : Option Value) (h : ia_H) : dn 259 967 [some (.float x0), some (.ref x1), some (.ref x2), some (.ref x3), some (.int x4), l5, l6, l7] [] h = (if (x4 + 1) < 0 ∨ h.2.2.1.1 ≤ (x4 + 1).toNatClampNeg then none else (if ia_ok h 0 [.ref x1, .int (h.2.2.1.2 (x4 + 1).toNatClampNeg)] = true then kxi (cl 46 [.ref x1, .int (h.2.2.1.2 (x4 + 1).toNatClampNeg)] h) (fun r3 h2 => (if (x4 + 1) < 0 ∨ h2.2.2.1.1 ≤ (x4 + 1).toNatClampNeg then none else (if ia_ok h2 8 [.ref x2, .int (h2.2.2.1.2 (x4 + 1).toNatClampNeg)] = true then kxi (cl 167 [.ref x2, .int (h2.2.2.1.2 (x4 + 1).toNatClampNeg)] h2) (fun r6 h5 => (if r3 = r6 then dn 259 1042 [some (.float x0), some (.ref x1), some (.ref x2), some (.ref x3), some (.int x4), l5, l6, l7] [] h5 else some (some (.int 0), h5))) else none))) else none)) := by
  refine (dq rfl rfl).trans ?_
  refine (dq rfl rfl).trans ?_
  refine (dq rfl rfl).trans ?_
  refine (dq rfl rfl).trans ?_
  refine (dq rfl rfl).trans ?_
  refine (dq_sld rfl).trans (ie_c rfl ?_)
  refine (dq_kxi (z := 46) rfl (lq rfl) (lq rfl) (lq rfl) kd_46).trans (it_c (kxi_c (fun r3 h2 => ?_)))
  refine (dq rfl rfl).trans ?_
  refine (dq rfl rfl).trans ?_
  refine (dq rfl rfl).trans ?_
  refine (dq rfl rfl).trans ?_
  refine (dq rfl rfl).trans ?_
  refine (dq_sld rfl).trans (ie_c rfl ?_)
  refine (dq_kxi (z := 167) rfl (lq rfl) (lq rfl) (lq rfl) kd_167).trans (it_c (kxi_c (fun r6 h5 => ?_)))
  refine (dq_ieq rfl).trans (ie_c ?_ ?_)
  · rfl
  · refine (dq rfl rfl).trans ?_
    exact dq_ret20 rfl
set_option maxRecDepth 20000 in
theorem q_259_984 (x0 : UInt32) (x1 : Nat) (x2 : Nat) (x3 : Nat) (x4 : Int32) (l5 : Option Value) (l6 : Option Value) (l7 : Option Value) (h : ia_H) : dn 259 984 [some (.float x0), some (.ref x1), some (.ref x2), some (.ref x3), some (.int x4), l5, l6, l7] [] h = (if ia_ok h 0 [.ref x1] = true then kxi (cl 47 [.ref x1] h) (fun r2 h1 => (if ia_ok h1 8 [.ref x2] = true then kxi (cl 168 [.ref x2] h1) (fun r4 h3 => (if r2 = r4 then dn 259 1042 [some (.float x0), some (.ref x1), some (.ref x2), some (.ref x3), some (.int x4), l5, l6, l7] [] h3 else some (some (.int 0), h3))) else none)) else none) := by
  refine (dq rfl rfl).trans ?_
  refine (dq_kxi (z := 47) rfl (lq rfl) (lq rfl) (lq rfl) kd_47).trans (it_c (kxi_c (fun r2 h1 => ?_)))
  refine (dq rfl rfl).trans ?_
  refine (dq_kxi (z := 168) rfl (lq rfl) (lq rfl) (lq rfl) kd_168).trans (it_c (kxi_c (fun r4 h3 => ?_)))
  refine (dq_ieq rfl).trans (ie_c ?_ ?_)
  · rfl
  · refine (dq rfl rfl).trans ?_
    exact dq_ret20 rfl
set_option maxRecDepth 20000 in
theorem q_259_991 (x0 : UInt32) (x1 : Nat) (x2 : Nat) (x3 : Nat) (x4 : Int32) (l5 : Option Value) (l6 : Option Value) (l7 : Option Value) (h : ia_H) : dn 259 991 [some (.float x0), some (.ref x1), some (.ref x2), some (.ref x3), some (.int x4), l5, l6, l7] [] h = (if (x4 + 1) < 0 ∨ h.2.2.1.1 ≤ (x4 + 1).toNatClampNeg then none else (if ia_ok h 0 [.ref x1, .int (h.2.2.1.2 (x4 + 1).toNatClampNeg)] = true then kxi (cl 48 [.ref x1, .int (h.2.2.1.2 (x4 + 1).toNatClampNeg)] h) (fun r3 h2 => (if (x4 + 1) < 0 ∨ h2.2.2.1.1 ≤ (x4 + 1).toNatClampNeg then none else (if ia_ok h2 8 [.ref x2, .int (h2.2.2.1.2 (x4 + 1).toNatClampNeg)] = true then kxi (cl 170 [.ref x2, .int (h2.2.2.1.2 (x4 + 1).toNatClampNeg)] h2) (fun r6 h5 => (if r3 = r6 then dn 259 1042 [some (.float x0), some (.ref x1), some (.ref x2), some (.ref x3), some (.int x4), l5, l6, l7] [] h5 else some (some (.int 0), h5))) else none))) else none)) := by
  refine (dq rfl rfl).trans ?_
  refine (dq rfl rfl).trans ?_
  refine (dq rfl rfl).trans ?_
  refine (dq rfl rfl).trans ?_
  refine (dq rfl rfl).trans ?_
  refine (dq_sld rfl).trans (ie_c rfl ?_)
  refine (dq_kxi (z := 48) rfl (lq rfl) (lq rfl) (lq rfl) kd_48).trans (it_c (kxi_c (fun r3 h2 => ?_)))
  refine (dq rfl rfl).trans ?_
  refine (dq rfl rfl).trans ?_
  refine (dq rfl rfl).trans ?_
  refine (dq rfl rfl).trans ?_
  refine (dq rfl rfl).trans ?_
  refine (dq_sld rfl).trans (ie_c rfl ?_)
  refine (dq_kxi (z := 170) rfl (lq rfl) (lq rfl) (lq rfl) kd_170).trans (it_c (kxi_c (fun r6 h5 => ?_)))
  refine (dq_ieq rfl).trans (ie_c ?_ ?_)
  · rfl
  · refine (dq rfl rfl).trans ?_
    exact dq_ret20 rfl
set_option maxRecDepth 20000 in
theorem q_259_1008 (x0 : UInt32) (x1 : Nat) (x2 : Nat) (x3 : Nat) (x4 : Int32) (l5 : Option Value) (l6 : Option Value) (l7 : Option Value) (h : ia_H) : dn 259 1008 [some (.float x0), some (.ref x1), some (.ref x2), some (.ref x3), some (.int x4), l5, l6, l7] [] h = (if (x4 + 1) < 0 ∨ h.2.2.1.1 ≤ (x4 + 1).toNatClampNeg then none else ((lrowd h x1 (h.2.2.1.2 (x4 + 1).toNatClampNeg) x3).bind fun q => (if (x4 + 1) < 0 ∨ q.2.2.2.1.1 ≤ (x4 + 1).toNatClampNeg then none else (if ia_ok q.2 8 [.ref x2, .int (q.2.2.2.1.2 (x4 + 1).toNatClampNeg)] = true then kxl (cl 171 [.ref x2, .int (q.2.2.2.1.2 (x4 + 1).toNatClampNeg)] q.2) (fun r4 h3 => (if ia_ok h3 8 [.ref x2] = true then kxi (cl 68 [.ref x2] h3) (fun r6 h5 => (if r6 = q.1 then (if q.1 = 0 then ((ia_ldL h5 x3 0).bind fun v7 => (if (lg_cmp v7 r4) = 0 then dn 259 1042 [some (.float x0), some (.ref x1), some (.ref x2), some (.ref x3), some (.int x4), some (.int q.1), some (.long r4), none] [] h5 else some (some (.int 0), h5))) else dn 259 1042 [some (.float x0), some (.ref x1), some (.ref x2), some (.ref x3), some (.int x4), some (.int q.1), some (.long r4), none] [] h5) else some (some (.int 0), h5))) else none)) else none)))) := by
  refine (dq rfl rfl).trans ?_
  refine (dq rfl rfl).trans ?_
  refine (dq rfl rfl).trans ?_
  refine (dq rfl rfl).trans ?_
  refine (dq rfl rfl).trans ?_
  refine (dq_sld rfl).trans (ie_c rfl ?_)
  refine (dq rfl rfl).trans ?_
  refine (dq_lrow rfl (lq rfl)).trans (bn_c (fun q => ?_))
  refine (dq rfl rfl).trans ?_
  refine (dq rfl rfl).trans ?_
  refine (dq rfl rfl).trans ?_
  refine (dq rfl rfl).trans ?_
  refine (dq rfl rfl).trans ?_
  refine (dq rfl rfl).trans ?_
  refine (dq_sld rfl).trans (ie_c rfl ?_)
  refine (dq_kxl (z := 171) rfl (lq rfl) (lq rfl) (lq rfl) kd_171).trans (it_c (kxl_c (fun r4 h3 => ?_)))
  refine (dq rfl rfl).trans ?_
  refine (dq rfl rfl).trans ?_
  refine (dq_kxi (z := 68) rfl (lq rfl) (lq rfl) (lq rfl) kd_68).trans (it_c (kxi_c (fun r6 h5 => ?_)))
  refine (dq rfl rfl).trans ?_
  refine (dq_ieq rfl).trans (ie_c ?_ ?_)
  · refine (dq rfl rfl).trans ?_
    refine (dq_ifne rfl).trans (ie_c ?_ ?_)
    · refine (dq rfl rfl).trans ?_
      refine (dq rfl rfl).trans ?_
      refine (dq_lald rfl).trans (bn_c (fun v7 => ?_))
      refine (dq rfl rfl).trans ?_
      refine (dq rfl rfl).trans ?_
      refine (dq_ifeq rfl).trans (ie_c ?_ ?_)
      · refine (dq rfl rfl).trans ?_
        rfl
      · refine (dq rfl rfl).trans ?_
        exact dq_ret20 rfl
    · refine (dq rfl rfl).trans ?_
      rfl
  · refine (dq rfl rfl).trans ?_
    exact dq_ret20 rfl
set_option maxRecDepth 20000 in
theorem q_259_1042 (x0 : UInt32) (x1 : Nat) (x2 : Nat) (x3 : Nat) (x4 : Int32) (l5 : Option Value) (l6 : Option Value) (l7 : Option Value) (h : ia_H) : dn 259 1042 [some (.float x0), some (.ref x1), some (.ref x2), some (.ref x3), some (.int x4), l5, l6, l7] [] h = dn 259 13 [some (.float x0), some (.ref x1), some (.ref x2), some (.ref x3), some (.int (x4 + 4)), l5, l6, l7] [] h := by
  refine (dq_iinc (v := 4) rfl rfl (by decide)).trans ?_
  refine (dq rfl rfl).trans ?_
  rfl

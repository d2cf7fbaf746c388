theorem dX9_compare_0 : decode cX9_compare 0 = .ok (.iconst 0, 1) := by decide +kernel
theorem dX9_compare_1 : decode cX9_compare 1 = .ok (.istore 4, 2) := by decide +kernel
theorem dX9_compare_3 : decode cX9_compare 3 = .ok (.iload 4, 2) := by decide +kernel
theorem dX9_compare_5 : decode cX9_compare 5 = .ok (.aload_n 0, 1) := by decide +kernel
theorem dX9_compare_6 : decode cX9_compare 6 = .ok (.getfield 35, 3) := by decide +kernel
theorem dX9_compare_9 : decode cX9_compare 9 = .ok (.iload_n 1, 1) := by decide +kernel
theorem dX9_compare_10 : decode cX9_compare 10 = .ok (.iaload, 1) := by decide +kernel
theorem dX9_compare_11 : decode cX9_compare 11 = .ok (.if_icmp .ge 160, 3) := by decide +kernel
theorem dX9_compare_14 : decode cX9_compare 14 = .ok (.bipush 8, 2) := by decide +kernel
theorem dX9_compare_16 : decode cX9_compare 16 = .ok (.iload_n 2, 1) := by decide +kernel
theorem dX9_compare_17 : decode cX9_compare 17 = .ok (.imul, 1) := by decide +kernel
theorem dX9_compare_18 : decode cX9_compare 18 = .ok (.aload_n 0, 1) := by decide +kernel
theorem dX9_compare_19 : decode cX9_compare 19 = .ok (.getfield 47, 3) := by decide +kernel
theorem dX9_compare_22 : decode cX9_compare 22 = .ok (.iconst 3, 1) := by decide +kernel
theorem dX9_compare_23 : decode cX9_compare 23 = .ok (.iload_n 1, 1) := by decide +kernel
theorem dX9_compare_24 : decode cX9_compare 24 = .ok (.imul, 1) := by decide +kernel
theorem dX9_compare_25 : decode cX9_compare 25 = .ok (.iload 4, 2) := by decide +kernel
theorem dX9_compare_27 : decode cX9_compare 27 = .ok (.iadd, 1) := by decide +kernel
theorem dX9_compare_28 : decode cX9_compare 28 = .ok (.iaload, 1) := by decide +kernel
theorem dX9_compare_29 : decode cX9_compare 29 = .ok (.iadd, 1) := by decide +kernel
theorem dX9_compare_30 : decode cX9_compare 30 = .ok (.istore 5, 2) := by decide +kernel
theorem dX9_compare_32 : decode cX9_compare 32 = .ok (.bipush 8, 2) := by decide +kernel
theorem dX9_compare_34 : decode cX9_compare 34 = .ok (.iload_n 3, 1) := by decide +kernel
theorem dX9_compare_35 : decode cX9_compare 35 = .ok (.imul, 1) := by decide +kernel
theorem dX9_compare_36 : decode cX9_compare 36 = .ok (.aload_n 0, 1) := by decide +kernel
theorem dX9_compare_37 : decode cX9_compare 37 = .ok (.getfield 47, 3) := by decide +kernel
theorem dX9_compare_40 : decode cX9_compare 40 = .ok (.iconst 3, 1) := by decide +kernel
theorem dX9_compare_41 : decode cX9_compare 41 = .ok (.iload_n 1, 1) := by decide +kernel
theorem dX9_compare_42 : decode cX9_compare 42 = .ok (.imul, 1) := by decide +kernel
theorem dX9_compare_43 : decode cX9_compare 43 = .ok (.iload 4, 2) := by decide +kernel
theorem dX9_compare_45 : decode cX9_compare 45 = .ok (.iadd, 1) := by decide +kernel
theorem dX9_compare_46 : decode cX9_compare 46 = .ok (.iaload, 1) := by decide +kernel
theorem dX9_compare_47 : decode cX9_compare 47 = .ok (.iadd, 1) := by decide +kernel
theorem dX9_compare_48 : decode cX9_compare 48 = .ok (.istore 6, 2) := by decide +kernel
theorem dX9_compare_50 : decode cX9_compare 50 = .ok (.aload_n 0, 1) := by decide +kernel
theorem dX9_compare_51 : decode cX9_compare 51 = .ok (.getfield 74, 3) := by decide +kernel
theorem dX9_compare_54 : decode cX9_compare 54 = .ok (.iload 5, 2) := by decide +kernel
theorem dX9_compare_56 : decode cX9_compare 56 = .ok (.baload, 1) := by decide +kernel
theorem dX9_compare_57 : decode cX9_compare 57 = .ok (.ifCond .ne 21, 3) := by decide +kernel
theorem dX9_compare_60 : decode cX9_compare 60 = .ok (.aload_n 0, 1) := by decide +kernel
theorem dX9_compare_61 : decode cX9_compare 61 = .ok (.getfield 74, 3) := by decide +kernel
theorem dX9_compare_64 : decode cX9_compare 64 = .ok (.iload 6, 2) := by decide +kernel
theorem dX9_compare_66 : decode cX9_compare 66 = .ok (.baload, 1) := by decide +kernel
theorem dX9_compare_67 : decode cX9_compare 67 = .ok (.ifCond .eq 7, 3) := by decide +kernel
theorem dX9_compare_70 : decode cX9_compare 70 = .ok (.iconst (-1), 1) := by decide +kernel
theorem dX9_compare_71 : decode cX9_compare 71 = .ok (.goto 64, 3) := by decide +kernel
theorem dX9_compare_74 : decode cX9_compare 74 = .ok (.iconst 0, 1) := by decide +kernel
theorem dX9_compare_75 : decode cX9_compare 75 = .ok (.goto 60, 3) := by decide +kernel
theorem dX9_compare_78 : decode cX9_compare 78 = .ok (.aload_n 0, 1) := by decide +kernel
theorem dX9_compare_79 : decode cX9_compare 79 = .ok (.getfield 74, 3) := by decide +kernel
theorem dX9_compare_82 : decode cX9_compare 82 = .ok (.iload 6, 2) := by decide +kernel
theorem dX9_compare_84 : decode cX9_compare 84 = .ok (.baload, 1) := by decide +kernel
theorem dX9_compare_85 : decode cX9_compare 85 = .ok (.ifCond .ne 7, 3) := by decide +kernel
theorem dX9_compare_88 : decode cX9_compare 88 = .ok (.iconst 1, 1) := by decide +kernel
theorem dX9_compare_89 : decode cX9_compare 89 = .ok (.goto 46, 3) := by decide +kernel
theorem dX9_compare_92 : decode cX9_compare 92 = .ok (.aload_n 0, 1) := by decide +kernel
theorem dX9_compare_93 : decode cX9_compare 93 = .ok (.getfield 71, 3) := by decide +kernel
theorem dX9_compare_96 : decode cX9_compare 96 = .ok (.iload 5, 2) := by decide +kernel
theorem dX9_compare_98 : decode cX9_compare 98 = .ok (.iaload, 1) := by decide +kernel
theorem dX9_compare_99 : decode cX9_compare 99 = .ok (.aload_n 0, 1) := by decide +kernel
theorem dX9_compare_100 : decode cX9_compare 100 = .ok (.getfield 71, 3) := by decide +kernel
theorem dX9_compare_103 : decode cX9_compare 103 = .ok (.iload 6, 2) := by decide +kernel
theorem dX9_compare_105 : decode cX9_compare 105 = .ok (.iaload, 1) := by decide +kernel
theorem dX9_compare_106 : decode cX9_compare 106 = .ok (.if_icmp .ge 7, 3) := by decide +kernel
theorem dX9_compare_109 : decode cX9_compare 109 = .ok (.iconst (-1), 1) := by decide +kernel
theorem dX9_compare_110 : decode cX9_compare 110 = .ok (.goto 25, 3) := by decide +kernel
theorem dX9_compare_113 : decode cX9_compare 113 = .ok (.aload_n 0, 1) := by decide +kernel
theorem dX9_compare_114 : decode cX9_compare 114 = .ok (.getfield 71, 3) := by decide +kernel
theorem dX9_compare_117 : decode cX9_compare 117 = .ok (.iload 5, 2) := by decide +kernel
theorem dX9_compare_119 : decode cX9_compare 119 = .ok (.iaload, 1) := by decide +kernel
theorem dX9_compare_120 : decode cX9_compare 120 = .ok (.aload_n 0, 1) := by decide +kernel
theorem dX9_compare_121 : decode cX9_compare 121 = .ok (.getfield 71, 3) := by decide +kernel
theorem dX9_compare_124 : decode cX9_compare 124 = .ok (.iload 6, 2) := by decide +kernel
theorem dX9_compare_126 : decode cX9_compare 126 = .ok (.iaload, 1) := by decide +kernel
theorem dX9_compare_127 : decode cX9_compare 127 = .ok (.if_icmp .le 7, 3) := by decide +kernel
theorem dX9_compare_130 : decode cX9_compare 130 = .ok (.iconst 1, 1) := by decide +kernel
theorem dX9_compare_131 : decode cX9_compare 131 = .ok (.goto 4, 3) := by decide +kernel
theorem dX9_compare_134 : decode cX9_compare 134 = .ok (.iconst 0, 1) := by decide +kernel
theorem dX9_compare_135 : decode cX9_compare 135 = .ok (.istore 7, 2) := by decide +kernel
theorem dX9_compare_137 : decode cX9_compare 137 = .ok (.iload 7, 2) := by decide +kernel
theorem dX9_compare_139 : decode cX9_compare 139 = .ok (.ifCond .eq 26, 3) := by decide +kernel
theorem dX9_compare_142 : decode cX9_compare 142 = .ok (.aload_n 0, 1) := by decide +kernel
theorem dX9_compare_143 : decode cX9_compare 143 = .ok (.getfield 50, 3) := by decide +kernel
theorem dX9_compare_146 : decode cX9_compare 146 = .ok (.iconst 3, 1) := by decide +kernel
theorem dX9_compare_147 : decode cX9_compare 147 = .ok (.iload_n 1, 1) := by decide +kernel
theorem dX9_compare_148 : decode cX9_compare 148 = .ok (.imul, 1) := by decide +kernel
theorem dX9_compare_149 : decode cX9_compare 149 = .ok (.iload 4, 2) := by decide +kernel
theorem dX9_compare_151 : decode cX9_compare 151 = .ok (.iadd, 1) := by decide +kernel
theorem dX9_compare_152 : decode cX9_compare 152 = .ok (.baload, 1) := by decide +kernel
theorem dX9_compare_153 : decode cX9_compare 153 = .ok (.ifCond .eq 9, 3) := by decide +kernel
theorem dX9_compare_156 : decode cX9_compare 156 = .ok (.iload 7, 2) := by decide +kernel
theorem dX9_compare_158 : decode cX9_compare 158 = .ok (.ineg, 1) := by decide +kernel
theorem dX9_compare_159 : decode cX9_compare 159 = .ok (.goto 5, 3) := by decide +kernel
theorem dX9_compare_162 : decode cX9_compare 162 = .ok (.iload 7, 2) := by decide +kernel
theorem dX9_compare_164 : decode cX9_compare 164 = .ok (.ireturn, 1) := by decide +kernel
theorem dX9_compare_165 : decode cX9_compare 165 = .ok (.iinc 4 1, 3) := by decide +kernel
theorem dX9_compare_168 : decode cX9_compare 168 = .ok (.goto (-165), 3) := by decide +kernel
theorem dX9_compare_171 : decode cX9_compare 171 = .ok (.iconst 0, 1) := by decide +kernel
theorem dX9_compare_172 : decode cX9_compare 172 = .ok (.ireturn, 1) := by decide +kernel
def jX9_compare_135 (K3 : Int32 → Option Int32) (a0 : Nat) (x1 : Int32) (x2 : Int32) (x3 : Int32) (x4 : Int32) (k0 : Int32) (u : fb_M) : Option Int32 :=
 (if k0 = 0 then (K3 (x4 + 1))
  else ((fb_R u a0 16).bind fun q143 => fb_gd (q143 < fb_NT ∧ (fb_sh q143).1 = 102) 
   ((fb_gd (¬ ((3 * x1) + x4 < 0 ∨ (fb_sh q143).2 ≤ ((3 * x1) + x4).toNatClampNeg)) 
   (if (fb_I u q143 ((3 * x1) + x4).toNatClampNeg) = 0 then (some k0)
   else (some (-k0)))))))
set_option maxRecDepth 100000 in
set_option maxHeartbeats 4000000 in
theorem tjX9_compare_135 {g : fb_G} {res : Int32} (a0 : Nat) (x1 : Int32) (x2 : Int32) (x3 : Int32) (x4 : Int32) (k0 : Int32) (u : fb_M) (K3 : Int32 → Option Int32) (ha0 : a0 < fb_NT ∧ fb_sh a0 = (9, 40)) (hK3 : ∀ (x4 : Int32) ,  K3 x4 = some res → fb_V g RX9 cX9_compare 8 (some .int) "compare" (fb_room 0 0 0 0) (fb_Qm g (some (.int res)) fb_NT u 0 0) 0 0 fb_NT u 3 [(0, .ref (fb_b g + a0)), (1, .int x1), (2, .int x2), (3, .int x3), (4, .int x4)] []) (h : jX9_compare_135 K3 a0 x1 x2 x3 x4 k0 u = some res) : fb_V g RX9 cX9_compare 8 (some .int) "compare" (fb_room 0 0 0 0) (fb_Qm g (some (.int res)) fb_NT u 0 0) 0 0 fb_NT u 135 [(0, .ref (fb_b g + a0)), (1, .int x1), (2, .int x2), (3, .int x3), (4, .int x4)] [.int k0] := by
  unfold jX9_compare_135 at h
  refine fb_istore (pc := 135) (lv' := [(7, .int k0), (0, .ref (fb_b g + a0)), (1, .int x1), (2, .int x2), (3, .int x3), (4, .int x4)]) dX9_compare_135 (by decide) rfl ?_
  refine fb_iload (pc := 137) dX9_compare_137 0 rfl ?_
  refine fb_if_eq (pc := 139) (tgt := 165) h dX9_compare_139 (by decide) (fun h => ?_) (fun h => ?_)
  · refine fb_iinc (pc := 165) (v := 1) (lv' := [(4, .int (x4 + 1)), (7, .int k0), (0, .ref (fb_b g + a0)), (1, .int x1), (2, .int x2), (3, .int x3)]) dX9_compare_165 5 rfl fb_ki_1 (by decide) rfl ?_
    refine fb_goto (pc := 168) (tgt := 3) dX9_compare_168 (by decide) ?_
    exact fb_sub [2, 3, 4, 5, 0] rfl (hK3 (x4 + 1) h)
  · refine fb_aload_n (pc := 142) dX9_compare_142 1 rfl ?_
    refine fb_bnE h (fun q143 e143 h => fb_gdE h (fun s143 h => ?_))
    refine fb_getR (pc := 143) dX9_compare_143 lkX9_50 ha0.1 ha0.2 (by decide) e143 ?_
    refine fb_iconst (pc := 146) (v := 3) dX9_compare_146 fb_ki_3 ?_
    refine fb_iload_n (pc := 147) dX9_compare_147 2 rfl ?_
    refine fb_imul (pc := 148) dX9_compare_148 ?_
    refine fb_iload (pc := 149) dX9_compare_149 5 rfl ?_
    refine fb_iadd (pc := 151) dX9_compare_151 ?_
    refine fb_gdE h (fun i152 h => ?_)
    refine fb_zald (pc := 152) dX9_compare_152 s143.1 (fb_eta s143.2) i152 ?_
    refine fb_if_eq (pc := 153) (tgt := 162) h dX9_compare_153 (by decide) (fun h => ?_) (fun h => ?_)
    · refine fb_iload (pc := 162) dX9_compare_162 0 rfl ?_
      exact fb_iretR (pc := 164) h dX9_compare_164
    · refine fb_iload (pc := 156) dX9_compare_156 0 rfl ?_
      refine fb_ineg (pc := 158) dX9_compare_158 ?_
      refine fb_goto (pc := 159) (tgt := 164) dX9_compare_159 (by decide) ?_
      exact fb_iretR (pc := 164) h dX9_compare_164

def bX9_compare_3 (K3 : Int32 → Option Int32) (a0 : Nat) (x1 : Int32) (x2 : Int32) (x3 : Int32) (x4 : Int32) (u : fb_M) : Option Int32 :=
 ((fb_R u a0 11).bind fun q6 => fb_gd (q6 < fb_NT ∧ (fb_sh q6).1 = 100) 
  ((fb_gd (¬ (x1 < 0 ∨ (fb_sh q6).2 ≤ x1.toNatClampNeg)) 
  (if (fb_I u q6 x1.toNatClampNeg) ≤ x4 then (some 0)
  else ((fb_R u a0 15).bind fun q19 => fb_gd (q19 < fb_NT ∧ (fb_sh q19).1 = 100) 
   ((fb_gd (¬ ((3 * x1) + x4 < 0 ∨ (fb_sh q19).2 ≤ ((3 * x1) + x4).toNatClampNeg)) 
   ((fb_R u a0 15).bind fun q37 => fb_gd (q37 < fb_NT ∧ (fb_sh q37).1 = 100) 
   ((fb_gd (¬ ((3 * x1) + x4 < 0 ∨ (fb_sh q37).2 ≤ ((3 * x1) + x4).toNatClampNeg)) 
   ((fb_R u a0 31).bind fun q51 => fb_gd (q51 < fb_NT ∧ (fb_sh q51).1 = 102) 
   ((fb_gd (¬ ((8 * x2) + (fb_I u q19 ((3 * x1) + x4).toNatClampNeg) < 0 ∨ (fb_sh q51).2 ≤ ((8 * x2) + (fb_I u q19 ((3 * x1) + x4).toNatClampNeg)).toNatClampNeg)) 
   (if (fb_I u q51 ((8 * x2) + (fb_I u q19 ((3 * x1) + x4).toNatClampNeg)).toNatClampNeg) = 0 then ((fb_R u a0 31).bind fun q61 => fb_gd (q61 < fb_NT ∧ (fb_sh q61).1 = 102) 
    ((fb_gd (¬ ((8 * x3) + (fb_I u q37 ((3 * x1) + x4).toNatClampNeg) < 0 ∨ (fb_sh q61).2 ≤ ((8 * x3) + (fb_I u q37 ((3 * x1) + x4).toNatClampNeg)).toNatClampNeg)) 
    (if (fb_I u q61 ((8 * x3) + (fb_I u q37 ((3 * x1) + x4).toNatClampNeg)).toNatClampNeg) = 0 then (jX9_compare_135 K3 a0 x1 x2 x3 x4 0 u)
    else (jX9_compare_135 K3 a0 x1 x2 x3 x4 ((-1)) u)))))
   else ((fb_R u a0 31).bind fun q79 => fb_gd (q79 < fb_NT ∧ (fb_sh q79).1 = 102) 
    ((fb_gd (¬ ((8 * x3) + (fb_I u q37 ((3 * x1) + x4).toNatClampNeg) < 0 ∨ (fb_sh q79).2 ≤ ((8 * x3) + (fb_I u q37 ((3 * x1) + x4).toNatClampNeg)).toNatClampNeg)) 
    (if (fb_I u q79 ((8 * x3) + (fb_I u q37 ((3 * x1) + x4).toNatClampNeg)).toNatClampNeg) = 0 then (jX9_compare_135 K3 a0 x1 x2 x3 x4 1 u)
    else ((fb_R u a0 30).bind fun q93 => fb_gd (q93 < fb_NT ∧ (fb_sh q93).1 = 100) 
     ((fb_gd (¬ ((8 * x2) + (fb_I u q19 ((3 * x1) + x4).toNatClampNeg) < 0 ∨ (fb_sh q93).2 ≤ ((8 * x2) + (fb_I u q19 ((3 * x1) + x4).toNatClampNeg)).toNatClampNeg)) 
     ((fb_R u a0 30).bind fun q100 => fb_gd (q100 < fb_NT ∧ (fb_sh q100).1 = 100) 
     ((fb_gd (¬ ((8 * x3) + (fb_I u q37 ((3 * x1) + x4).toNatClampNeg) < 0 ∨ (fb_sh q100).2 ≤ ((8 * x3) + (fb_I u q37 ((3 * x1) + x4).toNatClampNeg)).toNatClampNeg)) 
     (if (fb_I u q100 ((8 * x3) + (fb_I u q37 ((3 * x1) + x4).toNatClampNeg)).toNatClampNeg) ≤ (fb_I u q93 ((8 * x2) + (fb_I u q19 ((3 * x1) + x4).toNatClampNeg)).toNatClampNeg) then ((fb_R u a0 30).bind fun q114 => fb_gd (q114 < fb_NT ∧ (fb_sh q114).1 = 100) 
      ((fb_gd (¬ ((8 * x2) + (fb_I u q19 ((3 * x1) + x4).toNatClampNeg) < 0 ∨ (fb_sh q114).2 ≤ ((8 * x2) + (fb_I u q19 ((3 * x1) + x4).toNatClampNeg)).toNatClampNeg)) 
      ((fb_R u a0 30).bind fun q121 => fb_gd (q121 < fb_NT ∧ (fb_sh q121).1 = 100) 
      ((fb_gd (¬ ((8 * x3) + (fb_I u q37 ((3 * x1) + x4).toNatClampNeg) < 0 ∨ (fb_sh q121).2 ≤ ((8 * x3) + (fb_I u q37 ((3 * x1) + x4).toNatClampNeg)).toNatClampNeg)) 
      (if (fb_I u q114 ((8 * x2) + (fb_I u q19 ((3 * x1) + x4).toNatClampNeg)).toNatClampNeg) ≤ (fb_I u q121 ((8 * x3) + (fb_I u q37 ((3 * x1) + x4).toNatClampNeg)).toNatClampNeg) then (jX9_compare_135 K3 a0 x1 x2 x3 x4 0 u)
      else (jX9_compare_135 K3 a0 x1 x2 x3 x4 1 u))))))))
     else (jX9_compare_135 K3 a0 x1 x2 x3 x4 ((-1)) u))))))))))))))))))))))))))
def gX9_compare_3 (a0 : Nat) (x1 : Int32) (x2 : Int32) (x3 : Int32) (u : fb_M) : Nat → Int32 → Option Int32
 | 0 => fun _ => none
 | fu + 1 => fun x4 => bX9_compare_3 (gX9_compare_3 a0 x1 x2 x3 u fu) a0 x1 x2 x3 x4 u
set_option maxRecDepth 100000 in
set_option maxHeartbeats 4000000 in
theorem tbX9_compare_3 {g : fb_G} {res : Int32} (a0 : Nat) (x1 : Int32) (x2 : Int32) (x3 : Int32) (x4 : Int32) (u : fb_M) (K3 : Int32 → Option Int32) (ha0 : a0 < fb_NT ∧ fb_sh a0 = (9, 40)) (hK3 : ∀ (x4 : Int32) ,  K3 x4 = some res → fb_V g RX9 cX9_compare 8 (some .int) "compare" (fb_room 0 0 0 0) (fb_Qm g (some (.int res)) fb_NT u 0 0) 0 0 fb_NT u 3 [(0, .ref (fb_b g + a0)), (1, .int x1), (2, .int x2), (3, .int x3), (4, .int x4)] []) (h : bX9_compare_3 K3 a0 x1 x2 x3 x4 u = some res) : fb_V g RX9 cX9_compare 8 (some .int) "compare" (fb_room 0 0 0 0) (fb_Qm g (some (.int res)) fb_NT u 0 0) 0 0 fb_NT u 3 [(0, .ref (fb_b g + a0)), (1, .int x1), (2, .int x2), (3, .int x3), (4, .int x4)] [] := by
  unfold bX9_compare_3 at h
  refine fb_iload (pc := 3) dX9_compare_3 4 rfl ?_
  refine fb_aload_n (pc := 5) dX9_compare_5 0 rfl ?_
  refine fb_bnE h (fun q6 e6 h => fb_gdE h (fun s6 h => ?_))
  refine fb_getR (pc := 6) dX9_compare_6 lkX9_35 ha0.1 ha0.2 (by decide) e6 ?_
  refine fb_iload_n (pc := 9) dX9_compare_9 1 rfl ?_
  refine fb_gdE h (fun i10 h => ?_)
  refine fb_iald (pc := 10) dX9_compare_10 s6.1 (fb_eta s6.2) i10 ?_
  refine fb_icmp_ge (pc := 11) (tgt := 171) h dX9_compare_11 (by decide) (fun h => ?_) (fun h => ?_)
  · refine fb_iconst (pc := 171) (v := 0) dX9_compare_171 fb_ki_0 ?_
    exact fb_iretR (pc := 172) h dX9_compare_172
  · refine fb_bipush (pc := 14) (v := 8) dX9_compare_14 fb_kb_8 ?_
    refine fb_iload_n (pc := 16) dX9_compare_16 2 rfl ?_
    refine fb_imul (pc := 17) dX9_compare_17 ?_
    refine fb_aload_n (pc := 18) dX9_compare_18 0 rfl ?_
    refine fb_bnE h (fun q19 e19 h => fb_gdE h (fun s19 h => ?_))
    refine fb_getR (pc := 19) dX9_compare_19 lkX9_47 ha0.1 ha0.2 (by decide) e19 ?_
    refine fb_iconst (pc := 22) (v := 3) dX9_compare_22 fb_ki_3 ?_
    refine fb_iload_n (pc := 23) dX9_compare_23 1 rfl ?_
    refine fb_imul (pc := 24) dX9_compare_24 ?_
    refine fb_iload (pc := 25) dX9_compare_25 4 rfl ?_
    refine fb_iadd (pc := 27) dX9_compare_27 ?_
    refine fb_gdE h (fun i28 h => ?_)
    refine fb_iald (pc := 28) dX9_compare_28 s19.1 (fb_eta s19.2) i28 ?_
    refine fb_iadd (pc := 29) dX9_compare_29 ?_
    refine fb_istore (pc := 30) (lv' := [(5, .int ((8 * x2) + (fb_I u q19 ((3 * x1) + x4).toNatClampNeg))), (0, .ref (fb_b g + a0)), (1, .int x1), (2, .int x2), (3, .int x3), (4, .int x4)]) dX9_compare_30 (by decide) rfl ?_
    refine fb_bipush (pc := 32) (v := 8) dX9_compare_32 fb_kb_8 ?_
    refine fb_iload_n (pc := 34) dX9_compare_34 4 rfl ?_
    refine fb_imul (pc := 35) dX9_compare_35 ?_
    refine fb_aload_n (pc := 36) dX9_compare_36 1 rfl ?_
    refine fb_bnE h (fun q37 e37 h => fb_gdE h (fun s37 h => ?_))
    refine fb_getR (pc := 37) dX9_compare_37 lkX9_47 ha0.1 ha0.2 (by decide) e37 ?_
    refine fb_iconst (pc := 40) (v := 3) dX9_compare_40 fb_ki_3 ?_
    refine fb_iload_n (pc := 41) dX9_compare_41 2 rfl ?_
    refine fb_imul (pc := 42) dX9_compare_42 ?_
    refine fb_iload (pc := 43) dX9_compare_43 5 rfl ?_
    refine fb_iadd (pc := 45) dX9_compare_45 ?_
    refine fb_gdE h (fun i46 h => ?_)
    refine fb_iald (pc := 46) dX9_compare_46 s37.1 (fb_eta s37.2) i46 ?_
    refine fb_iadd (pc := 47) dX9_compare_47 ?_
    refine fb_istore (pc := 48) (lv' := [(6, .int ((8 * x3) + (fb_I u q37 ((3 * x1) + x4).toNatClampNeg))), (5, .int ((8 * x2) + (fb_I u q19 ((3 * x1) + x4).toNatClampNeg))), (0, .ref (fb_b g + a0)), (1, .int x1), (2, .int x2), (3, .int x3), (4, .int x4)]) dX9_compare_48 (by decide) rfl ?_
    refine fb_aload_n (pc := 50) dX9_compare_50 2 rfl ?_
    refine fb_bnE h (fun q51 e51 h => fb_gdE h (fun s51 h => ?_))
    refine fb_getR (pc := 51) dX9_compare_51 lkX9_74 ha0.1 ha0.2 (by decide) e51 ?_
    refine fb_iload (pc := 54) dX9_compare_54 1 rfl ?_
    refine fb_gdE h (fun i56 h => ?_)
    refine fb_zald (pc := 56) dX9_compare_56 s51.1 (fb_eta s51.2) i56 ?_
    refine fb_if_ne (pc := 57) (tgt := 78) h dX9_compare_57 (by decide) (fun h => ?_) (fun h => ?_)
    · refine fb_aload_n (pc := 78) dX9_compare_78 2 rfl ?_
      refine fb_bnE h (fun q79 e79 h => fb_gdE h (fun s79 h => ?_))
      refine fb_getR (pc := 79) dX9_compare_79 lkX9_74 ha0.1 ha0.2 (by decide) e79 ?_
      refine fb_iload (pc := 82) dX9_compare_82 0 rfl ?_
      refine fb_gdE h (fun i84 h => ?_)
      refine fb_zald (pc := 84) dX9_compare_84 s79.1 (fb_eta s79.2) i84 ?_
      refine fb_if_ne (pc := 85) (tgt := 92) h dX9_compare_85 (by decide) (fun h => ?_) (fun h => ?_)
      · refine fb_aload_n (pc := 92) dX9_compare_92 2 rfl ?_
        refine fb_bnE h (fun q93 e93 h => fb_gdE h (fun s93 h => ?_))
        refine fb_getR (pc := 93) dX9_compare_93 lkX9_71 ha0.1 ha0.2 (by decide) e93 ?_
        refine fb_iload (pc := 96) dX9_compare_96 1 rfl ?_
        refine fb_gdE h (fun i98 h => ?_)
        refine fb_iald (pc := 98) dX9_compare_98 s93.1 (fb_eta s93.2) i98 ?_
        refine fb_aload_n (pc := 99) dX9_compare_99 2 rfl ?_
        refine fb_bnE h (fun q100 e100 h => fb_gdE h (fun s100 h => ?_))
        refine fb_getR (pc := 100) dX9_compare_100 lkX9_71 ha0.1 ha0.2 (by decide) e100 ?_
        refine fb_iload (pc := 103) dX9_compare_103 0 rfl ?_
        refine fb_gdE h (fun i105 h => ?_)
        refine fb_iald (pc := 105) dX9_compare_105 s100.1 (fb_eta s100.2) i105 ?_
        refine fb_icmp_ge (pc := 106) (tgt := 113) h dX9_compare_106 (by decide) (fun h => ?_) (fun h => ?_)
        · refine fb_aload_n (pc := 113) dX9_compare_113 2 rfl ?_
          refine fb_bnE h (fun q114 e114 h => fb_gdE h (fun s114 h => ?_))
          refine fb_getR (pc := 114) dX9_compare_114 lkX9_71 ha0.1 ha0.2 (by decide) e114 ?_
          refine fb_iload (pc := 117) dX9_compare_117 1 rfl ?_
          refine fb_gdE h (fun i119 h => ?_)
          refine fb_iald (pc := 119) dX9_compare_119 s114.1 (fb_eta s114.2) i119 ?_
          refine fb_aload_n (pc := 120) dX9_compare_120 2 rfl ?_
          refine fb_bnE h (fun q121 e121 h => fb_gdE h (fun s121 h => ?_))
          refine fb_getR (pc := 121) dX9_compare_121 lkX9_71 ha0.1 ha0.2 (by decide) e121 ?_
          refine fb_iload (pc := 124) dX9_compare_124 0 rfl ?_
          refine fb_gdE h (fun i126 h => ?_)
          refine fb_iald (pc := 126) dX9_compare_126 s121.1 (fb_eta s121.2) i126 ?_
          refine fb_icmp_le (pc := 127) (tgt := 134) h dX9_compare_127 (by decide) (fun h => ?_) (fun h => ?_)
          · refine fb_iconst (pc := 134) (v := 0) dX9_compare_134 fb_ki_0 ?_
            exact fb_sub [2, 3, 4, 5, 6] rfl (tjX9_compare_135 a0 x1 x2 x3 x4 0 u K3 ha0 hK3 h)
          · refine fb_iconst (pc := 130) (v := 1) dX9_compare_130 fb_ki_1 ?_
            refine fb_goto (pc := 131) (tgt := 135) dX9_compare_131 (by decide) ?_
            exact fb_sub [2, 3, 4, 5, 6] rfl (tjX9_compare_135 a0 x1 x2 x3 x4 1 u K3 ha0 hK3 h)
        · refine fb_iconst (pc := 109) (v := (-1)) dX9_compare_109 fb_ki_m1 ?_
          refine fb_goto (pc := 110) (tgt := 135) dX9_compare_110 (by decide) ?_
          exact fb_sub [2, 3, 4, 5, 6] rfl (tjX9_compare_135 a0 x1 x2 x3 x4 ((-1)) u K3 ha0 hK3 h)
      · refine fb_iconst (pc := 88) (v := 1) dX9_compare_88 fb_ki_1 ?_
        refine fb_goto (pc := 89) (tgt := 135) dX9_compare_89 (by decide) ?_
        exact fb_sub [2, 3, 4, 5, 6] rfl (tjX9_compare_135 a0 x1 x2 x3 x4 1 u K3 ha0 hK3 h)
    · refine fb_aload_n (pc := 60) dX9_compare_60 2 rfl ?_
      refine fb_bnE h (fun q61 e61 h => fb_gdE h (fun s61 h => ?_))
      refine fb_getR (pc := 61) dX9_compare_61 lkX9_74 ha0.1 ha0.2 (by decide) e61 ?_
      refine fb_iload (pc := 64) dX9_compare_64 0 rfl ?_
      refine fb_gdE h (fun i66 h => ?_)
      refine fb_zald (pc := 66) dX9_compare_66 s61.1 (fb_eta s61.2) i66 ?_
      refine fb_if_eq (pc := 67) (tgt := 74) h dX9_compare_67 (by decide) (fun h => ?_) (fun h => ?_)
      · refine fb_iconst (pc := 74) (v := 0) dX9_compare_74 fb_ki_0 ?_
        refine fb_goto (pc := 75) (tgt := 135) dX9_compare_75 (by decide) ?_
        exact fb_sub [2, 3, 4, 5, 6] rfl (tjX9_compare_135 a0 x1 x2 x3 x4 0 u K3 ha0 hK3 h)
      · refine fb_iconst (pc := 70) (v := (-1)) dX9_compare_70 fb_ki_m1 ?_
        refine fb_goto (pc := 71) (tgt := 135) dX9_compare_71 (by decide) ?_
        exact fb_sub [2, 3, 4, 5, 6] rfl (tjX9_compare_135 a0 x1 x2 x3 x4 ((-1)) u K3 ha0 hK3 h)

theorem tgX9_compare_3 {g : fb_G} {res : Int32} (a0 : Nat) (x1 : Int32) (x2 : Int32) (x3 : Int32) (u : fb_M) (ha0 : a0 < fb_NT ∧ fb_sh a0 = (9, 40)) : ∀ (fu : Nat) (x4 : Int32) ,  gX9_compare_3 a0 x1 x2 x3 u fu x4 = some res → fb_V g RX9 cX9_compare 8 (some .int) "compare" (fb_room 0 0 0 0) (fb_Qm g (some (.int res)) fb_NT u 0 0) 0 0 fb_NT u 3 [(0, .ref (fb_b g + a0)), (1, .int x1), (2, .int x2), (3, .int x3), (4, .int x4)] [] := by
  intro fu
  induction fu with
  | zero => intro x4 h; exact absurd h (by simp [gX9_compare_3])
  | succ fu ih => intro x4 h; exact tbX9_compare_3 a0 x1 x2 x3 x4 u (gX9_compare_3 a0 x1 x2 x3 u fu) ha0 ih h
def fX9_compare (u : fb_M) (a0 : Nat) (x1 : Int32) (x2 : Int32) (x3 : Int32) : Option Int32 :=
 (gX9_compare_3 a0 x1 x2 x3 u fb_F 0)
set_option maxRecDepth 100000 in
set_option maxHeartbeats 4000000 in
theorem mX9_compare (g : fb_G) (u : fb_M) (a0 : Nat) (x1 : Int32) (x2 : Int32) (x3 : Int32) (ha0 : a0 < fb_NT ∧ fb_sh a0 = (9, 40)) {res : Int32} (h : fX9_compare u a0 x1 x2 x3 = some res) : fb_Runs g 0 0 0 0 fb_NT fb_NT yX9_compare cX9_compare 8 (some .int) [.ref (fb_b g + a0), .int x1, .int x2, .int x3] u (some (.int res)) u := by
  unfold fX9_compare at h
  refine fb_enter (by decide) (Nat.le_of_ble_eq_true rfl) ?_
  show fb_V g RX9 cX9_compare 8 (some .int) "compare" (fb_room 0 0 0 0) (fb_Qm g (some (.int res)) fb_NT u 0 0) 0 0 fb_NT u 0 [(0, .ref (fb_b g + a0)), (1, .int x1), (2, .int x2), (3, .int x3)] []
  refine fb_iconst (pc := 0) (v := 0) dX9_compare_0 fb_ki_0 ?_
  refine fb_istore (pc := 1) (lv' := [(4, .int 0), (0, .ref (fb_b g + a0)), (1, .int x1), (2, .int x2), (3, .int x3)]) dX9_compare_1 (by decide) rfl ?_
  exact fb_sub [1, 2, 3, 4, 0] rfl (tgX9_compare_3 a0 x1 x2 x3 u ha0 fb_F 0 h)

theorem dX9_rank_0 : decode cX9_rank 0 = .ok (.iconst 0, 1) := by decide +kernel
theorem dX9_rank_1 : decode cX9_rank 1 = .ok (.istore_n 3, 1) := by decide +kernel
theorem dX9_rank_2 : decode cX9_rank 2 = .ok (.iconst 0, 1) := by decide +kernel
theorem dX9_rank_3 : decode cX9_rank 3 = .ok (.istore 4, 2) := by decide +kernel
theorem dX9_rank_5 : decode cX9_rank 5 = .ok (.iload 4, 2) := by decide +kernel
theorem dX9_rank_7 : decode cX9_rank 7 = .ok (.aload_n 0, 1) := by decide +kernel
theorem dX9_rank_8 : decode cX9_rank 8 = .ok (.getfield 260, 3) := by decide +kernel
theorem dX9_rank_11 : decode cX9_rank 11 = .ok (.if_icmp .ge 59, 3) := by decide +kernel
theorem dX9_rank_14 : decode cX9_rank 14 = .ok (.iload 4, 2) := by decide +kernel
theorem dX9_rank_16 : decode cX9_rank 16 = .ok (.iload_n 2, 1) := by decide +kernel
theorem dX9_rank_17 : decode cX9_rank 17 = .ok (.if_icmp .eq 47, 3) := by decide +kernel
theorem dX9_rank_20 : decode cX9_rank 20 = .ok (.aload_n 0, 1) := by decide +kernel
theorem dX9_rank_21 : decode cX9_rank 21 = .ok (.getfield 89, 3) := by decide +kernel
theorem dX9_rank_24 : decode cX9_rank 24 = .ok (.iload 4, 2) := by decide +kernel
theorem dX9_rank_26 : decode cX9_rank 26 = .ok (.baload, 1) := by decide +kernel
theorem dX9_rank_27 : decode cX9_rank 27 = .ok (.ifCond .eq 37, 3) := by decide +kernel
theorem dX9_rank_30 : decode cX9_rank 30 = .ok (.aload_n 0, 1) := by decide +kernel
theorem dX9_rank_31 : decode cX9_rank 31 = .ok (.iload_n 1, 1) := by decide +kernel
theorem dX9_rank_32 : decode cX9_rank 32 = .ok (.iload 4, 2) := by decide +kernel
theorem dX9_rank_34 : decode cX9_rank 34 = .ok (.iload_n 2, 1) := by decide +kernel
theorem dX9_rank_35 : decode cX9_rank 35 = .ok (.invokevirtual 276, 3) := by decide +kernel
theorem dX9_rank_38 : decode cX9_rank 38 = .ok (.istore 5, 2) := by decide +kernel
theorem dX9_rank_40 : decode cX9_rank 40 = .ok (.iload 5, 2) := by decide +kernel
theorem dX9_rank_42 : decode cX9_rank 42 = .ok (.ifCond .lt 14, 3) := by decide +kernel
theorem dX9_rank_45 : decode cX9_rank 45 = .ok (.iload 5, 2) := by decide +kernel
theorem dX9_rank_47 : decode cX9_rank 47 = .ok (.ifCond .ne 15, 3) := by decide +kernel
theorem dX9_rank_50 : decode cX9_rank 50 = .ok (.iload 4, 2) := by decide +kernel
theorem dX9_rank_52 : decode cX9_rank 52 = .ok (.iload_n 2, 1) := by decide +kernel
theorem dX9_rank_53 : decode cX9_rank 53 = .ok (.if_icmp .ge 9, 3) := by decide +kernel
theorem dX9_rank_56 : decode cX9_rank 56 = .ok (.iload_n 3, 1) := by decide +kernel
theorem dX9_rank_57 : decode cX9_rank 57 = .ok (.iconst 1, 1) := by decide +kernel
theorem dX9_rank_58 : decode cX9_rank 58 = .ok (.iadd, 1) := by decide +kernel
theorem dX9_rank_59 : decode cX9_rank 59 = .ok (.goto 4, 3) := by decide +kernel
theorem dX9_rank_62 : decode cX9_rank 62 = .ok (.iload_n 3, 1) := by decide +kernel
theorem dX9_rank_63 : decode cX9_rank 63 = .ok (.istore_n 3, 1) := by decide +kernel
theorem dX9_rank_64 : decode cX9_rank 64 = .ok (.iinc 4 1, 3) := by decide +kernel
theorem dX9_rank_67 : decode cX9_rank 67 = .ok (.goto (-62), 3) := by decide +kernel
theorem dX9_rank_70 : decode cX9_rank 70 = .ok (.iload_n 3, 1) := by decide +kernel
theorem dX9_rank_71 : decode cX9_rank 71 = .ok (.ireturn, 1) := by decide +kernel
def bX9_rank_5 (K5 : Int32 → Int32 → Option Int32) (a0 : Nat) (x1 : Int32) (x2 : Int32) (x3 : Int32) (x4 : Int32) (u : fb_M) : Option Int32 :=
 (if (fb_I u a0 28) ≤ x4 then (some x3)
  else (if x4 = x2 then (K5 x3 (x4 + 1))
   else ((fb_R u a0 38).bind fun q21 => fb_gd (q21 < fb_NT ∧ (fb_sh q21).1 = 102) 
    ((fb_gd (¬ (x4 < 0 ∨ (fb_sh q21).2 ≤ x4.toNatClampNeg)) 
    (if (fb_I u q21 x4.toNatClampNeg) = 0 then (K5 x3 (x4 + 1))
    else ((fX9_compare u a0 x1 x4 x2).bind fun r35 => 
     (if r35 < 0 then (K5 (x3 + 1) (x4 + 1))
     else (if r35 = 0 then (if x2 ≤ x4 then (K5 x3 (x4 + 1))
       else (K5 (x3 + 1) (x4 + 1)))
      else (K5 x3 (x4 + 1)))))))))))
def gX9_rank_5 (a0 : Nat) (x1 : Int32) (x2 : Int32) (u : fb_M) : Nat → Int32 → Int32 → Option Int32
 | 0 => fun _ _ => none
 | fu + 1 => fun x3 x4 => bX9_rank_5 (gX9_rank_5 a0 x1 x2 u fu) a0 x1 x2 x3 x4 u
set_option maxRecDepth 100000 in
set_option maxHeartbeats 4000000 in
theorem tbX9_rank_5 {g : fb_G} {res : Int32} (a0 : Nat) (x1 : Int32) (x2 : Int32) (x3 : Int32) (x4 : Int32) (u : fb_M) (K5 : Int32 → Int32 → Option Int32) (ha0 : a0 < fb_NT ∧ fb_sh a0 = (9, 40)) (hK5 : ∀ (x3 : Int32) (x4 : Int32) ,  K5 x3 x4 = some res → fb_V g RX9 cX9_rank 6 (some .int) "rank" (fb_room 1 27 0 0) (fb_Qm g (some (.int res)) fb_NT u 0 0) 0 0 fb_NT u 5 [(0, .ref (fb_b g + a0)), (1, .int x1), (2, .int x2), (3, .int x3), (4, .int x4)] []) (h : bX9_rank_5 K5 a0 x1 x2 x3 x4 u = some res) : fb_V g RX9 cX9_rank 6 (some .int) "rank" (fb_room 1 27 0 0) (fb_Qm g (some (.int res)) fb_NT u 0 0) 0 0 fb_NT u 5 [(0, .ref (fb_b g + a0)), (1, .int x1), (2, .int x2), (3, .int x3), (4, .int x4)] [] := by
  unfold bX9_rank_5 at h
  refine fb_iload (pc := 5) dX9_rank_5 4 rfl ?_
  refine fb_aload_n (pc := 7) dX9_rank_7 0 rfl ?_
  refine fb_getI (pc := 8) dX9_rank_8 lkX9_260 ha0.1 ha0.2 rfl ?_
  refine fb_icmp_ge (pc := 11) (tgt := 70) h dX9_rank_11 (by decide) (fun h => ?_) (fun h => ?_)
  · refine fb_iload_n (pc := 70) dX9_rank_70 3 rfl ?_
    exact fb_iretR (pc := 71) h dX9_rank_71
  · refine fb_iload (pc := 14) dX9_rank_14 4 rfl ?_
    refine fb_iload_n (pc := 16) dX9_rank_16 2 rfl ?_
    refine fb_icmp_eq (pc := 17) (tgt := 64) h dX9_rank_17 (by decide) (fun h => ?_) (fun h => ?_)
    · refine fb_iinc (pc := 64) (v := 1) (lv' := [(4, .int (x4 + 1)), (0, .ref (fb_b g + a0)), (1, .int x1), (2, .int x2), (3, .int x3)]) dX9_rank_64 4 rfl fb_ki_1 (by decide) rfl ?_
      refine fb_goto (pc := 67) (tgt := 5) dX9_rank_67 (by decide) ?_
      exact fb_sub [1, 2, 3, 4, 0] rfl (hK5 x3 (x4 + 1) h)
    · refine fb_aload_n (pc := 20) dX9_rank_20 0 rfl ?_
      refine fb_bnE h (fun q21 e21 h => fb_gdE h (fun s21 h => ?_))
      refine fb_getR (pc := 21) dX9_rank_21 lkX9_89 ha0.1 ha0.2 (by decide) e21 ?_
      refine fb_iload (pc := 24) dX9_rank_24 4 rfl ?_
      refine fb_gdE h (fun i26 h => ?_)
      refine fb_zald (pc := 26) dX9_rank_26 s21.1 (fb_eta s21.2) i26 ?_
      refine fb_if_eq (pc := 27) (tgt := 64) h dX9_rank_27 (by decide) (fun h => ?_) (fun h => ?_)
      · refine fb_iinc (pc := 64) (v := 1) (lv' := [(4, .int (x4 + 1)), (0, .ref (fb_b g + a0)), (1, .int x1), (2, .int x2), (3, .int x3)]) dX9_rank_64 4 rfl fb_ki_1 (by decide) rfl ?_
        refine fb_goto (pc := 67) (tgt := 5) dX9_rank_67 (by decide) ?_
        exact fb_sub [1, 2, 3, 4, 0] rfl (hK5 x3 (x4 + 1) h)
      · refine fb_aload_n (pc := 30) dX9_rank_30 0 rfl ?_
        refine fb_iload_n (pc := 31) dX9_rank_31 1 rfl ?_
        refine fb_iload (pc := 32) dX9_rank_32 4 rfl ?_
        refine fb_iload_n (pc := 34) dX9_rank_34 2 rfl ?_
        refine fb_bnE h (fun r35 h35 h => ?_)
        refine fb_cV0v (pc := 35) [.int x1, .int x4, .int x2] dX9_rank_35 (mX9_compare g u a0 x1 x4 x2 ha0 h35) ymX9_compare yiX9_compare ha0.1 ha0.2 ylX9_276 rfl (Nat.le_of_ble_eq_true rfl) ⟨Nat.le_of_ble_eq_true rfl, Nat.le_of_ble_eq_true rfl⟩ ⟨Nat.le_of_ble_eq_true rfl, Nat.le_of_ble_eq_true rfl⟩ ?_
        refine fb_istore (pc := 38) (lv' := [(5, .int r35), (0, .ref (fb_b g + a0)), (1, .int x1), (2, .int x2), (3, .int x3), (4, .int x4)]) dX9_rank_38 (by decide) rfl ?_
        refine fb_iload (pc := 40) dX9_rank_40 0 rfl ?_
        refine fb_if_lt (pc := 42) (tgt := 56) h dX9_rank_42 (by decide) (fun h => ?_) (fun h => ?_)
        · refine fb_iload_n (pc := 56) dX9_rank_56 4 rfl ?_
          refine fb_iconst (pc := 57) (v := 1) dX9_rank_57 fb_ki_1 ?_
          refine fb_iadd (pc := 58) dX9_rank_58 ?_
          refine fb_goto (pc := 59) (tgt := 63) dX9_rank_59 (by decide) ?_
          refine fb_istore_n (pc := 63) (lv' := [(3, .int (x3 + 1)), (5, .int r35), (0, .ref (fb_b g + a0)), (1, .int x1), (2, .int x2), (4, .int x4)]) dX9_rank_63 rfl (by decide) rfl ?_
          refine fb_iinc (pc := 64) (v := 1) (lv' := [(4, .int (x4 + 1)), (3, .int (x3 + 1)), (5, .int r35), (0, .ref (fb_b g + a0)), (1, .int x1), (2, .int x2)]) dX9_rank_64 5 rfl fb_ki_1 (by decide) rfl ?_
          refine fb_goto (pc := 67) (tgt := 5) dX9_rank_67 (by decide) ?_
          exact fb_sub [3, 4, 5, 1, 0] rfl (hK5 (x3 + 1) (x4 + 1) h)
        · refine fb_iload (pc := 45) dX9_rank_45 0 rfl ?_
          refine fb_if_ne (pc := 47) (tgt := 62) h dX9_rank_47 (by decide) (fun h => ?_) (fun h => ?_)
          · refine fb_iload_n (pc := 62) dX9_rank_62 4 rfl ?_
            refine fb_istore_n (pc := 63) (lv' := [(3, .int x3), (5, .int r35), (0, .ref (fb_b g + a0)), (1, .int x1), (2, .int x2), (4, .int x4)]) dX9_rank_63 rfl (by decide) rfl ?_
            refine fb_iinc (pc := 64) (v := 1) (lv' := [(4, .int (x4 + 1)), (3, .int x3), (5, .int r35), (0, .ref (fb_b g + a0)), (1, .int x1), (2, .int x2)]) dX9_rank_64 5 rfl fb_ki_1 (by decide) rfl ?_
            refine fb_goto (pc := 67) (tgt := 5) dX9_rank_67 (by decide) ?_
            exact fb_sub [3, 4, 5, 1, 0] rfl (hK5 x3 (x4 + 1) h)
          · refine fb_iload (pc := 50) dX9_rank_50 5 rfl ?_
            refine fb_iload_n (pc := 52) dX9_rank_52 3 rfl ?_
            refine fb_icmp_ge (pc := 53) (tgt := 62) h dX9_rank_53 (by decide) (fun h => ?_) (fun h => ?_)
            · refine fb_iload_n (pc := 62) dX9_rank_62 4 rfl ?_
              refine fb_istore_n (pc := 63) (lv' := [(3, .int x3), (5, .int r35), (0, .ref (fb_b g + a0)), (1, .int x1), (2, .int x2), (4, .int x4)]) dX9_rank_63 rfl (by decide) rfl ?_
              refine fb_iinc (pc := 64) (v := 1) (lv' := [(4, .int (x4 + 1)), (3, .int x3), (5, .int r35), (0, .ref (fb_b g + a0)), (1, .int x1), (2, .int x2)]) dX9_rank_64 5 rfl fb_ki_1 (by decide) rfl ?_
              refine fb_goto (pc := 67) (tgt := 5) dX9_rank_67 (by decide) ?_
              exact fb_sub [3, 4, 5, 1, 0] rfl (hK5 x3 (x4 + 1) h)
            · refine fb_iload_n (pc := 56) dX9_rank_56 4 rfl ?_
              refine fb_iconst (pc := 57) (v := 1) dX9_rank_57 fb_ki_1 ?_
              refine fb_iadd (pc := 58) dX9_rank_58 ?_
              refine fb_goto (pc := 59) (tgt := 63) dX9_rank_59 (by decide) ?_
              refine fb_istore_n (pc := 63) (lv' := [(3, .int (x3 + 1)), (5, .int r35), (0, .ref (fb_b g + a0)), (1, .int x1), (2, .int x2), (4, .int x4)]) dX9_rank_63 rfl (by decide) rfl ?_
              refine fb_iinc (pc := 64) (v := 1) (lv' := [(4, .int (x4 + 1)), (3, .int (x3 + 1)), (5, .int r35), (0, .ref (fb_b g + a0)), (1, .int x1), (2, .int x2)]) dX9_rank_64 5 rfl fb_ki_1 (by decide) rfl ?_
              refine fb_goto (pc := 67) (tgt := 5) dX9_rank_67 (by decide) ?_
              exact fb_sub [3, 4, 5, 1, 0] rfl (hK5 (x3 + 1) (x4 + 1) h)

theorem tgX9_rank_5 {g : fb_G} {res : Int32} (a0 : Nat) (x1 : Int32) (x2 : Int32) (u : fb_M) (ha0 : a0 < fb_NT ∧ fb_sh a0 = (9, 40)) : ∀ (fu : Nat) (x3 : Int32) (x4 : Int32) ,  gX9_rank_5 a0 x1 x2 u fu x3 x4 = some res → fb_V g RX9 cX9_rank 6 (some .int) "rank" (fb_room 1 27 0 0) (fb_Qm g (some (.int res)) fb_NT u 0 0) 0 0 fb_NT u 5 [(0, .ref (fb_b g + a0)), (1, .int x1), (2, .int x2), (3, .int x3), (4, .int x4)] [] := by
  intro fu
  induction fu with
  | zero => intro x3 x4 h; exact absurd h (by simp [gX9_rank_5])
  | succ fu ih => intro x3 x4 h; exact tbX9_rank_5 a0 x1 x2 x3 x4 u (gX9_rank_5 a0 x1 x2 u fu) ha0 ih h
def fX9_rank (u : fb_M) (a0 : Nat) (x1 : Int32) (x2 : Int32) : Option Int32 :=
 (gX9_rank_5 a0 x1 x2 u fb_F 0 0)
set_option maxRecDepth 100000 in
set_option maxHeartbeats 4000000 in
theorem mX9_rank (g : fb_G) (u : fb_M) (a0 : Nat) (x1 : Int32) (x2 : Int32) (ha0 : a0 < fb_NT ∧ fb_sh a0 = (9, 40)) {res : Int32} (h : fX9_rank u a0 x1 x2 = some res) : fb_Runs g 1 27 0 0 fb_NT fb_NT yX9_rank cX9_rank 6 (some .int) [.ref (fb_b g + a0), .int x1, .int x2] u (some (.int res)) u := by
  unfold fX9_rank at h
  refine fb_enter (by decide) (Nat.le_of_ble_eq_true rfl) ?_
  show fb_V g RX9 cX9_rank 6 (some .int) "rank" (fb_room 1 27 0 0) (fb_Qm g (some (.int res)) fb_NT u 0 0) 0 0 fb_NT u 0 [(0, .ref (fb_b g + a0)), (1, .int x1), (2, .int x2)] []
  refine fb_iconst (pc := 0) (v := 0) dX9_rank_0 fb_ki_0 ?_
  refine fb_istore_n (pc := 1) (lv' := [(3, .int 0), (0, .ref (fb_b g + a0)), (1, .int x1), (2, .int x2)]) dX9_rank_1 rfl (by decide) rfl ?_
  refine fb_iconst (pc := 2) (v := 0) dX9_rank_2 fb_ki_0 ?_
  refine fb_istore (pc := 3) (lv' := [(4, .int 0), (3, .int 0), (0, .ref (fb_b g + a0)), (1, .int x1), (2, .int x2)]) dX9_rank_3 (by decide) rfl ?_
  exact fb_sub [2, 3, 4, 1, 0] rfl (tgX9_rank_5 a0 x1 x2 u ha0 fb_F 0 0 h)

theorem dX9_run_0 : decode cX9_run 0 = .ok (.iload_n 1, 1) := by decide +kernel
theorem dX9_run_1 : decode cX9_run 1 = .ok (.ifCond .lt 11, 3) := by decide +kernel
theorem dX9_run_4 : decode cX9_run 4 = .ok (.iload_n 1, 1) := by decide +kernel
theorem dX9_run_5 : decode cX9_run 5 = .ok (.aload_n 0, 1) := by decide +kernel
theorem dX9_run_6 : decode cX9_run 6 = .ok (.getfield 244, 3) := by decide +kernel
theorem dX9_run_9 : decode cX9_run 9 = .ok (.if_icmp .lt 5, 3) := by decide +kernel
theorem dX9_run_12 : decode cX9_run 12 = .ok (.iconst (-1), 1) := by decide +kernel
theorem dX9_run_13 : decode cX9_run 13 = .ok (.ireturn, 1) := by decide +kernel
theorem dX9_run_14 : decode cX9_run 14 = .ok (.aload_n 0, 1) := by decide +kernel
theorem dX9_run_15 : decode cX9_run 15 = .ok (.getfield 269, 3) := by decide +kernel
theorem dX9_run_18 : decode cX9_run 18 = .ok (.aload_n 0, 1) := by decide +kernel
theorem dX9_run_19 : decode cX9_run 19 = .ok (.iload_n 1, 1) := by decide +kernel
theorem dX9_run_20 : decode cX9_run 20 = .ok (.invokevirtual 254, 3) := by decide +kernel
theorem dX9_run_23 : decode cX9_run 23 = .ok (.if_icmp .ne 7, 3) := by decide +kernel
theorem dX9_run_26 : decode cX9_run 26 = .ok (.iconst 1, 1) := by decide +kernel
theorem dX9_run_27 : decode cX9_run 27 = .ok (.goto 4, 3) := by decide +kernel
theorem dX9_run_30 : decode cX9_run 30 = .ok (.iconst 0, 1) := by decide +kernel
theorem dX9_run_31 : decode cX9_run 31 = .ok (.istore_n 2, 1) := by decide +kernel
theorem dX9_run_32 : decode cX9_run 32 = .ok (.aload_n 0, 1) := by decide +kernel
theorem dX9_run_33 : decode cX9_run 33 = .ok (.iconst 0, 1) := by decide +kernel
theorem dX9_run_34 : decode cX9_run 34 = .ok (.putfield 269, 3) := by decide +kernel
theorem dX9_run_37 : decode cX9_run 37 = .ok (.iload_n 2, 1) := by decide +kernel
theorem dX9_run_38 : decode cX9_run 38 = .ok (.ifCond .ne 6, 3) := by decide +kernel
theorem dX9_run_41 : decode cX9_run 41 = .ok (.bipush (-2), 2) := by decide +kernel
theorem dX9_run_43 : decode cX9_run 43 = .ok (.ireturn, 1) := by decide +kernel
theorem dX9_run_44 : decode cX9_run 44 = .ok (.iconst 0, 1) := by decide +kernel
theorem dX9_run_45 : decode cX9_run 45 = .ok (.istore_n 3, 1) := by decide +kernel
theorem dX9_run_46 : decode cX9_run 46 = .ok (.iload_n 3, 1) := by decide +kernel
theorem dX9_run_47 : decode cX9_run 47 = .ok (.aload_n 0, 1) := by decide +kernel
theorem dX9_run_48 : decode cX9_run 48 = .ok (.getfield 260, 3) := by decide +kernel
theorem dX9_run_51 : decode cX9_run 51 = .ok (.if_icmp .ge 21, 3) := by decide +kernel
theorem dX9_run_54 : decode cX9_run 54 = .ok (.aload_n 0, 1) := by decide +kernel
theorem dX9_run_55 : decode cX9_run 55 = .ok (.getfield 89, 3) := by decide +kernel
theorem dX9_run_58 : decode cX9_run 58 = .ok (.iload_n 3, 1) := by decide +kernel
theorem dX9_run_59 : decode cX9_run 59 = .ok (.aload_n 0, 1) := by decide +kernel
theorem dX9_run_60 : decode cX9_run 60 = .ok (.iload_n 1, 1) := by decide +kernel
theorem dX9_run_61 : decode cX9_run 61 = .ok (.iload_n 3, 1) := by decide +kernel
theorem dX9_run_62 : decode cX9_run 62 = .ok (.invokevirtual 279, 3) := by decide +kernel
theorem dX9_run_65 : decode cX9_run 65 = .ok (.bastore, 1) := by decide +kernel
theorem dX9_run_66 : decode cX9_run 66 = .ok (.iinc 3 1, 3) := by decide +kernel
theorem dX9_run_69 : decode cX9_run 69 = .ok (.goto (-23), 3) := by decide +kernel
theorem dX9_run_72 : decode cX9_run 72 = .ok (.iconst 0, 1) := by decide +kernel
theorem dX9_run_73 : decode cX9_run 73 = .ok (.istore_n 3, 1) := by decide +kernel
theorem dX9_run_74 : decode cX9_run 74 = .ok (.iconst 0, 1) := by decide +kernel
theorem dX9_run_75 : decode cX9_run 75 = .ok (.istore 4, 2) := by decide +kernel
theorem dX9_run_77 : decode cX9_run 77 = .ok (.iload 4, 2) := by decide +kernel
theorem dX9_run_79 : decode cX9_run 79 = .ok (.aload_n 0, 1) := by decide +kernel
theorem dX9_run_80 : decode cX9_run 80 = .ok (.getfield 260, 3) := by decide +kernel
theorem dX9_run_83 : decode cX9_run 83 = .ok (.if_icmp .ge 87, 3) := by decide +kernel
theorem dX9_run_86 : decode cX9_run 86 = .ok (.aload_n 0, 1) := by decide +kernel
theorem dX9_run_87 : decode cX9_run 87 = .ok (.iload_n 1, 1) := by decide +kernel
theorem dX9_run_88 : decode cX9_run 88 = .ok (.iload 4, 2) := by decide +kernel
theorem dX9_run_90 : decode cX9_run 90 = .ok (.invokevirtual 283, 3) := by decide +kernel
theorem dX9_run_93 : decode cX9_run 93 = .ok (.istore 5, 2) := by decide +kernel
theorem dX9_run_95 : decode cX9_run 95 = .ok (.aload_n 0, 1) := by decide +kernel
theorem dX9_run_96 : decode cX9_run 96 = .ok (.getfield 92, 3) := by decide +kernel
theorem dX9_run_99 : decode cX9_run 99 = .ok (.iload 4, 2) := by decide +kernel
theorem dX9_run_101 : decode cX9_run 101 = .ok (.aload_n 0, 1) := by decide +kernel
theorem dX9_run_102 : decode cX9_run 102 = .ok (.getfield 89, 3) := by decide +kernel
theorem dX9_run_105 : decode cX9_run 105 = .ok (.iload 4, 2) := by decide +kernel
theorem dX9_run_107 : decode cX9_run 107 = .ok (.baload, 1) := by decide +kernel
theorem dX9_run_108 : decode cX9_run 108 = .ok (.ifCond .eq 27, 3) := by decide +kernel
theorem dX9_run_111 : decode cX9_run 111 = .ok (.aload_n 0, 1) := by decide +kernel
theorem dX9_run_112 : decode cX9_run 112 = .ok (.getfield 22, 3) := by decide +kernel
theorem dX9_run_115 : decode cX9_run 115 = .ok (.iload_n 1, 1) := by decide +kernel
theorem dX9_run_116 : decode cX9_run 116 = .ok (.iaload, 1) := by decide +kernel
theorem dX9_run_117 : decode cX9_run 117 = .ok (.ifCond .eq 14, 3) := by decide +kernel
theorem dX9_run_120 : decode cX9_run 120 = .ok (.iload 5, 2) := by decide +kernel
theorem dX9_run_122 : decode cX9_run 122 = .ok (.aload_n 0, 1) := by decide +kernel
theorem dX9_run_123 : decode cX9_run 123 = .ok (.getfield 22, 3) := by decide +kernel
theorem dX9_run_126 : decode cX9_run 126 = .ok (.iload_n 1, 1) := by decide +kernel
theorem dX9_run_127 : decode cX9_run 127 = .ok (.iaload, 1) := by decide +kernel
theorem dX9_run_128 : decode cX9_run 128 = .ok (.if_icmp .ge 7, 3) := by decide +kernel
theorem dX9_run_131 : decode cX9_run 131 = .ok (.iconst 1, 1) := by decide +kernel
theorem dX9_run_132 : decode cX9_run 132 = .ok (.goto 4, 3) := by decide +kernel
theorem dX9_run_135 : decode cX9_run 135 = .ok (.iconst 0, 1) := by decide +kernel
theorem dX9_run_136 : decode cX9_run 136 = .ok (.bastore, 1) := by decide +kernel
theorem dX9_run_137 : decode cX9_run 137 = .ok (.aload_n 0, 1) := by decide +kernel
theorem dX9_run_138 : decode cX9_run 138 = .ok (.getfield 92, 3) := by decide +kernel
theorem dX9_run_141 : decode cX9_run 141 = .ok (.iload 4, 2) := by decide +kernel
theorem dX9_run_143 : decode cX9_run 143 = .ok (.baload, 1) := by decide +kernel
theorem dX9_run_144 : decode cX9_run 144 = .ok (.ifCond .eq 20, 3) := by decide +kernel
theorem dX9_run_147 : decode cX9_run 147 = .ok (.aload_n 0, 1) := by decide +kernel
theorem dX9_run_148 : decode cX9_run 148 = .ok (.getfield 86, 3) := by decide +kernel
theorem dX9_run_151 : decode cX9_run 151 = .ok (.iload 5, 2) := by decide +kernel
theorem dX9_run_153 : decode cX9_run 153 = .ok (.aload_n 0, 1) := by decide +kernel
theorem dX9_run_154 : decode cX9_run 154 = .ok (.getfield 68, 3) := by decide +kernel
theorem dX9_run_157 : decode cX9_run 157 = .ok (.iload 4, 2) := by decide +kernel
theorem dX9_run_159 : decode cX9_run 159 = .ok (.iaload, 1) := by decide +kernel
theorem dX9_run_160 : decode cX9_run 160 = .ok (.iastore, 1) := by decide +kernel
theorem dX9_run_161 : decode cX9_run 161 = .ok (.iinc 3 1, 3) := by decide +kernel
theorem dX9_run_164 : decode cX9_run 164 = .ok (.iinc 4 1, 3) := by decide +kernel
theorem dX9_run_167 : decode cX9_run 167 = .ok (.goto (-90), 3) := by decide +kernel
theorem dX9_run_170 : decode cX9_run 170 = .ok (.aload_n 0, 1) := by decide +kernel
theorem dX9_run_171 : decode cX9_run 171 = .ok (.aload_n 0, 1) := by decide +kernel
theorem dX9_run_172 : decode cX9_run 172 = .ok (.getfield 19, 3) := by decide +kernel
theorem dX9_run_175 : decode cX9_run 175 = .ok (.iload_n 1, 1) := by decide +kernel
theorem dX9_run_176 : decode cX9_run 176 = .ok (.iaload, 1) := by decide +kernel
theorem dX9_run_177 : decode cX9_run 177 = .ok (.ifCond .ne 21, 3) := by decide +kernel
theorem dX9_run_180 : decode cX9_run 180 = .ok (.aload_n 0, 1) := by decide +kernel
theorem dX9_run_181 : decode cX9_run 181 = .ok (.getfield 25, 3) := by decide +kernel
theorem dX9_run_184 : decode cX9_run 184 = .ok (.iload_n 1, 1) := by decide +kernel
theorem dX9_run_185 : decode cX9_run 185 = .ok (.baload, 1) := by decide +kernel
theorem dX9_run_186 : decode cX9_run 186 = .ok (.ifCond .eq 8, 3) := by decide +kernel
theorem dX9_run_189 : decode cX9_run 189 = .ok (.iload_n 3, 1) := by decide +kernel
theorem dX9_run_190 : decode cX9_run 190 = .ok (.iconst 1, 1) := by decide +kernel
theorem dX9_run_191 : decode cX9_run 191 = .ok (.if_icmp .gt 7, 3) := by decide +kernel
theorem dX9_run_194 : decode cX9_run 194 = .ok (.iload_n 3, 1) := by decide +kernel
theorem dX9_run_195 : decode cX9_run 195 = .ok (.goto 4, 3) := by decide +kernel
theorem dX9_run_198 : decode cX9_run 198 = .ok (.iconst 0, 1) := by decide +kernel
theorem dX9_run_199 : decode cX9_run 199 = .ok (.putfield 286, 3) := by decide +kernel
theorem dX9_run_202 : decode cX9_run 202 = .ok (.aload_n 0, 1) := by decide +kernel
theorem dX9_run_203 : decode cX9_run 203 = .ok (.getfield 260, 3) := by decide +kernel
theorem dX9_run_206 : decode cX9_run 206 = .ok (.iconst 1, 1) := by decide +kernel
theorem dX9_run_207 : decode cX9_run 207 = .ok (.isub, 1) := by decide +kernel
theorem dX9_run_208 : decode cX9_run 208 = .ok (.istore 4, 2) := by decide +kernel
theorem dX9_run_210 : decode cX9_run 210 = .ok (.iload 4, 2) := by decide +kernel
theorem dX9_run_212 : decode cX9_run 212 = .ok (.ifCond .lt 35, 3) := by decide +kernel
theorem dX9_run_215 : decode cX9_run 215 = .ok (.aload_n 0, 1) := by decide +kernel
theorem dX9_run_216 : decode cX9_run 216 = .ok (.getfield 19, 3) := by decide +kernel
theorem dX9_run_219 : decode cX9_run 219 = .ok (.iload_n 1, 1) := by decide +kernel
theorem dX9_run_220 : decode cX9_run 220 = .ok (.iaload, 1) := by decide +kernel
theorem dX9_run_221 : decode cX9_run 221 = .ok (.iconst 3, 1) := by decide +kernel
theorem dX9_run_222 : decode cX9_run 222 = .ok (.if_icmp .ne 25, 3) := by decide +kernel
theorem dX9_run_225 : decode cX9_run 225 = .ok (.aload_n 0, 1) := by decide +kernel
theorem dX9_run_226 : decode cX9_run 226 = .ok (.getfield 92, 3) := by decide +kernel
theorem dX9_run_229 : decode cX9_run 229 = .ok (.iload 4, 2) := by decide +kernel
theorem dX9_run_231 : decode cX9_run 231 = .ok (.baload, 1) := by decide +kernel
theorem dX9_run_232 : decode cX9_run 232 = .ok (.ifCond .eq 9, 3) := by decide +kernel
theorem dX9_run_235 : decode cX9_run 235 = .ok (.aload_n 0, 1) := by decide +kernel
theorem dX9_run_236 : decode cX9_run 236 = .ok (.iload 4, 2) := by decide +kernel
theorem dX9_run_238 : decode cX9_run 238 = .ok (.invokevirtual 266, 3) := by decide +kernel
theorem dX9_run_241 : decode cX9_run 241 = .ok (.iinc 4 (-1), 3) := by decide +kernel
theorem dX9_run_244 : decode cX9_run 244 = .ok (.goto (-34), 3) := by decide +kernel
theorem dX9_run_247 : decode cX9_run 247 = .ok (.aload_n 0, 1) := by decide +kernel
theorem dX9_run_248 : decode cX9_run 248 = .ok (.getfield 19, 3) := by decide +kernel
theorem dX9_run_251 : decode cX9_run 251 = .ok (.iload_n 1, 1) := by decide +kernel
theorem dX9_run_252 : decode cX9_run 252 = .ok (.iaload, 1) := by decide +kernel
theorem dX9_run_253 : decode cX9_run 253 = .ok (.iconst 2, 1) := by decide +kernel
theorem dX9_run_254 : decode cX9_run 254 = .ok (.if_icmp .ne 15, 3) := by decide +kernel
theorem dX9_run_257 : decode cX9_run 257 = .ok (.iload_n 3, 1) := by decide +kernel
theorem dX9_run_258 : decode cX9_run 258 = .ok (.ifCond .le 7, 3) := by decide +kernel
theorem dX9_run_261 : decode cX9_run 261 = .ok (.iconst 1, 1) := by decide +kernel
theorem dX9_run_262 : decode cX9_run 262 = .ok (.goto 27, 3) := by decide +kernel
theorem dX9_run_265 : decode cX9_run 265 = .ok (.iconst 0, 1) := by decide +kernel
theorem dX9_run_266 : decode cX9_run 266 = .ok (.goto 23, 3) := by decide +kernel
theorem dX9_run_269 : decode cX9_run 269 = .ok (.aload_n 0, 1) := by decide +kernel
theorem dX9_run_270 : decode cX9_run 270 = .ok (.getfield 25, 3) := by decide +kernel
theorem dX9_run_273 : decode cX9_run 273 = .ok (.iload_n 1, 1) := by decide +kernel
theorem dX9_run_274 : decode cX9_run 274 = .ok (.baload, 1) := by decide +kernel
theorem dX9_run_275 : decode cX9_run 275 = .ok (.ifCond .eq 13, 3) := by decide +kernel
theorem dX9_run_278 : decode cX9_run 278 = .ok (.iload_n 3, 1) := by decide +kernel
theorem dX9_run_279 : decode cX9_run 279 = .ok (.iconst 1, 1) := by decide +kernel
theorem dX9_run_280 : decode cX9_run 280 = .ok (.if_icmp .le 8, 3) := by decide +kernel
theorem dX9_run_283 : decode cX9_run 283 = .ok (.bipush (-3), 2) := by decide +kernel
theorem dX9_run_285 : decode cX9_run 285 = .ok (.goto 4, 3) := by decide +kernel
theorem dX9_run_288 : decode cX9_run 288 = .ok (.iload_n 3, 1) := by decide +kernel
theorem dX9_run_289 : decode cX9_run 289 = .ok (.ireturn, 1) := by decide +kernel
def jX9_run_247 (a0 : Nat) (x1 : Int32) (x3 : Int32) (u : fb_M) : Option (Int32 × fb_M) :=
 ((fb_R u a0 6).bind fun q248 => fb_gd (q248 < fb_NT ∧ (fb_sh q248).1 = 100) 
  ((fb_gd (¬ (x1 < 0 ∨ (fb_sh q248).2 ≤ x1.toNatClampNeg)) 
  (if (fb_I u q248 x1.toNatClampNeg) = 2 then (if x3 ≤ 0 then (some (0, u))
   else (some (1, u)))
  else ((fb_R u a0 8).bind fun q270 => fb_gd (q270 < fb_NT ∧ (fb_sh q270).1 = 102) 
   ((fb_gd (¬ (x1 < 0 ∨ (fb_sh q270).2 ≤ x1.toNatClampNeg)) 
   (if (fb_I u q270 x1.toNatClampNeg) = 0 then (some (x3, u))
   else (if x3 ≤ 1 then (some (x3, u))
    else (some ((-3), u)))))))))))
set_option maxRecDepth 100000 in
set_option maxHeartbeats 4000000 in
theorem tjX9_run_247 {g : fb_G} {res : (Int32 × fb_M)} (a0 : Nat) (x1 : Int32) (x3 : Int32) (u : fb_M) (ha0 : a0 < fb_NT ∧ fb_sh a0 = (9, 40)) (h : jX9_run_247 a0 x1 x3 u = some res) : fb_V g RX9 cX9_run 6 (some .int) "run" (fb_room 2 55 0 0) (fb_Qm g (some (.int res.1)) fb_NT res.2 0 0) 0 0 fb_NT u 247 [(0, .ref (fb_b g + a0)), (1, .int x1), (3, .int x3)] [] := by
  unfold jX9_run_247 at h
  refine fb_aload_n (pc := 247) dX9_run_247 0 rfl ?_
  refine fb_bnE h (fun q248 e248 h => fb_gdE h (fun s248 h => ?_))
  refine fb_getR (pc := 248) dX9_run_248 lkX9_19 ha0.1 ha0.2 (by decide) e248 ?_
  refine fb_iload_n (pc := 251) dX9_run_251 1 rfl ?_
  refine fb_gdE h (fun i252 h => ?_)
  refine fb_iald (pc := 252) dX9_run_252 s248.1 (fb_eta s248.2) i252 ?_
  refine fb_iconst (pc := 253) (v := 2) dX9_run_253 fb_ki_2 ?_
  refine fb_icmp_ne (pc := 254) (tgt := 269) h dX9_run_254 (by decide) (fun h => ?_) (fun h => ?_)
  · refine fb_aload_n (pc := 269) dX9_run_269 0 rfl ?_
    refine fb_bnE h (fun q270 e270 h => fb_gdE h (fun s270 h => ?_))
    refine fb_getR (pc := 270) dX9_run_270 lkX9_25 ha0.1 ha0.2 (by decide) e270 ?_
    refine fb_iload_n (pc := 273) dX9_run_273 1 rfl ?_
    refine fb_gdE h (fun i274 h => ?_)
    refine fb_zald (pc := 274) dX9_run_274 s270.1 (fb_eta s270.2) i274 ?_
    refine fb_if_eq (pc := 275) (tgt := 288) h dX9_run_275 (by decide) (fun h => ?_) (fun h => ?_)
    · refine fb_iload_n (pc := 288) dX9_run_288 2 rfl ?_
      exact fb_iretM (pc := 289) h dX9_run_289
    · refine fb_iload_n (pc := 278) dX9_run_278 2 rfl ?_
      refine fb_iconst (pc := 279) (v := 1) dX9_run_279 fb_ki_1 ?_
      refine fb_icmp_le (pc := 280) (tgt := 288) h dX9_run_280 (by decide) (fun h => ?_) (fun h => ?_)
      · refine fb_iload_n (pc := 288) dX9_run_288 2 rfl ?_
        exact fb_iretM (pc := 289) h dX9_run_289
      · refine fb_bipush (pc := 283) (v := (-3)) dX9_run_283 fb_kb_m3 ?_
        refine fb_goto (pc := 285) (tgt := 289) dX9_run_285 (by decide) ?_
        exact fb_iretM (pc := 289) h dX9_run_289
  · refine fb_iload_n (pc := 257) dX9_run_257 2 rfl ?_
    refine fb_if_le (pc := 258) (tgt := 265) h dX9_run_258 (by decide) (fun h => ?_) (fun h => ?_)
    · refine fb_iconst (pc := 265) (v := 0) dX9_run_265 fb_ki_0 ?_
      refine fb_goto (pc := 266) (tgt := 289) dX9_run_266 (by decide) ?_
      exact fb_iretM (pc := 289) h dX9_run_289
    · refine fb_iconst (pc := 261) (v := 1) dX9_run_261 fb_ki_1 ?_
      refine fb_goto (pc := 262) (tgt := 289) dX9_run_262 (by decide) ?_
      exact fb_iretM (pc := 289) h dX9_run_289

def bX9_run_210 (K210 : Int32 → fb_M → Option (Int32 × fb_M)) (a0 : Nat) (x1 : Int32) (x3 : Int32) (x4 : Int32) (u : fb_M) : Option (Int32 × fb_M) :=
 (if x4 < 0 then (jX9_run_247 a0 x1 x3 u)
  else ((fb_R u a0 6).bind fun q216 => fb_gd (q216 < fb_NT ∧ (fb_sh q216).1 = 100) 
   ((fb_gd (¬ (x1 < 0 ∨ (fb_sh q216).2 ≤ x1.toNatClampNeg)) 
   (if (fb_I u q216 x1.toNatClampNeg) = 3 then ((fb_R u a0 39).bind fun q226 => fb_gd (q226 < fb_NT ∧ (fb_sh q226).1 = 102) 
    ((fb_gd (¬ (x4 < 0 ∨ (fb_sh q226).2 ≤ x4.toNatClampNeg)) 
    (if (fb_I u q226 x4.toNatClampNeg) = 0 then (K210 (x4 + (-1)) u)
    else ((fX9_removeAt u a0 x4).bind fun r238 => 
     (K210 (x4 + (-1)) r238))))))
   else (jX9_run_247 a0 x1 x3 u))))))
def gX9_run_210 (a0 : Nat) (x1 : Int32) (x3 : Int32) : Nat → Int32 → fb_M → Option (Int32 × fb_M)
 | 0 => fun _ _ => none
 | fu + 1 => fun x4 u => bX9_run_210 (gX9_run_210 a0 x1 x3 fu) a0 x1 x3 x4 u
set_option maxRecDepth 100000 in
set_option maxHeartbeats 4000000 in
theorem tbX9_run_210 {g : fb_G} {res : (Int32 × fb_M)} (a0 : Nat) (x1 : Int32) (x3 : Int32) (x4 : Int32) (u : fb_M) (K210 : Int32 → fb_M → Option (Int32 × fb_M)) (ha0 : a0 < fb_NT ∧ fb_sh a0 = (9, 40)) (hK210 : ∀ (x4 : Int32) (u : fb_M) ,  K210 x4 u = some res → fb_V g RX9 cX9_run 6 (some .int) "run" (fb_room 2 55 0 0) (fb_Qm g (some (.int res.1)) fb_NT res.2 0 0) 0 0 fb_NT u 210 [(0, .ref (fb_b g + a0)), (1, .int x1), (3, .int x3), (4, .int x4)] []) (h : bX9_run_210 K210 a0 x1 x3 x4 u = some res) : fb_V g RX9 cX9_run 6 (some .int) "run" (fb_room 2 55 0 0) (fb_Qm g (some (.int res.1)) fb_NT res.2 0 0) 0 0 fb_NT u 210 [(0, .ref (fb_b g + a0)), (1, .int x1), (3, .int x3), (4, .int x4)] [] := by
  unfold bX9_run_210 at h
  refine fb_iload (pc := 210) dX9_run_210 3 rfl ?_
  refine fb_if_lt (pc := 212) (tgt := 247) h dX9_run_212 (by decide) (fun h => ?_) (fun h => ?_)
  · exact fb_sub [0, 1, 2] rfl (tjX9_run_247 a0 x1 x3 u ha0 h)
  · refine fb_aload_n (pc := 215) dX9_run_215 0 rfl ?_
    refine fb_bnE h (fun q216 e216 h => fb_gdE h (fun s216 h => ?_))
    refine fb_getR (pc := 216) dX9_run_216 lkX9_19 ha0.1 ha0.2 (by decide) e216 ?_
    refine fb_iload_n (pc := 219) dX9_run_219 1 rfl ?_
    refine fb_gdE h (fun i220 h => ?_)
    refine fb_iald (pc := 220) dX9_run_220 s216.1 (fb_eta s216.2) i220 ?_
    refine fb_iconst (pc := 221) (v := 3) dX9_run_221 fb_ki_3 ?_
    refine fb_icmp_ne (pc := 222) (tgt := 247) h dX9_run_222 (by decide) (fun h => ?_) (fun h => ?_)
    · exact fb_sub [0, 1, 2] rfl (tjX9_run_247 a0 x1 x3 u ha0 h)
    · refine fb_aload_n (pc := 225) dX9_run_225 0 rfl ?_
      refine fb_bnE h (fun q226 e226 h => fb_gdE h (fun s226 h => ?_))
      refine fb_getR (pc := 226) dX9_run_226 lkX9_92 ha0.1 ha0.2 (by decide) e226 ?_
      refine fb_iload (pc := 229) dX9_run_229 3 rfl ?_
      refine fb_gdE h (fun i231 h => ?_)
      refine fb_zald (pc := 231) dX9_run_231 s226.1 (fb_eta s226.2) i231 ?_
      refine fb_if_eq (pc := 232) (tgt := 241) h dX9_run_232 (by decide) (fun h => ?_) (fun h => ?_)
      · refine fb_iinc (pc := 241) (v := (-1)) (lv' := [(4, .int (x4 + (-1))), (0, .ref (fb_b g + a0)), (1, .int x1), (3, .int x3)]) dX9_run_241 3 rfl fb_ki_m1 (by decide) rfl ?_
        refine fb_goto (pc := 244) (tgt := 210) dX9_run_244 (by decide) ?_
        exact fb_sub [1, 2, 3, 0] rfl (hK210 (x4 + (-1)) u h)
      · refine fb_aload_n (pc := 235) dX9_run_235 0 rfl ?_
        refine fb_iload (pc := 236) dX9_run_236 3 rfl ?_
        refine fb_bnE h (fun r238 h238 h => ?_)
        refine fb_cV0n (pc := 238) [.int x4] dX9_run_238 (mX9_removeAt g u a0 x4 ha0 h238) ymX9_removeAt yiX9_removeAt ha0.1 ha0.2 ylX9_266 rfl (Nat.le_of_ble_eq_true rfl) ⟨Nat.le_of_ble_eq_true rfl, Nat.le_of_ble_eq_true rfl⟩ ⟨Nat.le_of_ble_eq_true rfl, Nat.le_of_ble_eq_true rfl⟩ ?_
        refine fb_iinc (pc := 241) (v := (-1)) (lv' := [(4, .int (x4 + (-1))), (0, .ref (fb_b g + a0)), (1, .int x1), (3, .int x3)]) dX9_run_241 3 rfl fb_ki_m1 (by decide) rfl ?_
        refine fb_goto (pc := 244) (tgt := 210) dX9_run_244 (by decide) ?_
        exact fb_sub [1, 2, 3, 0] rfl (hK210 (x4 + (-1)) r238 h)

theorem tgX9_run_210 {g : fb_G} {res : (Int32 × fb_M)} (a0 : Nat) (x1 : Int32) (x3 : Int32) (ha0 : a0 < fb_NT ∧ fb_sh a0 = (9, 40)) : ∀ (fu : Nat) (x4 : Int32) (u : fb_M) ,  gX9_run_210 a0 x1 x3 fu x4 u = some res → fb_V g RX9 cX9_run 6 (some .int) "run" (fb_room 2 55 0 0) (fb_Qm g (some (.int res.1)) fb_NT res.2 0 0) 0 0 fb_NT u 210 [(0, .ref (fb_b g + a0)), (1, .int x1), (3, .int x3), (4, .int x4)] [] := by
  intro fu
  induction fu with
  | zero => intro x4 u h; exact absurd h (by simp [gX9_run_210])
  | succ fu ih => intro x4 u h; exact tbX9_run_210 a0 x1 x3 x4 u (gX9_run_210 a0 x1 x3 fu) ha0 ih h
def jX9_run_136 (K77 : Int32 → Int32 → fb_M → Option (Int32 × fb_M)) (a0 : Nat) (x1 : Int32) (x3 : Int32) (x4 : Int32) (x5 : Int32) (b0 : Nat) (k1 : Int32) (k2 : Int32) (u : fb_M) : Option (Int32 × fb_M) :=
 (fb_gd (¬ (k1 < 0 ∨ (fb_sh b0).2 ≤ k1.toNatClampNeg)) 
  ((fb_R (fb_wI u b0 k1.toNatClampNeg (vp_nar .boolean k2)) a0 39).bind fun q138 => fb_gd (q138 < fb_NT ∧ (fb_sh q138).1 = 102) 
  ((fb_gd (¬ (x4 < 0 ∨ (fb_sh q138).2 ≤ x4.toNatClampNeg)) 
  (if (fb_I (fb_wI u b0 k1.toNatClampNeg (vp_nar .boolean k2)) q138 x4.toNatClampNeg) = 0 then (K77 x3 (x4 + 1) (fb_wI u b0 k1.toNatClampNeg (vp_nar .boolean k2)))
  else ((fb_R (fb_wI u b0 k1.toNatClampNeg (vp_nar .boolean k2)) a0 36).bind fun q148 => fb_gd (q148 < fb_NT ∧ (fb_sh q148).1 = 100) 
   (((fb_R (fb_wI u b0 k1.toNatClampNeg (vp_nar .boolean k2)) a0 29).bind fun q154 => fb_gd (q154 < fb_NT ∧ (fb_sh q154).1 = 100) 
   ((fb_gd (¬ (x4 < 0 ∨ (fb_sh q154).2 ≤ x4.toNatClampNeg)) 
   (fb_gd (¬ (x5 < 0 ∨ (fb_sh q148).2 ≤ x5.toNatClampNeg)) 
   (K77 (x3 + 1) (x4 + 1) (fb_wI (fb_wI u b0 k1.toNatClampNeg (vp_nar .boolean k2)) q148 x5.toNatClampNeg (fb_I (fb_wI u b0 k1.toNatClampNeg (vp_nar .boolean k2)) q154 x4.toNatClampNeg))))))))))))))
set_option maxRecDepth 100000 in
set_option maxHeartbeats 4000000 in
theorem tjX9_run_136 {g : fb_G} {res : (Int32 × fb_M)} (a0 : Nat) (x1 : Int32) (x3 : Int32) (x4 : Int32) (x5 : Int32) (b0 : Nat) (k1 : Int32) (k2 : Int32) (u : fb_M) (K77 : Int32 → Int32 → fb_M → Option (Int32 × fb_M)) (ha0 : a0 < fb_NT ∧ fb_sh a0 = (9, 40)) (hb0 : b0 < fb_NT ∧ (fb_sh b0).1 = 102) (hK77 : ∀ (x3 : Int32) (x4 : Int32) (u : fb_M) ,  K77 x3 x4 u = some res → fb_V g RX9 cX9_run 6 (some .int) "run" (fb_room 2 55 0 0) (fb_Qm g (some (.int res.1)) fb_NT res.2 0 0) 0 0 fb_NT u 77 [(0, .ref (fb_b g + a0)), (1, .int x1), (3, .int x3), (4, .int x4)] []) (h : jX9_run_136 K77 a0 x1 x3 x4 x5 b0 k1 k2 u = some res) : fb_V g RX9 cX9_run 6 (some .int) "run" (fb_room 2 55 0 0) (fb_Qm g (some (.int res.1)) fb_NT res.2 0 0) 0 0 fb_NT u 136 [(0, .ref (fb_b g + a0)), (1, .int x1), (3, .int x3), (4, .int x4), (5, .int x5)] [.int k2, .int k1, .ref (fb_b g + b0)] := by
  unfold jX9_run_136 at h
  refine fb_gdE h (fun i136 h => ?_)
  refine fb_zast (pc := 136) dX9_run_136 hb0.1 (fb_eta hb0.2) i136 ?_
  refine fb_aload_n (pc := 137) dX9_run_137 0 rfl ?_
  refine fb_bnE h (fun q138 e138 h => fb_gdE h (fun s138 h => ?_))
  refine fb_getR (pc := 138) dX9_run_138 lkX9_92 ha0.1 ha0.2 (by decide) e138 ?_
  refine fb_iload (pc := 141) dX9_run_141 3 rfl ?_
  refine fb_gdE h (fun i143 h => ?_)
  refine fb_zald (pc := 143) dX9_run_143 s138.1 (fb_eta s138.2) i143 ?_
  refine fb_if_eq (pc := 144) (tgt := 164) h dX9_run_144 (by decide) (fun h => ?_) (fun h => ?_)
  · refine fb_iinc (pc := 164) (v := 1) (lv' := [(4, .int (x4 + 1)), (0, .ref (fb_b g + a0)), (1, .int x1), (3, .int x3), (5, .int x5)]) dX9_run_164 3 rfl fb_ki_1 (by decide) rfl ?_
    refine fb_goto (pc := 167) (tgt := 77) dX9_run_167 (by decide) ?_
    exact fb_sub [1, 2, 3, 0] rfl (hK77 x3 (x4 + 1) (fb_wI u b0 k1.toNatClampNeg (vp_nar .boolean k2)) h)
  · refine fb_aload_n (pc := 147) dX9_run_147 0 rfl ?_
    refine fb_bnE h (fun q148 e148 h => fb_gdE h (fun s148 h => ?_))
    refine fb_getR (pc := 148) dX9_run_148 lkX9_86 ha0.1 ha0.2 (by decide) e148 ?_
    refine fb_iload (pc := 151) dX9_run_151 4 rfl ?_
    refine fb_aload_n (pc := 153) dX9_run_153 0 rfl ?_
    refine fb_bnE h (fun q154 e154 h => fb_gdE h (fun s154 h => ?_))
    refine fb_getR (pc := 154) dX9_run_154 lkX9_68 ha0.1 ha0.2 (by decide) e154 ?_
    refine fb_iload (pc := 157) dX9_run_157 3 rfl ?_
    refine fb_gdE h (fun i159 h => ?_)
    refine fb_iald (pc := 159) dX9_run_159 s154.1 (fb_eta s154.2) i159 ?_
    refine fb_gdE h (fun i160 h => ?_)
    refine fb_iast (pc := 160) dX9_run_160 s148.1 (fb_eta s148.2) i160 ?_
    refine fb_iinc (pc := 161) (v := 1) (lv' := [(3, .int (x3 + 1)), (0, .ref (fb_b g + a0)), (1, .int x1), (4, .int x4), (5, .int x5)]) dX9_run_161 2 rfl fb_ki_1 (by decide) rfl ?_
    refine fb_iinc (pc := 164) (v := 1) (lv' := [(4, .int (x4 + 1)), (3, .int (x3 + 1)), (0, .ref (fb_b g + a0)), (1, .int x1), (5, .int x5)]) dX9_run_164 3 rfl fb_ki_1 (by decide) rfl ?_
    refine fb_goto (pc := 167) (tgt := 77) dX9_run_167 (by decide) ?_
    exact fb_sub [2, 3, 1, 0] rfl (hK77 (x3 + 1) (x4 + 1) (fb_wI (fb_wI u b0 k1.toNatClampNeg (vp_nar .boolean k2)) q148 x5.toNatClampNeg (fb_I (fb_wI u b0 k1.toNatClampNeg (vp_nar .boolean k2)) q154 x4.toNatClampNeg)) h)

def bX9_run_77 (K77 : Int32 → Int32 → fb_M → Option (Int32 × fb_M)) (a0 : Nat) (x1 : Int32) (x3 : Int32) (x4 : Int32) (u : fb_M) : Option (Int32 × fb_M) :=
 (if (fb_I u a0 28) ≤ x4 then ((fb_R u a0 6).bind fun q172 => fb_gd (q172 < fb_NT ∧ (fb_sh q172).1 = 100) 
   ((fb_gd (¬ (x1 < 0 ∨ (fb_sh q172).2 ≤ x1.toNatClampNeg)) 
   (if (fb_I u q172 x1.toNatClampNeg) = 0 then ((fb_R u a0 8).bind fun q181 => fb_gd (q181 < fb_NT ∧ (fb_sh q181).1 = 102) 
    ((fb_gd (¬ (x1 < 0 ∨ (fb_sh q181).2 ≤ x1.toNatClampNeg)) 
    (if (fb_I u q181 x1.toNatClampNeg) = 0 then (gX9_run_210 a0 x1 x3 fb_F ((fb_I (fb_wI u a0 37 x3) a0 28) - 1) (fb_wI u a0 37 x3))
    else (if 1 < x3 then (gX9_run_210 a0 x1 x3 fb_F ((fb_I (fb_wI u a0 37 0) a0 28) - 1) (fb_wI u a0 37 0))
     else (gX9_run_210 a0 x1 x3 fb_F ((fb_I (fb_wI u a0 37 x3) a0 28) - 1) (fb_wI u a0 37 x3)))))))
   else (gX9_run_210 a0 x1 x3 fb_F ((fb_I (fb_wI u a0 37 0) a0 28) - 1) (fb_wI u a0 37 0))))))
  else ((fX9_rank u a0 x1 x4).bind fun r90 => 
   ((fb_R u a0 39).bind fun q96 => fb_gd (q96 < fb_NT ∧ (fb_sh q96).1 = 102) 
   (((fb_R u a0 38).bind fun q102 => fb_gd (q102 < fb_NT ∧ (fb_sh q102).1 = 102) 
   ((fb_gd (¬ (x4 < 0 ∨ (fb_sh q102).2 ≤ x4.toNatClampNeg)) 
   (if (fb_I u q102 x4.toNatClampNeg) = 0 then (jX9_run_136 K77 a0 x1 x3 x4 r90 q96 x4 0 u)
   else ((fb_R u a0 7).bind fun q112 => fb_gd (q112 < fb_NT ∧ (fb_sh q112).1 = 100) 
    ((fb_gd (¬ (x1 < 0 ∨ (fb_sh q112).2 ≤ x1.toNatClampNeg)) 
    (if (fb_I u q112 x1.toNatClampNeg) = 0 then (jX9_run_136 K77 a0 x1 x3 x4 r90 q96 x4 1 u)
    else ((fb_R u a0 7).bind fun q123 => fb_gd (q123 < fb_NT ∧ (fb_sh q123).1 = 100) 
     ((fb_gd (¬ (x1 < 0 ∨ (fb_sh q123).2 ≤ x1.toNatClampNeg)) 
     (if (fb_I u q123 x1.toNatClampNeg) ≤ r90 then (jX9_run_136 K77 a0 x1 x3 x4 r90 q96 x4 0 u)
     else (jX9_run_136 K77 a0 x1 x3 x4 r90 q96 x4 1 u)))))))))))))))))
def gX9_run_77 (a0 : Nat) (x1 : Int32) : Nat → Int32 → Int32 → fb_M → Option (Int32 × fb_M)
 | 0 => fun _ _ _ => none
 | fu + 1 => fun x3 x4 u => bX9_run_77 (gX9_run_77 a0 x1 fu) a0 x1 x3 x4 u
set_option maxRecDepth 100000 in
set_option maxHeartbeats 4000000 in
theorem tbX9_run_77 {g : fb_G} {res : (Int32 × fb_M)} (a0 : Nat) (x1 : Int32) (x3 : Int32) (x4 : Int32) (u : fb_M) (K77 : Int32 → Int32 → fb_M → Option (Int32 × fb_M)) (ha0 : a0 < fb_NT ∧ fb_sh a0 = (9, 40)) (hK77 : ∀ (x3 : Int32) (x4 : Int32) (u : fb_M) ,  K77 x3 x4 u = some res → fb_V g RX9 cX9_run 6 (some .int) "run" (fb_room 2 55 0 0) (fb_Qm g (some (.int res.1)) fb_NT res.2 0 0) 0 0 fb_NT u 77 [(0, .ref (fb_b g + a0)), (1, .int x1), (3, .int x3), (4, .int x4)] []) (h : bX9_run_77 K77 a0 x1 x3 x4 u = some res) : fb_V g RX9 cX9_run 6 (some .int) "run" (fb_room 2 55 0 0) (fb_Qm g (some (.int res.1)) fb_NT res.2 0 0) 0 0 fb_NT u 77 [(0, .ref (fb_b g + a0)), (1, .int x1), (3, .int x3), (4, .int x4)] [] := by
  unfold bX9_run_77 at h
  refine fb_iload (pc := 77) dX9_run_77 3 rfl ?_
  refine fb_aload_n (pc := 79) dX9_run_79 0 rfl ?_
  refine fb_getI (pc := 80) dX9_run_80 lkX9_260 ha0.1 ha0.2 rfl ?_
  refine fb_icmp_ge (pc := 83) (tgt := 170) h dX9_run_83 (by decide) (fun h => ?_) (fun h => ?_)
  · refine fb_aload_n (pc := 170) dX9_run_170 0 rfl ?_
    refine fb_aload_n (pc := 171) dX9_run_171 0 rfl ?_
    refine fb_bnE h (fun q172 e172 h => fb_gdE h (fun s172 h => ?_))
    refine fb_getR (pc := 172) dX9_run_172 lkX9_19 ha0.1 ha0.2 (by decide) e172 ?_
    refine fb_iload_n (pc := 175) dX9_run_175 1 rfl ?_
    refine fb_gdE h (fun i176 h => ?_)
    refine fb_iald (pc := 176) dX9_run_176 s172.1 (fb_eta s172.2) i176 ?_
    refine fb_if_ne (pc := 177) (tgt := 198) h dX9_run_177 (by decide) (fun h => ?_) (fun h => ?_)
    · refine fb_iconst (pc := 198) (v := 0) dX9_run_198 fb_ki_0 ?_
      refine fb_putI (pc := 199) dX9_run_199 lkX9_286 ly_9_37 ha0.1 ha0.2 rfl rfl rfl ?_
      refine fb_aload_n (pc := 202) dX9_run_202 0 rfl ?_
      refine fb_getI (pc := 203) dX9_run_203 lkX9_260 ha0.1 ha0.2 rfl ?_
      refine fb_iconst (pc := 206) (v := 1) dX9_run_206 fb_ki_1 ?_
      refine fb_isub (pc := 207) dX9_run_207 ?_
      refine fb_istore (pc := 208) (lv' := [(4, .int ((fb_I (fb_wI u a0 37 0) a0 28) - 1)), (0, .ref (fb_b g + a0)), (1, .int x1), (3, .int x3)]) dX9_run_208 (by decide) rfl ?_
      exact fb_sub [1, 2, 3, 0] rfl (tgX9_run_210 a0 x1 x3 ha0 fb_F ((fb_I (fb_wI u a0 37 0) a0 28) - 1) (fb_wI u a0 37 0) h)
    · refine fb_aload_n (pc := 180) dX9_run_180 0 rfl ?_
      refine fb_bnE h (fun q181 e181 h => fb_gdE h (fun s181 h => ?_))
      refine fb_getR (pc := 181) dX9_run_181 lkX9_25 ha0.1 ha0.2 (by decide) e181 ?_
      refine fb_iload_n (pc := 184) dX9_run_184 1 rfl ?_
      refine fb_gdE h (fun i185 h => ?_)
      refine fb_zald (pc := 185) dX9_run_185 s181.1 (fb_eta s181.2) i185 ?_
      refine fb_if_eq (pc := 186) (tgt := 194) h dX9_run_186 (by decide) (fun h => ?_) (fun h => ?_)
      · refine fb_iload_n (pc := 194) dX9_run_194 2 rfl ?_
        refine fb_goto (pc := 195) (tgt := 199) dX9_run_195 (by decide) ?_
        refine fb_putI (pc := 199) dX9_run_199 lkX9_286 ly_9_37 ha0.1 ha0.2 rfl rfl rfl ?_
        refine fb_aload_n (pc := 202) dX9_run_202 0 rfl ?_
        refine fb_getI (pc := 203) dX9_run_203 lkX9_260 ha0.1 ha0.2 rfl ?_
        refine fb_iconst (pc := 206) (v := 1) dX9_run_206 fb_ki_1 ?_
        refine fb_isub (pc := 207) dX9_run_207 ?_
        refine fb_istore (pc := 208) (lv' := [(4, .int ((fb_I (fb_wI u a0 37 x3) a0 28) - 1)), (0, .ref (fb_b g + a0)), (1, .int x1), (3, .int x3)]) dX9_run_208 (by decide) rfl ?_
        exact fb_sub [1, 2, 3, 0] rfl (tgX9_run_210 a0 x1 x3 ha0 fb_F ((fb_I (fb_wI u a0 37 x3) a0 28) - 1) (fb_wI u a0 37 x3) h)
      · refine fb_iload_n (pc := 189) dX9_run_189 2 rfl ?_
        refine fb_iconst (pc := 190) (v := 1) dX9_run_190 fb_ki_1 ?_
        refine fb_icmp_gt (pc := 191) (tgt := 198) h dX9_run_191 (by decide) (fun h => ?_) (fun h => ?_)
        · refine fb_iconst (pc := 198) (v := 0) dX9_run_198 fb_ki_0 ?_
          refine fb_putI (pc := 199) dX9_run_199 lkX9_286 ly_9_37 ha0.1 ha0.2 rfl rfl rfl ?_
          refine fb_aload_n (pc := 202) dX9_run_202 0 rfl ?_
          refine fb_getI (pc := 203) dX9_run_203 lkX9_260 ha0.1 ha0.2 rfl ?_
          refine fb_iconst (pc := 206) (v := 1) dX9_run_206 fb_ki_1 ?_
          refine fb_isub (pc := 207) dX9_run_207 ?_
          refine fb_istore (pc := 208) (lv' := [(4, .int ((fb_I (fb_wI u a0 37 0) a0 28) - 1)), (0, .ref (fb_b g + a0)), (1, .int x1), (3, .int x3)]) dX9_run_208 (by decide) rfl ?_
          exact fb_sub [1, 2, 3, 0] rfl (tgX9_run_210 a0 x1 x3 ha0 fb_F ((fb_I (fb_wI u a0 37 0) a0 28) - 1) (fb_wI u a0 37 0) h)
        · refine fb_iload_n (pc := 194) dX9_run_194 2 rfl ?_
          refine fb_goto (pc := 195) (tgt := 199) dX9_run_195 (by decide) ?_
          refine fb_putI (pc := 199) dX9_run_199 lkX9_286 ly_9_37 ha0.1 ha0.2 rfl rfl rfl ?_
          refine fb_aload_n (pc := 202) dX9_run_202 0 rfl ?_
          refine fb_getI (pc := 203) dX9_run_203 lkX9_260 ha0.1 ha0.2 rfl ?_
          refine fb_iconst (pc := 206) (v := 1) dX9_run_206 fb_ki_1 ?_
          refine fb_isub (pc := 207) dX9_run_207 ?_
          refine fb_istore (pc := 208) (lv' := [(4, .int ((fb_I (fb_wI u a0 37 x3) a0 28) - 1)), (0, .ref (fb_b g + a0)), (1, .int x1), (3, .int x3)]) dX9_run_208 (by decide) rfl ?_
          exact fb_sub [1, 2, 3, 0] rfl (tgX9_run_210 a0 x1 x3 ha0 fb_F ((fb_I (fb_wI u a0 37 x3) a0 28) - 1) (fb_wI u a0 37 x3) h)
  · refine fb_aload_n (pc := 86) dX9_run_86 0 rfl ?_
    refine fb_iload_n (pc := 87) dX9_run_87 1 rfl ?_
    refine fb_iload (pc := 88) dX9_run_88 3 rfl ?_
    refine fb_bnE h (fun r90 h90 h => ?_)
    refine fb_cV0v (pc := 90) [.int x1, .int x4] dX9_run_90 (mX9_rank g u a0 x1 x4 ha0 h90) ymX9_rank yiX9_rank ha0.1 ha0.2 ylX9_283 rfl (Nat.le_of_ble_eq_true rfl) ⟨Nat.le_of_ble_eq_true rfl, Nat.le_of_ble_eq_true rfl⟩ ⟨Nat.le_of_ble_eq_true rfl, Nat.le_of_ble_eq_true rfl⟩ ?_
    refine fb_istore (pc := 93) (lv' := [(5, .int r90), (0, .ref (fb_b g + a0)), (1, .int x1), (3, .int x3), (4, .int x4)]) dX9_run_93 (by decide) rfl ?_
    refine fb_aload_n (pc := 95) dX9_run_95 1 rfl ?_
    refine fb_bnE h (fun q96 e96 h => fb_gdE h (fun s96 h => ?_))
    refine fb_getR (pc := 96) dX9_run_96 lkX9_92 ha0.1 ha0.2 (by decide) e96 ?_
    refine fb_iload (pc := 99) dX9_run_99 4 rfl ?_
    refine fb_aload_n (pc := 101) dX9_run_101 1 rfl ?_
    refine fb_bnE h (fun q102 e102 h => fb_gdE h (fun s102 h => ?_))
    refine fb_getR (pc := 102) dX9_run_102 lkX9_89 ha0.1 ha0.2 (by decide) e102 ?_
    refine fb_iload (pc := 105) dX9_run_105 4 rfl ?_
    refine fb_gdE h (fun i107 h => ?_)
    refine fb_zald (pc := 107) dX9_run_107 s102.1 (fb_eta s102.2) i107 ?_
    refine fb_if_eq (pc := 108) (tgt := 135) h dX9_run_108 (by decide) (fun h => ?_) (fun h => ?_)
    · refine fb_iconst (pc := 135) (v := 0) dX9_run_135 fb_ki_0 ?_
      exact fb_sub [1, 2, 3, 4, 0] rfl (tjX9_run_136 a0 x1 x3 x4 r90 q96 x4 0 u K77 ha0 s96 hK77 h)
    · refine fb_aload_n (pc := 111) dX9_run_111 1 rfl ?_
      refine fb_bnE h (fun q112 e112 h => fb_gdE h (fun s112 h => ?_))
      refine fb_getR (pc := 112) dX9_run_112 lkX9_22 ha0.1 ha0.2 (by decide) e112 ?_
      refine fb_iload_n (pc := 115) dX9_run_115 2 rfl ?_
      refine fb_gdE h (fun i116 h => ?_)
      refine fb_iald (pc := 116) dX9_run_116 s112.1 (fb_eta s112.2) i116 ?_
      refine fb_if_eq (pc := 117) (tgt := 131) h dX9_run_117 (by decide) (fun h => ?_) (fun h => ?_)
      · refine fb_iconst (pc := 131) (v := 1) dX9_run_131 fb_ki_1 ?_
        refine fb_goto (pc := 132) (tgt := 136) dX9_run_132 (by decide) ?_
        exact fb_sub [1, 2, 3, 4, 0] rfl (tjX9_run_136 a0 x1 x3 x4 r90 q96 x4 1 u K77 ha0 s96 hK77 h)
      · refine fb_iload (pc := 120) dX9_run_120 0 rfl ?_
        refine fb_aload_n (pc := 122) dX9_run_122 1 rfl ?_
        refine fb_bnE h (fun q123 e123 h => fb_gdE h (fun s123 h => ?_))
        refine fb_getR (pc := 123) dX9_run_123 lkX9_22 ha0.1 ha0.2 (by decide) e123 ?_
        refine fb_iload_n (pc := 126) dX9_run_126 2 rfl ?_
        refine fb_gdE h (fun i127 h => ?_)
        refine fb_iald (pc := 127) dX9_run_127 s123.1 (fb_eta s123.2) i127 ?_
        refine fb_icmp_ge (pc := 128) (tgt := 135) h dX9_run_128 (by decide) (fun h => ?_) (fun h => ?_)
        · refine fb_iconst (pc := 135) (v := 0) dX9_run_135 fb_ki_0 ?_
          exact fb_sub [1, 2, 3, 4, 0] rfl (tjX9_run_136 a0 x1 x3 x4 r90 q96 x4 0 u K77 ha0 s96 hK77 h)
        · refine fb_iconst (pc := 131) (v := 1) dX9_run_131 fb_ki_1 ?_
          refine fb_goto (pc := 132) (tgt := 136) dX9_run_132 (by decide) ?_
          exact fb_sub [1, 2, 3, 4, 0] rfl (tjX9_run_136 a0 x1 x3 x4 r90 q96 x4 1 u K77 ha0 s96 hK77 h)

theorem tgX9_run_77 {g : fb_G} {res : (Int32 × fb_M)} (a0 : Nat) (x1 : Int32) (ha0 : a0 < fb_NT ∧ fb_sh a0 = (9, 40)) : ∀ (fu : Nat) (x3 : Int32) (x4 : Int32) (u : fb_M) ,  gX9_run_77 a0 x1 fu x3 x4 u = some res → fb_V g RX9 cX9_run 6 (some .int) "run" (fb_room 2 55 0 0) (fb_Qm g (some (.int res.1)) fb_NT res.2 0 0) 0 0 fb_NT u 77 [(0, .ref (fb_b g + a0)), (1, .int x1), (3, .int x3), (4, .int x4)] [] := by
  intro fu
  induction fu with
  | zero => intro x3 x4 u h; exact absurd h (by simp [gX9_run_77])
  | succ fu ih => intro x3 x4 u h; exact tbX9_run_77 a0 x1 x3 x4 u (gX9_run_77 a0 x1 fu) ha0 ih h
def bX9_run_46 (K46 : Int32 → fb_M → Option (Int32 × fb_M)) (a0 : Nat) (x1 : Int32) (x3 : Int32) (u : fb_M) : Option (Int32 × fb_M) :=
 (if (fb_I u a0 28) ≤ x3 then (gX9_run_77 a0 x1 fb_F 0 0 u)
  else ((fb_R u a0 38).bind fun q55 => fb_gd (q55 < fb_NT ∧ (fb_sh q55).1 = 102) 
   (((fX9_fits u a0 x1 x3).bind fun r62 => 
   (fb_gd (¬ (x3 < 0 ∨ (fb_sh q55).2 ≤ x3.toNatClampNeg)) 
   (K46 (x3 + 1) (fb_wI u q55 x3.toNatClampNeg (vp_nar .boolean r62))))))))
def gX9_run_46 (a0 : Nat) (x1 : Int32) : Nat → Int32 → fb_M → Option (Int32 × fb_M)
 | 0 => fun _ _ => none
 | fu + 1 => fun x3 u => bX9_run_46 (gX9_run_46 a0 x1 fu) a0 x1 x3 u
set_option maxRecDepth 100000 in
set_option maxHeartbeats 4000000 in
theorem tbX9_run_46 {g : fb_G} {res : (Int32 × fb_M)} (a0 : Nat) (x1 : Int32) (x3 : Int32) (u : fb_M) (K46 : Int32 → fb_M → Option (Int32 × fb_M)) (ha0 : a0 < fb_NT ∧ fb_sh a0 = (9, 40)) (hK46 : ∀ (x3 : Int32) (u : fb_M) ,  K46 x3 u = some res → fb_V g RX9 cX9_run 6 (some .int) "run" (fb_room 2 55 0 0) (fb_Qm g (some (.int res.1)) fb_NT res.2 0 0) 0 0 fb_NT u 46 [(0, .ref (fb_b g + a0)), (1, .int x1), (3, .int x3)] []) (h : bX9_run_46 K46 a0 x1 x3 u = some res) : fb_V g RX9 cX9_run 6 (some .int) "run" (fb_room 2 55 0 0) (fb_Qm g (some (.int res.1)) fb_NT res.2 0 0) 0 0 fb_NT u 46 [(0, .ref (fb_b g + a0)), (1, .int x1), (3, .int x3)] [] := by
  unfold bX9_run_46 at h
  refine fb_iload_n (pc := 46) dX9_run_46 2 rfl ?_
  refine fb_aload_n (pc := 47) dX9_run_47 0 rfl ?_
  refine fb_getI (pc := 48) dX9_run_48 lkX9_260 ha0.1 ha0.2 rfl ?_
  refine fb_icmp_ge (pc := 51) (tgt := 72) h dX9_run_51 (by decide) (fun h => ?_) (fun h => ?_)
  · refine fb_iconst (pc := 72) (v := 0) dX9_run_72 fb_ki_0 ?_
    refine fb_istore_n (pc := 73) (lv' := [(3, .int 0), (0, .ref (fb_b g + a0)), (1, .int x1)]) dX9_run_73 rfl (by decide) rfl ?_
    refine fb_iconst (pc := 74) (v := 0) dX9_run_74 fb_ki_0 ?_
    refine fb_istore (pc := 75) (lv' := [(4, .int 0), (3, .int 0), (0, .ref (fb_b g + a0)), (1, .int x1)]) dX9_run_75 (by decide) rfl ?_
    exact fb_sub [2, 3, 1, 0] rfl (tgX9_run_77 a0 x1 ha0 fb_F 0 0 u h)
  · refine fb_aload_n (pc := 54) dX9_run_54 0 rfl ?_
    refine fb_bnE h (fun q55 e55 h => fb_gdE h (fun s55 h => ?_))
    refine fb_getR (pc := 55) dX9_run_55 lkX9_89 ha0.1 ha0.2 (by decide) e55 ?_
    refine fb_iload_n (pc := 58) dX9_run_58 2 rfl ?_
    refine fb_aload_n (pc := 59) dX9_run_59 0 rfl ?_
    refine fb_iload_n (pc := 60) dX9_run_60 1 rfl ?_
    refine fb_iload_n (pc := 61) dX9_run_61 2 rfl ?_
    refine fb_bnE h (fun r62 h62 h => ?_)
    refine fb_cV0v (pc := 62) [.int x1, .int x3] dX9_run_62 (mX9_fits g u a0 x1 x3 ha0 h62) ymX9_fits yiX9_fits ha0.1 ha0.2 ylX9_279 rfl (Nat.le_of_ble_eq_true rfl) ⟨Nat.le_of_ble_eq_true rfl, Nat.le_of_ble_eq_true rfl⟩ ⟨Nat.le_of_ble_eq_true rfl, Nat.le_of_ble_eq_true rfl⟩ ?_
    refine fb_gdE h (fun i65 h => ?_)
    refine fb_zast (pc := 65) dX9_run_65 s55.1 (fb_eta s55.2) i65 ?_
    refine fb_iinc (pc := 66) (v := 1) (lv' := [(3, .int (x3 + 1)), (0, .ref (fb_b g + a0)), (1, .int x1)]) dX9_run_66 2 rfl fb_ki_1 (by decide) rfl ?_
    refine fb_goto (pc := 69) (tgt := 46) dX9_run_69 (by decide) ?_
    exact fb_sub [1, 2, 0] rfl (hK46 (x3 + 1) (fb_wI u q55 x3.toNatClampNeg (vp_nar .boolean r62)) h)

theorem tgX9_run_46 {g : fb_G} {res : (Int32 × fb_M)} (a0 : Nat) (x1 : Int32) (ha0 : a0 < fb_NT ∧ fb_sh a0 = (9, 40)) : ∀ (fu : Nat) (x3 : Int32) (u : fb_M) ,  gX9_run_46 a0 x1 fu x3 u = some res → fb_V g RX9 cX9_run 6 (some .int) "run" (fb_room 2 55 0 0) (fb_Qm g (some (.int res.1)) fb_NT res.2 0 0) 0 0 fb_NT u 46 [(0, .ref (fb_b g + a0)), (1, .int x1), (3, .int x3)] [] := by
  intro fu
  induction fu with
  | zero => intro x3 u h; exact absurd h (by simp [gX9_run_46])
  | succ fu ih => intro x3 u h; exact tbX9_run_46 a0 x1 x3 u (gX9_run_46 a0 x1 fu) ha0 ih h
def jX9_run_31 (a0 : Nat) (x1 : Int32) (k0 : Int32) (u : fb_M) : Option (Int32 × fb_M) :=
 (if k0 = 0 then (some ((-2), fb_wI u a0 35 0))
  else (gX9_run_46 a0 x1 fb_F 0 (fb_wI u a0 35 0)))
set_option maxRecDepth 100000 in
set_option maxHeartbeats 4000000 in
theorem tjX9_run_31 {g : fb_G} {res : (Int32 × fb_M)} (a0 : Nat) (x1 : Int32) (k0 : Int32) (u : fb_M) (ha0 : a0 < fb_NT ∧ fb_sh a0 = (9, 40)) (h : jX9_run_31 a0 x1 k0 u = some res) : fb_V g RX9 cX9_run 6 (some .int) "run" (fb_room 2 55 0 0) (fb_Qm g (some (.int res.1)) fb_NT res.2 0 0) 0 0 fb_NT u 31 [(0, .ref (fb_b g + a0)), (1, .int x1)] [.int k0] := by
  unfold jX9_run_31 at h
  refine fb_istore_n (pc := 31) (lv' := [(2, .int k0), (0, .ref (fb_b g + a0)), (1, .int x1)]) dX9_run_31 rfl (by decide) rfl ?_
  refine fb_aload_n (pc := 32) dX9_run_32 1 rfl ?_
  refine fb_iconst (pc := 33) (v := 0) dX9_run_33 fb_ki_0 ?_
  refine fb_putI (pc := 34) dX9_run_34 lkX9_269 ly_9_35 ha0.1 ha0.2 rfl rfl rfl ?_
  refine fb_iload_n (pc := 37) dX9_run_37 0 rfl ?_
  refine fb_if_ne (pc := 38) (tgt := 44) h dX9_run_38 (by decide) (fun h => ?_) (fun h => ?_)
  · refine fb_iconst (pc := 44) (v := 0) dX9_run_44 fb_ki_0 ?_
    refine fb_istore_n (pc := 45) (lv' := [(3, .int 0), (2, .int k0), (0, .ref (fb_b g + a0)), (1, .int x1)]) dX9_run_45 rfl (by decide) rfl ?_
    exact fb_sub [2, 3, 0] rfl (tgX9_run_46 a0 x1 ha0 fb_F 0 (fb_wI u a0 35 0) h)
  · refine fb_bipush (pc := 41) (v := (-2)) dX9_run_41 fb_kb_m2 ?_
    exact fb_iretM (pc := 43) h dX9_run_43

def fX9_run (u : fb_M) (a0 : Nat) (x1 : Int32) : Option (Int32 × fb_M) :=
 (if x1 < 0 then (some ((-1), u))
  else (if x1 < (fb_I u a0 5) then ((fX9_takesAll u a0 x1).bind fun r20 => 
    (if (fb_I u a0 35) = r20 then (jX9_run_31 a0 x1 1 u)
    else (jX9_run_31 a0 x1 0 u)))
   else (some ((-1), u))))
set_option maxRecDepth 100000 in
set_option maxHeartbeats 4000000 in
theorem mX9_run (g : fb_G) (u : fb_M) (a0 : Nat) (x1 : Int32) (ha0 : a0 < fb_NT ∧ fb_sh a0 = (9, 40)) {res : (Int32 × fb_M)} (h : fX9_run u a0 x1 = some res) : fb_Runs g 2 55 0 0 fb_NT fb_NT yX9_run cX9_run 6 (some .int) [.ref (fb_b g + a0), .int x1] u (some (.int res.1)) res.2 := by
  unfold fX9_run at h
  refine fb_enter (by decide) (Nat.le_of_ble_eq_true rfl) ?_
  show fb_V g RX9 cX9_run 6 (some .int) "run" (fb_room 2 55 0 0) (fb_Qm g (some (.int res.1)) fb_NT res.2 0 0) 0 0 fb_NT u 0 [(0, .ref (fb_b g + a0)), (1, .int x1)] []
  refine fb_iload_n (pc := 0) dX9_run_0 1 rfl ?_
  refine fb_if_lt (pc := 1) (tgt := 12) h dX9_run_1 (by decide) (fun h => ?_) (fun h => ?_)
  · refine fb_iconst (pc := 12) (v := (-1)) dX9_run_12 fb_ki_m1 ?_
    exact fb_iretM (pc := 13) h dX9_run_13
  · refine fb_iload_n (pc := 4) dX9_run_4 1 rfl ?_
    refine fb_aload_n (pc := 5) dX9_run_5 0 rfl ?_
    refine fb_getI (pc := 6) dX9_run_6 lkX9_244 ha0.1 ha0.2 rfl ?_
    refine fb_icmp_lt (pc := 9) (tgt := 14) h dX9_run_9 (by decide) (fun h => ?_) (fun h => ?_)
    · refine fb_aload_n (pc := 14) dX9_run_14 0 rfl ?_
      refine fb_getI (pc := 15) dX9_run_15 lkX9_269 ha0.1 ha0.2 rfl ?_
      refine fb_aload_n (pc := 18) dX9_run_18 0 rfl ?_
      refine fb_iload_n (pc := 19) dX9_run_19 1 rfl ?_
      refine fb_bnE h (fun r20 h20 h => ?_)
      refine fb_cV0v (pc := 20) [.int x1] dX9_run_20 (mX9_takesAll g u a0 x1 ha0 h20) ymX9_takesAll yiX9_takesAll ha0.1 ha0.2 ylX9_254 rfl (Nat.le_of_ble_eq_true rfl) ⟨Nat.le_of_ble_eq_true rfl, Nat.le_of_ble_eq_true rfl⟩ ⟨Nat.le_of_ble_eq_true rfl, Nat.le_of_ble_eq_true rfl⟩ ?_
      refine fb_icmp_ne (pc := 23) (tgt := 30) h dX9_run_23 (by decide) (fun h => ?_) (fun h => ?_)
      · refine fb_iconst (pc := 30) (v := 0) dX9_run_30 fb_ki_0 ?_
        exact fb_sub [0, 1] rfl (tjX9_run_31 a0 x1 0 u ha0 h)
      · refine fb_iconst (pc := 26) (v := 1) dX9_run_26 fb_ki_1 ?_
        refine fb_goto (pc := 27) (tgt := 31) dX9_run_27 (by decide) ?_
        exact fb_sub [0, 1] rfl (tjX9_run_31 a0 x1 1 u ha0 h)
    · refine fb_iconst (pc := 12) (v := (-1)) dX9_run_12 fb_ki_m1 ?_
      exact fb_iretM (pc := 13) h dX9_run_13

theorem dX9_results_0 : decode cX9_results 0 = .ok (.aload_n 0, 1) := by decide +kernel
theorem dX9_results_1 : decode cX9_results 1 = .ok (.getfield 286, 3) := by decide +kernel
theorem dX9_results_4 : decode cX9_results 4 = .ok (.ireturn, 1) := by decide +kernel
def fX9_results (u : fb_M) (a0 : Nat) : Option Int32 :=
 (some (fb_I u a0 37))
set_option maxRecDepth 100000 in
set_option maxHeartbeats 4000000 in
theorem mX9_results (g : fb_G) (u : fb_M) (a0 : Nat) (ha0 : a0 < fb_NT ∧ fb_sh a0 = (9, 40)) {res : Int32} (h : fX9_results u a0 = some res) : fb_Runs g 0 0 0 0 fb_NT fb_NT yX9_results cX9_results 1 (some .int) [.ref (fb_b g + a0)] u (some (.int res)) u := by
  unfold fX9_results at h
  refine fb_enter (by decide) (Nat.le_of_ble_eq_true rfl) ?_
  show fb_V g RX9 cX9_results 1 (some .int) "results" (fb_room 0 0 0 0) (fb_Qm g (some (.int res)) fb_NT u 0 0) 0 0 fb_NT u 0 [(0, .ref (fb_b g + a0))] []
  refine fb_aload_n (pc := 0) dX9_results_0 0 rfl ?_
  refine fb_getI (pc := 1) dX9_results_1 lkX9_286 ha0.1 ha0.2 rfl ?_
  exact fb_iretR (pc := 4) h dX9_results_4

theorem dX9_result_0 : decode cX9_result 0 = .ok (.iload_n 1, 1) := by decide +kernel
theorem dX9_result_1 : decode cX9_result 1 = .ok (.ifCond .lt 11, 3) := by decide +kernel
theorem dX9_result_4 : decode cX9_result 4 = .ok (.iload_n 1, 1) := by decide +kernel
theorem dX9_result_5 : decode cX9_result 5 = .ok (.aload_n 0, 1) := by decide +kernel
theorem dX9_result_6 : decode cX9_result 6 = .ok (.getfield 286, 3) := by decide +kernel
theorem dX9_result_9 : decode cX9_result 9 = .ok (.if_icmp .lt 7, 3) := by decide +kernel
theorem dX9_result_12 : decode cX9_result 12 = .ok (.iconst 0, 1) := by decide +kernel
theorem dX9_result_13 : decode cX9_result 13 = .ok (.goto 9, 3) := by decide +kernel
theorem dX9_result_16 : decode cX9_result 16 = .ok (.aload_n 0, 1) := by decide +kernel
theorem dX9_result_17 : decode cX9_result 17 = .ok (.getfield 86, 3) := by decide +kernel
theorem dX9_result_20 : decode cX9_result 20 = .ok (.iload_n 1, 1) := by decide +kernel
theorem dX9_result_21 : decode cX9_result 21 = .ok (.iaload, 1) := by decide +kernel
theorem dX9_result_22 : decode cX9_result 22 = .ok (.ireturn, 1) := by decide +kernel
def fX9_result (u : fb_M) (a0 : Nat) (x1 : Int32) : Option Int32 :=
 (if x1 < 0 then (some 0)
  else (if x1 < (fb_I u a0 37) then ((fb_R u a0 36).bind fun q17 => fb_gd (q17 < fb_NT ∧ (fb_sh q17).1 = 100) 
    ((fb_gd (¬ (x1 < 0 ∨ (fb_sh q17).2 ≤ x1.toNatClampNeg)) 
    (some (fb_I u q17 x1.toNatClampNeg)))))
   else (some 0)))
set_option maxRecDepth 100000 in
set_option maxHeartbeats 4000000 in
theorem mX9_result (g : fb_G) (u : fb_M) (a0 : Nat) (x1 : Int32) (ha0 : a0 < fb_NT ∧ fb_sh a0 = (9, 40)) {res : Int32} (h : fX9_result u a0 x1 = some res) : fb_Runs g 0 0 0 0 fb_NT fb_NT yX9_result cX9_result 2 (some .int) [.ref (fb_b g + a0), .int x1] u (some (.int res)) u := by
  unfold fX9_result at h
  refine fb_enter (by decide) (Nat.le_of_ble_eq_true rfl) ?_
  show fb_V g RX9 cX9_result 2 (some .int) "result" (fb_room 0 0 0 0) (fb_Qm g (some (.int res)) fb_NT u 0 0) 0 0 fb_NT u 0 [(0, .ref (fb_b g + a0)), (1, .int x1)] []
  refine fb_iload_n (pc := 0) dX9_result_0 1 rfl ?_
  refine fb_if_lt (pc := 1) (tgt := 12) h dX9_result_1 (by decide) (fun h => ?_) (fun h => ?_)
  · refine fb_iconst (pc := 12) (v := 0) dX9_result_12 fb_ki_0 ?_
    refine fb_goto (pc := 13) (tgt := 22) dX9_result_13 (by decide) ?_
    exact fb_iretR (pc := 22) h dX9_result_22
  · refine fb_iload_n (pc := 4) dX9_result_4 1 rfl ?_
    refine fb_aload_n (pc := 5) dX9_result_5 0 rfl ?_
    refine fb_getI (pc := 6) dX9_result_6 lkX9_286 ha0.1 ha0.2 rfl ?_
    refine fb_icmp_lt (pc := 9) (tgt := 16) h dX9_result_9 (by decide) (fun h => ?_) (fun h => ?_)
    · refine fb_aload_n (pc := 16) dX9_result_16 0 rfl ?_
      refine fb_bnE h (fun q17 e17 h => fb_gdE h (fun s17 h => ?_))
      refine fb_getR (pc := 17) dX9_result_17 lkX9_86 ha0.1 ha0.2 (by decide) e17 ?_
      refine fb_iload_n (pc := 20) dX9_result_20 1 rfl ?_
      refine fb_gdE h (fun i21 h => ?_)
      refine fb_iald (pc := 21) dX9_result_21 s17.1 (fb_eta s17.2) i21 ?_
      exact fb_iretR (pc := 22) h dX9_result_22
    · refine fb_iconst (pc := 12) (v := 0) dX9_result_12 fb_ki_0 ?_
      refine fb_goto (pc := 13) (tgt := 22) dX9_result_13 (by decide) ?_
      exact fb_iretR (pc := 22) h dX9_result_22

theorem dX9_value_0 : decode cX9_value 0 = .ok (.aload_n 0, 1) := by decide +kernel
theorem dX9_value_1 : decode cX9_value 1 = .ok (.iload_n 1, 1) := by decide +kernel
theorem dX9_value_2 : decode cX9_value 2 = .ok (.invokevirtual 263, 3) := by decide +kernel
theorem dX9_value_5 : decode cX9_value 5 = .ok (.istore_n 3, 1) := by decide +kernel
theorem dX9_value_6 : decode cX9_value 6 = .ok (.iload_n 3, 1) := by decide +kernel
theorem dX9_value_7 : decode cX9_value 7 = .ok (.aload_n 0, 1) := by decide +kernel
theorem dX9_value_8 : decode cX9_value 8 = .ok (.getfield 260, 3) := by decide +kernel
theorem dX9_value_11 : decode cX9_value 11 = .ok (.if_icmp .eq 11, 3) := by decide +kernel
theorem dX9_value_14 : decode cX9_value 14 = .ok (.aload_n 0, 1) := by decide +kernel
theorem dX9_value_15 : decode cX9_value 15 = .ok (.iload_n 2, 1) := by decide +kernel
theorem dX9_value_16 : decode cX9_value 16 = .ok (.invokevirtual 257, 3) := by decide +kernel
theorem dX9_value_19 : decode cX9_value 19 = .ok (.ifCond .ne 7, 3) := by decide +kernel
theorem dX9_value_22 : decode cX9_value 22 = .ok (.ldc2_w 289, 3) := by decide +kernel
theorem dX9_value_25 : decode cX9_value 25 = .ok (.lreturn, 1) := by decide +kernel
theorem dX9_value_26 : decode cX9_value 26 = .ok (.aload_n 0, 1) := by decide +kernel
theorem dX9_value_27 : decode cX9_value 27 = .ok (.getfield 74, 3) := by decide +kernel
theorem dX9_value_30 : decode cX9_value 30 = .ok (.bipush 8, 2) := by decide +kernel
theorem dX9_value_32 : decode cX9_value 32 = .ok (.iload_n 3, 1) := by decide +kernel
theorem dX9_value_33 : decode cX9_value 33 = .ok (.imul, 1) := by decide +kernel
theorem dX9_value_34 : decode cX9_value 34 = .ok (.iload_n 2, 1) := by decide +kernel
theorem dX9_value_35 : decode cX9_value 35 = .ok (.iadd, 1) := by decide +kernel
theorem dX9_value_36 : decode cX9_value 36 = .ok (.baload, 1) := by decide +kernel
theorem dX9_value_37 : decode cX9_value 37 = .ok (.ifCond .eq 18, 3) := by decide +kernel
theorem dX9_value_40 : decode cX9_value 40 = .ok (.aload_n 0, 1) := by decide +kernel
theorem dX9_value_41 : decode cX9_value 41 = .ok (.getfield 71, 3) := by decide +kernel
theorem dX9_value_44 : decode cX9_value 44 = .ok (.bipush 8, 2) := by decide +kernel
theorem dX9_value_46 : decode cX9_value 46 = .ok (.iload_n 3, 1) := by decide +kernel
theorem dX9_value_47 : decode cX9_value 47 = .ok (.imul, 1) := by decide +kernel
theorem dX9_value_48 : decode cX9_value 48 = .ok (.iload_n 2, 1) := by decide +kernel
theorem dX9_value_49 : decode cX9_value 49 = .ok (.iadd, 1) := by decide +kernel
theorem dX9_value_50 : decode cX9_value 50 = .ok (.iaload, 1) := by decide +kernel
theorem dX9_value_51 : decode cX9_value 51 = .ok (.i2l, 1) := by decide +kernel
theorem dX9_value_52 : decode cX9_value 52 = .ok (.goto 6, 3) := by decide +kernel
theorem dX9_value_55 : decode cX9_value 55 = .ok (.ldc2_w 291, 3) := by decide +kernel
theorem dX9_value_58 : decode cX9_value 58 = .ok (.lreturn, 1) := by decide +kernel
def fX9_value (u : fb_M) (a0 : Nat) (x1 : Int32) (x2 : Int32) : Option Int64 :=
 ((fX9_place u a0 x1).bind fun r2 => 
  (if r2 = (fb_I u a0 28) then (some 4000000000)
  else ((fX9_isLeaf u a0 x2).bind fun r16 => 
   (if r16 = 0 then (some 4000000000)
   else ((fb_R u a0 31).bind fun q27 => fb_gd (q27 < fb_NT ∧ (fb_sh q27).1 = 102) 
    ((fb_gd (¬ ((8 * r2) + x2 < 0 ∨ (fb_sh q27).2 ≤ ((8 * r2) + x2).toNatClampNeg)) 
    (if (fb_I u q27 ((8 * r2) + x2).toNatClampNeg) = 0 then (some 3000000000)
    else ((fb_R u a0 30).bind fun q41 => fb_gd (q41 < fb_NT ∧ (fb_sh q41).1 = 100) 
     ((fb_gd (¬ ((8 * r2) + x2 < 0 ∨ (fb_sh q41).2 ≤ ((8 * r2) + x2).toNatClampNeg)) 
     (some ((fb_I u q41 ((8 * r2) + x2).toNatClampNeg).toInt64)))))))))))))
set_option maxRecDepth 100000 in
set_option maxHeartbeats 4000000 in
theorem mX9_value (g : fb_G) (u : fb_M) (a0 : Nat) (x1 : Int32) (x2 : Int32) (ha0 : a0 < fb_NT ∧ fb_sh a0 = (9, 40)) {res : Int64} (h : fX9_value u a0 x1 x2 = some res) : fb_Runs g 1 22 0 0 fb_NT fb_NT yX9_value cX9_value 4 (some .long) [.ref (fb_b g + a0), .int x1, .int x2] u (some (.long res)) u := by
  unfold fX9_value at h
  refine fb_enter (by decide) (Nat.le_of_ble_eq_true rfl) ?_
  show fb_V g RX9 cX9_value 4 (some .long) "value" (fb_room 1 22 0 0) (fb_Qm g (some (.long res)) fb_NT u 0 0) 0 0 fb_NT u 0 [(0, .ref (fb_b g + a0)), (1, .int x1), (2, .int x2)] []
  refine fb_aload_n (pc := 0) dX9_value_0 0 rfl ?_
  refine fb_iload_n (pc := 1) dX9_value_1 1 rfl ?_
  refine fb_bnE h (fun r2 h2 h => ?_)
  refine fb_cV0v (pc := 2) [.int x1] dX9_value_2 (mX9_place g u a0 x1 ha0 h2) ymX9_place yiX9_place ha0.1 ha0.2 ylX9_263 rfl (Nat.le_of_ble_eq_true rfl) ⟨Nat.le_of_ble_eq_true rfl, Nat.le_of_ble_eq_true rfl⟩ ⟨Nat.le_of_ble_eq_true rfl, Nat.le_of_ble_eq_true rfl⟩ ?_
  refine fb_istore_n (pc := 5) (lv' := [(3, .int r2), (0, .ref (fb_b g + a0)), (1, .int x1), (2, .int x2)]) dX9_value_5 rfl (by decide) rfl ?_
  refine fb_iload_n (pc := 6) dX9_value_6 0 rfl ?_
  refine fb_aload_n (pc := 7) dX9_value_7 1 rfl ?_
  refine fb_getI (pc := 8) dX9_value_8 lkX9_260 ha0.1 ha0.2 rfl ?_
  refine fb_icmp_eq (pc := 11) (tgt := 22) h dX9_value_11 (by decide) (fun h => ?_) (fun h => ?_)
  · refine fb_ldc2 (pc := 22) (v := 4000000000) dX9_value_22 lwX9_289 ?_
    exact fb_lretR (pc := 25) h dX9_value_25
  · refine fb_aload_n (pc := 14) dX9_value_14 1 rfl ?_
    refine fb_iload_n (pc := 15) dX9_value_15 3 rfl ?_
    refine fb_bnE h (fun r16 h16 h => ?_)
    refine fb_cV0v (pc := 16) [.int x2] dX9_value_16 (mX9_isLeaf g u a0 x2 ha0 h16) ymX9_isLeaf yiX9_isLeaf ha0.1 ha0.2 ylX9_257 rfl (Nat.le_of_ble_eq_true rfl) ⟨Nat.le_of_ble_eq_true rfl, Nat.le_of_ble_eq_true rfl⟩ ⟨Nat.le_of_ble_eq_true rfl, Nat.le_of_ble_eq_true rfl⟩ ?_
    refine fb_if_ne (pc := 19) (tgt := 26) h dX9_value_19 (by decide) (fun h => ?_) (fun h => ?_)
    · refine fb_aload_n (pc := 26) dX9_value_26 1 rfl ?_
      refine fb_bnE h (fun q27 e27 h => fb_gdE h (fun s27 h => ?_))
      refine fb_getR (pc := 27) dX9_value_27 lkX9_74 ha0.1 ha0.2 (by decide) e27 ?_
      refine fb_bipush (pc := 30) (v := 8) dX9_value_30 fb_kb_8 ?_
      refine fb_iload_n (pc := 32) dX9_value_32 0 rfl ?_
      refine fb_imul (pc := 33) dX9_value_33 ?_
      refine fb_iload_n (pc := 34) dX9_value_34 3 rfl ?_
      refine fb_iadd (pc := 35) dX9_value_35 ?_
      refine fb_gdE h (fun i36 h => ?_)
      refine fb_zald (pc := 36) dX9_value_36 s27.1 (fb_eta s27.2) i36 ?_
      refine fb_if_eq (pc := 37) (tgt := 55) h dX9_value_37 (by decide) (fun h => ?_) (fun h => ?_)
      · refine fb_ldc2 (pc := 55) (v := 3000000000) dX9_value_55 lwX9_291 ?_
        exact fb_lretR (pc := 58) h dX9_value_58
      · refine fb_aload_n (pc := 40) dX9_value_40 1 rfl ?_
        refine fb_bnE h (fun q41 e41 h => fb_gdE h (fun s41 h => ?_))
        refine fb_getR (pc := 41) dX9_value_41 lkX9_71 ha0.1 ha0.2 (by decide) e41 ?_
        refine fb_bipush (pc := 44) (v := 8) dX9_value_44 fb_kb_8 ?_
        refine fb_iload_n (pc := 46) dX9_value_46 0 rfl ?_
        refine fb_imul (pc := 47) dX9_value_47 ?_
        refine fb_iload_n (pc := 48) dX9_value_48 3 rfl ?_
        refine fb_iadd (pc := 49) dX9_value_49 ?_
        refine fb_gdE h (fun i50 h => ?_)
        refine fb_iald (pc := 50) dX9_value_50 s41.1 (fb_eta s41.2) i50 ?_
        refine fb_i2l (pc := 51) dX9_value_51 ?_
        refine fb_goto (pc := 52) (tgt := 58) dX9_value_52 (by decide) ?_
        exact fb_lretR (pc := 58) h dX9_value_58
    · refine fb_ldc2 (pc := 22) (v := 4000000000) dX9_value_22 lwX9_289 ?_
      exact fb_lretR (pc := 25) h dX9_value_25

theorem dX5_isSpelledBy_0 : decode cX5_isSpelledBy 0 = .ok (.iload_n 2, 1) := by decide +kernel
theorem dX5_isSpelledBy_1 : decode cX5_isSpelledBy 1 = .ok (.ifCond .lt 9, 3) := by decide +kernel
theorem dX5_isSpelledBy_4 : decode cX5_isSpelledBy 4 = .ok (.iload_n 3, 1) := by decide +kernel
theorem dX5_isSpelledBy_5 : decode cX5_isSpelledBy 5 = .ok (.aload_n 1, 1) := by decide +kernel
theorem dX5_isSpelledBy_6 : decode cX5_isSpelledBy 6 = .ok (.arraylength, 1) := by decide +kernel
theorem dX5_isSpelledBy_7 : decode cX5_isSpelledBy 7 = .ok (.if_icmp .le 5, 3) := by decide +kernel
theorem dX5_isSpelledBy_10 : decode cX5_isSpelledBy 10 = .ok (.iconst 0, 1) := by decide +kernel
theorem dX5_isSpelledBy_11 : decode cX5_isSpelledBy 11 = .ok (.ireturn, 1) := by decide +kernel
theorem dX5_isSpelledBy_12 : decode cX5_isSpelledBy 12 = .ok (.iload_n 2, 1) := by decide +kernel
theorem dX5_isSpelledBy_13 : decode cX5_isSpelledBy 13 = .ok (.istore 4, 2) := by decide +kernel
theorem dX5_isSpelledBy_15 : decode cX5_isSpelledBy 15 = .ok (.iconst 1, 1) := by decide +kernel
theorem dX5_isSpelledBy_16 : decode cX5_isSpelledBy 16 = .ok (.istore 5, 2) := by decide +kernel
theorem dX5_isSpelledBy_18 : decode cX5_isSpelledBy 18 = .ok (.iconst 0, 1) := by decide +kernel
theorem dX5_isSpelledBy_19 : decode cX5_isSpelledBy 19 = .ok (.istore 6, 2) := by decide +kernel
theorem dX5_isSpelledBy_21 : decode cX5_isSpelledBy 21 = .ok (.iload 6, 2) := by decide +kernel
theorem dX5_isSpelledBy_23 : decode cX5_isSpelledBy 23 = .ok (.aload_n 0, 1) := by decide +kernel
theorem dX5_isSpelledBy_24 : decode cX5_isSpelledBy 24 = .ok (.getfield 25, 3) := by decide +kernel
theorem dX5_isSpelledBy_27 : decode cX5_isSpelledBy 27 = .ok (.if_icmp .ge 100, 3) := by decide +kernel
theorem dX5_isSpelledBy_30 : decode cX5_isSpelledBy 30 = .ok (.aload_n 0, 1) := by decide +kernel
theorem dX5_isSpelledBy_31 : decode cX5_isSpelledBy 31 = .ok (.getfield 11, 3) := by decide +kernel
theorem dX5_isSpelledBy_34 : decode cX5_isSpelledBy 34 = .ok (.iload 6, 2) := by decide +kernel
theorem dX5_isSpelledBy_36 : decode cX5_isSpelledBy 36 = .ok (.caload, 1) := by decide +kernel
theorem dX5_isSpelledBy_37 : decode cX5_isSpelledBy 37 = .ok (.istore 7, 2) := by decide +kernel
theorem dX5_isSpelledBy_39 : decode cX5_isSpelledBy 39 = .ok (.iload 7, 2) := by decide +kernel
theorem dX5_isSpelledBy_41 : decode cX5_isSpelledBy 41 = .ok (.bipush 46, 2) := by decide +kernel
theorem dX5_isSpelledBy_43 : decode cX5_isSpelledBy 43 = .ok (.if_icmp .ne 34, 3) := by decide +kernel
theorem dX5_isSpelledBy_46 : decode cX5_isSpelledBy 46 = .ok (.iconst 1, 1) := by decide +kernel
theorem dX5_isSpelledBy_47 : decode cX5_isSpelledBy 47 = .ok (.istore 5, 2) := by decide +kernel
theorem dX5_isSpelledBy_49 : decode cX5_isSpelledBy 49 = .ok (.iload 4, 2) := by decide +kernel
theorem dX5_isSpelledBy_51 : decode cX5_isSpelledBy 51 = .ok (.iload 4, 2) := by decide +kernel
theorem dX5_isSpelledBy_53 : decode cX5_isSpelledBy 53 = .ok (.iload_n 3, 1) := by decide +kernel
theorem dX5_isSpelledBy_54 : decode cX5_isSpelledBy 54 = .ok (.if_icmp .ge 16, 3) := by decide +kernel
theorem dX5_isSpelledBy_57 : decode cX5_isSpelledBy 57 = .ok (.aload_n 1, 1) := by decide +kernel
theorem dX5_isSpelledBy_58 : decode cX5_isSpelledBy 58 = .ok (.iload 4, 2) := by decide +kernel
theorem dX5_isSpelledBy_60 : decode cX5_isSpelledBy 60 = .ok (.caload, 1) := by decide +kernel
theorem dX5_isSpelledBy_61 : decode cX5_isSpelledBy 61 = .ok (.bipush 95, 2) := by decide +kernel
theorem dX5_isSpelledBy_63 : decode cX5_isSpelledBy 63 = .ok (.if_icmp .ne 7, 3) := by decide +kernel
theorem dX5_isSpelledBy_66 : decode cX5_isSpelledBy 66 = .ok (.iconst 1, 1) := by decide +kernel
theorem dX5_isSpelledBy_67 : decode cX5_isSpelledBy 67 = .ok (.goto 4, 3) := by decide +kernel
theorem dX5_isSpelledBy_70 : decode cX5_isSpelledBy 70 = .ok (.iconst 0, 1) := by decide +kernel
theorem dX5_isSpelledBy_71 : decode cX5_isSpelledBy 71 = .ok (.iadd, 1) := by decide +kernel
theorem dX5_isSpelledBy_72 : decode cX5_isSpelledBy 72 = .ok (.istore 4, 2) := by decide +kernel
theorem dX5_isSpelledBy_74 : decode cX5_isSpelledBy 74 = .ok (.goto 47, 3) := by decide +kernel
theorem dX5_isSpelledBy_77 : decode cX5_isSpelledBy 77 = .ok (.iload 5, 2) := by decide +kernel
theorem dX5_isSpelledBy_79 : decode cX5_isSpelledBy 79 = .ok (.ifCond .eq 15, 3) := by decide +kernel
theorem dX5_isSpelledBy_82 : decode cX5_isSpelledBy 82 = .ok (.iload 7, 2) := by decide +kernel
theorem dX5_isSpelledBy_84 : decode cX5_isSpelledBy 84 = .ok (.bipush 97, 2) := by decide +kernel
theorem dX5_isSpelledBy_86 : decode cX5_isSpelledBy 86 = .ok (.isub, 1) := by decide +kernel
theorem dX5_isSpelledBy_87 : decode cX5_isSpelledBy 87 = .ok (.bipush 65, 2) := by decide +kernel
theorem dX5_isSpelledBy_89 : decode cX5_isSpelledBy 89 = .ok (.iadd, 1) := by decide +kernel
theorem dX5_isSpelledBy_90 : decode cX5_isSpelledBy 90 = .ok (.i2c, 1) := by decide +kernel
theorem dX5_isSpelledBy_91 : decode cX5_isSpelledBy 91 = .ok (.goto 5, 3) := by decide +kernel
theorem dX5_isSpelledBy_94 : decode cX5_isSpelledBy 94 = .ok (.iload 7, 2) := by decide +kernel
theorem dX5_isSpelledBy_96 : decode cX5_isSpelledBy 96 = .ok (.istore 8, 2) := by decide +kernel
theorem dX5_isSpelledBy_98 : decode cX5_isSpelledBy 98 = .ok (.iload 4, 2) := by decide +kernel
theorem dX5_isSpelledBy_100 : decode cX5_isSpelledBy 100 = .ok (.iload_n 3, 1) := by decide +kernel
theorem dX5_isSpelledBy_101 : decode cX5_isSpelledBy 101 = .ok (.if_icmp .ge 12, 3) := by decide +kernel
theorem dX5_isSpelledBy_104 : decode cX5_isSpelledBy 104 = .ok (.aload_n 1, 1) := by decide +kernel
theorem dX5_isSpelledBy_105 : decode cX5_isSpelledBy 105 = .ok (.iload 4, 2) := by decide +kernel
theorem dX5_isSpelledBy_107 : decode cX5_isSpelledBy 107 = .ok (.caload, 1) := by decide +kernel
theorem dX5_isSpelledBy_108 : decode cX5_isSpelledBy 108 = .ok (.iload 8, 2) := by decide +kernel
theorem dX5_isSpelledBy_110 : decode cX5_isSpelledBy 110 = .ok (.if_icmp .eq 5, 3) := by decide +kernel
theorem dX5_isSpelledBy_113 : decode cX5_isSpelledBy 113 = .ok (.iconst 0, 1) := by decide +kernel
theorem dX5_isSpelledBy_114 : decode cX5_isSpelledBy 114 = .ok (.ireturn, 1) := by decide +kernel
theorem dX5_isSpelledBy_115 : decode cX5_isSpelledBy 115 = .ok (.iconst 0, 1) := by decide +kernel
theorem dX5_isSpelledBy_116 : decode cX5_isSpelledBy 116 = .ok (.istore 5, 2) := by decide +kernel
theorem dX5_isSpelledBy_118 : decode cX5_isSpelledBy 118 = .ok (.iinc 4 1, 3) := by decide +kernel
theorem dX5_isSpelledBy_121 : decode cX5_isSpelledBy 121 = .ok (.iinc 6 1, 3) := by decide +kernel
theorem dX5_isSpelledBy_124 : decode cX5_isSpelledBy 124 = .ok (.goto (-103), 3) := by decide +kernel
theorem dX5_isSpelledBy_127 : decode cX5_isSpelledBy 127 = .ok (.iload 4, 2) := by decide +kernel
theorem dX5_isSpelledBy_129 : decode cX5_isSpelledBy 129 = .ok (.iload_n 3, 1) := by decide +kernel
theorem dX5_isSpelledBy_130 : decode cX5_isSpelledBy 130 = .ok (.if_icmp .ne 7, 3) := by decide +kernel
theorem dX5_isSpelledBy_133 : decode cX5_isSpelledBy 133 = .ok (.iconst 1, 1) := by decide +kernel
theorem dX5_isSpelledBy_134 : decode cX5_isSpelledBy 134 = .ok (.goto 4, 3) := by decide +kernel
theorem dX5_isSpelledBy_137 : decode cX5_isSpelledBy 137 = .ok (.iconst 0, 1) := by decide +kernel
theorem dX5_isSpelledBy_138 : decode cX5_isSpelledBy 138 = .ok (.ireturn, 1) := by decide +kernel
def jX5_isSpelledBy_96 (K21 : Int32 → Int32 → Int32 → Option Int32) (a0 : Nat) (a1 : Nat) (x3 : Int32) (x4 : Int32) (x6 : Int32) (k0 : Int32) (u : fb_M) : Option Int32 :=
 (if x3 ≤ x4 then (some 0)
  else (fb_gd (¬ (x4 < 0 ∨ (fb_sh a1).2 ≤ x4.toNatClampNeg)) 
   (if (fb_I u a1 x4.toNatClampNeg) = k0 then (K21 (x4 + 1) 0 (x6 + 1))
   else (some 0))))
set_option maxRecDepth 100000 in
set_option maxHeartbeats 4000000 in
theorem tjX5_isSpelledBy_96 {g : fb_G} {res : Int32} (a0 : Nat) (a1 : Nat) (x3 : Int32) (x4 : Int32) (x6 : Int32) (k0 : Int32) (u : fb_M) (K21 : Int32 → Int32 → Int32 → Option Int32) (ha0 : a0 < fb_NT ∧ fb_sh a0 = (5, 4)) (ha1 : a1 < fb_NT ∧ (fb_sh a1).1 = 101) (hK21 : ∀ (x4 : Int32) (x5 : Int32) (x6 : Int32) ,  K21 x4 x5 x6 = some res → fb_V g RX5 cX5_isSpelledBy 9 (some .boolean) "isSpelledBy" (fb_room 0 0 0 0) (fb_Qm g (some (.int res)) fb_NT u 0 0) 0 0 fb_NT u 21 [(0, .ref (fb_b g + a0)), (1, .ref (fb_b g + a1)), (3, .int x3), (4, .int x4), (5, .int x5), (6, .int x6)] []) (h : jX5_isSpelledBy_96 K21 a0 a1 x3 x4 x6 k0 u = some res) : fb_V g RX5 cX5_isSpelledBy 9 (some .boolean) "isSpelledBy" (fb_room 0 0 0 0) (fb_Qm g (some (.int res)) fb_NT u 0 0) 0 0 fb_NT u 96 [(0, .ref (fb_b g + a0)), (1, .ref (fb_b g + a1)), (3, .int x3), (4, .int x4), (6, .int x6)] [.int k0] := by
  unfold jX5_isSpelledBy_96 at h
  refine fb_istore (pc := 96) (lv' := [(8, .int k0), (0, .ref (fb_b g + a0)), (1, .ref (fb_b g + a1)), (3, .int x3), (4, .int x4), (6, .int x6)]) dX5_isSpelledBy_96 (by decide) rfl ?_
  refine fb_iload (pc := 98) dX5_isSpelledBy_98 4 rfl ?_
  refine fb_iload_n (pc := 100) dX5_isSpelledBy_100 3 rfl ?_
  refine fb_icmp_ge (pc := 101) (tgt := 113) h dX5_isSpelledBy_101 (by decide) (fun h => ?_) (fun h => ?_)
  · refine fb_iconst (pc := 113) (v := 0) dX5_isSpelledBy_113 fb_ki_0 ?_
    exact fb_zretR (pc := 114) rfl h dX5_isSpelledBy_114
  · refine fb_aload_n (pc := 104) dX5_isSpelledBy_104 2 rfl ?_
    refine fb_iload (pc := 105) dX5_isSpelledBy_105 4 rfl ?_
    refine fb_gdE h (fun i107 h => ?_)
    refine fb_cald (pc := 107) dX5_isSpelledBy_107 ha1.1 (fb_eta ha1.2) i107 ?_
    refine fb_iload (pc := 108) dX5_isSpelledBy_108 0 rfl ?_
    refine fb_icmp_eq (pc := 110) (tgt := 115) h dX5_isSpelledBy_110 (by decide) (fun h => ?_) (fun h => ?_)
    · refine fb_iconst (pc := 115) (v := 0) dX5_isSpelledBy_115 fb_ki_0 ?_
      refine fb_istore (pc := 116) (lv' := [(5, .int 0), (8, .int k0), (0, .ref (fb_b g + a0)), (1, .ref (fb_b g + a1)), (3, .int x3), (4, .int x4), (6, .int x6)]) dX5_isSpelledBy_116 (by decide) rfl ?_
      refine fb_iinc (pc := 118) (v := 1) (lv' := [(4, .int (x4 + 1)), (5, .int 0), (8, .int k0), (0, .ref (fb_b g + a0)), (1, .ref (fb_b g + a1)), (3, .int x3), (6, .int x6)]) dX5_isSpelledBy_118 5 rfl fb_ki_1 (by decide) rfl ?_
      refine fb_iinc (pc := 121) (v := 1) (lv' := [(6, .int (x6 + 1)), (4, .int (x4 + 1)), (5, .int 0), (8, .int k0), (0, .ref (fb_b g + a0)), (1, .ref (fb_b g + a1)), (3, .int x3)]) dX5_isSpelledBy_121 6 rfl fb_ki_1 (by decide) rfl ?_
      refine fb_goto (pc := 124) (tgt := 21) dX5_isSpelledBy_124 (by decide) ?_
      exact fb_sub [4, 5, 6, 1, 2, 0] rfl (hK21 (x4 + 1) 0 (x6 + 1) h)
    · refine fb_iconst (pc := 113) (v := 0) dX5_isSpelledBy_113 fb_ki_0 ?_
      exact fb_zretR (pc := 114) rfl h dX5_isSpelledBy_114

def bX5_isSpelledBy_21 (K21 : Int32 → Int32 → Int32 → Option Int32) (a0 : Nat) (a1 : Nat) (x3 : Int32) (x4 : Int32) (x5 : Int32) (x6 : Int32) (u : fb_M) : Option Int32 :=
 (if (fb_I u a0 1) ≤ x6 then (if x4 = x3 then (some 1)
   else (some 0))
  else ((fb_R u a0 0).bind fun q31 => fb_gd (q31 < fb_NT ∧ (fb_sh q31).1 = 101) 
   ((fb_gd (¬ (x6 < 0 ∨ (fb_sh q31).2 ≤ x6.toNatClampNeg)) 
   (if (fb_I u q31 x6.toNatClampNeg) = 46 then (if x3 ≤ x4 then (K21 (x4 + 0) 1 (x6 + 1))
    else (fb_gd (¬ (x4 < 0 ∨ (fb_sh a1).2 ≤ x4.toNatClampNeg)) 
     (if (fb_I u a1 x4.toNatClampNeg) = 95 then (K21 (x4 + 1) 1 (x6 + 1))
     else (K21 (x4 + 0) 1 (x6 + 1)))))
   else (if x5 = 0 then (jX5_isSpelledBy_96 K21 a0 a1 x3 x4 x6 (fb_I u q31 x6.toNatClampNeg) u)
    else (jX5_isSpelledBy_96 K21 a0 a1 x3 x4 x6 (((((fb_I u q31 x6.toNatClampNeg) - 97) + 65).toUInt32 % 65536).toInt32) u)))))))
def gX5_isSpelledBy_21 (a0 : Nat) (a1 : Nat) (x3 : Int32) (u : fb_M) : Nat → Int32 → Int32 → Int32 → Option Int32
 | 0 => fun _ _ _ => none
 | fu + 1 => fun x4 x5 x6 => bX5_isSpelledBy_21 (gX5_isSpelledBy_21 a0 a1 x3 u fu) a0 a1 x3 x4 x5 x6 u
set_option maxRecDepth 100000 in
set_option maxHeartbeats 4000000 in
theorem tbX5_isSpelledBy_21 {g : fb_G} {res : Int32} (a0 : Nat) (a1 : Nat) (x3 : Int32) (x4 : Int32) (x5 : Int32) (x6 : Int32) (u : fb_M) (K21 : Int32 → Int32 → Int32 → Option Int32) (ha0 : a0 < fb_NT ∧ fb_sh a0 = (5, 4)) (ha1 : a1 < fb_NT ∧ (fb_sh a1).1 = 101) (hK21 : ∀ (x4 : Int32) (x5 : Int32) (x6 : Int32) ,  K21 x4 x5 x6 = some res → fb_V g RX5 cX5_isSpelledBy 9 (some .boolean) "isSpelledBy" (fb_room 0 0 0 0) (fb_Qm g (some (.int res)) fb_NT u 0 0) 0 0 fb_NT u 21 [(0, .ref (fb_b g + a0)), (1, .ref (fb_b g + a1)), (3, .int x3), (4, .int x4), (5, .int x5), (6, .int x6)] []) (h : bX5_isSpelledBy_21 K21 a0 a1 x3 x4 x5 x6 u = some res) : fb_V g RX5 cX5_isSpelledBy 9 (some .boolean) "isSpelledBy" (fb_room 0 0 0 0) (fb_Qm g (some (.int res)) fb_NT u 0 0) 0 0 fb_NT u 21 [(0, .ref (fb_b g + a0)), (1, .ref (fb_b g + a1)), (3, .int x3), (4, .int x4), (5, .int x5), (6, .int x6)] [] := by
  unfold bX5_isSpelledBy_21 at h
  refine fb_iload (pc := 21) dX5_isSpelledBy_21 5 rfl ?_
  refine fb_aload_n (pc := 23) dX5_isSpelledBy_23 0 rfl ?_
  refine fb_getI (pc := 24) dX5_isSpelledBy_24 lkX5_25 ha0.1 ha0.2 rfl ?_
  refine fb_icmp_ge (pc := 27) (tgt := 127) h dX5_isSpelledBy_27 (by decide) (fun h => ?_) (fun h => ?_)
  · refine fb_iload (pc := 127) dX5_isSpelledBy_127 3 rfl ?_
    refine fb_iload_n (pc := 129) dX5_isSpelledBy_129 2 rfl ?_
    refine fb_icmp_ne (pc := 130) (tgt := 137) h dX5_isSpelledBy_130 (by decide) (fun h => ?_) (fun h => ?_)
    · refine fb_iconst (pc := 137) (v := 0) dX5_isSpelledBy_137 fb_ki_0 ?_
      exact fb_zretR (pc := 138) rfl h dX5_isSpelledBy_138
    · refine fb_iconst (pc := 133) (v := 1) dX5_isSpelledBy_133 fb_ki_1 ?_
      refine fb_goto (pc := 134) (tgt := 138) dX5_isSpelledBy_134 (by decide) ?_
      exact fb_zretR (pc := 138) rfl h dX5_isSpelledBy_138
  · refine fb_aload_n (pc := 30) dX5_isSpelledBy_30 0 rfl ?_
    refine fb_bnE h (fun q31 e31 h => fb_gdE h (fun s31 h => ?_))
    refine fb_getR (pc := 31) dX5_isSpelledBy_31 lkX5_11 ha0.1 ha0.2 (by decide) e31 ?_
    refine fb_iload (pc := 34) dX5_isSpelledBy_34 5 rfl ?_
    refine fb_gdE h (fun i36 h => ?_)
    refine fb_cald (pc := 36) dX5_isSpelledBy_36 s31.1 (fb_eta s31.2) i36 ?_
    refine fb_istore (pc := 37) (lv' := [(7, .int (fb_I u q31 x6.toNatClampNeg)), (0, .ref (fb_b g + a0)), (1, .ref (fb_b g + a1)), (3, .int x3), (4, .int x4), (5, .int x5), (6, .int x6)]) dX5_isSpelledBy_37 (by decide) rfl ?_
    refine fb_iload (pc := 39) dX5_isSpelledBy_39 0 rfl ?_
    refine fb_bipush (pc := 41) (v := 46) dX5_isSpelledBy_41 fb_kb_46 ?_
    refine fb_icmp_ne (pc := 43) (tgt := 77) h dX5_isSpelledBy_43 (by decide) (fun h => ?_) (fun h => ?_)
    · refine fb_iload (pc := 77) dX5_isSpelledBy_77 5 rfl ?_
      refine fb_if_eq (pc := 79) (tgt := 94) h dX5_isSpelledBy_79 (by decide) (fun h => ?_) (fun h => ?_)
      · refine fb_iload (pc := 94) dX5_isSpelledBy_94 0 rfl ?_
        exact fb_sub [1, 2, 3, 4, 6] rfl (tjX5_isSpelledBy_96 a0 a1 x3 x4 x6 (fb_I u q31 x6.toNatClampNeg) u K21 ha0 ha1 hK21 h)
      · refine fb_iload (pc := 82) dX5_isSpelledBy_82 0 rfl ?_
        refine fb_bipush (pc := 84) (v := 97) dX5_isSpelledBy_84 fb_kb_97 ?_
        refine fb_isub (pc := 86) dX5_isSpelledBy_86 ?_
        refine fb_bipush (pc := 87) (v := 65) dX5_isSpelledBy_87 fb_kb_65 ?_
        refine fb_iadd (pc := 89) dX5_isSpelledBy_89 ?_
        refine fb_i2c (pc := 90) dX5_isSpelledBy_90 ?_
        refine fb_goto (pc := 91) (tgt := 96) dX5_isSpelledBy_91 (by decide) ?_
        exact fb_sub [1, 2, 3, 4, 6] rfl (tjX5_isSpelledBy_96 a0 a1 x3 x4 x6 (((((fb_I u q31 x6.toNatClampNeg) - 97) + 65).toUInt32 % 65536).toInt32) u K21 ha0 ha1 hK21 h)
    · refine fb_iconst (pc := 46) (v := 1) dX5_isSpelledBy_46 fb_ki_1 ?_
      refine fb_istore (pc := 47) (lv' := [(5, .int 1), (7, .int (fb_I u q31 x6.toNatClampNeg)), (0, .ref (fb_b g + a0)), (1, .ref (fb_b g + a1)), (3, .int x3), (4, .int x4), (6, .int x6)]) dX5_isSpelledBy_47 (by decide) rfl ?_
      refine fb_iload (pc := 49) dX5_isSpelledBy_49 5 rfl ?_
      refine fb_iload (pc := 51) dX5_isSpelledBy_51 5 rfl ?_
      refine fb_iload_n (pc := 53) dX5_isSpelledBy_53 4 rfl ?_
      refine fb_icmp_ge (pc := 54) (tgt := 70) h dX5_isSpelledBy_54 (by decide) (fun h => ?_) (fun h => ?_)
      · refine fb_iconst (pc := 70) (v := 0) dX5_isSpelledBy_70 fb_ki_0 ?_
        refine fb_iadd (pc := 71) dX5_isSpelledBy_71 ?_
        refine fb_istore (pc := 72) (lv' := [(4, .int (x4 + 0)), (5, .int 1), (7, .int (fb_I u q31 x6.toNatClampNeg)), (0, .ref (fb_b g + a0)), (1, .ref (fb_b g + a1)), (3, .int x3), (6, .int x6)]) dX5_isSpelledBy_72 (by decide) rfl ?_
        refine fb_goto (pc := 74) (tgt := 121) dX5_isSpelledBy_74 (by decide) ?_
        refine fb_iinc (pc := 121) (v := 1) (lv' := [(6, .int (x6 + 1)), (4, .int (x4 + 0)), (5, .int 1), (7, .int (fb_I u q31 x6.toNatClampNeg)), (0, .ref (fb_b g + a0)), (1, .ref (fb_b g + a1)), (3, .int x3)]) dX5_isSpelledBy_121 6 rfl fb_ki_1 (by decide) rfl ?_
        refine fb_goto (pc := 124) (tgt := 21) dX5_isSpelledBy_124 (by decide) ?_
        exact fb_sub [4, 5, 6, 1, 2, 0] rfl (hK21 (x4 + 0) 1 (x6 + 1) h)
      · refine fb_aload_n (pc := 57) dX5_isSpelledBy_57 3 rfl ?_
        refine fb_iload (pc := 58) dX5_isSpelledBy_58 5 rfl ?_
        refine fb_gdE h (fun i60 h => ?_)
        refine fb_cald (pc := 60) dX5_isSpelledBy_60 ha1.1 (fb_eta ha1.2) i60 ?_
        refine fb_bipush (pc := 61) (v := 95) dX5_isSpelledBy_61 fb_kb_95 ?_
        refine fb_icmp_ne (pc := 63) (tgt := 70) h dX5_isSpelledBy_63 (by decide) (fun h => ?_) (fun h => ?_)
        · refine fb_iconst (pc := 70) (v := 0) dX5_isSpelledBy_70 fb_ki_0 ?_
          refine fb_iadd (pc := 71) dX5_isSpelledBy_71 ?_
          refine fb_istore (pc := 72) (lv' := [(4, .int (x4 + 0)), (5, .int 1), (7, .int (fb_I u q31 x6.toNatClampNeg)), (0, .ref (fb_b g + a0)), (1, .ref (fb_b g + a1)), (3, .int x3), (6, .int x6)]) dX5_isSpelledBy_72 (by decide) rfl ?_
          refine fb_goto (pc := 74) (tgt := 121) dX5_isSpelledBy_74 (by decide) ?_
          refine fb_iinc (pc := 121) (v := 1) (lv' := [(6, .int (x6 + 1)), (4, .int (x4 + 0)), (5, .int 1), (7, .int (fb_I u q31 x6.toNatClampNeg)), (0, .ref (fb_b g + a0)), (1, .ref (fb_b g + a1)), (3, .int x3)]) dX5_isSpelledBy_121 6 rfl fb_ki_1 (by decide) rfl ?_
          refine fb_goto (pc := 124) (tgt := 21) dX5_isSpelledBy_124 (by decide) ?_
          exact fb_sub [4, 5, 6, 1, 2, 0] rfl (hK21 (x4 + 0) 1 (x6 + 1) h)
        · refine fb_iconst (pc := 66) (v := 1) dX5_isSpelledBy_66 fb_ki_1 ?_
          refine fb_goto (pc := 67) (tgt := 71) dX5_isSpelledBy_67 (by decide) ?_
          refine fb_iadd (pc := 71) dX5_isSpelledBy_71 ?_
          refine fb_istore (pc := 72) (lv' := [(4, .int (x4 + 1)), (5, .int 1), (7, .int (fb_I u q31 x6.toNatClampNeg)), (0, .ref (fb_b g + a0)), (1, .ref (fb_b g + a1)), (3, .int x3), (6, .int x6)]) dX5_isSpelledBy_72 (by decide) rfl ?_
          refine fb_goto (pc := 74) (tgt := 121) dX5_isSpelledBy_74 (by decide) ?_
          refine fb_iinc (pc := 121) (v := 1) (lv' := [(6, .int (x6 + 1)), (4, .int (x4 + 1)), (5, .int 1), (7, .int (fb_I u q31 x6.toNatClampNeg)), (0, .ref (fb_b g + a0)), (1, .ref (fb_b g + a1)), (3, .int x3)]) dX5_isSpelledBy_121 6 rfl fb_ki_1 (by decide) rfl ?_
          refine fb_goto (pc := 124) (tgt := 21) dX5_isSpelledBy_124 (by decide) ?_
          exact fb_sub [4, 5, 6, 1, 2, 0] rfl (hK21 (x4 + 1) 1 (x6 + 1) h)

theorem tgX5_isSpelledBy_21 {g : fb_G} {res : Int32} (a0 : Nat) (a1 : Nat) (x3 : Int32) (u : fb_M) (ha0 : a0 < fb_NT ∧ fb_sh a0 = (5, 4)) (ha1 : a1 < fb_NT ∧ (fb_sh a1).1 = 101) : ∀ (fu : Nat) (x4 : Int32) (x5 : Int32) (x6 : Int32) ,  gX5_isSpelledBy_21 a0 a1 x3 u fu x4 x5 x6 = some res → fb_V g RX5 cX5_isSpelledBy 9 (some .boolean) "isSpelledBy" (fb_room 0 0 0 0) (fb_Qm g (some (.int res)) fb_NT u 0 0) 0 0 fb_NT u 21 [(0, .ref (fb_b g + a0)), (1, .ref (fb_b g + a1)), (3, .int x3), (4, .int x4), (5, .int x5), (6, .int x6)] [] := by
  intro fu
  induction fu with
  | zero => intro x4 x5 x6 h; exact absurd h (by simp [gX5_isSpelledBy_21])
  | succ fu ih => intro x4 x5 x6 h; exact tbX5_isSpelledBy_21 a0 a1 x3 x4 x5 x6 u (gX5_isSpelledBy_21 a0 a1 x3 u fu) ha0 ha1 ih h
def fX5_isSpelledBy (u : fb_M) (a0 : Nat) (a1 : Nat) (x2 : Int32) (x3 : Int32) : Option Int32 :=
 (if x2 < 0 then (some 0)
  else (if x3 ≤ (Int32.ofNat (fb_sh a1).2) then (gX5_isSpelledBy_21 a0 a1 x3 u fb_F x2 1 0)
   else (some 0)))
set_option maxRecDepth 100000 in
set_option maxHeartbeats 4000000 in
theorem mX5_isSpelledBy (g : fb_G) (u : fb_M) (a0 : Nat) (a1 : Nat) (x2 : Int32) (x3 : Int32) (ha0 : a0 < fb_NT ∧ fb_sh a0 = (5, 4)) (ha1 : a1 < fb_NT ∧ (fb_sh a1).1 = 101) {res : Int32} (h : fX5_isSpelledBy u a0 a1 x2 x3 = some res) : fb_Runs g 0 0 0 0 fb_NT fb_NT yX5_isSpelledBy cX5_isSpelledBy 9 (some .boolean) [.ref (fb_b g + a0), .ref (fb_b g + a1), .int x2, .int x3] u (some (.int res)) u := by
  unfold fX5_isSpelledBy at h
  refine fb_enter (by decide) (Nat.le_of_ble_eq_true rfl) ?_
  show fb_V g RX5 cX5_isSpelledBy 9 (some .boolean) "isSpelledBy" (fb_room 0 0 0 0) (fb_Qm g (some (.int res)) fb_NT u 0 0) 0 0 fb_NT u 0 [(0, .ref (fb_b g + a0)), (1, .ref (fb_b g + a1)), (2, .int x2), (3, .int x3)] []
  refine fb_iload_n (pc := 0) dX5_isSpelledBy_0 2 rfl ?_
  refine fb_if_lt (pc := 1) (tgt := 10) h dX5_isSpelledBy_1 (by decide) (fun h => ?_) (fun h => ?_)
  · refine fb_iconst (pc := 10) (v := 0) dX5_isSpelledBy_10 fb_ki_0 ?_
    exact fb_zretR (pc := 11) rfl h dX5_isSpelledBy_11
  · refine fb_iload_n (pc := 4) dX5_isSpelledBy_4 3 rfl ?_
    refine fb_aload_n (pc := 5) dX5_isSpelledBy_5 1 rfl ?_
    refine fb_alen (pc := 6) (t := 1) dX5_isSpelledBy_6 ha1.1 (fb_eta ha1.2) (by decide) ?_
    refine fb_icmp_le (pc := 7) (tgt := 12) h dX5_isSpelledBy_7 (by decide) (fun h => ?_) (fun h => ?_)
    · refine fb_iload_n (pc := 12) dX5_isSpelledBy_12 2 rfl ?_
      refine fb_istore (pc := 13) (lv' := [(4, .int x2), (0, .ref (fb_b g + a0)), (1, .ref (fb_b g + a1)), (2, .int x2), (3, .int x3)]) dX5_isSpelledBy_13 (by decide) rfl ?_
      refine fb_iconst (pc := 15) (v := 1) dX5_isSpelledBy_15 fb_ki_1 ?_
      refine fb_istore (pc := 16) (lv' := [(5, .int 1), (4, .int x2), (0, .ref (fb_b g + a0)), (1, .ref (fb_b g + a1)), (2, .int x2), (3, .int x3)]) dX5_isSpelledBy_16 (by decide) rfl ?_
      refine fb_iconst (pc := 18) (v := 0) dX5_isSpelledBy_18 fb_ki_0 ?_
      refine fb_istore (pc := 19) (lv' := [(6, .int 0), (5, .int 1), (4, .int x2), (0, .ref (fb_b g + a0)), (1, .ref (fb_b g + a1)), (2, .int x2), (3, .int x3)]) dX5_isSpelledBy_19 (by decide) rfl ?_
      exact fb_sub [3, 4, 6, 2, 1, 0] rfl (tgX5_isSpelledBy_21 a0 a1 x3 u ha0 ha1 fb_F x2 1 0 h)
    · refine fb_iconst (pc := 10) (v := 0) dX5_isSpelledBy_10 fb_ki_0 ?_
      exact fb_zretR (pc := 11) rfl h dX5_isSpelledBy_11

theorem dX5_goesBefore_0 : decode cX5_goesBefore 0 = .ok (.aload_n 0, 1) := by decide +kernel
theorem dX5_goesBefore_1 : decode cX5_goesBefore 1 = .ok (.getfield 36, 3) := by decide +kernel
theorem dX5_goesBefore_4 : decode cX5_goesBefore 4 = .ok (.aload_n 1, 1) := by decide +kernel
theorem dX5_goesBefore_5 : decode cX5_goesBefore 5 = .ok (.getfield 36, 3) := by decide +kernel
theorem dX5_goesBefore_8 : decode cX5_goesBefore 8 = .ok (.if_icmp .eq 20, 3) := by decide +kernel
theorem dX5_goesBefore_11 : decode cX5_goesBefore 11 = .ok (.aload_n 0, 1) := by decide +kernel
theorem dX5_goesBefore_12 : decode cX5_goesBefore 12 = .ok (.getfield 36, 3) := by decide +kernel
theorem dX5_goesBefore_15 : decode cX5_goesBefore 15 = .ok (.aload_n 1, 1) := by decide +kernel
theorem dX5_goesBefore_16 : decode cX5_goesBefore 16 = .ok (.getfield 36, 3) := by decide +kernel
theorem dX5_goesBefore_19 : decode cX5_goesBefore 19 = .ok (.if_icmp .le 7, 3) := by decide +kernel
theorem dX5_goesBefore_22 : decode cX5_goesBefore 22 = .ok (.iconst 1, 1) := by decide +kernel
theorem dX5_goesBefore_23 : decode cX5_goesBefore 23 = .ok (.goto 4, 3) := by decide +kernel
theorem dX5_goesBefore_26 : decode cX5_goesBefore 26 = .ok (.iconst 0, 1) := by decide +kernel
theorem dX5_goesBefore_27 : decode cX5_goesBefore 27 = .ok (.ireturn, 1) := by decide +kernel
theorem dX5_goesBefore_28 : decode cX5_goesBefore 28 = .ok (.aload_n 0, 1) := by decide +kernel
theorem dX5_goesBefore_29 : decode cX5_goesBefore 29 = .ok (.getfield 39, 3) := by decide +kernel
theorem dX5_goesBefore_32 : decode cX5_goesBefore 32 = .ok (.aload_n 1, 1) := by decide +kernel
theorem dX5_goesBefore_33 : decode cX5_goesBefore 33 = .ok (.getfield 39, 3) := by decide +kernel
theorem dX5_goesBefore_36 : decode cX5_goesBefore 36 = .ok (.if_icmp .le 7, 3) := by decide +kernel
theorem dX5_goesBefore_39 : decode cX5_goesBefore 39 = .ok (.iconst 1, 1) := by decide +kernel
theorem dX5_goesBefore_40 : decode cX5_goesBefore 40 = .ok (.goto 4, 3) := by decide +kernel
theorem dX5_goesBefore_43 : decode cX5_goesBefore 43 = .ok (.iconst 0, 1) := by decide +kernel
theorem dX5_goesBefore_44 : decode cX5_goesBefore 44 = .ok (.ireturn, 1) := by decide +kernel
def fX5_goesBefore (u : fb_M) (a0 : Nat) (a1 : Nat) : Option Int32 :=
 (if (fb_I u a0 2) = (fb_I u a1 2) then (if (fb_I u a0 3) ≤ (fb_I u a1 3) then (some 0)
   else (some 1))
  else (if (fb_I u a0 2) ≤ (fb_I u a1 2) then (some 0)
   else (some 1)))
set_option maxRecDepth 100000 in
set_option maxHeartbeats 4000000 in
theorem mX5_goesBefore (g : fb_G) (u : fb_M) (a0 : Nat) (a1 : Nat) (ha0 : a0 < fb_NT ∧ fb_sh a0 = (5, 4)) (ha1 : a1 < fb_NT ∧ fb_sh a1 = (5, 4)) {res : Int32} (h : fX5_goesBefore u a0 a1 = some res) : fb_Runs g 0 0 0 0 fb_NT fb_NT yX5_goesBefore cX5_goesBefore 2 (some .boolean) [.ref (fb_b g + a0), .ref (fb_b g + a1)] u (some (.int res)) u := by
  unfold fX5_goesBefore at h
  refine fb_enter (by decide) (Nat.le_of_ble_eq_true rfl) ?_
  show fb_V g RX5 cX5_goesBefore 2 (some .boolean) "goesBefore" (fb_room 0 0 0 0) (fb_Qm g (some (.int res)) fb_NT u 0 0) 0 0 fb_NT u 0 [(0, .ref (fb_b g + a0)), (1, .ref (fb_b g + a1))] []
  refine fb_aload_n (pc := 0) dX5_goesBefore_0 0 rfl ?_
  refine fb_getI (pc := 1) dX5_goesBefore_1 lkX5_36 ha0.1 ha0.2 rfl ?_
  refine fb_aload_n (pc := 4) dX5_goesBefore_4 1 rfl ?_
  refine fb_getI (pc := 5) dX5_goesBefore_5 lkX5_36 ha1.1 ha1.2 rfl ?_
  refine fb_icmp_eq (pc := 8) (tgt := 28) h dX5_goesBefore_8 (by decide) (fun h => ?_) (fun h => ?_)
  · refine fb_aload_n (pc := 28) dX5_goesBefore_28 0 rfl ?_
    refine fb_getI (pc := 29) dX5_goesBefore_29 lkX5_39 ha0.1 ha0.2 rfl ?_
    refine fb_aload_n (pc := 32) dX5_goesBefore_32 1 rfl ?_
    refine fb_getI (pc := 33) dX5_goesBefore_33 lkX5_39 ha1.1 ha1.2 rfl ?_
    refine fb_icmp_le (pc := 36) (tgt := 43) h dX5_goesBefore_36 (by decide) (fun h => ?_) (fun h => ?_)
    · refine fb_iconst (pc := 43) (v := 0) dX5_goesBefore_43 fb_ki_0 ?_
      exact fb_zretR (pc := 44) rfl h dX5_goesBefore_44
    · refine fb_iconst (pc := 39) (v := 1) dX5_goesBefore_39 fb_ki_1 ?_
      refine fb_goto (pc := 40) (tgt := 44) dX5_goesBefore_40 (by decide) ?_
      exact fb_zretR (pc := 44) rfl h dX5_goesBefore_44
  · refine fb_aload_n (pc := 11) dX5_goesBefore_11 0 rfl ?_
    refine fb_getI (pc := 12) dX5_goesBefore_12 lkX5_36 ha0.1 ha0.2 rfl ?_
    refine fb_aload_n (pc := 15) dX5_goesBefore_15 1 rfl ?_
    refine fb_getI (pc := 16) dX5_goesBefore_16 lkX5_36 ha1.1 ha1.2 rfl ?_
    refine fb_icmp_le (pc := 19) (tgt := 26) h dX5_goesBefore_19 (by decide) (fun h => ?_) (fun h => ?_)
    · refine fb_iconst (pc := 26) (v := 0) dX5_goesBefore_26 fb_ki_0 ?_
      exact fb_zretR (pc := 27) rfl h dX5_goesBefore_27
    · refine fb_iconst (pc := 22) (v := 1) dX5_goesBefore_22 fb_ki_1 ?_
      refine fb_goto (pc := 23) (tgt := 27) dX5_goesBefore_23 (by decide) ?_
      exact fb_zretR (pc := 27) rfl h dX5_goesBefore_27

theorem dX6_named_0 : decode cX6_named 0 = .ok (.iconst (-1), 1) := by decide +kernel
theorem dX6_named_1 : decode cX6_named 1 = .ok (.istore 4, 2) := by decide +kernel
theorem dX6_named_3 : decode cX6_named 3 = .ok (.iconst 0, 1) := by decide +kernel
theorem dX6_named_4 : decode cX6_named 4 = .ok (.istore 5, 2) := by decide +kernel
theorem dX6_named_6 : decode cX6_named 6 = .ok (.iload 5, 2) := by decide +kernel
theorem dX6_named_8 : decode cX6_named 8 = .ok (.aload_n 0, 1) := by decide +kernel
theorem dX6_named_9 : decode cX6_named 9 = .ok (.getfield 16, 3) := by decide +kernel
theorem dX6_named_12 : decode cX6_named 12 = .ok (.if_icmp .ge 57, 3) := by decide +kernel
theorem dX6_named_15 : decode cX6_named 15 = .ok (.aload_n 0, 1) := by decide +kernel
theorem dX6_named_16 : decode cX6_named 16 = .ok (.getfield 11, 3) := by decide +kernel
theorem dX6_named_19 : decode cX6_named 19 = .ok (.iload 5, 2) := by decide +kernel
theorem dX6_named_21 : decode cX6_named 21 = .ok (.aaload, 1) := by decide +kernel
theorem dX6_named_22 : decode cX6_named 22 = .ok (.aload_n 1, 1) := by decide +kernel
theorem dX6_named_23 : decode cX6_named 23 = .ok (.getfield 28, 3) := by decide +kernel
theorem dX6_named_26 : decode cX6_named 26 = .ok (.iload_n 2, 1) := by decide +kernel
theorem dX6_named_27 : decode cX6_named 27 = .ok (.iload_n 3, 1) := by decide +kernel
theorem dX6_named_28 : decode cX6_named 28 = .ok (.invokevirtual 34, 3) := by decide +kernel
theorem dX6_named_31 : decode cX6_named 31 = .ok (.ifCond .eq 32, 3) := by decide +kernel
theorem dX6_named_34 : decode cX6_named 34 = .ok (.iload 4, 2) := by decide +kernel
theorem dX6_named_36 : decode cX6_named 36 = .ok (.ifCond .lt 23, 3) := by decide +kernel
theorem dX6_named_39 : decode cX6_named 39 = .ok (.aload_n 0, 1) := by decide +kernel
theorem dX6_named_40 : decode cX6_named 40 = .ok (.getfield 11, 3) := by decide +kernel
theorem dX6_named_43 : decode cX6_named 43 = .ok (.iload 5, 2) := by decide +kernel
theorem dX6_named_45 : decode cX6_named 45 = .ok (.aaload, 1) := by decide +kernel
theorem dX6_named_46 : decode cX6_named 46 = .ok (.aload_n 0, 1) := by decide +kernel
theorem dX6_named_47 : decode cX6_named 47 = .ok (.getfield 11, 3) := by decide +kernel
theorem dX6_named_50 : decode cX6_named 50 = .ok (.iload 4, 2) := by decide +kernel
theorem dX6_named_52 : decode cX6_named 52 = .ok (.aaload, 1) := by decide +kernel
theorem dX6_named_53 : decode cX6_named 53 = .ok (.invokevirtual 38, 3) := by decide +kernel
theorem dX6_named_56 : decode cX6_named 56 = .ok (.ifCond .eq 7, 3) := by decide +kernel
theorem dX6_named_59 : decode cX6_named 59 = .ok (.iload 5, 2) := by decide +kernel
theorem dX6_named_61 : decode cX6_named 61 = .ok (.istore 4, 2) := by decide +kernel
theorem dX6_named_63 : decode cX6_named 63 = .ok (.iinc 5 1, 3) := by decide +kernel
theorem dX6_named_66 : decode cX6_named 66 = .ok (.goto (-60), 3) := by decide +kernel
theorem dX6_named_69 : decode cX6_named 69 = .ok (.iload 4, 2) := by decide +kernel
theorem dX6_named_71 : decode cX6_named 71 = .ok (.ireturn, 1) := by decide +kernel
def bX6_named_6 (K6 : Int32 → Int32 → Option Int32) (a0 : Nat) (a1 : Nat) (x2 : Int32) (x3 : Int32) (x4 : Int32) (x5 : Int32) (u : fb_M) : Option Int32 :=
 (if (fb_I u a0 1) ≤ x5 then (some x4)
  else ((fb_R u a0 0).bind fun q16 => fb_gd (q16 < fb_NT ∧ (fb_sh q16).1 = 104) 
   ((fb_gd (¬ (x5 < 0 ∨ (fb_sh q16).2 ≤ x5.toNatClampNeg)) 
   ((fb_R u q16 x5.toNatClampNeg).bind fun q21 => fb_gd (q21 < fb_NT ∧ fb_sh q21 = (5, 4)) 
   (((fb_R u a1 0).bind fun q23 => fb_gd (q23 < fb_NT ∧ (fb_sh q23).1 = 101) 
   (((fX5_isSpelledBy u q21 q23 x2 x3).bind fun r28 => 
   (if r28 = 0 then (K6 x4 (x5 + 1))
   else (if x4 < 0 then (K6 x5 (x5 + 1))
    else ((fb_R u a0 0).bind fun q40 => fb_gd (q40 < fb_NT ∧ (fb_sh q40).1 = 104) 
     ((fb_gd (¬ (x5 < 0 ∨ (fb_sh q40).2 ≤ x5.toNatClampNeg)) 
     ((fb_R u q40 x5.toNatClampNeg).bind fun q45 => fb_gd (q45 < fb_NT ∧ fb_sh q45 = (5, 4)) 
     (((fb_R u a0 0).bind fun q47 => fb_gd (q47 < fb_NT ∧ (fb_sh q47).1 = 104) 
     ((fb_gd (¬ (x4 < 0 ∨ (fb_sh q47).2 ≤ x4.toNatClampNeg)) 
     ((fb_R u q47 x4.toNatClampNeg).bind fun q52 => fb_gd (q52 < fb_NT ∧ fb_sh q52 = (5, 4)) 
     (((fX5_goesBefore u q45 q52).bind fun r53 => 
     (if r53 = 0 then (K6 x4 (x5 + 1))
     else (K6 x5 (x5 + 1)))))))))))))))))))))))))
def gX6_named_6 (a0 : Nat) (a1 : Nat) (x2 : Int32) (x3 : Int32) (u : fb_M) : Nat → Int32 → Int32 → Option Int32
 | 0 => fun _ _ => none
 | fu + 1 => fun x4 x5 => bX6_named_6 (gX6_named_6 a0 a1 x2 x3 u fu) a0 a1 x2 x3 x4 x5 u
set_option maxRecDepth 100000 in
set_option maxHeartbeats 4000000 in
theorem tbX6_named_6 {g : fb_G} {res : Int32} (a0 : Nat) (a1 : Nat) (x2 : Int32) (x3 : Int32) (x4 : Int32) (x5 : Int32) (u : fb_M) (K6 : Int32 → Int32 → Option Int32) (ha0 : a0 < fb_NT ∧ fb_sh a0 = (6, 2)) (ha1 : a1 < fb_NT ∧ fb_sh a1 = (0, 2)) (hK6 : ∀ (x4 : Int32) (x5 : Int32) ,  K6 x4 x5 = some res → fb_V g RX6 cX6_named 6 (some .int) "named" (fb_room 1 28 0 0) (fb_Qm g (some (.int res)) fb_NT u 0 0) 0 0 fb_NT u 6 [(0, .ref (fb_b g + a0)), (1, .ref (fb_b g + a1)), (2, .int x2), (3, .int x3), (4, .int x4), (5, .int x5)] []) (h : bX6_named_6 K6 a0 a1 x2 x3 x4 x5 u = some res) : fb_V g RX6 cX6_named 6 (some .int) "named" (fb_room 1 28 0 0) (fb_Qm g (some (.int res)) fb_NT u 0 0) 0 0 fb_NT u 6 [(0, .ref (fb_b g + a0)), (1, .ref (fb_b g + a1)), (2, .int x2), (3, .int x3), (4, .int x4), (5, .int x5)] [] := by
  unfold bX6_named_6 at h
  refine fb_iload (pc := 6) dX6_named_6 5 rfl ?_
  refine fb_aload_n (pc := 8) dX6_named_8 0 rfl ?_
  refine fb_getI (pc := 9) dX6_named_9 lkX6_16 ha0.1 ha0.2 rfl ?_
  refine fb_icmp_ge (pc := 12) (tgt := 69) h dX6_named_12 (by decide) (fun h => ?_) (fun h => ?_)
  · refine fb_iload (pc := 69) dX6_named_69 4 rfl ?_
    exact fb_iretR (pc := 71) h dX6_named_71
  · refine fb_aload_n (pc := 15) dX6_named_15 0 rfl ?_
    refine fb_bnE h (fun q16 e16 h => fb_gdE h (fun s16 h => ?_))
    refine fb_getR (pc := 16) dX6_named_16 lkX6_11 ha0.1 ha0.2 (by decide) e16 ?_
    refine fb_iload (pc := 19) dX6_named_19 5 rfl ?_
    refine fb_gdE h (fun i21 h => fb_bnE h (fun q21 e21 h => fb_gdE h (fun s21 h => ?_)))
    refine fb_aald (pc := 21) (t := 4) dX6_named_21 s16.1 (fb_eta s16.2) ⟨by decide, by decide, rfl⟩ i21 e21 ?_
    refine fb_aload_n (pc := 22) dX6_named_22 1 rfl ?_
    refine fb_bnE h (fun q23 e23 h => fb_gdE h (fun s23 h => ?_))
    refine fb_getR (pc := 23) dX6_named_23 lkX6_28 ha1.1 ha1.2 (by decide) e23 ?_
    refine fb_iload_n (pc := 26) dX6_named_26 2 rfl ?_
    refine fb_iload_n (pc := 27) dX6_named_27 3 rfl ?_
    refine fb_bnE h (fun r28 h28 h => ?_)
    refine fb_cV0v (pc := 28) [.ref (fb_b g + q23), .int x2, .int x3] dX6_named_28 (mX5_isSpelledBy g u q21 q23 x2 x3 s21 s23 h28) ymX5_isSpelledBy yiX5_isSpelledBy s21.1 s21.2 ylX6_34 rfl (Nat.le_of_ble_eq_true rfl) ⟨Nat.le_of_ble_eq_true rfl, Nat.le_of_ble_eq_true rfl⟩ ⟨Nat.le_of_ble_eq_true rfl, Nat.le_of_ble_eq_true rfl⟩ ?_
    refine fb_if_eq (pc := 31) (tgt := 63) h dX6_named_31 (by decide) (fun h => ?_) (fun h => ?_)
    · refine fb_iinc (pc := 63) (v := 1) (lv' := [(5, .int (x5 + 1)), (0, .ref (fb_b g + a0)), (1, .ref (fb_b g + a1)), (2, .int x2), (3, .int x3), (4, .int x4)]) dX6_named_63 5 rfl fb_ki_1 (by decide) rfl ?_
      refine fb_goto (pc := 66) (tgt := 6) dX6_named_66 (by decide) ?_
      exact fb_sub [1, 2, 3, 4, 5, 0] rfl (hK6 x4 (x5 + 1) h)
    · refine fb_iload (pc := 34) dX6_named_34 4 rfl ?_
      refine fb_if_lt (pc := 36) (tgt := 59) h dX6_named_36 (by decide) (fun h => ?_) (fun h => ?_)
      · refine fb_iload (pc := 59) dX6_named_59 5 rfl ?_
        refine fb_istore (pc := 61) (lv' := [(4, .int x5), (0, .ref (fb_b g + a0)), (1, .ref (fb_b g + a1)), (2, .int x2), (3, .int x3), (5, .int x5)]) dX6_named_61 (by decide) rfl ?_
        refine fb_iinc (pc := 63) (v := 1) (lv' := [(5, .int (x5 + 1)), (4, .int x5), (0, .ref (fb_b g + a0)), (1, .ref (fb_b g + a1)), (2, .int x2), (3, .int x3)]) dX6_named_63 5 rfl fb_ki_1 (by decide) rfl ?_
        refine fb_goto (pc := 66) (tgt := 6) dX6_named_66 (by decide) ?_
        exact fb_sub [2, 3, 4, 5, 1, 0] rfl (hK6 x5 (x5 + 1) h)
      · refine fb_aload_n (pc := 39) dX6_named_39 0 rfl ?_
        refine fb_bnE h (fun q40 e40 h => fb_gdE h (fun s40 h => ?_))
        refine fb_getR (pc := 40) dX6_named_40 lkX6_11 ha0.1 ha0.2 (by decide) e40 ?_
        refine fb_iload (pc := 43) dX6_named_43 5 rfl ?_
        refine fb_gdE h (fun i45 h => fb_bnE h (fun q45 e45 h => fb_gdE h (fun s45 h => ?_)))
        refine fb_aald (pc := 45) (t := 4) dX6_named_45 s40.1 (fb_eta s40.2) ⟨by decide, by decide, rfl⟩ i45 e45 ?_
        refine fb_aload_n (pc := 46) dX6_named_46 0 rfl ?_
        refine fb_bnE h (fun q47 e47 h => fb_gdE h (fun s47 h => ?_))
        refine fb_getR (pc := 47) dX6_named_47 lkX6_11 ha0.1 ha0.2 (by decide) e47 ?_
        refine fb_iload (pc := 50) dX6_named_50 4 rfl ?_
        refine fb_gdE h (fun i52 h => fb_bnE h (fun q52 e52 h => fb_gdE h (fun s52 h => ?_)))
        refine fb_aald (pc := 52) (t := 4) dX6_named_52 s47.1 (fb_eta s47.2) ⟨by decide, by decide, rfl⟩ i52 e52 ?_
        refine fb_bnE h (fun r53 h53 h => ?_)
        refine fb_cV0v (pc := 53) [.ref (fb_b g + q52)] dX6_named_53 (mX5_goesBefore g u q45 q52 s45 s52 h53) ymX5_goesBefore yiX5_goesBefore s45.1 s45.2 ylX6_38 rfl (Nat.le_of_ble_eq_true rfl) ⟨Nat.le_of_ble_eq_true rfl, Nat.le_of_ble_eq_true rfl⟩ ⟨Nat.le_of_ble_eq_true rfl, Nat.le_of_ble_eq_true rfl⟩ ?_
        refine fb_if_eq (pc := 56) (tgt := 63) h dX6_named_56 (by decide) (fun h => ?_) (fun h => ?_)
        · refine fb_iinc (pc := 63) (v := 1) (lv' := [(5, .int (x5 + 1)), (0, .ref (fb_b g + a0)), (1, .ref (fb_b g + a1)), (2, .int x2), (3, .int x3), (4, .int x4)]) dX6_named_63 5 rfl fb_ki_1 (by decide) rfl ?_
          refine fb_goto (pc := 66) (tgt := 6) dX6_named_66 (by decide) ?_
          exact fb_sub [1, 2, 3, 4, 5, 0] rfl (hK6 x4 (x5 + 1) h)
        · refine fb_iload (pc := 59) dX6_named_59 5 rfl ?_
          refine fb_istore (pc := 61) (lv' := [(4, .int x5), (0, .ref (fb_b g + a0)), (1, .ref (fb_b g + a1)), (2, .int x2), (3, .int x3), (5, .int x5)]) dX6_named_61 (by decide) rfl ?_
          refine fb_iinc (pc := 63) (v := 1) (lv' := [(5, .int (x5 + 1)), (4, .int x5), (0, .ref (fb_b g + a0)), (1, .ref (fb_b g + a1)), (2, .int x2), (3, .int x3)]) dX6_named_63 5 rfl fb_ki_1 (by decide) rfl ?_
          refine fb_goto (pc := 66) (tgt := 6) dX6_named_66 (by decide) ?_
          exact fb_sub [2, 3, 4, 5, 1, 0] rfl (hK6 x5 (x5 + 1) h)

theorem tgX6_named_6 {g : fb_G} {res : Int32} (a0 : Nat) (a1 : Nat) (x2 : Int32) (x3 : Int32) (u : fb_M) (ha0 : a0 < fb_NT ∧ fb_sh a0 = (6, 2)) (ha1 : a1 < fb_NT ∧ fb_sh a1 = (0, 2)) : ∀ (fu : Nat) (x4 : Int32) (x5 : Int32) ,  gX6_named_6 a0 a1 x2 x3 u fu x4 x5 = some res → fb_V g RX6 cX6_named 6 (some .int) "named" (fb_room 1 28 0 0) (fb_Qm g (some (.int res)) fb_NT u 0 0) 0 0 fb_NT u 6 [(0, .ref (fb_b g + a0)), (1, .ref (fb_b g + a1)), (2, .int x2), (3, .int x3), (4, .int x4), (5, .int x5)] [] := by
  intro fu
  induction fu with
  | zero => intro x4 x5 h; exact absurd h (by simp [gX6_named_6])
  | succ fu ih => intro x4 x5 h; exact tbX6_named_6 a0 a1 x2 x3 x4 x5 u (gX6_named_6 a0 a1 x2 x3 u fu) ha0 ha1 ih h
def fX6_named (u : fb_M) (a0 : Nat) (a1 : Nat) (x2 : Int32) (x3 : Int32) : Option Int32 :=
 (gX6_named_6 a0 a1 x2 x3 u fb_F ((-1)) 0)
set_option maxRecDepth 100000 in
set_option maxHeartbeats 4000000 in
theorem mX6_named (g : fb_G) (u : fb_M) (a0 : Nat) (a1 : Nat) (x2 : Int32) (x3 : Int32) (ha0 : a0 < fb_NT ∧ fb_sh a0 = (6, 2)) (ha1 : a1 < fb_NT ∧ fb_sh a1 = (0, 2)) {res : Int32} (h : fX6_named u a0 a1 x2 x3 = some res) : fb_Runs g 1 28 0 0 fb_NT fb_NT yX6_named cX6_named 6 (some .int) [.ref (fb_b g + a0), .ref (fb_b g + a1), .int x2, .int x3] u (some (.int res)) u := by
  unfold fX6_named at h
  refine fb_enter (by decide) (Nat.le_of_ble_eq_true rfl) ?_
  show fb_V g RX6 cX6_named 6 (some .int) "named" (fb_room 1 28 0 0) (fb_Qm g (some (.int res)) fb_NT u 0 0) 0 0 fb_NT u 0 [(0, .ref (fb_b g + a0)), (1, .ref (fb_b g + a1)), (2, .int x2), (3, .int x3)] []
  refine fb_iconst (pc := 0) (v := (-1)) dX6_named_0 fb_ki_m1 ?_
  refine fb_istore (pc := 1) (lv' := [(4, .int ((-1))), (0, .ref (fb_b g + a0)), (1, .ref (fb_b g + a1)), (2, .int x2), (3, .int x3)]) dX6_named_1 (by decide) rfl ?_
  refine fb_iconst (pc := 3) (v := 0) dX6_named_3 fb_ki_0 ?_
  refine fb_istore (pc := 4) (lv' := [(5, .int 0), (4, .int ((-1))), (0, .ref (fb_b g + a0)), (1, .ref (fb_b g + a1)), (2, .int x2), (3, .int x3)]) dX6_named_4 (by decide) rfl ?_
  exact fb_sub [2, 3, 4, 5, 1, 0] rfl (tgX6_named_6 a0 a1 x2 x3 u ha0 ha1 fb_F ((-1)) 0 h)

theorem dX8_names_0 : decode cX8_names 0 = .ok (.aload_n 0, 1) := by decide +kernel
theorem dX8_names_1 : decode cX8_names 1 = .ok (.getfield 19, 3) := by decide +kernel
theorem dX8_names_4 : decode cX8_names 4 = .ok (.aload_n 0, 1) := by decide +kernel
theorem dX8_names_5 : decode cX8_names 5 = .ok (.getfield 10, 3) := by decide +kernel
theorem dX8_names_8 : decode cX8_names 8 = .ok (.iconst 0, 1) := by decide +kernel
theorem dX8_names_9 : decode cX8_names 9 = .ok (.aload_n 0, 1) := by decide +kernel
theorem dX8_names_10 : decode cX8_names 10 = .ok (.getfield 10, 3) := by decide +kernel
theorem dX8_names_13 : decode cX8_names 13 = .ok (.invokevirtual 91, 3) := by decide +kernel
theorem dX8_names_16 : decode cX8_names 16 = .ok (.invokevirtual 95, 3) := by decide +kernel
theorem dX8_names_19 : decode cX8_names 19 = .ok (.ireturn, 1) := by decide +kernel
def fX8_names (u : fb_M) (a0 : Nat) : Option Int32 :=
 ((fb_R u a0 1).bind fun q1 => fb_gd (q1 < fb_NT ∧ fb_sh q1 = (6, 2)) 
  (((fb_R u a0 0).bind fun q5 => fb_gd (q5 < fb_NT ∧ fb_sh q5 = (0, 2)) 
  (((fb_R u a0 0).bind fun q10 => fb_gd (q10 < fb_NT ∧ fb_sh q10 = (0, 2)) 
  (((fX0_length u q10).bind fun r13 => 
  ((fX6_named u q1 q5 0 r13).bind fun r16 => 
  (some r16)))))))))
set_option maxRecDepth 100000 in
set_option maxHeartbeats 4000000 in
theorem mX8_names (g : fb_G) (u : fb_M) (a0 : Nat) (ha0 : a0 < fb_NT ∧ fb_sh a0 = (8, 12)) {res : Int32} (h : fX8_names u a0 = some res) : fb_Runs g 2 53 0 0 fb_NT fb_NT yX8_names cX8_names 1 (some .int) [.ref (fb_b g + a0)] u (some (.int res)) u := by
  unfold fX8_names at h
  refine fb_enter (by decide) (Nat.le_of_ble_eq_true rfl) ?_
  show fb_V g RX8 cX8_names 1 (some .int) "names" (fb_room 2 53 0 0) (fb_Qm g (some (.int res)) fb_NT u 0 0) 0 0 fb_NT u 0 [(0, .ref (fb_b g + a0))] []
  refine fb_aload_n (pc := 0) dX8_names_0 0 rfl ?_
  refine fb_bnE h (fun q1 e1 h => fb_gdE h (fun s1 h => ?_))
  refine fb_getR (pc := 1) dX8_names_1 lkX8_19 ha0.1 ha0.2 (by decide) e1 ?_
  refine fb_aload_n (pc := 4) dX8_names_4 0 rfl ?_
  refine fb_bnE h (fun q5 e5 h => fb_gdE h (fun s5 h => ?_))
  refine fb_getR (pc := 5) dX8_names_5 lkX8_10 ha0.1 ha0.2 (by decide) e5 ?_
  refine fb_iconst (pc := 8) (v := 0) dX8_names_8 fb_ki_0 ?_
  refine fb_aload_n (pc := 9) dX8_names_9 0 rfl ?_
  refine fb_bnE h (fun q10 e10 h => fb_gdE h (fun s10 h => ?_))
  refine fb_getR (pc := 10) dX8_names_10 lkX8_10 ha0.1 ha0.2 (by decide) e10 ?_
  refine fb_bnE h (fun r13 h13 h => ?_)
  refine fb_cV0v (pc := 13) [] dX8_names_13 (mX0_length g u q10 s10 h13) ymX0_length yiX0_length s10.1 s10.2 ylX8_91 rfl (Nat.le_of_ble_eq_true rfl) ⟨Nat.le_of_ble_eq_true rfl, Nat.le_of_ble_eq_true rfl⟩ ⟨Nat.le_of_ble_eq_true rfl, Nat.le_of_ble_eq_true rfl⟩ ?_
  refine fb_bnE h (fun r16 h16 h => ?_)
  refine fb_cV0v (pc := 16) [.ref (fb_b g + q5), .int 0, .int r13] dX8_names_16 (mX6_named g u q1 q5 0 r13 s1 s5 h16) ymX6_named yiX6_named s1.1 s1.2 ylX8_95 rfl (Nat.le_of_ble_eq_true rfl) ⟨Nat.le_of_ble_eq_true rfl, Nat.le_of_ble_eq_true rfl⟩ ⟨Nat.le_of_ble_eq_true rfl, Nat.le_of_ble_eq_true rfl⟩ ?_
  exact fb_iretR (pc := 19) h dX8_names_19

theorem dX2_clear_0 : decode cX2_clear 0 = .ok (.aload_n 0, 1) := by decide +kernel
theorem dX2_clear_1 : decode cX2_clear 1 = .ok (.iconst 0, 1) := by decide +kernel
theorem dX2_clear_2 : decode cX2_clear 2 = .ok (.putfield 28, 3) := by decide +kernel
theorem dX2_clear_5 : decode cX2_clear 5 = .ok (.aload_n 0, 1) := by decide +kernel
theorem dX2_clear_6 : decode cX2_clear 6 = .ok (.iconst 0, 1) := by decide +kernel
theorem dX2_clear_7 : decode cX2_clear 7 = .ok (.putfield 32, 3) := by decide +kernel
theorem dX2_clear_10 : decode cX2_clear 10 = .ok (.aload_n 0, 1) := by decide +kernel
theorem dX2_clear_11 : decode cX2_clear 11 = .ok (.iconst 0, 1) := by decide +kernel
theorem dX2_clear_12 : decode cX2_clear 12 = .ok (.putfield 35, 3) := by decide +kernel
theorem dX2_clear_15 : decode cX2_clear 15 = .ok (.aload_n 0, 1) := by decide +kernel
theorem dX2_clear_16 : decode cX2_clear 16 = .ok (.iconst 0, 1) := by decide +kernel
theorem dX2_clear_17 : decode cX2_clear 17 = .ok (.putfield 39, 3) := by decide +kernel
theorem dX2_clear_20 : decode cX2_clear 20 = .ok (.aload_n 0, 1) := by decide +kernel
theorem dX2_clear_21 : decode cX2_clear 21 = .ok (.iconst 0, 1) := by decide +kernel
theorem dX2_clear_22 : decode cX2_clear 22 = .ok (.putfield 42, 3) := by decide +kernel
theorem dX2_clear_25 : decode cX2_clear 25 = .ok (.aload_n 0, 1) := by decide +kernel
theorem dX2_clear_26 : decode cX2_clear 26 = .ok (.iconst 0, 1) := by decide +kernel
theorem dX2_clear_27 : decode cX2_clear 27 = .ok (.putfield 45, 3) := by decide +kernel
theorem dX2_clear_30 : decode cX2_clear 30 = .ok (.aload_n 0, 1) := by decide +kernel
theorem dX2_clear_31 : decode cX2_clear 31 = .ok (.iconst 0, 1) := by decide +kernel
theorem dX2_clear_32 : decode cX2_clear 32 = .ok (.putfield 48, 3) := by decide +kernel
theorem dX2_clear_35 : decode cX2_clear 35 = .ok (.return_, 1) := by decide +kernel
def fX2_clear (u : fb_M) (a0 : Nat) : Option fb_M :=
 (some (fb_wI (fb_wI (fb_wI (fb_wI (fb_wI (fb_wI (fb_wI u a0 0 0) a0 1 0) a0 2 0) a0 3 0) a0 4 0) a0 5 0) a0 6 0))
set_option maxRecDepth 100000 in
set_option maxHeartbeats 4000000 in
theorem mX2_clear (g : fb_G) (u : fb_M) (a0 : Nat) (ha0 : a0 < fb_NT ∧ fb_sh a0 = (2, 12)) {res : fb_M} (h : fX2_clear u a0 = some res) : fb_Runs g 0 0 0 0 fb_NT fb_NT yX2_clear cX2_clear 1 none [.ref (fb_b g + a0)] u none res := by
  unfold fX2_clear at h
  refine fb_enter (by decide) (Nat.le_of_ble_eq_true rfl) ?_
  show fb_V g RX2 cX2_clear 1 none "clear" (fb_room 0 0 0 0) (fb_Qm g none fb_NT res 0 0) 0 0 fb_NT u 0 [(0, .ref (fb_b g + a0))] []
  refine fb_aload_n (pc := 0) dX2_clear_0 0 rfl ?_
  refine fb_iconst (pc := 1) (v := 0) dX2_clear_1 fb_ki_0 ?_
  refine fb_putI (pc := 2) dX2_clear_2 lkX2_28 ly_2_0 ha0.1 ha0.2 rfl rfl rfl ?_
  refine fb_aload_n (pc := 5) dX2_clear_5 0 rfl ?_
  refine fb_iconst (pc := 6) (v := 0) dX2_clear_6 fb_ki_0 ?_
  refine fb_putI (pc := 7) dX2_clear_7 lkX2_32 ly_2_1 ha0.1 ha0.2 rfl rfl rfl ?_
  refine fb_aload_n (pc := 10) dX2_clear_10 0 rfl ?_
  refine fb_iconst (pc := 11) (v := 0) dX2_clear_11 fb_ki_0 ?_
  refine fb_putI (pc := 12) dX2_clear_12 lkX2_35 ly_2_2 ha0.1 ha0.2 rfl rfl rfl ?_
  refine fb_aload_n (pc := 15) dX2_clear_15 0 rfl ?_
  refine fb_iconst (pc := 16) (v := 0) dX2_clear_16 fb_ki_0 ?_
  refine fb_putI (pc := 17) dX2_clear_17 lkX2_39 ly_2_3 ha0.1 ha0.2 rfl rfl rfl ?_
  refine fb_aload_n (pc := 20) dX2_clear_20 0 rfl ?_
  refine fb_iconst (pc := 21) (v := 0) dX2_clear_21 fb_ki_0 ?_
  refine fb_putI (pc := 22) dX2_clear_22 lkX2_42 ly_2_4 ha0.1 ha0.2 rfl rfl rfl ?_
  refine fb_aload_n (pc := 25) dX2_clear_25 0 rfl ?_
  refine fb_iconst (pc := 26) (v := 0) dX2_clear_26 fb_ki_0 ?_
  refine fb_putI (pc := 27) dX2_clear_27 lkX2_45 ly_2_5 ha0.1 ha0.2 rfl rfl rfl ?_
  refine fb_aload_n (pc := 30) dX2_clear_30 0 rfl ?_
  refine fb_iconst (pc := 31) (v := 0) dX2_clear_31 fb_ki_0 ?_
  refine fb_putI (pc := 32) dX2_clear_32 lkX2_48 ly_2_6 ha0.1 ha0.2 rfl rfl rfl ?_
  exact fb_vretM (pc := 35) h dX2_clear_35

theorem dX3_subjectWord_0 : decode cX3_subjectWord 0 = .ok (.iload_n 0, 1) := by decide +kernel
theorem dX3_subjectWord_1 : decode cX3_subjectWord 1 = .ok (.tableswitch 36 1 3 #[27, 30, 33], 27) := by decide +kernel
theorem dX3_subjectWord_28 : decode cX3_subjectWord 28 = .ok (.ldc 78, 2) := by decide +kernel
theorem dX3_subjectWord_30 : decode cX3_subjectWord 30 = .ok (.areturn, 1) := by decide +kernel
theorem dX3_subjectWord_31 : decode cX3_subjectWord 31 = .ok (.ldc 80, 2) := by decide +kernel
theorem dX3_subjectWord_33 : decode cX3_subjectWord 33 = .ok (.areturn, 1) := by decide +kernel
theorem dX3_subjectWord_34 : decode cX3_subjectWord 34 = .ok (.ldc 82, 2) := by decide +kernel
theorem dX3_subjectWord_36 : decode cX3_subjectWord 36 = .ok (.areturn, 1) := by decide +kernel
theorem dX3_subjectWord_37 : decode cX3_subjectWord 37 = .ok (.ldc 84, 2) := by decide +kernel
theorem dX3_subjectWord_39 : decode cX3_subjectWord 39 = .ok (.areturn, 1) := by decide +kernel
def fX3_subjectWord (u : fb_M) (x0 : Int32) : Option Nat :=
 (if x0 = 1 then (some 0)
  else (if x0 = 2 then (some 1)
  else (if x0 = 3 then (some 2)
  else (some 3))))
set_option maxRecDepth 100000 in
set_option maxHeartbeats 4000000 in
theorem mX3_subjectWord (g : fb_G) (u : fb_M) (x0 : Int32) {res : Nat} (h : fX3_subjectWord u x0 = some res) : fb_Runs g 0 0 0 0 fb_NT fb_NT yX3_subjectWord cX3_subjectWord 1 (some (.object "java/lang/String")) [.int x0] u (some (.ref (fb_K g res))) u := by
  unfold fX3_subjectWord at h
  refine fb_enter (by decide) (Nat.le_of_ble_eq_true rfl) ?_
  show fb_V g RX3 cX3_subjectWord 1 (some (.object "java/lang/String")) "subjectWord" (fb_room 0 0 0 0) (fb_Qm g (some (.ref (fb_K g res))) fb_NT u 0 0) 0 0 fb_NT u 0 [(0, .int x0)] []
  refine fb_iload_n (pc := 0) dX3_subjectWord_0 0 rfl ?_
  refine fb_ifE h (fun c1_1 h => ?_) (fun c1_1 h => ?_)
  · refine fb_tabIn (pc := 1) (v := 1) (tgt := 28) c1_1 dX3_subjectWord_1 (by decide) (by decide) rfl (by decide) ?_
    refine fb_ldcS (pc := 28) (i := 0) (tx := "count") dX3_subjectWord_28 srX3_78 ?_
    exact fb_sretR (pc := 30) h dX3_subjectWord_30
  refine fb_ifE h (fun c1_2 h => ?_) (fun c1_2 h => ?_)
  · refine fb_tabIn (pc := 1) (v := 2) (tgt := 31) c1_2 dX3_subjectWord_1 (by decide) (by decide) rfl (by decide) ?_
    refine fb_ldcS (pc := 31) (i := 1) (tx := "exists") dX3_subjectWord_31 srX3_80 ?_
    exact fb_sretR (pc := 33) h dX3_subjectWord_33
  refine fb_ifE h (fun c1_3 h => ?_) (fun c1_3 h => ?_)
  · refine fb_tabIn (pc := 1) (v := 3) (tgt := 34) c1_3 dX3_subjectWord_1 (by decide) (by decide) rfl (by decide) ?_
    refine fb_ldcS (pc := 34) (i := 2) (tx := "delete") dX3_subjectWord_34 srX3_82 ?_
    exact fb_sretR (pc := 36) h dX3_subjectWord_36
  refine fb_tabOut (pc := 1) (tgt := 37) (by have a0 := lv_neT c1_1 (a := 1) (by decide); have a1 := lv_neT c1_2 (a := 2) (by decide); have a2 := lv_neT c1_3 (a := 3) (by decide); omega) dX3_subjectWord_1 (by decide) ?_
  refine fb_ldcS (pc := 37) (i := 3) (tx := "find") dX3_subjectWord_37 srX3_84 ?_
  exact fb_sretR (pc := 39) h dX3_subjectWord_39

theorem dX0_startsWith_0 : decode cX0_startsWith 0 = .ok (.iload_n 2, 1) := by decide +kernel
theorem dX0_startsWith_1 : decode cX0_startsWith 1 = .ok (.ifCond .lt 21, 3) := by decide +kernel
theorem dX0_startsWith_4 : decode cX0_startsWith 4 = .ok (.iload_n 3, 1) := by decide +kernel
theorem dX0_startsWith_5 : decode cX0_startsWith 5 = .ok (.aload_n 0, 1) := by decide +kernel
theorem dX0_startsWith_6 : decode cX0_startsWith 6 = .ok (.getfield 19, 3) := by decide +kernel
theorem dX0_startsWith_9 : decode cX0_startsWith 9 = .ok (.if_icmp .gt 13, 3) := by decide +kernel
theorem dX0_startsWith_12 : decode cX0_startsWith 12 = .ok (.aload_n 1, 1) := by decide +kernel
theorem dX0_startsWith_13 : decode cX0_startsWith 13 = .ok (.invokevirtual 28, 3) := by decide +kernel
theorem dX0_startsWith_16 : decode cX0_startsWith 16 = .ok (.iload_n 3, 1) := by decide +kernel
theorem dX0_startsWith_17 : decode cX0_startsWith 17 = .ok (.iload_n 2, 1) := by decide +kernel
theorem dX0_startsWith_18 : decode cX0_startsWith 18 = .ok (.isub, 1) := by decide +kernel
theorem dX0_startsWith_19 : decode cX0_startsWith 19 = .ok (.if_icmp .le 5, 3) := by decide +kernel
theorem dX0_startsWith_22 : decode cX0_startsWith 22 = .ok (.iconst 0, 1) := by decide +kernel
theorem dX0_startsWith_23 : decode cX0_startsWith 23 = .ok (.ireturn, 1) := by decide +kernel
theorem dX0_startsWith_24 : decode cX0_startsWith 24 = .ok (.iconst 0, 1) := by decide +kernel
theorem dX0_startsWith_25 : decode cX0_startsWith 25 = .ok (.istore 4, 2) := by decide +kernel
theorem dX0_startsWith_27 : decode cX0_startsWith 27 = .ok (.iload 4, 2) := by decide +kernel
theorem dX0_startsWith_29 : decode cX0_startsWith 29 = .ok (.aload_n 1, 1) := by decide +kernel
theorem dX0_startsWith_30 : decode cX0_startsWith 30 = .ok (.invokevirtual 28, 3) := by decide +kernel
theorem dX0_startsWith_33 : decode cX0_startsWith 33 = .ok (.if_icmp .ge 29, 3) := by decide +kernel
theorem dX0_startsWith_36 : decode cX0_startsWith 36 = .ok (.aload_n 0, 1) := by decide +kernel
theorem dX0_startsWith_37 : decode cX0_startsWith 37 = .ok (.getfield 9, 3) := by decide +kernel
theorem dX0_startsWith_40 : decode cX0_startsWith 40 = .ok (.iload_n 2, 1) := by decide +kernel
theorem dX0_startsWith_41 : decode cX0_startsWith 41 = .ok (.iload 4, 2) := by decide +kernel
theorem dX0_startsWith_43 : decode cX0_startsWith 43 = .ok (.iadd, 1) := by decide +kernel
theorem dX0_startsWith_44 : decode cX0_startsWith 44 = .ok (.caload, 1) := by decide +kernel
theorem dX0_startsWith_45 : decode cX0_startsWith 45 = .ok (.aload_n 1, 1) := by decide +kernel
theorem dX0_startsWith_46 : decode cX0_startsWith 46 = .ok (.iload 4, 2) := by decide +kernel
theorem dX0_startsWith_48 : decode cX0_startsWith 48 = .ok (.invokevirtual 33, 3) := by decide +kernel
theorem dX0_startsWith_51 : decode cX0_startsWith 51 = .ok (.if_icmp .eq 5, 3) := by decide +kernel
theorem dX0_startsWith_54 : decode cX0_startsWith 54 = .ok (.iconst 0, 1) := by decide +kernel
theorem dX0_startsWith_55 : decode cX0_startsWith 55 = .ok (.ireturn, 1) := by decide +kernel
theorem dX0_startsWith_56 : decode cX0_startsWith 56 = .ok (.iinc 4 1, 3) := by decide +kernel
theorem dX0_startsWith_59 : decode cX0_startsWith 59 = .ok (.goto (-32), 3) := by decide +kernel
theorem dX0_startsWith_62 : decode cX0_startsWith 62 = .ok (.iconst 1, 1) := by decide +kernel
theorem dX0_startsWith_63 : decode cX0_startsWith 63 = .ok (.ireturn, 1) := by decide +kernel
def bX0_startsWith_27 (K27 : Int32 → Option Int32) (a0 : Nat) (w1 : Nat) (x2 : Int32) (x4 : Int32) (u : fb_M) : Option Int32 :=
 (if (Int32.ofNat (fb_len.getD w1 0)) ≤ x4 then (some 1)
  else ((fb_R u a0 0).bind fun q37 => fb_gd (q37 < fb_NT ∧ (fb_sh q37).1 = 101) 
   ((fb_gd (¬ (x2 + x4 < 0 ∨ (fb_sh q37).2 ≤ (x2 + x4).toNatClampNeg)) 
   (fb_gd (¬ (x4 < 0 ∨ fb_len.getD w1 0 ≤ x4.toNatClampNeg)) 
   (if (fb_I u q37 (x2 + x4).toNatClampNeg) = ((fb_byt.getD w1 []).getD x4.toNatClampNeg 0 &&& 255) then (K27 (x4 + 1))
   else (some 0)))))))
def gX0_startsWith_27 (a0 : Nat) (w1 : Nat) (x2 : Int32) (u : fb_M) : Nat → Int32 → Option Int32
 | 0 => fun _ => none
 | fu + 1 => fun x4 => bX0_startsWith_27 (gX0_startsWith_27 a0 w1 x2 u fu) a0 w1 x2 x4 u
set_option maxRecDepth 100000 in
set_option maxHeartbeats 4000000 in
theorem tbX0_startsWith_27 {g : fb_G} {res : Int32} (a0 : Nat) (w1 : Nat) (x2 : Int32) (x4 : Int32) (u : fb_M) (K27 : Int32 → Option Int32) (ha0 : a0 < fb_NT ∧ fb_sh a0 = (0, 2)) (hw1 : w1 < fb_nS) (hK27 : ∀ (x4 : Int32) ,  K27 x4 = some res → fb_V g RX0 cX0_startsWith 5 (some .boolean) "startsWith" (fb_room 4 85 0 0) (fb_Qm g (some (.int res)) fb_NT u 0 0) 0 0 fb_NT u 27 [(0, .ref (fb_b g + a0)), (1, .ref (fb_K g w1)), (2, .int x2), (4, .int x4)] []) (h : bX0_startsWith_27 K27 a0 w1 x2 x4 u = some res) : fb_V g RX0 cX0_startsWith 5 (some .boolean) "startsWith" (fb_room 4 85 0 0) (fb_Qm g (some (.int res)) fb_NT u 0 0) 0 0 fb_NT u 27 [(0, .ref (fb_b g + a0)), (1, .ref (fb_K g w1)), (2, .int x2), (4, .int x4)] [] := by
  unfold bX0_startsWith_27 at h
  refine fb_iload (pc := 27) dX0_startsWith_27 3 rfl ?_
  refine fb_aload_n (pc := 29) dX0_startsWith_29 1 rfl ?_
  refine fb_cT0v (pc := 30) [] dX0_startsWith_30 (m_strlen g w1 hw1 u) ymJ_length yiJ_length hw1 ylX0_28 rfl (Nat.le_of_ble_eq_true rfl) ⟨Nat.le_of_ble_eq_true rfl, Nat.le_of_ble_eq_true rfl⟩ ⟨Nat.le_of_ble_eq_true rfl, Nat.le_of_ble_eq_true rfl⟩ ?_
  refine fb_icmp_ge (pc := 33) (tgt := 62) h dX0_startsWith_33 (by decide) (fun h => ?_) (fun h => ?_)
  · refine fb_iconst (pc := 62) (v := 1) dX0_startsWith_62 fb_ki_1 ?_
    exact fb_zretR (pc := 63) rfl h dX0_startsWith_63
  · refine fb_aload_n (pc := 36) dX0_startsWith_36 0 rfl ?_
    refine fb_bnE h (fun q37 e37 h => fb_gdE h (fun s37 h => ?_))
    refine fb_getR (pc := 37) dX0_startsWith_37 lkX0_9 ha0.1 ha0.2 (by decide) e37 ?_
    refine fb_iload_n (pc := 40) dX0_startsWith_40 2 rfl ?_
    refine fb_iload (pc := 41) dX0_startsWith_41 3 rfl ?_
    refine fb_iadd (pc := 43) dX0_startsWith_43 ?_
    refine fb_gdE h (fun i44 h => ?_)
    refine fb_cald (pc := 44) dX0_startsWith_44 s37.1 (fb_eta s37.2) i44 ?_
    refine fb_aload_n (pc := 45) dX0_startsWith_45 1 rfl ?_
    refine fb_iload (pc := 46) dX0_startsWith_46 3 rfl ?_
    refine fb_gdE h (fun i48 h => ?_)
    refine fb_cT0v (pc := 48) [.int x4] dX0_startsWith_48 (m_charAt g w1 hw1 x4 i48 u) ymJ_charAt yiJ_charAt hw1 ylX0_33 rfl (Nat.le_of_ble_eq_true rfl) ⟨Nat.le_of_ble_eq_true rfl, Nat.le_of_ble_eq_true rfl⟩ ⟨Nat.le_of_ble_eq_true rfl, Nat.le_of_ble_eq_true rfl⟩ ?_
    refine fb_icmp_eq (pc := 51) (tgt := 56) h dX0_startsWith_51 (by decide) (fun h => ?_) (fun h => ?_)
    · refine fb_iinc (pc := 56) (v := 1) (lv' := [(4, .int (x4 + 1)), (0, .ref (fb_b g + a0)), (1, .ref (fb_K g w1)), (2, .int x2)]) dX0_startsWith_56 3 rfl fb_ki_1 (by decide) rfl ?_
      refine fb_goto (pc := 59) (tgt := 27) dX0_startsWith_59 (by decide) ?_
      exact fb_sub [1, 2, 3, 0] rfl (hK27 (x4 + 1) h)
    · refine fb_iconst (pc := 54) (v := 0) dX0_startsWith_54 fb_ki_0 ?_
      exact fb_zretR (pc := 55) rfl h dX0_startsWith_55

theorem tgX0_startsWith_27 {g : fb_G} {res : Int32} (a0 : Nat) (w1 : Nat) (x2 : Int32) (u : fb_M) (ha0 : a0 < fb_NT ∧ fb_sh a0 = (0, 2)) (hw1 : w1 < fb_nS) : ∀ (fu : Nat) (x4 : Int32) ,  gX0_startsWith_27 a0 w1 x2 u fu x4 = some res → fb_V g RX0 cX0_startsWith 5 (some .boolean) "startsWith" (fb_room 4 85 0 0) (fb_Qm g (some (.int res)) fb_NT u 0 0) 0 0 fb_NT u 27 [(0, .ref (fb_b g + a0)), (1, .ref (fb_K g w1)), (2, .int x2), (4, .int x4)] [] := by
  intro fu
  induction fu with
  | zero => intro x4 h; exact absurd h (by simp [gX0_startsWith_27])
  | succ fu ih => intro x4 h; exact tbX0_startsWith_27 a0 w1 x2 x4 u (gX0_startsWith_27 a0 w1 x2 u fu) ha0 hw1 ih h
def fX0_startsWith (u : fb_M) (a0 : Nat) (w1 : Nat) (x2 : Int32) (x3 : Int32) : Option Int32 :=
 (if x2 < 0 then (some 0)
  else (if (fb_I u a0 1) < x3 then (some 0)
   else (if (Int32.ofNat (fb_len.getD w1 0)) ≤ (x3 - x2) then (gX0_startsWith_27 a0 w1 x2 u fb_F 0)
    else (some 0))))
set_option maxRecDepth 100000 in
set_option maxHeartbeats 4000000 in
theorem mX0_startsWith (g : fb_G) (u : fb_M) (a0 : Nat) (w1 : Nat) (x2 : Int32) (x3 : Int32) (ha0 : a0 < fb_NT ∧ fb_sh a0 = (0, 2)) (hw1 : w1 < fb_nS) {res : Int32} (h : fX0_startsWith u a0 w1 x2 x3 = some res) : fb_Runs g 4 85 0 0 fb_NT fb_NT yX0_startsWith cX0_startsWith 5 (some .boolean) [.ref (fb_b g + a0), .ref (fb_K g w1), .int x2, .int x3] u (some (.int res)) u := by
  unfold fX0_startsWith at h
  refine fb_enter (by decide) (Nat.le_of_ble_eq_true rfl) ?_
  show fb_V g RX0 cX0_startsWith 5 (some .boolean) "startsWith" (fb_room 4 85 0 0) (fb_Qm g (some (.int res)) fb_NT u 0 0) 0 0 fb_NT u 0 [(0, .ref (fb_b g + a0)), (1, .ref (fb_K g w1)), (2, .int x2), (3, .int x3)] []
  refine fb_iload_n (pc := 0) dX0_startsWith_0 2 rfl ?_
  refine fb_if_lt (pc := 1) (tgt := 22) h dX0_startsWith_1 (by decide) (fun h => ?_) (fun h => ?_)
  · refine fb_iconst (pc := 22) (v := 0) dX0_startsWith_22 fb_ki_0 ?_
    exact fb_zretR (pc := 23) rfl h dX0_startsWith_23
  · refine fb_iload_n (pc := 4) dX0_startsWith_4 3 rfl ?_
    refine fb_aload_n (pc := 5) dX0_startsWith_5 0 rfl ?_
    refine fb_getI (pc := 6) dX0_startsWith_6 lkX0_19 ha0.1 ha0.2 rfl ?_
    refine fb_icmp_gt (pc := 9) (tgt := 22) h dX0_startsWith_9 (by decide) (fun h => ?_) (fun h => ?_)
    · refine fb_iconst (pc := 22) (v := 0) dX0_startsWith_22 fb_ki_0 ?_
      exact fb_zretR (pc := 23) rfl h dX0_startsWith_23
    · refine fb_aload_n (pc := 12) dX0_startsWith_12 1 rfl ?_
      refine fb_cT0v (pc := 13) [] dX0_startsWith_13 (m_strlen g w1 hw1 u) ymJ_length yiJ_length hw1 ylX0_28 rfl (Nat.le_of_ble_eq_true rfl) ⟨Nat.le_of_ble_eq_true rfl, Nat.le_of_ble_eq_true rfl⟩ ⟨Nat.le_of_ble_eq_true rfl, Nat.le_of_ble_eq_true rfl⟩ ?_
      refine fb_iload_n (pc := 16) dX0_startsWith_16 3 rfl ?_
      refine fb_iload_n (pc := 17) dX0_startsWith_17 2 rfl ?_
      refine fb_isub (pc := 18) dX0_startsWith_18 ?_
      refine fb_icmp_le (pc := 19) (tgt := 24) h dX0_startsWith_19 (by decide) (fun h => ?_) (fun h => ?_)
      · refine fb_iconst (pc := 24) (v := 0) dX0_startsWith_24 fb_ki_0 ?_
        refine fb_istore (pc := 25) (lv' := [(4, .int 0), (0, .ref (fb_b g + a0)), (1, .ref (fb_K g w1)), (2, .int x2), (3, .int x3)]) dX0_startsWith_25 (by decide) rfl ?_
        exact fb_sub [1, 2, 3, 0] rfl (tgX0_startsWith_27 a0 w1 x2 u ha0 hw1 fb_F 0 h)
      · refine fb_iconst (pc := 22) (v := 0) dX0_startsWith_22 fb_ki_0 ?_
        exact fb_zretR (pc := 23) rfl h dX0_startsWith_23

theorem dX3_skip_0 : decode cX3_skip 0 = .ok (.aload_n 0, 1) := by decide +kernel
theorem dX3_skip_1 : decode cX3_skip 1 = .ok (.getfield 9, 3) := by decide +kernel
theorem dX3_skip_4 : decode cX3_skip 4 = .ok (.aload_n 1, 1) := by decide +kernel
theorem dX3_skip_5 : decode cX3_skip 5 = .ok (.aload_n 0, 1) := by decide +kernel
theorem dX3_skip_6 : decode cX3_skip 6 = .ok (.getfield 24, 3) := by decide +kernel
theorem dX3_skip_9 : decode cX3_skip 9 = .ok (.aload_n 0, 1) := by decide +kernel
theorem dX3_skip_10 : decode cX3_skip 10 = .ok (.getfield 9, 3) := by decide +kernel
theorem dX3_skip_13 : decode cX3_skip 13 = .ok (.invokevirtual 41, 3) := by decide +kernel
theorem dX3_skip_16 : decode cX3_skip 16 = .ok (.invokevirtual 67, 3) := by decide +kernel
theorem dX3_skip_19 : decode cX3_skip 19 = .ok (.ifCond .ne 5, 3) := by decide +kernel
theorem dX3_skip_22 : decode cX3_skip 22 = .ok (.iconst 0, 1) := by decide +kernel
theorem dX3_skip_23 : decode cX3_skip 23 = .ok (.ireturn, 1) := by decide +kernel
theorem dX3_skip_24 : decode cX3_skip 24 = .ok (.aload_n 0, 1) := by decide +kernel
theorem dX3_skip_25 : decode cX3_skip 25 = .ok (.dup, 1) := by decide +kernel
theorem dX3_skip_26 : decode cX3_skip 26 = .ok (.getfield 24, 3) := by decide +kernel
theorem dX3_skip_29 : decode cX3_skip 29 = .ok (.aload_n 1, 1) := by decide +kernel
theorem dX3_skip_30 : decode cX3_skip 30 = .ok (.invokevirtual 57, 3) := by decide +kernel
theorem dX3_skip_33 : decode cX3_skip 33 = .ok (.iadd, 1) := by decide +kernel
theorem dX3_skip_34 : decode cX3_skip 34 = .ok (.putfield 24, 3) := by decide +kernel
theorem dX3_skip_37 : decode cX3_skip 37 = .ok (.iconst 1, 1) := by decide +kernel
theorem dX3_skip_38 : decode cX3_skip 38 = .ok (.ireturn, 1) := by decide +kernel
def fX3_skip (u : fb_M) (a0 : Nat) (w1 : Nat) : Option (Int32 × fb_M) :=
 ((fb_R u a0 0).bind fun q1 => fb_gd (q1 < fb_NT ∧ fb_sh q1 = (0, 2)) 
  (((fb_R u a0 0).bind fun q10 => fb_gd (q10 < fb_NT ∧ fb_sh q10 = (0, 2)) 
  (((fX0_length u q10).bind fun r13 => 
  ((fX0_startsWith u q1 w1 (fb_I u a0 2) r13).bind fun r16 => 
  (if r16 = 0 then (some (0, u))
  else (some (1, fb_wI u a0 2 ((fb_I u a0 2) + (Int32.ofNat (fb_len.getD w1 0))))))))))))
set_option maxRecDepth 100000 in
set_option maxHeartbeats 4000000 in
theorem mX3_skip (g : fb_G) (u : fb_M) (a0 : Nat) (w1 : Nat) (ha0 : a0 < fb_NT ∧ fb_sh a0 = (3, 3)) (hw1 : w1 < fb_nS) {res : (Int32 × fb_M)} (h : fX3_skip u a0 w1 = some res) : fb_Runs g 5 109 0 0 fb_NT fb_NT yX3_skip cX3_skip 2 (some .boolean) [.ref (fb_b g + a0), .ref (fb_K g w1)] u (some (.int res.1)) res.2 := by
  unfold fX3_skip at h
  refine fb_enter (by decide) (Nat.le_of_ble_eq_true rfl) ?_
  show fb_V g RX3 cX3_skip 2 (some .boolean) "skip" (fb_room 5 109 0 0) (fb_Qm g (some (.int res.1)) fb_NT res.2 0 0) 0 0 fb_NT u 0 [(0, .ref (fb_b g + a0)), (1, .ref (fb_K g w1))] []
  refine fb_aload_n (pc := 0) dX3_skip_0 0 rfl ?_
  refine fb_bnE h (fun q1 e1 h => fb_gdE h (fun s1 h => ?_))
  refine fb_getR (pc := 1) dX3_skip_1 lkX3_9 ha0.1 ha0.2 (by decide) e1 ?_
  refine fb_aload_n (pc := 4) dX3_skip_4 1 rfl ?_
  refine fb_aload_n (pc := 5) dX3_skip_5 0 rfl ?_
  refine fb_getI (pc := 6) dX3_skip_6 lkX3_24 ha0.1 ha0.2 rfl ?_
  refine fb_aload_n (pc := 9) dX3_skip_9 0 rfl ?_
  refine fb_bnE h (fun q10 e10 h => fb_gdE h (fun s10 h => ?_))
  refine fb_getR (pc := 10) dX3_skip_10 lkX3_9 ha0.1 ha0.2 (by decide) e10 ?_
  refine fb_bnE h (fun r13 h13 h => ?_)
  refine fb_cV0v (pc := 13) [] dX3_skip_13 (mX0_length g u q10 s10 h13) ymX0_length yiX0_length s10.1 s10.2 ylX3_41 rfl (Nat.le_of_ble_eq_true rfl) ⟨Nat.le_of_ble_eq_true rfl, Nat.le_of_ble_eq_true rfl⟩ ⟨Nat.le_of_ble_eq_true rfl, Nat.le_of_ble_eq_true rfl⟩ ?_
  refine fb_bnE h (fun r16 h16 h => ?_)
  refine fb_cV0v (pc := 16) [.ref (fb_K g w1), .int (fb_I u a0 2), .int r13] dX3_skip_16 (mX0_startsWith g u q1 w1 (fb_I u a0 2) r13 s1 hw1 h16) ymX0_startsWith yiX0_startsWith s1.1 s1.2 ylX3_67 rfl (Nat.le_of_ble_eq_true rfl) ⟨Nat.le_of_ble_eq_true rfl, Nat.le_of_ble_eq_true rfl⟩ ⟨Nat.le_of_ble_eq_true rfl, Nat.le_of_ble_eq_true rfl⟩ ?_
  refine fb_if_ne (pc := 19) (tgt := 24) h dX3_skip_19 (by decide) (fun h => ?_) (fun h => ?_)
  · refine fb_aload_n (pc := 24) dX3_skip_24 0 rfl ?_
    refine fb_dup (pc := 25) dX3_skip_25 rfl ?_
    refine fb_getI (pc := 26) dX3_skip_26 lkX3_24 ha0.1 ha0.2 rfl ?_
    refine fb_aload_n (pc := 29) dX3_skip_29 1 rfl ?_
    refine fb_cT0v (pc := 30) [] dX3_skip_30 (m_strlen g w1 hw1 u) ymJ_length yiJ_length hw1 ylX3_57 rfl (Nat.le_of_ble_eq_true rfl) ⟨Nat.le_of_ble_eq_true rfl, Nat.le_of_ble_eq_true rfl⟩ ⟨Nat.le_of_ble_eq_true rfl, Nat.le_of_ble_eq_true rfl⟩ ?_
    refine fb_iadd (pc := 33) dX3_skip_33 ?_
    refine fb_putI (pc := 34) dX3_skip_34 lkX3_24 ly_3_2 ha0.1 ha0.2 rfl rfl rfl ?_
    refine fb_iconst (pc := 37) (v := 1) dX3_skip_37 fb_ki_1 ?_
    exact fb_zretM (pc := 38) rfl h dX3_skip_38
  · refine fb_iconst (pc := 22) (v := 0) dX3_skip_22 fb_ki_0 ?_
    exact fb_zretM (pc := 23) rfl h dX3_skip_23

theorem dX3_readSubject_0 : decode cX3_readSubject 0 = .ok (.iconst 0, 1) := by decide +kernel
theorem dX3_readSubject_1 : decode cX3_readSubject 1 = .ok (.istore_n 2, 1) := by decide +kernel
theorem dX3_readSubject_2 : decode cX3_readSubject 2 = .ok (.iload_n 2, 1) := by decide +kernel
theorem dX3_readSubject_3 : decode cX3_readSubject 3 = .ok (.iconst 3, 1) := by decide +kernel
theorem dX3_readSubject_4 : decode cX3_readSubject 4 = .ok (.if_icmp .gt 27, 3) := by decide +kernel
theorem dX3_readSubject_7 : decode cX3_readSubject 7 = .ok (.aload_n 0, 1) := by decide +kernel
theorem dX3_readSubject_8 : decode cX3_readSubject 8 = .ok (.iload_n 2, 1) := by decide +kernel
theorem dX3_readSubject_9 : decode cX3_readSubject 9 = .ok (.invokestatic 71, 3) := by decide +kernel
theorem dX3_readSubject_12 : decode cX3_readSubject 12 = .ok (.invokevirtual 37, 3) := by decide +kernel
theorem dX3_readSubject_15 : decode cX3_readSubject 15 = .ok (.ifCond .eq 10, 3) := by decide +kernel
theorem dX3_readSubject_18 : decode cX3_readSubject 18 = .ok (.aload_n 1, 1) := by decide +kernel
theorem dX3_readSubject_19 : decode cX3_readSubject 19 = .ok (.iload_n 2, 1) := by decide +kernel
theorem dX3_readSubject_20 : decode cX3_readSubject 20 = .ok (.putfield 75, 3) := by decide +kernel
theorem dX3_readSubject_23 : decode cX3_readSubject 23 = .ok (.iconst 1, 1) := by decide +kernel
theorem dX3_readSubject_24 : decode cX3_readSubject 24 = .ok (.ireturn, 1) := by decide +kernel
theorem dX3_readSubject_25 : decode cX3_readSubject 25 = .ok (.iinc 2 1, 3) := by decide +kernel
theorem dX3_readSubject_28 : decode cX3_readSubject 28 = .ok (.goto (-26), 3) := by decide +kernel
theorem dX3_readSubject_31 : decode cX3_readSubject 31 = .ok (.iconst 0, 1) := by decide +kernel
theorem dX3_readSubject_32 : decode cX3_readSubject 32 = .ok (.ireturn, 1) := by decide +kernel
def bX3_readSubject_2 (K2 : Int32 → fb_M → Option (Int32 × fb_M)) (a0 : Nat) (a1 : Nat) (x2 : Int32) (u : fb_M) : Option (Int32 × fb_M) :=
 (if 3 < x2 then (some (0, u))
  else ((fX3_subjectWord u x2).bind fun r9 => 
   (fb_gd (r9 < fb_nS) 
   ((fX3_skip u a0 r9).bind fun r12 => 
   (if r12.1 = 0 then (K2 (x2 + 1) r12.2)
   else (some (1, fb_wI r12.2 a1 0 x2)))))))
def gX3_readSubject_2 (a0 : Nat) (a1 : Nat) : Nat → Int32 → fb_M → Option (Int32 × fb_M)
 | 0 => fun _ _ => none
 | fu + 1 => fun x2 u => bX3_readSubject_2 (gX3_readSubject_2 a0 a1 fu) a0 a1 x2 u
set_option maxRecDepth 100000 in
set_option maxHeartbeats 4000000 in
theorem tbX3_readSubject_2 {g : fb_G} {res : (Int32 × fb_M)} (a0 : Nat) (a1 : Nat) (x2 : Int32) (u : fb_M) (K2 : Int32 → fb_M → Option (Int32 × fb_M)) (ha0 : a0 < fb_NT ∧ fb_sh a0 = (3, 3)) (ha1 : a1 < fb_NT ∧ fb_sh a1 = (2, 12)) (hK2 : ∀ (x2 : Int32) (u : fb_M) ,  K2 x2 u = some res → fb_V g RX3 cX3_readSubject 3 (some .boolean) "readSubject" (fb_room 6 130 0 0) (fb_Qm g (some (.int res.1)) fb_NT res.2 0 0) 0 0 fb_NT u 2 [(0, .ref (fb_b g + a0)), (1, .ref (fb_b g + a1)), (2, .int x2)] []) (h : bX3_readSubject_2 K2 a0 a1 x2 u = some res) : fb_V g RX3 cX3_readSubject 3 (some .boolean) "readSubject" (fb_room 6 130 0 0) (fb_Qm g (some (.int res.1)) fb_NT res.2 0 0) 0 0 fb_NT u 2 [(0, .ref (fb_b g + a0)), (1, .ref (fb_b g + a1)), (2, .int x2)] [] := by
  unfold bX3_readSubject_2 at h
  refine fb_iload_n (pc := 2) dX3_readSubject_2 2 rfl ?_
  refine fb_iconst (pc := 3) (v := 3) dX3_readSubject_3 fb_ki_3 ?_
  refine fb_icmp_gt (pc := 4) (tgt := 31) h dX3_readSubject_4 (by decide) (fun h => ?_) (fun h => ?_)
  · refine fb_iconst (pc := 31) (v := 0) dX3_readSubject_31 fb_ki_0 ?_
    exact fb_zretM (pc := 32) rfl h dX3_readSubject_32
  · refine fb_aload_n (pc := 7) dX3_readSubject_7 0 rfl ?_
    refine fb_iload_n (pc := 8) dX3_readSubject_8 2 rfl ?_
    refine fb_bnE h (fun r9 h9 h => ?_)
    refine fb_gdE h (fun s9 h => ?_)
    refine fb_cS0v (pc := 9) [.int x2] dX3_readSubject_9 (mX3_subjectWord g u x2 h9) ymX3_subjectWord ysX3_subjectWord ylX3_71 rfl (Nat.le_of_ble_eq_true rfl) ⟨Nat.le_of_ble_eq_true rfl, Nat.le_of_ble_eq_true rfl⟩ ⟨Nat.le_of_ble_eq_true rfl, Nat.le_of_ble_eq_true rfl⟩ ?_
    refine fb_bnE h (fun r12 h12 h => ?_)
    refine fb_cV0v (pc := 12) [.ref (fb_K g r9)] dX3_readSubject_12 (mX3_skip g u a0 r9 ha0 s9 h12) ymX3_skip yiX3_skip ha0.1 ha0.2 ylX3_37 rfl (Nat.le_of_ble_eq_true rfl) ⟨Nat.le_of_ble_eq_true rfl, Nat.le_of_ble_eq_true rfl⟩ ⟨Nat.le_of_ble_eq_true rfl, Nat.le_of_ble_eq_true rfl⟩ ?_
    refine fb_if_eq (pc := 15) (tgt := 25) h dX3_readSubject_15 (by decide) (fun h => ?_) (fun h => ?_)
    · refine fb_iinc (pc := 25) (v := 1) (lv' := [(2, .int (x2 + 1)), (0, .ref (fb_b g + a0)), (1, .ref (fb_b g + a1))]) dX3_readSubject_25 2 rfl fb_ki_1 (by decide) rfl ?_
      refine fb_goto (pc := 28) (tgt := 2) dX3_readSubject_28 (by decide) ?_
      exact fb_sub [1, 2, 0] rfl (hK2 (x2 + 1) r12.2 h)
    · refine fb_aload_n (pc := 18) dX3_readSubject_18 1 rfl ?_
      refine fb_iload_n (pc := 19) dX3_readSubject_19 2 rfl ?_
      refine fb_putI (pc := 20) dX3_readSubject_20 lkX3_75 ly_2_0 ha1.1 ha1.2 rfl rfl rfl ?_
      refine fb_iconst (pc := 23) (v := 1) dX3_readSubject_23 fb_ki_1 ?_
      exact fb_zretM (pc := 24) rfl h dX3_readSubject_24

theorem tgX3_readSubject_2 {g : fb_G} {res : (Int32 × fb_M)} (a0 : Nat) (a1 : Nat) (ha0 : a0 < fb_NT ∧ fb_sh a0 = (3, 3)) (ha1 : a1 < fb_NT ∧ fb_sh a1 = (2, 12)) : ∀ (fu : Nat) (x2 : Int32) (u : fb_M) ,  gX3_readSubject_2 a0 a1 fu x2 u = some res → fb_V g RX3 cX3_readSubject 3 (some .boolean) "readSubject" (fb_room 6 130 0 0) (fb_Qm g (some (.int res.1)) fb_NT res.2 0 0) 0 0 fb_NT u 2 [(0, .ref (fb_b g + a0)), (1, .ref (fb_b g + a1)), (2, .int x2)] [] := by
  intro fu
  induction fu with
  | zero => intro x2 u h; exact absurd h (by simp [gX3_readSubject_2])
  | succ fu ih => intro x2 u h; exact tbX3_readSubject_2 a0 a1 x2 u (gX3_readSubject_2 a0 a1 fu) ha0 ha1 ih h
def fX3_readSubject (u : fb_M) (a0 : Nat) (a1 : Nat) : Option (Int32 × fb_M) :=
 (gX3_readSubject_2 a0 a1 fb_F 0 u)
set_option maxRecDepth 100000 in
set_option maxHeartbeats 4000000 in
theorem mX3_readSubject (g : fb_G) (u : fb_M) (a0 : Nat) (a1 : Nat) (ha0 : a0 < fb_NT ∧ fb_sh a0 = (3, 3)) (ha1 : a1 < fb_NT ∧ fb_sh a1 = (2, 12)) {res : (Int32 × fb_M)} (h : fX3_readSubject u a0 a1 = some res) : fb_Runs g 6 130 0 0 fb_NT fb_NT yX3_readSubject cX3_readSubject 3 (some .boolean) [.ref (fb_b g + a0), .ref (fb_b g + a1)] u (some (.int res.1)) res.2 := by
  unfold fX3_readSubject at h
  refine fb_enter (by decide) (Nat.le_of_ble_eq_true rfl) ?_
  show fb_V g RX3 cX3_readSubject 3 (some .boolean) "readSubject" (fb_room 6 130 0 0) (fb_Qm g (some (.int res.1)) fb_NT res.2 0 0) 0 0 fb_NT u 0 [(0, .ref (fb_b g + a0)), (1, .ref (fb_b g + a1))] []
  refine fb_iconst (pc := 0) (v := 0) dX3_readSubject_0 fb_ki_0 ?_
  refine fb_istore_n (pc := 1) (lv' := [(2, .int 0), (0, .ref (fb_b g + a0)), (1, .ref (fb_b g + a1))]) dX3_readSubject_1 rfl (by decide) rfl ?_
  exact fb_sub [1, 2, 0] rfl (tgX3_readSubject_2 a0 a1 ha0 ha1 fb_F 0 u h)

theorem dX3_readLimit_0 : decode cX3_readLimit 0 = .ok (.aload_n 0, 1) := by decide +kernel
theorem dX3_readLimit_1 : decode cX3_readLimit 1 = .ok (.ldc 86, 2) := by decide +kernel
theorem dX3_readLimit_3 : decode cX3_readLimit 3 = .ok (.invokevirtual 37, 3) := by decide +kernel
theorem dX3_readLimit_6 : decode cX3_readLimit 6 = .ok (.ifCond .ne 14, 3) := by decide +kernel
theorem dX3_readLimit_9 : decode cX3_readLimit 9 = .ok (.aload_n 0, 1) := by decide +kernel
theorem dX3_readLimit_10 : decode cX3_readLimit 10 = .ok (.ldc 88, 2) := by decide +kernel
theorem dX3_readLimit_12 : decode cX3_readLimit 12 = .ok (.invokevirtual 37, 3) := by decide +kernel
theorem dX3_readLimit_15 : decode cX3_readLimit 15 = .ok (.ifCond .ne 5, 3) := by decide +kernel
theorem dX3_readLimit_18 : decode cX3_readLimit 18 = .ok (.iconst 1, 1) := by decide +kernel
theorem dX3_readLimit_19 : decode cX3_readLimit 19 = .ok (.ireturn, 1) := by decide +kernel
theorem dX3_readLimit_20 : decode cX3_readLimit 20 = .ok (.aload_n 0, 1) := by decide +kernel
theorem dX3_readLimit_21 : decode cX3_readLimit 21 = .ok (.getfield 24, 3) := by decide +kernel
theorem dX3_readLimit_24 : decode cX3_readLimit 24 = .ok (.istore_n 2, 1) := by decide +kernel
theorem dX3_readLimit_25 : decode cX3_readLimit 25 = .ok (.iconst 0, 1) := by decide +kernel
theorem dX3_readLimit_26 : decode cX3_readLimit 26 = .ok (.istore_n 3, 1) := by decide +kernel
theorem dX3_readLimit_27 : decode cX3_readLimit 27 = .ok (.aload_n 0, 1) := by decide +kernel
theorem dX3_readLimit_28 : decode cX3_readLimit 28 = .ok (.getfield 24, 3) := by decide +kernel
theorem dX3_readLimit_31 : decode cX3_readLimit 31 = .ok (.aload_n 0, 1) := by decide +kernel
theorem dX3_readLimit_32 : decode cX3_readLimit 32 = .ok (.getfield 9, 3) := by decide +kernel
theorem dX3_readLimit_35 : decode cX3_readLimit 35 = .ok (.invokevirtual 41, 3) := by decide +kernel
theorem dX3_readLimit_38 : decode cX3_readLimit 38 = .ok (.if_icmp .ge 63, 3) := by decide +kernel
theorem dX3_readLimit_41 : decode cX3_readLimit 41 = .ok (.aload_n 0, 1) := by decide +kernel
theorem dX3_readLimit_42 : decode cX3_readLimit 42 = .ok (.getfield 9, 3) := by decide +kernel
theorem dX3_readLimit_45 : decode cX3_readLimit 45 = .ok (.aload_n 0, 1) := by decide +kernel
theorem dX3_readLimit_46 : decode cX3_readLimit 46 = .ok (.getfield 24, 3) := by decide +kernel
theorem dX3_readLimit_49 : decode cX3_readLimit 49 = .ok (.invokevirtual 90, 3) := by decide +kernel
theorem dX3_readLimit_52 : decode cX3_readLimit 52 = .ok (.invokestatic 94, 3) := by decide +kernel
theorem dX3_readLimit_55 : decode cX3_readLimit 55 = .ok (.ifCond .eq 46, 3) := by decide +kernel
theorem dX3_readLimit_58 : decode cX3_readLimit 58 = .ok (.aload_n 0, 1) := by decide +kernel
theorem dX3_readLimit_59 : decode cX3_readLimit 59 = .ok (.getfield 24, 3) := by decide +kernel
theorem dX3_readLimit_62 : decode cX3_readLimit 62 = .ok (.iload_n 2, 1) := by decide +kernel
theorem dX3_readLimit_63 : decode cX3_readLimit 63 = .ok (.isub, 1) := by decide +kernel
theorem dX3_readLimit_64 : decode cX3_readLimit 64 = .ok (.iconst 3, 1) := by decide +kernel
theorem dX3_readLimit_65 : decode cX3_readLimit 65 = .ok (.if_icmp .ge 23, 3) := by decide +kernel
theorem dX3_readLimit_68 : decode cX3_readLimit 68 = .ok (.iload_n 3, 1) := by decide +kernel
theorem dX3_readLimit_69 : decode cX3_readLimit 69 = .ok (.bipush 10, 2) := by decide +kernel
theorem dX3_readLimit_71 : decode cX3_readLimit 71 = .ok (.imul, 1) := by decide +kernel
theorem dX3_readLimit_72 : decode cX3_readLimit 72 = .ok (.aload_n 0, 1) := by decide +kernel
theorem dX3_readLimit_73 : decode cX3_readLimit 73 = .ok (.getfield 9, 3) := by decide +kernel
theorem dX3_readLimit_76 : decode cX3_readLimit 76 = .ok (.aload_n 0, 1) := by decide +kernel
theorem dX3_readLimit_77 : decode cX3_readLimit 77 = .ok (.getfield 24, 3) := by decide +kernel
theorem dX3_readLimit_80 : decode cX3_readLimit 80 = .ok (.invokevirtual 90, 3) := by decide +kernel
theorem dX3_readLimit_83 : decode cX3_readLimit 83 = .ok (.iadd, 1) := by decide +kernel
theorem dX3_readLimit_84 : decode cX3_readLimit 84 = .ok (.bipush 48, 2) := by decide +kernel
theorem dX3_readLimit_86 : decode cX3_readLimit 86 = .ok (.isub, 1) := by decide +kernel
theorem dX3_readLimit_87 : decode cX3_readLimit 87 = .ok (.istore_n 3, 1) := by decide +kernel
theorem dX3_readLimit_88 : decode cX3_readLimit 88 = .ok (.aload_n 0, 1) := by decide +kernel
theorem dX3_readLimit_89 : decode cX3_readLimit 89 = .ok (.dup, 1) := by decide +kernel
theorem dX3_readLimit_90 : decode cX3_readLimit 90 = .ok (.getfield 24, 3) := by decide +kernel
theorem dX3_readLimit_93 : decode cX3_readLimit 93 = .ok (.iconst 1, 1) := by decide +kernel
theorem dX3_readLimit_94 : decode cX3_readLimit 94 = .ok (.iadd, 1) := by decide +kernel
theorem dX3_readLimit_95 : decode cX3_readLimit 95 = .ok (.putfield 24, 3) := by decide +kernel
theorem dX3_readLimit_98 : decode cX3_readLimit 98 = .ok (.goto (-71), 3) := by decide +kernel
theorem dX3_readLimit_101 : decode cX3_readLimit 101 = .ok (.aload_n 1, 1) := by decide +kernel
theorem dX3_readLimit_102 : decode cX3_readLimit 102 = .ok (.aload_n 0, 1) := by decide +kernel
theorem dX3_readLimit_103 : decode cX3_readLimit 103 = .ok (.getfield 24, 3) := by decide +kernel
theorem dX3_readLimit_106 : decode cX3_readLimit 106 = .ok (.iload_n 2, 1) := by decide +kernel
theorem dX3_readLimit_107 : decode cX3_readLimit 107 = .ok (.if_icmp .ne 7, 3) := by decide +kernel
theorem dX3_readLimit_110 : decode cX3_readLimit 110 = .ok (.iconst 1, 1) := by decide +kernel
theorem dX3_readLimit_111 : decode cX3_readLimit 111 = .ok (.goto 4, 3) := by decide +kernel
theorem dX3_readLimit_114 : decode cX3_readLimit 114 = .ok (.iload_n 3, 1) := by decide +kernel
theorem dX3_readLimit_115 : decode cX3_readLimit 115 = .ok (.putfield 98, 3) := by decide +kernel
theorem dX3_readLimit_118 : decode cX3_readLimit 118 = .ok (.aload_n 0, 1) := by decide +kernel
theorem dX3_readLimit_119 : decode cX3_readLimit 119 = .ok (.getfield 24, 3) := by decide +kernel
theorem dX3_readLimit_122 : decode cX3_readLimit 122 = .ok (.iload_n 2, 1) := by decide +kernel
theorem dX3_readLimit_123 : decode cX3_readLimit 123 = .ok (.isub, 1) := by decide +kernel
theorem dX3_readLimit_124 : decode cX3_readLimit 124 = .ok (.iconst 3, 1) := by decide +kernel
theorem dX3_readLimit_125 : decode cX3_readLimit 125 = .ok (.if_icmp .gt 14, 3) := by decide +kernel
theorem dX3_readLimit_128 : decode cX3_readLimit 128 = .ok (.aload_n 1, 1) := by decide +kernel
theorem dX3_readLimit_129 : decode cX3_readLimit 129 = .ok (.getfield 98, 3) := by decide +kernel
theorem dX3_readLimit_132 : decode cX3_readLimit 132 = .ok (.ifCond .le 7, 3) := by decide +kernel
theorem dX3_readLimit_135 : decode cX3_readLimit 135 = .ok (.iconst 1, 1) := by decide +kernel
theorem dX3_readLimit_136 : decode cX3_readLimit 136 = .ok (.goto 4, 3) := by decide +kernel
theorem dX3_readLimit_139 : decode cX3_readLimit 139 = .ok (.iconst 0, 1) := by decide +kernel
theorem dX3_readLimit_140 : decode cX3_readLimit 140 = .ok (.ireturn, 1) := by decide +kernel
def jX3_readLimit_115 (a0 : Nat) (a1 : Nat) (x2 : Int32) (b0 : Nat) (k1 : Int32) (u : fb_M) : Option (Int32 × fb_M) :=
 (if 3 < ((fb_I (fb_wI u b0 1 k1) a0 2) - x2) then (some (0, fb_wI u b0 1 k1))
  else (if (fb_I (fb_wI u b0 1 k1) a1 1) ≤ 0 then (some (0, fb_wI u b0 1 k1))
   else (some (1, fb_wI u b0 1 k1))))
set_option maxRecDepth 100000 in
set_option maxHeartbeats 4000000 in
theorem tjX3_readLimit_115 {g : fb_G} {res : (Int32 × fb_M)} (a0 : Nat) (a1 : Nat) (x2 : Int32) (b0 : Nat) (k1 : Int32) (u : fb_M) (ha0 : a0 < fb_NT ∧ fb_sh a0 = (3, 3)) (ha1 : a1 < fb_NT ∧ fb_sh a1 = (2, 12)) (hb0 : b0 < fb_NT ∧ fb_sh b0 = (2, 12)) (h : jX3_readLimit_115 a0 a1 x2 b0 k1 u = some res) : fb_V g RX3 cX3_readLimit 4 (some .boolean) "readLimit" (fb_room 6 130 0 0) (fb_Qm g (some (.int res.1)) fb_NT res.2 0 0) 0 0 fb_NT u 115 [(0, .ref (fb_b g + a0)), (1, .ref (fb_b g + a1)), (2, .int x2)] [.int k1, .ref (fb_b g + b0)] := by
  unfold jX3_readLimit_115 at h
  refine fb_putI (pc := 115) dX3_readLimit_115 lkX3_98 ly_2_1 hb0.1 hb0.2 rfl rfl rfl ?_
  refine fb_aload_n (pc := 118) dX3_readLimit_118 0 rfl ?_
  refine fb_getI (pc := 119) dX3_readLimit_119 lkX3_24 ha0.1 ha0.2 rfl ?_
  refine fb_iload_n (pc := 122) dX3_readLimit_122 2 rfl ?_
  refine fb_isub (pc := 123) dX3_readLimit_123 ?_
  refine fb_iconst (pc := 124) (v := 3) dX3_readLimit_124 fb_ki_3 ?_
  refine fb_icmp_gt (pc := 125) (tgt := 139) h dX3_readLimit_125 (by decide) (fun h => ?_) (fun h => ?_)
  · refine fb_iconst (pc := 139) (v := 0) dX3_readLimit_139 fb_ki_0 ?_
    exact fb_zretM (pc := 140) rfl h dX3_readLimit_140
  · refine fb_aload_n (pc := 128) dX3_readLimit_128 1 rfl ?_
    refine fb_getI (pc := 129) dX3_readLimit_129 lkX3_98 ha1.1 ha1.2 rfl ?_
    refine fb_if_le (pc := 132) (tgt := 139) h dX3_readLimit_132 (by decide) (fun h => ?_) (fun h => ?_)
    · refine fb_iconst (pc := 139) (v := 0) dX3_readLimit_139 fb_ki_0 ?_
      exact fb_zretM (pc := 140) rfl h dX3_readLimit_140
    · refine fb_iconst (pc := 135) (v := 1) dX3_readLimit_135 fb_ki_1 ?_
      refine fb_goto (pc := 136) (tgt := 140) dX3_readLimit_136 (by decide) ?_
      exact fb_zretM (pc := 140) rfl h dX3_readLimit_140

def jX3_readLimit_101 (a0 : Nat) (a1 : Nat) (x2 : Int32) (x3 : Int32) (u : fb_M) : Option (Int32 × fb_M) :=
 (if (fb_I u a0 2) = x2 then (jX3_readLimit_115 a0 a1 x2 a1 1 u)
  else (jX3_readLimit_115 a0 a1 x2 a1 x3 u))
set_option maxRecDepth 100000 in
set_option maxHeartbeats 4000000 in
theorem tjX3_readLimit_101 {g : fb_G} {res : (Int32 × fb_M)} (a0 : Nat) (a1 : Nat) (x2 : Int32) (x3 : Int32) (u : fb_M) (ha0 : a0 < fb_NT ∧ fb_sh a0 = (3, 3)) (ha1 : a1 < fb_NT ∧ fb_sh a1 = (2, 12)) (h : jX3_readLimit_101 a0 a1 x2 x3 u = some res) : fb_V g RX3 cX3_readLimit 4 (some .boolean) "readLimit" (fb_room 6 130 0 0) (fb_Qm g (some (.int res.1)) fb_NT res.2 0 0) 0 0 fb_NT u 101 [(0, .ref (fb_b g + a0)), (1, .ref (fb_b g + a1)), (2, .int x2), (3, .int x3)] [] := by
  unfold jX3_readLimit_101 at h
  refine fb_aload_n (pc := 101) dX3_readLimit_101 1 rfl ?_
  refine fb_aload_n (pc := 102) dX3_readLimit_102 0 rfl ?_
  refine fb_getI (pc := 103) dX3_readLimit_103 lkX3_24 ha0.1 ha0.2 rfl ?_
  refine fb_iload_n (pc := 106) dX3_readLimit_106 2 rfl ?_
  refine fb_icmp_ne (pc := 107) (tgt := 114) h dX3_readLimit_107 (by decide) (fun h => ?_) (fun h => ?_)
  · refine fb_iload_n (pc := 114) dX3_readLimit_114 3 rfl ?_
    exact fb_sub [0, 1, 2] rfl (tjX3_readLimit_115 a0 a1 x2 a1 x3 u ha0 ha1 ha1 h)
  · refine fb_iconst (pc := 110) (v := 1) dX3_readLimit_110 fb_ki_1 ?_
    refine fb_goto (pc := 111) (tgt := 115) dX3_readLimit_111 (by decide) ?_
    exact fb_sub [0, 1, 2] rfl (tjX3_readLimit_115 a0 a1 x2 a1 1 u ha0 ha1 ha1 h)

def bX3_readLimit_27 (K27 : Int32 → fb_M → Option (Int32 × fb_M)) (a0 : Nat) (a1 : Nat) (x2 : Int32) (x3 : Int32) (u : fb_M) : Option (Int32 × fb_M) :=
 ((fb_R u a0 0).bind fun q32 => fb_gd (q32 < fb_NT ∧ fb_sh q32 = (0, 2)) 
  (((fX0_length u q32).bind fun r35 => 
  (if r35 ≤ (fb_I u a0 2) then (jX3_readLimit_101 a0 a1 x2 x3 u)
  else ((fb_R u a0 0).bind fun q42 => fb_gd (q42 < fb_NT ∧ fb_sh q42 = (0, 2)) 
   (((fX0_at u q42 (fb_I u a0 2)).bind fun r49 => 
   ((fX8_isFigure u r49).bind fun r52 => 
   (if r52 = 0 then (jX3_readLimit_101 a0 a1 x2 x3 u)
   else (if 3 ≤ ((fb_I u a0 2) - x2) then (K27 x3 (fb_wI u a0 2 ((fb_I u a0 2) + 1)))
    else ((fb_R u a0 0).bind fun q73 => fb_gd (q73 < fb_NT ∧ fb_sh q73 = (0, 2)) 
     (((fX0_at u q73 (fb_I u a0 2)).bind fun r80 => 
     (K27 (((x3 * 10) + r80) - 48) (fb_wI u a0 2 ((fb_I u a0 2) + 1))))))))))))))))
def gX3_readLimit_27 (a0 : Nat) (a1 : Nat) (x2 : Int32) : Nat → Int32 → fb_M → Option (Int32 × fb_M)
 | 0 => fun _ _ => none
 | fu + 1 => fun x3 u => bX3_readLimit_27 (gX3_readLimit_27 a0 a1 x2 fu) a0 a1 x2 x3 u
set_option maxRecDepth 100000 in
set_option maxHeartbeats 4000000 in
theorem tbX3_readLimit_27 {g : fb_G} {res : (Int32 × fb_M)} (a0 : Nat) (a1 : Nat) (x2 : Int32) (x3 : Int32) (u : fb_M) (K27 : Int32 → fb_M → Option (Int32 × fb_M)) (ha0 : a0 < fb_NT ∧ fb_sh a0 = (3, 3)) (ha1 : a1 < fb_NT ∧ fb_sh a1 = (2, 12)) (hK27 : ∀ (x3 : Int32) (u : fb_M) ,  K27 x3 u = some res → fb_V g RX3 cX3_readLimit 4 (some .boolean) "readLimit" (fb_room 6 130 0 0) (fb_Qm g (some (.int res.1)) fb_NT res.2 0 0) 0 0 fb_NT u 27 [(0, .ref (fb_b g + a0)), (1, .ref (fb_b g + a1)), (2, .int x2), (3, .int x3)] []) (h : bX3_readLimit_27 K27 a0 a1 x2 x3 u = some res) : fb_V g RX3 cX3_readLimit 4 (some .boolean) "readLimit" (fb_room 6 130 0 0) (fb_Qm g (some (.int res.1)) fb_NT res.2 0 0) 0 0 fb_NT u 27 [(0, .ref (fb_b g + a0)), (1, .ref (fb_b g + a1)), (2, .int x2), (3, .int x3)] [] := by
  unfold bX3_readLimit_27 at h
  refine fb_aload_n (pc := 27) dX3_readLimit_27 0 rfl ?_
  refine fb_getI (pc := 28) dX3_readLimit_28 lkX3_24 ha0.1 ha0.2 rfl ?_
  refine fb_aload_n (pc := 31) dX3_readLimit_31 0 rfl ?_
  refine fb_bnE h (fun q32 e32 h => fb_gdE h (fun s32 h => ?_))
  refine fb_getR (pc := 32) dX3_readLimit_32 lkX3_9 ha0.1 ha0.2 (by decide) e32 ?_
  refine fb_bnE h (fun r35 h35 h => ?_)
  refine fb_cV0v (pc := 35) [] dX3_readLimit_35 (mX0_length g u q32 s32 h35) ymX0_length yiX0_length s32.1 s32.2 ylX3_41 rfl (Nat.le_of_ble_eq_true rfl) ⟨Nat.le_of_ble_eq_true rfl, Nat.le_of_ble_eq_true rfl⟩ ⟨Nat.le_of_ble_eq_true rfl, Nat.le_of_ble_eq_true rfl⟩ ?_
  refine fb_icmp_ge (pc := 38) (tgt := 101) h dX3_readLimit_38 (by decide) (fun h => ?_) (fun h => ?_)
  · exact fb_sub [0, 1, 2, 3] rfl (tjX3_readLimit_101 a0 a1 x2 x3 u ha0 ha1 h)
  · refine fb_aload_n (pc := 41) dX3_readLimit_41 0 rfl ?_
    refine fb_bnE h (fun q42 e42 h => fb_gdE h (fun s42 h => ?_))
    refine fb_getR (pc := 42) dX3_readLimit_42 lkX3_9 ha0.1 ha0.2 (by decide) e42 ?_
    refine fb_aload_n (pc := 45) dX3_readLimit_45 0 rfl ?_
    refine fb_getI (pc := 46) dX3_readLimit_46 lkX3_24 ha0.1 ha0.2 rfl ?_
    refine fb_bnE h (fun r49 h49 h => ?_)
    refine fb_cV0v (pc := 49) [.int (fb_I u a0 2)] dX3_readLimit_49 (mX0_at g u q42 (fb_I u a0 2) s42 h49) ymX0_at yiX0_at s42.1 s42.2 ylX3_90 rfl (Nat.le_of_ble_eq_true rfl) ⟨Nat.le_of_ble_eq_true rfl, Nat.le_of_ble_eq_true rfl⟩ ⟨Nat.le_of_ble_eq_true rfl, Nat.le_of_ble_eq_true rfl⟩ ?_
    refine fb_bnE h (fun r52 h52 h => ?_)
    refine fb_cS0v (pc := 52) [.int r49] dX3_readLimit_52 (mX8_isFigure g u r49 h52) ymX8_isFigure ysX8_isFigure ylX3_94 rfl (Nat.le_of_ble_eq_true rfl) ⟨Nat.le_of_ble_eq_true rfl, Nat.le_of_ble_eq_true rfl⟩ ⟨Nat.le_of_ble_eq_true rfl, Nat.le_of_ble_eq_true rfl⟩ ?_
    refine fb_if_eq (pc := 55) (tgt := 101) h dX3_readLimit_55 (by decide) (fun h => ?_) (fun h => ?_)
    · exact fb_sub [0, 1, 2, 3] rfl (tjX3_readLimit_101 a0 a1 x2 x3 u ha0 ha1 h)
    · refine fb_aload_n (pc := 58) dX3_readLimit_58 0 rfl ?_
      refine fb_getI (pc := 59) dX3_readLimit_59 lkX3_24 ha0.1 ha0.2 rfl ?_
      refine fb_iload_n (pc := 62) dX3_readLimit_62 2 rfl ?_
      refine fb_isub (pc := 63) dX3_readLimit_63 ?_
      refine fb_iconst (pc := 64) (v := 3) dX3_readLimit_64 fb_ki_3 ?_
      refine fb_icmp_ge (pc := 65) (tgt := 88) h dX3_readLimit_65 (by decide) (fun h => ?_) (fun h => ?_)
      · refine fb_aload_n (pc := 88) dX3_readLimit_88 0 rfl ?_
        refine fb_dup (pc := 89) dX3_readLimit_89 rfl ?_
        refine fb_getI (pc := 90) dX3_readLimit_90 lkX3_24 ha0.1 ha0.2 rfl ?_
        refine fb_iconst (pc := 93) (v := 1) dX3_readLimit_93 fb_ki_1 ?_
        refine fb_iadd (pc := 94) dX3_readLimit_94 ?_
        refine fb_putI (pc := 95) dX3_readLimit_95 lkX3_24 ly_3_2 ha0.1 ha0.2 rfl rfl rfl ?_
        refine fb_goto (pc := 98) (tgt := 27) dX3_readLimit_98 (by decide) ?_
        exact fb_sub [0, 1, 2, 3] rfl (hK27 x3 (fb_wI u a0 2 ((fb_I u a0 2) + 1)) h)
      · refine fb_iload_n (pc := 68) dX3_readLimit_68 3 rfl ?_
        refine fb_bipush (pc := 69) (v := 10) dX3_readLimit_69 fb_kb_10 ?_
        refine fb_imul (pc := 71) dX3_readLimit_71 ?_
        refine fb_aload_n (pc := 72) dX3_readLimit_72 0 rfl ?_
        refine fb_bnE h (fun q73 e73 h => fb_gdE h (fun s73 h => ?_))
        refine fb_getR (pc := 73) dX3_readLimit_73 lkX3_9 ha0.1 ha0.2 (by decide) e73 ?_
        refine fb_aload_n (pc := 76) dX3_readLimit_76 0 rfl ?_
        refine fb_getI (pc := 77) dX3_readLimit_77 lkX3_24 ha0.1 ha0.2 rfl ?_
        refine fb_bnE h (fun r80 h80 h => ?_)
        refine fb_cV0v (pc := 80) [.int (fb_I u a0 2)] dX3_readLimit_80 (mX0_at g u q73 (fb_I u a0 2) s73 h80) ymX0_at yiX0_at s73.1 s73.2 ylX3_90 rfl (Nat.le_of_ble_eq_true rfl) ⟨Nat.le_of_ble_eq_true rfl, Nat.le_of_ble_eq_true rfl⟩ ⟨Nat.le_of_ble_eq_true rfl, Nat.le_of_ble_eq_true rfl⟩ ?_
        refine fb_iadd (pc := 83) dX3_readLimit_83 ?_
        refine fb_bipush (pc := 84) (v := 48) dX3_readLimit_84 fb_kb_48 ?_
        refine fb_isub (pc := 86) dX3_readLimit_86 ?_
        refine fb_istore_n (pc := 87) (lv' := [(3, .int (((x3 * 10) + r80) - 48)), (0, .ref (fb_b g + a0)), (1, .ref (fb_b g + a1)), (2, .int x2)]) dX3_readLimit_87 rfl (by decide) rfl ?_
        refine fb_aload_n (pc := 88) dX3_readLimit_88 1 rfl ?_
        refine fb_dup (pc := 89) dX3_readLimit_89 rfl ?_
        refine fb_getI (pc := 90) dX3_readLimit_90 lkX3_24 ha0.1 ha0.2 rfl ?_
        refine fb_iconst (pc := 93) (v := 1) dX3_readLimit_93 fb_ki_1 ?_
        refine fb_iadd (pc := 94) dX3_readLimit_94 ?_
        refine fb_putI (pc := 95) dX3_readLimit_95 lkX3_24 ly_3_2 ha0.1 ha0.2 rfl rfl rfl ?_
        refine fb_goto (pc := 98) (tgt := 27) dX3_readLimit_98 (by decide) ?_
        exact fb_sub [1, 2, 3, 0] rfl (hK27 (((x3 * 10) + r80) - 48) (fb_wI u a0 2 ((fb_I u a0 2) + 1)) h)

theorem tgX3_readLimit_27 {g : fb_G} {res : (Int32 × fb_M)} (a0 : Nat) (a1 : Nat) (x2 : Int32) (ha0 : a0 < fb_NT ∧ fb_sh a0 = (3, 3)) (ha1 : a1 < fb_NT ∧ fb_sh a1 = (2, 12)) : ∀ (fu : Nat) (x3 : Int32) (u : fb_M) ,  gX3_readLimit_27 a0 a1 x2 fu x3 u = some res → fb_V g RX3 cX3_readLimit 4 (some .boolean) "readLimit" (fb_room 6 130 0 0) (fb_Qm g (some (.int res.1)) fb_NT res.2 0 0) 0 0 fb_NT u 27 [(0, .ref (fb_b g + a0)), (1, .ref (fb_b g + a1)), (2, .int x2), (3, .int x3)] [] := by
  intro fu
  induction fu with
  | zero => intro x3 u h; exact absurd h (by simp [gX3_readLimit_27])
  | succ fu ih => intro x3 u h; exact tbX3_readLimit_27 a0 a1 x2 x3 u (gX3_readLimit_27 a0 a1 x2 fu) ha0 ha1 ih h
def fX3_readLimit (u : fb_M) (a0 : Nat) (a1 : Nat) : Option (Int32 × fb_M) :=
 ((fX3_skip u a0 4).bind fun r3 => 
  (if r3.1 = 0 then ((fX3_skip r3.2 a0 5).bind fun r12 => 
   (if r12.1 = 0 then (some (1, r12.2))
   else (gX3_readLimit_27 a0 a1 (fb_I r12.2 a0 2) fb_F 0 r12.2)))
  else (gX3_readLimit_27 a0 a1 (fb_I r3.2 a0 2) fb_F 0 r3.2)))
set_option maxRecDepth 100000 in
set_option maxHeartbeats 4000000 in
theorem mX3_readLimit (g : fb_G) (u : fb_M) (a0 : Nat) (a1 : Nat) (ha0 : a0 < fb_NT ∧ fb_sh a0 = (3, 3)) (ha1 : a1 < fb_NT ∧ fb_sh a1 = (2, 12)) {res : (Int32 × fb_M)} (h : fX3_readLimit u a0 a1 = some res) : fb_Runs g 6 130 0 0 fb_NT fb_NT yX3_readLimit cX3_readLimit 4 (some .boolean) [.ref (fb_b g + a0), .ref (fb_b g + a1)] u (some (.int res.1)) res.2 := by
  unfold fX3_readLimit at h
  refine fb_enter (by decide) (Nat.le_of_ble_eq_true rfl) ?_
  show fb_V g RX3 cX3_readLimit 4 (some .boolean) "readLimit" (fb_room 6 130 0 0) (fb_Qm g (some (.int res.1)) fb_NT res.2 0 0) 0 0 fb_NT u 0 [(0, .ref (fb_b g + a0)), (1, .ref (fb_b g + a1))] []
  refine fb_aload_n (pc := 0) dX3_readLimit_0 0 rfl ?_
  refine fb_ldcS (pc := 1) (i := 4) (tx := "Top") dX3_readLimit_1 srX3_86 ?_
  refine fb_bnE h (fun r3 h3 h => ?_)
  refine fb_cV0v (pc := 3) [.ref (fb_K g 4)] dX3_readLimit_3 (mX3_skip g u a0 4 ha0 (by decide : 4 < fb_nS) h3) ymX3_skip yiX3_skip ha0.1 ha0.2 ylX3_37 rfl (Nat.le_of_ble_eq_true rfl) ⟨Nat.le_of_ble_eq_true rfl, Nat.le_of_ble_eq_true rfl⟩ ⟨Nat.le_of_ble_eq_true rfl, Nat.le_of_ble_eq_true rfl⟩ ?_
  refine fb_if_ne (pc := 6) (tgt := 20) h dX3_readLimit_6 (by decide) (fun h => ?_) (fun h => ?_)
  · refine fb_aload_n (pc := 20) dX3_readLimit_20 0 rfl ?_
    refine fb_getI (pc := 21) dX3_readLimit_21 lkX3_24 ha0.1 ha0.2 rfl ?_
    refine fb_istore_n (pc := 24) (lv' := [(2, .int (fb_I r3.2 a0 2)), (0, .ref (fb_b g + a0)), (1, .ref (fb_b g + a1))]) dX3_readLimit_24 rfl (by decide) rfl ?_
    refine fb_iconst (pc := 25) (v := 0) dX3_readLimit_25 fb_ki_0 ?_
    refine fb_istore_n (pc := 26) (lv' := [(3, .int 0), (2, .int (fb_I r3.2 a0 2)), (0, .ref (fb_b g + a0)), (1, .ref (fb_b g + a1))]) dX3_readLimit_26 rfl (by decide) rfl ?_
    exact fb_sub [2, 3, 1, 0] rfl (tgX3_readLimit_27 a0 a1 (fb_I r3.2 a0 2) ha0 ha1 fb_F 0 r3.2 h)
  · refine fb_aload_n (pc := 9) dX3_readLimit_9 0 rfl ?_
    refine fb_ldcS (pc := 10) (i := 5) (tx := "First") dX3_readLimit_10 srX3_88 ?_
    refine fb_bnE h (fun r12 h12 h => ?_)
    refine fb_cV0v (pc := 12) [.ref (fb_K g 5)] dX3_readLimit_12 (mX3_skip g r3.2 a0 5 ha0 (by decide : 5 < fb_nS) h12) ymX3_skip yiX3_skip ha0.1 ha0.2 ylX3_37 rfl (Nat.le_of_ble_eq_true rfl) ⟨Nat.le_of_ble_eq_true rfl, Nat.le_of_ble_eq_true rfl⟩ ⟨Nat.le_of_ble_eq_true rfl, Nat.le_of_ble_eq_true rfl⟩ ?_
    refine fb_if_ne (pc := 15) (tgt := 20) h dX3_readLimit_15 (by decide) (fun h => ?_) (fun h => ?_)
    · refine fb_aload_n (pc := 20) dX3_readLimit_20 0 rfl ?_
      refine fb_getI (pc := 21) dX3_readLimit_21 lkX3_24 ha0.1 ha0.2 rfl ?_
      refine fb_istore_n (pc := 24) (lv' := [(2, .int (fb_I r12.2 a0 2)), (0, .ref (fb_b g + a0)), (1, .ref (fb_b g + a1))]) dX3_readLimit_24 rfl (by decide) rfl ?_
      refine fb_iconst (pc := 25) (v := 0) dX3_readLimit_25 fb_ki_0 ?_
      refine fb_istore_n (pc := 26) (lv' := [(3, .int 0), (2, .int (fb_I r12.2 a0 2)), (0, .ref (fb_b g + a0)), (1, .ref (fb_b g + a1))]) dX3_readLimit_26 rfl (by decide) rfl ?_
      exact fb_sub [2, 3, 1, 0] rfl (tgX3_readLimit_27 a0 a1 (fb_I r12.2 a0 2) ha0 ha1 fb_F 0 r12.2 h)
    · refine fb_iconst (pc := 18) (v := 1) dX3_readLimit_18 fb_ki_1 ?_
      exact fb_zretM (pc := 19) rfl h dX3_readLimit_19

theorem dX0_placeOf_0 : decode cX0_placeOf 0 = .ok (.iload_n 2, 1) := by decide +kernel
theorem dX0_placeOf_1 : decode cX0_placeOf 1 = .ok (.istore 4, 2) := by decide +kernel
theorem dX0_placeOf_3 : decode cX0_placeOf 3 = .ok (.iload 4, 2) := by decide +kernel
theorem dX0_placeOf_5 : decode cX0_placeOf 5 = .ok (.iload_n 3, 1) := by decide +kernel
theorem dX0_placeOf_6 : decode cX0_placeOf 6 = .ok (.if_icmp .ge 23, 3) := by decide +kernel
theorem dX0_placeOf_9 : decode cX0_placeOf 9 = .ok (.aload_n 0, 1) := by decide +kernel
theorem dX0_placeOf_10 : decode cX0_placeOf 10 = .ok (.aload_n 1, 1) := by decide +kernel
theorem dX0_placeOf_11 : decode cX0_placeOf 11 = .ok (.iload 4, 2) := by decide +kernel
theorem dX0_placeOf_13 : decode cX0_placeOf 13 = .ok (.iload_n 3, 1) := by decide +kernel
theorem dX0_placeOf_14 : decode cX0_placeOf 14 = .ok (.invokevirtual 37, 3) := by decide +kernel
theorem dX0_placeOf_17 : decode cX0_placeOf 17 = .ok (.ifCond .eq 6, 3) := by decide +kernel
theorem dX0_placeOf_20 : decode cX0_placeOf 20 = .ok (.iload 4, 2) := by decide +kernel
theorem dX0_placeOf_22 : decode cX0_placeOf 22 = .ok (.ireturn, 1) := by decide +kernel
theorem dX0_placeOf_23 : decode cX0_placeOf 23 = .ok (.iinc 4 1, 3) := by decide +kernel
theorem dX0_placeOf_26 : decode cX0_placeOf 26 = .ok (.goto (-23), 3) := by decide +kernel
theorem dX0_placeOf_29 : decode cX0_placeOf 29 = .ok (.iload_n 3, 1) := by decide +kernel
theorem dX0_placeOf_30 : decode cX0_placeOf 30 = .ok (.ireturn, 1) := by decide +kernel
def bX0_placeOf_3 (K3 : Int32 → Option Int32) (a0 : Nat) (w1 : Nat) (x3 : Int32) (x4 : Int32) (u : fb_M) : Option Int32 :=
 (if x3 ≤ x4 then (some x3)
  else ((fX0_startsWith u a0 w1 x4 x3).bind fun r14 => 
   (if r14 = 0 then (K3 (x4 + 1))
   else (some x4))))
def gX0_placeOf_3 (a0 : Nat) (w1 : Nat) (x3 : Int32) (u : fb_M) : Nat → Int32 → Option Int32
 | 0 => fun _ => none
 | fu + 1 => fun x4 => bX0_placeOf_3 (gX0_placeOf_3 a0 w1 x3 u fu) a0 w1 x3 x4 u
set_option maxRecDepth 100000 in
set_option maxHeartbeats 4000000 in
theorem tbX0_placeOf_3 {g : fb_G} {res : Int32} (a0 : Nat) (w1 : Nat) (x3 : Int32) (x4 : Int32) (u : fb_M) (K3 : Int32 → Option Int32) (ha0 : a0 < fb_NT ∧ fb_sh a0 = (0, 2)) (hw1 : w1 < fb_nS) (hK3 : ∀ (x4 : Int32) ,  K3 x4 = some res → fb_V g RX0 cX0_placeOf 5 (some .int) "placeOf" (fb_room 5 109 0 0) (fb_Qm g (some (.int res)) fb_NT u 0 0) 0 0 fb_NT u 3 [(0, .ref (fb_b g + a0)), (1, .ref (fb_K g w1)), (3, .int x3), (4, .int x4)] []) (h : bX0_placeOf_3 K3 a0 w1 x3 x4 u = some res) : fb_V g RX0 cX0_placeOf 5 (some .int) "placeOf" (fb_room 5 109 0 0) (fb_Qm g (some (.int res)) fb_NT u 0 0) 0 0 fb_NT u 3 [(0, .ref (fb_b g + a0)), (1, .ref (fb_K g w1)), (3, .int x3), (4, .int x4)] [] := by
  unfold bX0_placeOf_3 at h
  refine fb_iload (pc := 3) dX0_placeOf_3 3 rfl ?_
  refine fb_iload_n (pc := 5) dX0_placeOf_5 2 rfl ?_
  refine fb_icmp_ge (pc := 6) (tgt := 29) h dX0_placeOf_6 (by decide) (fun h => ?_) (fun h => ?_)
  · refine fb_iload_n (pc := 29) dX0_placeOf_29 2 rfl ?_
    exact fb_iretR (pc := 30) h dX0_placeOf_30
  · refine fb_aload_n (pc := 9) dX0_placeOf_9 0 rfl ?_
    refine fb_aload_n (pc := 10) dX0_placeOf_10 1 rfl ?_
    refine fb_iload (pc := 11) dX0_placeOf_11 3 rfl ?_
    refine fb_iload_n (pc := 13) dX0_placeOf_13 2 rfl ?_
    refine fb_bnE h (fun r14 h14 h => ?_)
    refine fb_cV0v (pc := 14) [.ref (fb_K g w1), .int x4, .int x3] dX0_placeOf_14 (mX0_startsWith g u a0 w1 x4 x3 ha0 hw1 h14) ymX0_startsWith yiX0_startsWith ha0.1 ha0.2 ylX0_37 rfl (Nat.le_of_ble_eq_true rfl) ⟨Nat.le_of_ble_eq_true rfl, Nat.le_of_ble_eq_true rfl⟩ ⟨Nat.le_of_ble_eq_true rfl, Nat.le_of_ble_eq_true rfl⟩ ?_
    refine fb_if_eq (pc := 17) (tgt := 23) h dX0_placeOf_17 (by decide) (fun h => ?_) (fun h => ?_)
    · refine fb_iinc (pc := 23) (v := 1) (lv' := [(4, .int (x4 + 1)), (0, .ref (fb_b g + a0)), (1, .ref (fb_K g w1)), (3, .int x3)]) dX0_placeOf_23 3 rfl fb_ki_1 (by decide) rfl ?_
      refine fb_goto (pc := 26) (tgt := 3) dX0_placeOf_26 (by decide) ?_
      exact fb_sub [1, 2, 3, 0] rfl (hK3 (x4 + 1) h)
    · refine fb_iload (pc := 20) dX0_placeOf_20 3 rfl ?_
      exact fb_iretR (pc := 22) h dX0_placeOf_22

theorem tgX0_placeOf_3 {g : fb_G} {res : Int32} (a0 : Nat) (w1 : Nat) (x3 : Int32) (u : fb_M) (ha0 : a0 < fb_NT ∧ fb_sh a0 = (0, 2)) (hw1 : w1 < fb_nS) : ∀ (fu : Nat) (x4 : Int32) ,  gX0_placeOf_3 a0 w1 x3 u fu x4 = some res → fb_V g RX0 cX0_placeOf 5 (some .int) "placeOf" (fb_room 5 109 0 0) (fb_Qm g (some (.int res)) fb_NT u 0 0) 0 0 fb_NT u 3 [(0, .ref (fb_b g + a0)), (1, .ref (fb_K g w1)), (3, .int x3), (4, .int x4)] [] := by
  intro fu
  induction fu with
  | zero => intro x4 h; exact absurd h (by simp [gX0_placeOf_3])
  | succ fu ih => intro x4 h; exact tbX0_placeOf_3 a0 w1 x3 x4 u (gX0_placeOf_3 a0 w1 x3 u fu) ha0 hw1 ih h
def fX0_placeOf (u : fb_M) (a0 : Nat) (w1 : Nat) (x2 : Int32) (x3 : Int32) : Option Int32 :=
 (gX0_placeOf_3 a0 w1 x3 u fb_F x2)
set_option maxRecDepth 100000 in
set_option maxHeartbeats 4000000 in
theorem mX0_placeOf (g : fb_G) (u : fb_M) (a0 : Nat) (w1 : Nat) (x2 : Int32) (x3 : Int32) (ha0 : a0 < fb_NT ∧ fb_sh a0 = (0, 2)) (hw1 : w1 < fb_nS) {res : Int32} (h : fX0_placeOf u a0 w1 x2 x3 = some res) : fb_Runs g 5 109 0 0 fb_NT fb_NT yX0_placeOf cX0_placeOf 5 (some .int) [.ref (fb_b g + a0), .ref (fb_K g w1), .int x2, .int x3] u (some (.int res)) u := by
  unfold fX0_placeOf at h
  refine fb_enter (by decide) (Nat.le_of_ble_eq_true rfl) ?_
  show fb_V g RX0 cX0_placeOf 5 (some .int) "placeOf" (fb_room 5 109 0 0) (fb_Qm g (some (.int res)) fb_NT u 0 0) 0 0 fb_NT u 0 [(0, .ref (fb_b g + a0)), (1, .ref (fb_K g w1)), (2, .int x2), (3, .int x3)] []
  refine fb_iload_n (pc := 0) dX0_placeOf_0 2 rfl ?_
  refine fb_istore (pc := 1) (lv' := [(4, .int x2), (0, .ref (fb_b g + a0)), (1, .ref (fb_K g w1)), (2, .int x2), (3, .int x3)]) dX0_placeOf_1 (by decide) rfl ?_
  exact fb_sub [1, 2, 4, 0] rfl (tgX0_placeOf_3 a0 w1 x3 u ha0 hw1 fb_F x2 h)

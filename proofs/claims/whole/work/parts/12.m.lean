theorem dX0_isCutAt_0 : decode cX0_isCutAt 0 = .ok (.iload_n 2, 1) := by decide +kernel
theorem dX0_isCutAt_1 : decode cX0_isCutAt 1 = .ok (.aload_n 1, 1) := by decide +kernel
theorem dX0_isCutAt_2 : decode cX0_isCutAt 2 = .ok (.invokevirtual 28, 3) := by decide +kernel
theorem dX0_isCutAt_5 : decode cX0_isCutAt 5 = .ok (.iadd, 1) := by decide +kernel
theorem dX0_isCutAt_6 : decode cX0_isCutAt 6 = .ok (.istore 4, 2) := by decide +kernel
theorem dX0_isCutAt_8 : decode cX0_isCutAt 8 = .ok (.iload 4, 2) := by decide +kernel
theorem dX0_isCutAt_10 : decode cX0_isCutAt 10 = .ok (.iload_n 3, 1) := by decide +kernel
theorem dX0_isCutAt_11 : decode cX0_isCutAt 11 = .ok (.if_icmp .ge 29, 3) := by decide +kernel
theorem dX0_isCutAt_14 : decode cX0_isCutAt 14 = .ok (.aload_n 0, 1) := by decide +kernel
theorem dX0_isCutAt_15 : decode cX0_isCutAt 15 = .ok (.iload 4, 2) := by decide +kernel
theorem dX0_isCutAt_17 : decode cX0_isCutAt 17 = .ok (.invokevirtual 41, 3) := by decide +kernel
theorem dX0_isCutAt_20 : decode cX0_isCutAt 20 = .ok (.invokestatic 44, 3) := by decide +kernel
theorem dX0_isCutAt_23 : decode cX0_isCutAt 23 = .ok (.ifCond .eq 17, 3) := by decide +kernel
theorem dX0_isCutAt_26 : decode cX0_isCutAt 26 = .ok (.aload_n 0, 1) := by decide +kernel
theorem dX0_isCutAt_27 : decode cX0_isCutAt 27 = .ok (.aload_n 1, 1) := by decide +kernel
theorem dX0_isCutAt_28 : decode cX0_isCutAt 28 = .ok (.iload_n 2, 1) := by decide +kernel
theorem dX0_isCutAt_29 : decode cX0_isCutAt 29 = .ok (.iload_n 3, 1) := by decide +kernel
theorem dX0_isCutAt_30 : decode cX0_isCutAt 30 = .ok (.invokevirtual 37, 3) := by decide +kernel
theorem dX0_isCutAt_33 : decode cX0_isCutAt 33 = .ok (.ifCond .eq 7, 3) := by decide +kernel
theorem dX0_isCutAt_36 : decode cX0_isCutAt 36 = .ok (.iconst 1, 1) := by decide +kernel
theorem dX0_isCutAt_37 : decode cX0_isCutAt 37 = .ok (.goto 4, 3) := by decide +kernel
theorem dX0_isCutAt_40 : decode cX0_isCutAt 40 = .ok (.iconst 0, 1) := by decide +kernel
theorem dX0_isCutAt_41 : decode cX0_isCutAt 41 = .ok (.ireturn, 1) := by decide +kernel
def fX0_isCutAt (u : fb_M) (a0 : Nat) (w1 : Nat) (x2 : Int32) (x3 : Int32) : Option Int32 :=
 (if x3 ≤ (x2 + (Int32.ofNat (fb_len.getD w1 0))) then (some 0)
  else ((fX0_at u a0 (x2 + (Int32.ofNat (fb_len.getD w1 0)))).bind fun r17 => 
   ((fX8_isCapital u r17).bind fun r20 => 
   (if r20 = 0 then (some 0)
   else ((fX0_startsWith u a0 w1 x2 x3).bind fun r30 => 
    (if r30 = 0 then (some 0)
    else (some 1)))))))
set_option maxRecDepth 100000 in
set_option maxHeartbeats 4000000 in
theorem mX0_isCutAt (g : fb_G) (u : fb_M) (a0 : Nat) (w1 : Nat) (x2 : Int32) (x3 : Int32) (ha0 : a0 < fb_NT ∧ fb_sh a0 = (0, 2)) (hw1 : w1 < fb_nS) {res : Int32} (h : fX0_isCutAt u a0 w1 x2 x3 = some res) : fb_Runs g 5 109 0 0 fb_NT fb_NT yX0_isCutAt cX0_isCutAt 5 (some .boolean) [.ref (fb_b g + a0), .ref (fb_K g w1), .int x2, .int x3] u (some (.int res)) u := by
  unfold fX0_isCutAt at h
  refine fb_enter (by decide) (Nat.le_of_ble_eq_true rfl) ?_
  show fb_V g RX0 cX0_isCutAt 5 (some .boolean) "isCutAt" (fb_room 5 109 0 0) (fb_Qm g (some (.int res)) fb_NT u 0 0) 0 0 fb_NT u 0 [(0, .ref (fb_b g + a0)), (1, .ref (fb_K g w1)), (2, .int x2), (3, .int x3)] []
  refine fb_iload_n (pc := 0) dX0_isCutAt_0 2 rfl ?_
  refine fb_aload_n (pc := 1) dX0_isCutAt_1 1 rfl ?_
  refine fb_cT0v (pc := 2) [] dX0_isCutAt_2 (m_strlen g w1 hw1 u) ymJ_length yiJ_length hw1 ylX0_28 rfl (Nat.le_of_ble_eq_true rfl) ⟨Nat.le_of_ble_eq_true rfl, Nat.le_of_ble_eq_true rfl⟩ ⟨Nat.le_of_ble_eq_true rfl, Nat.le_of_ble_eq_true rfl⟩ ?_
  refine fb_iadd (pc := 5) dX0_isCutAt_5 ?_
  refine fb_istore (pc := 6) (lv' := [(4, .int (x2 + (Int32.ofNat (fb_len.getD w1 0)))), (0, .ref (fb_b g + a0)), (1, .ref (fb_K g w1)), (2, .int x2), (3, .int x3)]) dX0_isCutAt_6 (by decide) rfl ?_
  refine fb_iload (pc := 8) dX0_isCutAt_8 0 rfl ?_
  refine fb_iload_n (pc := 10) dX0_isCutAt_10 4 rfl ?_
  refine fb_icmp_ge (pc := 11) (tgt := 40) h dX0_isCutAt_11 (by decide) (fun h => ?_) (fun h => ?_)
  · refine fb_iconst (pc := 40) (v := 0) dX0_isCutAt_40 fb_ki_0 ?_
    exact fb_zretR (pc := 41) rfl h dX0_isCutAt_41
  · refine fb_aload_n (pc := 14) dX0_isCutAt_14 1 rfl ?_
    refine fb_iload (pc := 15) dX0_isCutAt_15 0 rfl ?_
    refine fb_bnE h (fun r17 h17 h => ?_)
    refine fb_cV0v (pc := 17) [.int (x2 + (Int32.ofNat (fb_len.getD w1 0)))] dX0_isCutAt_17 (mX0_at g u a0 (x2 + (Int32.ofNat (fb_len.getD w1 0))) ha0 h17) ymX0_at yiX0_at ha0.1 ha0.2 ylX0_41 rfl (Nat.le_of_ble_eq_true rfl) ⟨Nat.le_of_ble_eq_true rfl, Nat.le_of_ble_eq_true rfl⟩ ⟨Nat.le_of_ble_eq_true rfl, Nat.le_of_ble_eq_true rfl⟩ ?_
    refine fb_bnE h (fun r20 h20 h => ?_)
    refine fb_cS0v (pc := 20) [.int r17] dX0_isCutAt_20 (mX8_isCapital g u r17 h20) ymX8_isCapital ysX8_isCapital ylX0_44 rfl (Nat.le_of_ble_eq_true rfl) ⟨Nat.le_of_ble_eq_true rfl, Nat.le_of_ble_eq_true rfl⟩ ⟨Nat.le_of_ble_eq_true rfl, Nat.le_of_ble_eq_true rfl⟩ ?_
    refine fb_if_eq (pc := 23) (tgt := 40) h dX0_isCutAt_23 (by decide) (fun h => ?_) (fun h => ?_)
    · refine fb_iconst (pc := 40) (v := 0) dX0_isCutAt_40 fb_ki_0 ?_
      exact fb_zretR (pc := 41) rfl h dX0_isCutAt_41
    · refine fb_aload_n (pc := 26) dX0_isCutAt_26 1 rfl ?_
      refine fb_aload_n (pc := 27) dX0_isCutAt_27 2 rfl ?_
      refine fb_iload_n (pc := 28) dX0_isCutAt_28 3 rfl ?_
      refine fb_iload_n (pc := 29) dX0_isCutAt_29 4 rfl ?_
      refine fb_bnE h (fun r30 h30 h => ?_)
      refine fb_cV0v (pc := 30) [.ref (fb_K g w1), .int x2, .int x3] dX0_isCutAt_30 (mX0_startsWith g u a0 w1 x2 x3 ha0 hw1 h30) ymX0_startsWith yiX0_startsWith ha0.1 ha0.2 ylX0_37 rfl (Nat.le_of_ble_eq_true rfl) ⟨Nat.le_of_ble_eq_true rfl, Nat.le_of_ble_eq_true rfl⟩ ⟨Nat.le_of_ble_eq_true rfl, Nat.le_of_ble_eq_true rfl⟩ ?_
      refine fb_if_eq (pc := 33) (tgt := 40) h dX0_isCutAt_33 (by decide) (fun h => ?_) (fun h => ?_)
      · refine fb_iconst (pc := 40) (v := 0) dX0_isCutAt_40 fb_ki_0 ?_
        exact fb_zretR (pc := 41) rfl h dX0_isCutAt_41
      · refine fb_iconst (pc := 36) (v := 1) dX0_isCutAt_36 fb_ki_1 ?_
        refine fb_goto (pc := 37) (tgt := 41) dX0_isCutAt_37 (by decide) ?_
        exact fb_zretR (pc := 41) rfl h dX0_isCutAt_41

theorem dX10_word_0 : decode cX10_word 0 = .ok (.iload_n 0, 1) := by decide +kernel
theorem dX10_word_1 : decode cX10_word 1 = .ok (.tableswitch 85 1 10 #[55, 58, 61, 64, 67, 70, 73, 76, 79, 82], 55) := by decide +kernel
theorem dX10_word_56 : decode cX10_word 56 = .ok (.ldc 9, 2) := by decide +kernel
theorem dX10_word_58 : decode cX10_word 58 = .ok (.areturn, 1) := by decide +kernel
theorem dX10_word_59 : decode cX10_word 59 = .ok (.ldc 11, 2) := by decide +kernel
theorem dX10_word_61 : decode cX10_word 61 = .ok (.areturn, 1) := by decide +kernel
theorem dX10_word_62 : decode cX10_word 62 = .ok (.ldc 13, 2) := by decide +kernel
theorem dX10_word_64 : decode cX10_word 64 = .ok (.areturn, 1) := by decide +kernel
theorem dX10_word_65 : decode cX10_word 65 = .ok (.ldc 15, 2) := by decide +kernel
theorem dX10_word_67 : decode cX10_word 67 = .ok (.areturn, 1) := by decide +kernel
theorem dX10_word_68 : decode cX10_word 68 = .ok (.ldc 17, 2) := by decide +kernel
theorem dX10_word_70 : decode cX10_word 70 = .ok (.areturn, 1) := by decide +kernel
theorem dX10_word_71 : decode cX10_word 71 = .ok (.ldc 19, 2) := by decide +kernel
theorem dX10_word_73 : decode cX10_word 73 = .ok (.areturn, 1) := by decide +kernel
theorem dX10_word_74 : decode cX10_word 74 = .ok (.ldc 21, 2) := by decide +kernel
theorem dX10_word_76 : decode cX10_word 76 = .ok (.areturn, 1) := by decide +kernel
theorem dX10_word_77 : decode cX10_word 77 = .ok (.ldc 23, 2) := by decide +kernel
theorem dX10_word_79 : decode cX10_word 79 = .ok (.areturn, 1) := by decide +kernel
theorem dX10_word_80 : decode cX10_word 80 = .ok (.ldc 25, 2) := by decide +kernel
theorem dX10_word_82 : decode cX10_word 82 = .ok (.areturn, 1) := by decide +kernel
theorem dX10_word_83 : decode cX10_word 83 = .ok (.ldc 27, 2) := by decide +kernel
theorem dX10_word_85 : decode cX10_word 85 = .ok (.areturn, 1) := by decide +kernel
theorem dX10_word_86 : decode cX10_word 86 = .ok (.ldc 29, 2) := by decide +kernel
theorem dX10_word_88 : decode cX10_word 88 = .ok (.areturn, 1) := by decide +kernel
def fX10_word (u : fb_M) (x0 : Int32) : Option Nat :=
 (if x0 = 1 then (some 12)
  else (if x0 = 2 then (some 13)
  else (if x0 = 3 then (some 14)
  else (if x0 = 4 then (some 15)
  else (if x0 = 5 then (some 16)
  else (if x0 = 6 then (some 17)
  else (if x0 = 7 then (some 18)
  else (if x0 = 8 then (some 19)
  else (if x0 = 9 then (some 20)
  else (if x0 = 10 then (some 21)
  else (some 22)))))))))))
set_option maxRecDepth 100000 in
set_option maxHeartbeats 4000000 in
theorem mX10_word (g : fb_G) (u : fb_M) (x0 : Int32) {res : Nat} (h : fX10_word u x0 = some res) : fb_Runs g 0 0 0 0 fb_NT fb_NT yX10_word cX10_word 1 (some (.object "java/lang/String")) [.int x0] u (some (.ref (fb_K g res))) u := by
  unfold fX10_word at h
  refine fb_enter (by decide) (Nat.le_of_ble_eq_true rfl) ?_
  show fb_V g RX10 cX10_word 1 (some (.object "java/lang/String")) "word" (fb_room 0 0 0 0) (fb_Qm g (some (.ref (fb_K g res))) fb_NT u 0 0) 0 0 fb_NT u 0 [(0, .int x0)] []
  refine fb_iload_n (pc := 0) dX10_word_0 0 rfl ?_
  refine fb_ifE h (fun c1_1 h => ?_) (fun c1_1 h => ?_)
  · refine fb_tabIn (pc := 1) (v := 1) (tgt := 56) c1_1 dX10_word_1 (by decide) (by decide) rfl (by decide) ?_
    refine fb_ldcS (pc := 56) (i := 12) (tx := "Not") dX10_word_56 srX10_9 ?_
    exact fb_sretR (pc := 58) h dX10_word_58
  refine fb_ifE h (fun c1_2 h => ?_) (fun c1_2 h => ?_)
  · refine fb_tabIn (pc := 1) (v := 2) (tgt := 59) c1_2 dX10_word_1 (by decide) (by decide) rfl (by decide) ?_
    refine fb_ldcS (pc := 59) (i := 13) (tx := "LessThan") dX10_word_59 srX10_11 ?_
    exact fb_sretR (pc := 61) h dX10_word_61
  refine fb_ifE h (fun c1_3 h => ?_) (fun c1_3 h => ?_)
  · refine fb_tabIn (pc := 1) (v := 3) (tgt := 62) c1_3 dX10_word_1 (by decide) (by decide) rfl (by decide) ?_
    refine fb_ldcS (pc := 62) (i := 14) (tx := "LessThanEqual") dX10_word_62 srX10_13 ?_
    exact fb_sretR (pc := 64) h dX10_word_64
  refine fb_ifE h (fun c1_4 h => ?_) (fun c1_4 h => ?_)
  · refine fb_tabIn (pc := 1) (v := 4) (tgt := 65) c1_4 dX10_word_1 (by decide) (by decide) rfl (by decide) ?_
    refine fb_ldcS (pc := 65) (i := 15) (tx := "GreaterThan") dX10_word_65 srX10_15 ?_
    exact fb_sretR (pc := 67) h dX10_word_67
  refine fb_ifE h (fun c1_5 h => ?_) (fun c1_5 h => ?_)
  · refine fb_tabIn (pc := 1) (v := 5) (tgt := 68) c1_5 dX10_word_1 (by decide) (by decide) rfl (by decide) ?_
    refine fb_ldcS (pc := 68) (i := 16) (tx := "GreaterThanEqual") dX10_word_68 srX10_17 ?_
    exact fb_sretR (pc := 70) h dX10_word_70
  refine fb_ifE h (fun c1_6 h => ?_) (fun c1_6 h => ?_)
  · refine fb_tabIn (pc := 1) (v := 6) (tgt := 71) c1_6 dX10_word_1 (by decide) (by decide) rfl (by decide) ?_
    refine fb_ldcS (pc := 71) (i := 17) (tx := "Between") dX10_word_71 srX10_19 ?_
    exact fb_sretR (pc := 73) h dX10_word_73
  refine fb_ifE h (fun c1_7 h => ?_) (fun c1_7 h => ?_)
  · refine fb_tabIn (pc := 1) (v := 7) (tgt := 74) c1_7 dX10_word_1 (by decide) (by decide) rfl (by decide) ?_
    refine fb_ldcS (pc := 74) (i := 18) (tx := "Null") dX10_word_74 srX10_21 ?_
    exact fb_sretR (pc := 76) h dX10_word_76
  refine fb_ifE h (fun c1_8 h => ?_) (fun c1_8 h => ?_)
  · refine fb_tabIn (pc := 1) (v := 8) (tgt := 77) c1_8 dX10_word_1 (by decide) (by decide) rfl (by decide) ?_
    refine fb_ldcS (pc := 77) (i := 19) (tx := "NotNull") dX10_word_77 srX10_23 ?_
    exact fb_sretR (pc := 79) h dX10_word_79
  refine fb_ifE h (fun c1_9 h => ?_) (fun c1_9 h => ?_)
  · refine fb_tabIn (pc := 1) (v := 9) (tgt := 80) c1_9 dX10_word_1 (by decide) (by decide) rfl (by decide) ?_
    refine fb_ldcS (pc := 80) (i := 20) (tx := "True") dX10_word_80 srX10_25 ?_
    exact fb_sretR (pc := 82) h dX10_word_82
  refine fb_ifE h (fun c1_10 h => ?_) (fun c1_10 h => ?_)
  · refine fb_tabIn (pc := 1) (v := 10) (tgt := 83) c1_10 dX10_word_1 (by decide) (by decide) rfl (by decide) ?_
    refine fb_ldcS (pc := 83) (i := 21) (tx := "False") dX10_word_83 srX10_27 ?_
    exact fb_sretR (pc := 85) h dX10_word_85
  refine fb_tabOut (pc := 1) (tgt := 86) (by have a0 := lv_neT c1_1 (a := 1) (by decide); have a1 := lv_neT c1_2 (a := 2) (by decide); have a2 := lv_neT c1_3 (a := 3) (by decide); have a3 := lv_neT c1_4 (a := 4) (by decide); have a4 := lv_neT c1_5 (a := 5) (by decide); have a5 := lv_neT c1_6 (a := 6) (by decide); have a6 := lv_neT c1_7 (a := 7) (by decide); have a7 := lv_neT c1_8 (a := 8) (by decide); have a8 := lv_neT c1_9 (a := 9) (by decide); have a9 := lv_neT c1_10 (a := 10) (by decide); omega) dX10_word_1 (by decide) ?_
  refine fb_ldcS (pc := 86) (i := 22) (tx := "") dX10_word_86 srX10_29 ?_
  exact fb_sretR (pc := 88) h dX10_word_88

theorem dX10_numberOf_0 : decode cX10_numberOf 0 = .ok (.iload_n 2, 1) := by decide +kernel
theorem dX10_numberOf_1 : decode cX10_numberOf 1 = .ok (.iload_n 1, 1) := by decide +kernel
theorem dX10_numberOf_2 : decode cX10_numberOf 2 = .ok (.isub, 1) := by decide +kernel
theorem dX10_numberOf_3 : decode cX10_numberOf 3 = .ok (.ldc 33, 2) := by decide +kernel
theorem dX10_numberOf_5 : decode cX10_numberOf 5 = .ok (.invokevirtual 35, 3) := by decide +kernel
theorem dX10_numberOf_8 : decode cX10_numberOf 8 = .ok (.if_icmp .ne 16, 3) := by decide +kernel
theorem dX10_numberOf_11 : decode cX10_numberOf 11 = .ok (.aload_n 0, 1) := by decide +kernel
theorem dX10_numberOf_12 : decode cX10_numberOf 12 = .ok (.ldc 33, 2) := by decide +kernel
theorem dX10_numberOf_14 : decode cX10_numberOf 14 = .ok (.iload_n 1, 1) := by decide +kernel
theorem dX10_numberOf_15 : decode cX10_numberOf 15 = .ok (.iload_n 2, 1) := by decide +kernel
theorem dX10_numberOf_16 : decode cX10_numberOf 16 = .ok (.invokevirtual 41, 3) := by decide +kernel
theorem dX10_numberOf_19 : decode cX10_numberOf 19 = .ok (.ifCond .eq 5, 3) := by decide +kernel
theorem dX10_numberOf_22 : decode cX10_numberOf 22 = .ok (.iconst 0, 1) := by decide +kernel
theorem dX10_numberOf_23 : decode cX10_numberOf 23 = .ok (.ireturn, 1) := by decide +kernel
theorem dX10_numberOf_24 : decode cX10_numberOf 24 = .ok (.aload_n 0, 1) := by decide +kernel
theorem dX10_numberOf_25 : decode cX10_numberOf 25 = .ok (.ldc 47, 2) := by decide +kernel
theorem dX10_numberOf_27 : decode cX10_numberOf 27 = .ok (.iload_n 1, 1) := by decide +kernel
theorem dX10_numberOf_28 : decode cX10_numberOf 28 = .ok (.iload_n 2, 1) := by decide +kernel
theorem dX10_numberOf_29 : decode cX10_numberOf 29 = .ok (.invokevirtual 41, 3) := by decide +kernel
theorem dX10_numberOf_32 : decode cX10_numberOf 32 = .ok (.ifCond .eq 13, 3) := by decide +kernel
theorem dX10_numberOf_35 : decode cX10_numberOf 35 = .ok (.iload_n 1, 1) := by decide +kernel
theorem dX10_numberOf_36 : decode cX10_numberOf 36 = .ok (.ldc 47, 2) := by decide +kernel
theorem dX10_numberOf_38 : decode cX10_numberOf 38 = .ok (.invokevirtual 35, 3) := by decide +kernel
theorem dX10_numberOf_41 : decode cX10_numberOf 41 = .ok (.iadd, 1) := by decide +kernel
theorem dX10_numberOf_42 : decode cX10_numberOf 42 = .ok (.goto 4, 3) := by decide +kernel
theorem dX10_numberOf_45 : decode cX10_numberOf 45 = .ok (.iload_n 1, 1) := by decide +kernel
theorem dX10_numberOf_46 : decode cX10_numberOf 46 = .ok (.istore_n 3, 1) := by decide +kernel
theorem dX10_numberOf_47 : decode cX10_numberOf 47 = .ok (.iconst 0, 1) := by decide +kernel
theorem dX10_numberOf_48 : decode cX10_numberOf 48 = .ok (.istore 4, 2) := by decide +kernel
theorem dX10_numberOf_50 : decode cX10_numberOf 50 = .ok (.iload 4, 2) := by decide +kernel
theorem dX10_numberOf_52 : decode cX10_numberOf 52 = .ok (.bipush 10, 2) := by decide +kernel
theorem dX10_numberOf_54 : decode cX10_numberOf 54 = .ok (.if_icmp .gt 41, 3) := by decide +kernel
theorem dX10_numberOf_57 : decode cX10_numberOf 57 = .ok (.iload 4, 2) := by decide +kernel
theorem dX10_numberOf_59 : decode cX10_numberOf 59 = .ok (.invokestatic 49, 3) := by decide +kernel
theorem dX10_numberOf_62 : decode cX10_numberOf 62 = .ok (.astore 5, 2) := by decide +kernel
theorem dX10_numberOf_64 : decode cX10_numberOf 64 = .ok (.iload_n 2, 1) := by decide +kernel
theorem dX10_numberOf_65 : decode cX10_numberOf 65 = .ok (.iload_n 3, 1) := by decide +kernel
theorem dX10_numberOf_66 : decode cX10_numberOf 66 = .ok (.isub, 1) := by decide +kernel
theorem dX10_numberOf_67 : decode cX10_numberOf 67 = .ok (.aload 5, 2) := by decide +kernel
theorem dX10_numberOf_69 : decode cX10_numberOf 69 = .ok (.invokevirtual 35, 3) := by decide +kernel
theorem dX10_numberOf_72 : decode cX10_numberOf 72 = .ok (.if_icmp .ne 17, 3) := by decide +kernel
theorem dX10_numberOf_75 : decode cX10_numberOf 75 = .ok (.aload_n 0, 1) := by decide +kernel
theorem dX10_numberOf_76 : decode cX10_numberOf 76 = .ok (.aload 5, 2) := by decide +kernel
theorem dX10_numberOf_78 : decode cX10_numberOf 78 = .ok (.iload_n 3, 1) := by decide +kernel
theorem dX10_numberOf_79 : decode cX10_numberOf 79 = .ok (.iload_n 2, 1) := by decide +kernel
theorem dX10_numberOf_80 : decode cX10_numberOf 80 = .ok (.invokevirtual 41, 3) := by decide +kernel
theorem dX10_numberOf_83 : decode cX10_numberOf 83 = .ok (.ifCond .eq 6, 3) := by decide +kernel
theorem dX10_numberOf_86 : decode cX10_numberOf 86 = .ok (.iload 4, 2) := by decide +kernel
theorem dX10_numberOf_88 : decode cX10_numberOf 88 = .ok (.ireturn, 1) := by decide +kernel
theorem dX10_numberOf_89 : decode cX10_numberOf 89 = .ok (.iinc 4 1, 3) := by decide +kernel
theorem dX10_numberOf_92 : decode cX10_numberOf 92 = .ok (.goto (-42), 3) := by decide +kernel
theorem dX10_numberOf_95 : decode cX10_numberOf 95 = .ok (.iconst (-1), 1) := by decide +kernel
theorem dX10_numberOf_96 : decode cX10_numberOf 96 = .ok (.ireturn, 1) := by decide +kernel
def bX10_numberOf_50 (K50 : Int32 → Option Int32) (a0 : Nat) (x2 : Int32) (x3 : Int32) (x4 : Int32) (u : fb_M) : Option Int32 :=
 (if 10 < x4 then (some ((-1)))
  else ((fX10_word u x4).bind fun r59 => 
   (fb_gd (r59 < fb_nS) 
   (if (x2 - x3) = (Int32.ofNat (fb_len.getD r59 0)) then ((fX0_startsWith u a0 r59 x3 x2).bind fun r80 => 
    (if r80 = 0 then (K50 (x4 + 1))
    else (some x4)))
   else (K50 (x4 + 1))))))
def gX10_numberOf_50 (a0 : Nat) (x2 : Int32) (x3 : Int32) (u : fb_M) : Nat → Int32 → Option Int32
 | 0 => fun _ => none
 | fu + 1 => fun x4 => bX10_numberOf_50 (gX10_numberOf_50 a0 x2 x3 u fu) a0 x2 x3 x4 u
set_option maxRecDepth 100000 in
set_option maxHeartbeats 4000000 in
theorem tbX10_numberOf_50 {g : fb_G} {res : Int32} (a0 : Nat) (x2 : Int32) (x3 : Int32) (x4 : Int32) (u : fb_M) (K50 : Int32 → Option Int32) (ha0 : a0 < fb_NT ∧ fb_sh a0 = (0, 2)) (hK50 : ∀ (x4 : Int32) ,  K50 x4 = some res → fb_V g RX10 cX10_numberOf 6 (some .int) "numberOf" (fb_room 5 109 0 0) (fb_Qm g (some (.int res)) fb_NT u 0 0) 0 0 fb_NT u 50 [(0, .ref (fb_b g + a0)), (2, .int x2), (3, .int x3), (4, .int x4)] []) (h : bX10_numberOf_50 K50 a0 x2 x3 x4 u = some res) : fb_V g RX10 cX10_numberOf 6 (some .int) "numberOf" (fb_room 5 109 0 0) (fb_Qm g (some (.int res)) fb_NT u 0 0) 0 0 fb_NT u 50 [(0, .ref (fb_b g + a0)), (2, .int x2), (3, .int x3), (4, .int x4)] [] := by
  unfold bX10_numberOf_50 at h
  refine fb_iload (pc := 50) dX10_numberOf_50 3 rfl ?_
  refine fb_bipush (pc := 52) (v := 10) dX10_numberOf_52 fb_kb_10 ?_
  refine fb_icmp_gt (pc := 54) (tgt := 95) h dX10_numberOf_54 (by decide) (fun h => ?_) (fun h => ?_)
  · refine fb_iconst (pc := 95) (v := (-1)) dX10_numberOf_95 fb_ki_m1 ?_
    exact fb_iretR (pc := 96) h dX10_numberOf_96
  · refine fb_iload (pc := 57) dX10_numberOf_57 3 rfl ?_
    refine fb_bnE h (fun r59 h59 h => ?_)
    refine fb_gdE h (fun s59 h => ?_)
    refine fb_cS0v (pc := 59) [.int x4] dX10_numberOf_59 (mX10_word g u x4 h59) ymX10_word ysX10_word ylX10_49 rfl (Nat.le_of_ble_eq_true rfl) ⟨Nat.le_of_ble_eq_true rfl, Nat.le_of_ble_eq_true rfl⟩ ⟨Nat.le_of_ble_eq_true rfl, Nat.le_of_ble_eq_true rfl⟩ ?_
    refine fb_astore (pc := 62) (lv' := [(5, .ref (fb_K g r59)), (0, .ref (fb_b g + a0)), (2, .int x2), (3, .int x3), (4, .int x4)]) dX10_numberOf_62 (by decide) rfl ?_
    refine fb_iload_n (pc := 64) dX10_numberOf_64 2 rfl ?_
    refine fb_iload_n (pc := 65) dX10_numberOf_65 3 rfl ?_
    refine fb_isub (pc := 66) dX10_numberOf_66 ?_
    refine fb_aload (pc := 67) dX10_numberOf_67 0 rfl ?_
    refine fb_cT0v (pc := 69) [] dX10_numberOf_69 (m_strlen g r59 s59 u) ymJ_length yiJ_length s59 ylX10_35 rfl (Nat.le_of_ble_eq_true rfl) ⟨Nat.le_of_ble_eq_true rfl, Nat.le_of_ble_eq_true rfl⟩ ⟨Nat.le_of_ble_eq_true rfl, Nat.le_of_ble_eq_true rfl⟩ ?_
    refine fb_icmp_ne (pc := 72) (tgt := 89) h dX10_numberOf_72 (by decide) (fun h => ?_) (fun h => ?_)
    · refine fb_iinc (pc := 89) (v := 1) (lv' := [(4, .int (x4 + 1)), (5, .ref (fb_K g r59)), (0, .ref (fb_b g + a0)), (2, .int x2), (3, .int x3)]) dX10_numberOf_89 4 rfl fb_ki_1 (by decide) rfl ?_
      refine fb_goto (pc := 92) (tgt := 50) dX10_numberOf_92 (by decide) ?_
      exact fb_sub [2, 3, 4, 0] rfl (hK50 (x4 + 1) h)
    · refine fb_aload_n (pc := 75) dX10_numberOf_75 1 rfl ?_
      refine fb_aload (pc := 76) dX10_numberOf_76 0 rfl ?_
      refine fb_iload_n (pc := 78) dX10_numberOf_78 3 rfl ?_
      refine fb_iload_n (pc := 79) dX10_numberOf_79 2 rfl ?_
      refine fb_bnE h (fun r80 h80 h => ?_)
      refine fb_cV0v (pc := 80) [.ref (fb_K g r59), .int x3, .int x2] dX10_numberOf_80 (mX0_startsWith g u a0 r59 x3 x2 ha0 s59 h80) ymX0_startsWith yiX0_startsWith ha0.1 ha0.2 ylX10_41 rfl (Nat.le_of_ble_eq_true rfl) ⟨Nat.le_of_ble_eq_true rfl, Nat.le_of_ble_eq_true rfl⟩ ⟨Nat.le_of_ble_eq_true rfl, Nat.le_of_ble_eq_true rfl⟩ ?_
      refine fb_if_eq (pc := 83) (tgt := 89) h dX10_numberOf_83 (by decide) (fun h => ?_) (fun h => ?_)
      · refine fb_iinc (pc := 89) (v := 1) (lv' := [(4, .int (x4 + 1)), (5, .ref (fb_K g r59)), (0, .ref (fb_b g + a0)), (2, .int x2), (3, .int x3)]) dX10_numberOf_89 4 rfl fb_ki_1 (by decide) rfl ?_
        refine fb_goto (pc := 92) (tgt := 50) dX10_numberOf_92 (by decide) ?_
        exact fb_sub [2, 3, 4, 0] rfl (hK50 (x4 + 1) h)
      · refine fb_iload (pc := 86) dX10_numberOf_86 4 rfl ?_
        exact fb_iretR (pc := 88) h dX10_numberOf_88

theorem tgX10_numberOf_50 {g : fb_G} {res : Int32} (a0 : Nat) (x2 : Int32) (x3 : Int32) (u : fb_M) (ha0 : a0 < fb_NT ∧ fb_sh a0 = (0, 2)) : ∀ (fu : Nat) (x4 : Int32) ,  gX10_numberOf_50 a0 x2 x3 u fu x4 = some res → fb_V g RX10 cX10_numberOf 6 (some .int) "numberOf" (fb_room 5 109 0 0) (fb_Qm g (some (.int res)) fb_NT u 0 0) 0 0 fb_NT u 50 [(0, .ref (fb_b g + a0)), (2, .int x2), (3, .int x3), (4, .int x4)] [] := by
  intro fu
  induction fu with
  | zero => intro x4 h; exact absurd h (by simp [gX10_numberOf_50])
  | succ fu ih => intro x4 h; exact tbX10_numberOf_50 a0 x2 x3 x4 u (gX10_numberOf_50 a0 x2 x3 u fu) ha0 ih h
def jX10_numberOf_24 (a0 : Nat) (x1 : Int32) (x2 : Int32) (u : fb_M) : Option Int32 :=
 ((fX0_startsWith u a0 11 x1 x2).bind fun r29 => 
  (if r29 = 0 then (gX10_numberOf_50 a0 x2 x1 u fb_F 0)
  else (gX10_numberOf_50 a0 x2 (x1 + (Int32.ofNat (fb_len.getD 11 0))) u fb_F 0)))
set_option maxRecDepth 100000 in
set_option maxHeartbeats 4000000 in
theorem tjX10_numberOf_24 {g : fb_G} {res : Int32} (a0 : Nat) (x1 : Int32) (x2 : Int32) (u : fb_M) (ha0 : a0 < fb_NT ∧ fb_sh a0 = (0, 2)) (h : jX10_numberOf_24 a0 x1 x2 u = some res) : fb_V g RX10 cX10_numberOf 6 (some .int) "numberOf" (fb_room 5 109 0 0) (fb_Qm g (some (.int res)) fb_NT u 0 0) 0 0 fb_NT u 24 [(0, .ref (fb_b g + a0)), (1, .int x1), (2, .int x2)] [] := by
  unfold jX10_numberOf_24 at h
  refine fb_aload_n (pc := 24) dX10_numberOf_24 0 rfl ?_
  refine fb_ldcS (pc := 25) (i := 11) (tx := "Is") dX10_numberOf_25 srX10_47 ?_
  refine fb_iload_n (pc := 27) dX10_numberOf_27 1 rfl ?_
  refine fb_iload_n (pc := 28) dX10_numberOf_28 2 rfl ?_
  refine fb_bnE h (fun r29 h29 h => ?_)
  refine fb_cV0v (pc := 29) [.ref (fb_K g 11), .int x1, .int x2] dX10_numberOf_29 (mX0_startsWith g u a0 11 x1 x2 ha0 (by decide : 11 < fb_nS) h29) ymX0_startsWith yiX0_startsWith ha0.1 ha0.2 ylX10_41 rfl (Nat.le_of_ble_eq_true rfl) ⟨Nat.le_of_ble_eq_true rfl, Nat.le_of_ble_eq_true rfl⟩ ⟨Nat.le_of_ble_eq_true rfl, Nat.le_of_ble_eq_true rfl⟩ ?_
  refine fb_if_eq (pc := 32) (tgt := 45) h dX10_numberOf_32 (by decide) (fun h => ?_) (fun h => ?_)
  · refine fb_iload_n (pc := 45) dX10_numberOf_45 1 rfl ?_
    refine fb_istore_n (pc := 46) (lv' := [(3, .int x1), (0, .ref (fb_b g + a0)), (1, .int x1), (2, .int x2)]) dX10_numberOf_46 rfl (by decide) rfl ?_
    refine fb_iconst (pc := 47) (v := 0) dX10_numberOf_47 fb_ki_0 ?_
    refine fb_istore (pc := 48) (lv' := [(4, .int 0), (3, .int x1), (0, .ref (fb_b g + a0)), (1, .int x1), (2, .int x2)]) dX10_numberOf_48 (by decide) rfl ?_
    exact fb_sub [2, 4, 1, 0] rfl (tgX10_numberOf_50 a0 x2 x1 u ha0 fb_F 0 h)
  · refine fb_iload_n (pc := 35) dX10_numberOf_35 1 rfl ?_
    refine fb_ldcS (pc := 36) (i := 11) (tx := "Is") dX10_numberOf_36 srX10_47 ?_
    refine fb_cT0v (pc := 38) [] dX10_numberOf_38 (m_strlen g 11 (by decide : 11 < fb_nS) u) ymJ_length yiJ_length (by decide : 11 < fb_nS) ylX10_35 rfl (Nat.le_of_ble_eq_true rfl) ⟨Nat.le_of_ble_eq_true rfl, Nat.le_of_ble_eq_true rfl⟩ ⟨Nat.le_of_ble_eq_true rfl, Nat.le_of_ble_eq_true rfl⟩ ?_
    refine fb_iadd (pc := 41) dX10_numberOf_41 ?_
    refine fb_goto (pc := 42) (tgt := 46) dX10_numberOf_42 (by decide) ?_
    refine fb_istore_n (pc := 46) (lv' := [(3, .int (x1 + (Int32.ofNat (fb_len.getD 11 0)))), (0, .ref (fb_b g + a0)), (1, .int x1), (2, .int x2)]) dX10_numberOf_46 rfl (by decide) rfl ?_
    refine fb_iconst (pc := 47) (v := 0) dX10_numberOf_47 fb_ki_0 ?_
    refine fb_istore (pc := 48) (lv' := [(4, .int 0), (3, .int (x1 + (Int32.ofNat (fb_len.getD 11 0)))), (0, .ref (fb_b g + a0)), (1, .int x1), (2, .int x2)]) dX10_numberOf_48 (by decide) rfl ?_
    exact fb_sub [2, 4, 1, 0] rfl (tgX10_numberOf_50 a0 x2 (x1 + (Int32.ofNat (fb_len.getD 11 0))) u ha0 fb_F 0 h)

def fX10_numberOf (u : fb_M) (a0 : Nat) (x1 : Int32) (x2 : Int32) : Option Int32 :=
 (if (x2 - x1) = (Int32.ofNat (fb_len.getD 10 0)) then ((fX0_startsWith u a0 10 x1 x2).bind fun r16 => 
   (if r16 = 0 then (jX10_numberOf_24 a0 x1 x2 u)
   else (some 0)))
  else (jX10_numberOf_24 a0 x1 x2 u))
set_option maxRecDepth 100000 in
set_option maxHeartbeats 4000000 in
theorem mX10_numberOf (g : fb_G) (u : fb_M) (a0 : Nat) (x1 : Int32) (x2 : Int32) (ha0 : a0 < fb_NT ∧ fb_sh a0 = (0, 2)) {res : Int32} (h : fX10_numberOf u a0 x1 x2 = some res) : fb_Runs g 5 109 0 0 fb_NT fb_NT yX10_numberOf cX10_numberOf 6 (some .int) [.ref (fb_b g + a0), .int x1, .int x2] u (some (.int res)) u := by
  unfold fX10_numberOf at h
  refine fb_enter (by decide) (Nat.le_of_ble_eq_true rfl) ?_
  show fb_V g RX10 cX10_numberOf 6 (some .int) "numberOf" (fb_room 5 109 0 0) (fb_Qm g (some (.int res)) fb_NT u 0 0) 0 0 fb_NT u 0 [(0, .ref (fb_b g + a0)), (1, .int x1), (2, .int x2)] []
  refine fb_iload_n (pc := 0) dX10_numberOf_0 2 rfl ?_
  refine fb_iload_n (pc := 1) dX10_numberOf_1 1 rfl ?_
  refine fb_isub (pc := 2) dX10_numberOf_2 ?_
  refine fb_ldcS (pc := 3) (i := 10) (tx := "Equals") dX10_numberOf_3 srX10_33 ?_
  refine fb_cT0v (pc := 5) [] dX10_numberOf_5 (m_strlen g 10 (by decide : 10 < fb_nS) u) ymJ_length yiJ_length (by decide : 10 < fb_nS) ylX10_35 rfl (Nat.le_of_ble_eq_true rfl) ⟨Nat.le_of_ble_eq_true rfl, Nat.le_of_ble_eq_true rfl⟩ ⟨Nat.le_of_ble_eq_true rfl, Nat.le_of_ble_eq_true rfl⟩ ?_
  refine fb_icmp_ne (pc := 8) (tgt := 24) h dX10_numberOf_8 (by decide) (fun h => ?_) (fun h => ?_)
  · exact fb_sub [0, 1, 2] rfl (tjX10_numberOf_24 a0 x1 x2 u ha0 h)
  · refine fb_aload_n (pc := 11) dX10_numberOf_11 0 rfl ?_
    refine fb_ldcS (pc := 12) (i := 10) (tx := "Equals") dX10_numberOf_12 srX10_33 ?_
    refine fb_iload_n (pc := 14) dX10_numberOf_14 1 rfl ?_
    refine fb_iload_n (pc := 15) dX10_numberOf_15 2 rfl ?_
    refine fb_bnE h (fun r16 h16 h => ?_)
    refine fb_cV0v (pc := 16) [.ref (fb_K g 10), .int x1, .int x2] dX10_numberOf_16 (mX0_startsWith g u a0 10 x1 x2 ha0 (by decide : 10 < fb_nS) h16) ymX0_startsWith yiX0_startsWith ha0.1 ha0.2 ylX10_41 rfl (Nat.le_of_ble_eq_true rfl) ⟨Nat.le_of_ble_eq_true rfl, Nat.le_of_ble_eq_true rfl⟩ ⟨Nat.le_of_ble_eq_true rfl, Nat.le_of_ble_eq_true rfl⟩ ?_
    refine fb_if_eq (pc := 19) (tgt := 24) h dX10_numberOf_19 (by decide) (fun h => ?_) (fun h => ?_)
    · exact fb_sub [0, 1, 2] rfl (tjX10_numberOf_24 a0 x1 x2 u ha0 h)
    · refine fb_iconst (pc := 22) (v := 0) dX10_numberOf_22 fb_ki_0 ?_
      exact fb_iretR (pc := 23) h dX10_numberOf_23

theorem dX10_argumentsTaken_0 : decode cX10_argumentsTaken 0 = .ok (.iload_n 0, 1) := by decide +kernel
theorem dX10_argumentsTaken_1 : decode cX10_argumentsTaken 1 = .ok (.bipush 6, 2) := by decide +kernel
theorem dX10_argumentsTaken_3 : decode cX10_argumentsTaken 3 = .ok (.if_icmp .ne 5, 3) := by decide +kernel
theorem dX10_argumentsTaken_6 : decode cX10_argumentsTaken 6 = .ok (.iconst 2, 1) := by decide +kernel
theorem dX10_argumentsTaken_7 : decode cX10_argumentsTaken 7 = .ok (.ireturn, 1) := by decide +kernel
theorem dX10_argumentsTaken_8 : decode cX10_argumentsTaken 8 = .ok (.iload_n 0, 1) := by decide +kernel
theorem dX10_argumentsTaken_9 : decode cX10_argumentsTaken 9 = .ok (.bipush 6, 2) := by decide +kernel
theorem dX10_argumentsTaken_11 : decode cX10_argumentsTaken 11 = .ok (.if_icmp .ge 7, 3) := by decide +kernel
theorem dX10_argumentsTaken_14 : decode cX10_argumentsTaken 14 = .ok (.iconst 1, 1) := by decide +kernel
theorem dX10_argumentsTaken_15 : decode cX10_argumentsTaken 15 = .ok (.goto 4, 3) := by decide +kernel
theorem dX10_argumentsTaken_18 : decode cX10_argumentsTaken 18 = .ok (.iconst 0, 1) := by decide +kernel
theorem dX10_argumentsTaken_19 : decode cX10_argumentsTaken 19 = .ok (.ireturn, 1) := by decide +kernel
def fX10_argumentsTaken (u : fb_M) (x0 : Int32) : Option Int32 :=
 (if x0 = 6 then (some 2)
  else (if 6 ≤ x0 then (some 0)
   else (some 1)))
set_option maxRecDepth 100000 in
set_option maxHeartbeats 4000000 in
theorem mX10_argumentsTaken (g : fb_G) (u : fb_M) (x0 : Int32) {res : Int32} (h : fX10_argumentsTaken u x0 = some res) : fb_Runs g 0 0 0 0 fb_NT fb_NT yX10_argumentsTaken cX10_argumentsTaken 1 (some .int) [.int x0] u (some (.int res)) u := by
  unfold fX10_argumentsTaken at h
  refine fb_enter (by decide) (Nat.le_of_ble_eq_true rfl) ?_
  show fb_V g RX10 cX10_argumentsTaken 1 (some .int) "argumentsTaken" (fb_room 0 0 0 0) (fb_Qm g (some (.int res)) fb_NT u 0 0) 0 0 fb_NT u 0 [(0, .int x0)] []
  refine fb_iload_n (pc := 0) dX10_argumentsTaken_0 0 rfl ?_
  refine fb_bipush (pc := 1) (v := 6) dX10_argumentsTaken_1 fb_kb_6 ?_
  refine fb_icmp_ne (pc := 3) (tgt := 8) h dX10_argumentsTaken_3 (by decide) (fun h => ?_) (fun h => ?_)
  · refine fb_iload_n (pc := 8) dX10_argumentsTaken_8 0 rfl ?_
    refine fb_bipush (pc := 9) (v := 6) dX10_argumentsTaken_9 fb_kb_6 ?_
    refine fb_icmp_ge (pc := 11) (tgt := 18) h dX10_argumentsTaken_11 (by decide) (fun h => ?_) (fun h => ?_)
    · refine fb_iconst (pc := 18) (v := 0) dX10_argumentsTaken_18 fb_ki_0 ?_
      exact fb_iretR (pc := 19) h dX10_argumentsTaken_19
    · refine fb_iconst (pc := 14) (v := 1) dX10_argumentsTaken_14 fb_ki_1 ?_
      refine fb_goto (pc := 15) (tgt := 19) dX10_argumentsTaken_15 (by decide) ?_
      exact fb_iretR (pc := 19) h dX10_argumentsTaken_19
  · refine fb_iconst (pc := 6) (v := 2) dX10_argumentsTaken_6 fb_ki_2 ?_
    exact fb_iretR (pc := 7) h dX10_argumentsTaken_7

theorem dX2_addPart_0 : decode cX2_addPart 0 = .ok (.aload_n 0, 1) := by decide +kernel
theorem dX2_addPart_1 : decode cX2_addPart 1 = .ok (.getfield 42, 3) := by decide +kernel
theorem dX2_addPart_4 : decode cX2_addPart 4 = .ok (.bipush 6, 2) := by decide +kernel
theorem dX2_addPart_6 : decode cX2_addPart 6 = .ok (.if_icmp .ge 36, 3) := by decide +kernel
theorem dX2_addPart_9 : decode cX2_addPart 9 = .ok (.aload_n 0, 1) := by decide +kernel
theorem dX2_addPart_10 : decode cX2_addPart 10 = .ok (.getfield 11, 3) := by decide +kernel
theorem dX2_addPart_13 : decode cX2_addPart 13 = .ok (.aload_n 0, 1) := by decide +kernel
theorem dX2_addPart_14 : decode cX2_addPart 14 = .ok (.getfield 42, 3) := by decide +kernel
theorem dX2_addPart_17 : decode cX2_addPart 17 = .ok (.iload_n 1, 1) := by decide +kernel
theorem dX2_addPart_18 : decode cX2_addPart 18 = .ok (.iastore, 1) := by decide +kernel
theorem dX2_addPart_19 : decode cX2_addPart 19 = .ok (.aload_n 0, 1) := by decide +kernel
theorem dX2_addPart_20 : decode cX2_addPart 20 = .ok (.getfield 15, 3) := by decide +kernel
theorem dX2_addPart_23 : decode cX2_addPart 23 = .ok (.aload_n 0, 1) := by decide +kernel
theorem dX2_addPart_24 : decode cX2_addPart 24 = .ok (.getfield 42, 3) := by decide +kernel
theorem dX2_addPart_27 : decode cX2_addPart 27 = .ok (.iload_n 2, 1) := by decide +kernel
theorem dX2_addPart_28 : decode cX2_addPart 28 = .ok (.iastore, 1) := by decide +kernel
theorem dX2_addPart_29 : decode cX2_addPart 29 = .ok (.aload_n 0, 1) := by decide +kernel
theorem dX2_addPart_30 : decode cX2_addPart 30 = .ok (.getfield 18, 3) := by decide +kernel
theorem dX2_addPart_33 : decode cX2_addPart 33 = .ok (.aload_n 0, 1) := by decide +kernel
theorem dX2_addPart_34 : decode cX2_addPart 34 = .ok (.getfield 42, 3) := by decide +kernel
theorem dX2_addPart_37 : decode cX2_addPart 37 = .ok (.aload_n 0, 1) := by decide +kernel
theorem dX2_addPart_38 : decode cX2_addPart 38 = .ok (.getfield 39, 3) := by decide +kernel
theorem dX2_addPart_41 : decode cX2_addPart 41 = .ok (.iastore, 1) := by decide +kernel
theorem dX2_addPart_42 : decode cX2_addPart 42 = .ok (.aload_n 0, 1) := by decide +kernel
theorem dX2_addPart_43 : decode cX2_addPart 43 = .ok (.dup, 1) := by decide +kernel
theorem dX2_addPart_44 : decode cX2_addPart 44 = .ok (.getfield 42, 3) := by decide +kernel
theorem dX2_addPart_47 : decode cX2_addPart 47 = .ok (.iconst 1, 1) := by decide +kernel
theorem dX2_addPart_48 : decode cX2_addPart 48 = .ok (.iadd, 1) := by decide +kernel
theorem dX2_addPart_49 : decode cX2_addPart 49 = .ok (.putfield 42, 3) := by decide +kernel
theorem dX2_addPart_52 : decode cX2_addPart 52 = .ok (.aload_n 0, 1) := by decide +kernel
theorem dX2_addPart_53 : decode cX2_addPart 53 = .ok (.dup, 1) := by decide +kernel
theorem dX2_addPart_54 : decode cX2_addPart 54 = .ok (.getfield 45, 3) := by decide +kernel
theorem dX2_addPart_57 : decode cX2_addPart 57 = .ok (.iload_n 2, 1) := by decide +kernel
theorem dX2_addPart_58 : decode cX2_addPart 58 = .ok (.invokestatic 51, 3) := by decide +kernel
theorem dX2_addPart_61 : decode cX2_addPart 61 = .ok (.iadd, 1) := by decide +kernel
theorem dX2_addPart_62 : decode cX2_addPart 62 = .ok (.putfield 45, 3) := by decide +kernel
theorem dX2_addPart_65 : decode cX2_addPart 65 = .ok (.return_, 1) := by decide +kernel
def jX2_addPart_42 (a0 : Nat) (x2 : Int32) (u : fb_M) : Option fb_M :=
 ((fX10_argumentsTaken (fb_wI u a0 4 ((fb_I u a0 4) + 1)) x2).bind fun r58 => 
  (some (fb_wI (fb_wI u a0 4 ((fb_I u a0 4) + 1)) a0 5 ((fb_I (fb_wI u a0 4 ((fb_I u a0 4) + 1)) a0 5) + r58))))
set_option maxRecDepth 100000 in
set_option maxHeartbeats 4000000 in
theorem tjX2_addPart_42 {g : fb_G} {res : fb_M} (a0 : Nat) (x2 : Int32) (u : fb_M) (ha0 : a0 < fb_NT ∧ fb_sh a0 = (2, 12)) (h : jX2_addPart_42 a0 x2 u = some res) : fb_V g RX2 cX2_addPart 3 none "addPart" (fb_room 1 20 0 0) (fb_Qm g none fb_NT res 0 0) 0 0 fb_NT u 42 [(0, .ref (fb_b g + a0)), (2, .int x2)] [] := by
  unfold jX2_addPart_42 at h
  refine fb_aload_n (pc := 42) dX2_addPart_42 0 rfl ?_
  refine fb_dup (pc := 43) dX2_addPart_43 rfl ?_
  refine fb_getI (pc := 44) dX2_addPart_44 lkX2_42 ha0.1 ha0.2 rfl ?_
  refine fb_iconst (pc := 47) (v := 1) dX2_addPart_47 fb_ki_1 ?_
  refine fb_iadd (pc := 48) dX2_addPart_48 ?_
  refine fb_putI (pc := 49) dX2_addPart_49 lkX2_42 ly_2_4 ha0.1 ha0.2 rfl rfl rfl ?_
  refine fb_aload_n (pc := 52) dX2_addPart_52 0 rfl ?_
  refine fb_dup (pc := 53) dX2_addPart_53 rfl ?_
  refine fb_getI (pc := 54) dX2_addPart_54 lkX2_45 ha0.1 ha0.2 rfl ?_
  refine fb_iload_n (pc := 57) dX2_addPart_57 1 rfl ?_
  refine fb_bnE h (fun r58 h58 h => ?_)
  refine fb_cS0v (pc := 58) [.int x2] dX2_addPart_58 (mX10_argumentsTaken g (fb_wI u a0 4 ((fb_I u a0 4) + 1)) x2 h58) ymX10_argumentsTaken ysX10_argumentsTaken ylX2_51 rfl (Nat.le_of_ble_eq_true rfl) ⟨Nat.le_of_ble_eq_true rfl, Nat.le_of_ble_eq_true rfl⟩ ⟨Nat.le_of_ble_eq_true rfl, Nat.le_of_ble_eq_true rfl⟩ ?_
  refine fb_iadd (pc := 61) dX2_addPart_61 ?_
  refine fb_putI (pc := 62) dX2_addPart_62 lkX2_45 ly_2_5 ha0.1 ha0.2 rfl rfl rfl ?_
  exact fb_vretM (pc := 65) h dX2_addPart_65

def fX2_addPart (u : fb_M) (a0 : Nat) (x1 : Int32) (x2 : Int32) : Option fb_M :=
 (if 6 ≤ (fb_I u a0 4) then (jX2_addPart_42 a0 x2 u)
  else ((fb_R u a0 7).bind fun q10 => fb_gd (q10 < fb_NT ∧ (fb_sh q10).1 = 100) 
   ((fb_gd (¬ (fb_I u a0 4 < 0 ∨ (fb_sh q10).2 ≤ (fb_I u a0 4).toNatClampNeg)) 
   ((fb_R (fb_wI u q10 (fb_I u a0 4).toNatClampNeg x1) a0 8).bind fun q20 => fb_gd (q20 < fb_NT ∧ (fb_sh q20).1 = 100) 
   ((fb_gd (¬ (fb_I (fb_wI u q10 (fb_I u a0 4).toNatClampNeg x1) a0 4 < 0 ∨ (fb_sh q20).2 ≤ (fb_I (fb_wI u q10 (fb_I u a0 4).toNatClampNeg x1) a0 4).toNatClampNeg)) 
   ((fb_R (fb_wI (fb_wI u q10 (fb_I u a0 4).toNatClampNeg x1) q20 (fb_I (fb_wI u q10 (fb_I u a0 4).toNatClampNeg x1) a0 4).toNatClampNeg x2) a0 9).bind fun q30 => fb_gd (q30 < fb_NT ∧ (fb_sh q30).1 = 100) 
   ((fb_gd (¬ (fb_I (fb_wI (fb_wI u q10 (fb_I u a0 4).toNatClampNeg x1) q20 (fb_I (fb_wI u q10 (fb_I u a0 4).toNatClampNeg x1) a0 4).toNatClampNeg x2) a0 4 < 0 ∨ (fb_sh q30).2 ≤ (fb_I (fb_wI (fb_wI u q10 (fb_I u a0 4).toNatClampNeg x1) q20 (fb_I (fb_wI u q10 (fb_I u a0 4).toNatClampNeg x1) a0 4).toNatClampNeg x2) a0 4).toNatClampNeg)) 
   (jX2_addPart_42 a0 x2 (fb_wI (fb_wI (fb_wI u q10 (fb_I u a0 4).toNatClampNeg x1) q20 (fb_I (fb_wI u q10 (fb_I u a0 4).toNatClampNeg x1) a0 4).toNatClampNeg x2) q30 (fb_I (fb_wI (fb_wI u q10 (fb_I u a0 4).toNatClampNeg x1) q20 (fb_I (fb_wI u q10 (fb_I u a0 4).toNatClampNeg x1) a0 4).toNatClampNeg x2) a0 4).toNatClampNeg (fb_I (fb_wI (fb_wI u q10 (fb_I u a0 4).toNatClampNeg x1) q20 (fb_I (fb_wI u q10 (fb_I u a0 4).toNatClampNeg x1) a0 4).toNatClampNeg x2) a0 3)))))))))))))
set_option maxRecDepth 100000 in
set_option maxHeartbeats 4000000 in
theorem mX2_addPart (g : fb_G) (u : fb_M) (a0 : Nat) (x1 : Int32) (x2 : Int32) (ha0 : a0 < fb_NT ∧ fb_sh a0 = (2, 12)) {res : fb_M} (h : fX2_addPart u a0 x1 x2 = some res) : fb_Runs g 1 20 0 0 fb_NT fb_NT yX2_addPart cX2_addPart 3 none [.ref (fb_b g + a0), .int x1, .int x2] u none res := by
  unfold fX2_addPart at h
  refine fb_enter (by decide) (Nat.le_of_ble_eq_true rfl) ?_
  show fb_V g RX2 cX2_addPart 3 none "addPart" (fb_room 1 20 0 0) (fb_Qm g none fb_NT res 0 0) 0 0 fb_NT u 0 [(0, .ref (fb_b g + a0)), (1, .int x1), (2, .int x2)] []
  refine fb_aload_n (pc := 0) dX2_addPart_0 0 rfl ?_
  refine fb_getI (pc := 1) dX2_addPart_1 lkX2_42 ha0.1 ha0.2 rfl ?_
  refine fb_bipush (pc := 4) (v := 6) dX2_addPart_4 fb_kb_6 ?_
  refine fb_icmp_ge (pc := 6) (tgt := 42) h dX2_addPart_6 (by decide) (fun h => ?_) (fun h => ?_)
  · exact fb_sub [0, 2] rfl (tjX2_addPart_42 a0 x2 u ha0 h)
  · refine fb_aload_n (pc := 9) dX2_addPart_9 0 rfl ?_
    refine fb_bnE h (fun q10 e10 h => fb_gdE h (fun s10 h => ?_))
    refine fb_getR (pc := 10) dX2_addPart_10 lkX2_11 ha0.1 ha0.2 (by decide) e10 ?_
    refine fb_aload_n (pc := 13) dX2_addPart_13 0 rfl ?_
    refine fb_getI (pc := 14) dX2_addPart_14 lkX2_42 ha0.1 ha0.2 rfl ?_
    refine fb_iload_n (pc := 17) dX2_addPart_17 1 rfl ?_
    refine fb_gdE h (fun i18 h => ?_)
    refine fb_iast (pc := 18) dX2_addPart_18 s10.1 (fb_eta s10.2) i18 ?_
    refine fb_aload_n (pc := 19) dX2_addPart_19 0 rfl ?_
    refine fb_bnE h (fun q20 e20 h => fb_gdE h (fun s20 h => ?_))
    refine fb_getR (pc := 20) dX2_addPart_20 lkX2_15 ha0.1 ha0.2 (by decide) e20 ?_
    refine fb_aload_n (pc := 23) dX2_addPart_23 0 rfl ?_
    refine fb_getI (pc := 24) dX2_addPart_24 lkX2_42 ha0.1 ha0.2 rfl ?_
    refine fb_iload_n (pc := 27) dX2_addPart_27 2 rfl ?_
    refine fb_gdE h (fun i28 h => ?_)
    refine fb_iast (pc := 28) dX2_addPart_28 s20.1 (fb_eta s20.2) i28 ?_
    refine fb_aload_n (pc := 29) dX2_addPart_29 0 rfl ?_
    refine fb_bnE h (fun q30 e30 h => fb_gdE h (fun s30 h => ?_))
    refine fb_getR (pc := 30) dX2_addPart_30 lkX2_18 ha0.1 ha0.2 (by decide) e30 ?_
    refine fb_aload_n (pc := 33) dX2_addPart_33 0 rfl ?_
    refine fb_getI (pc := 34) dX2_addPart_34 lkX2_42 ha0.1 ha0.2 rfl ?_
    refine fb_aload_n (pc := 37) dX2_addPart_37 0 rfl ?_
    refine fb_getI (pc := 38) dX2_addPart_38 lkX2_39 ha0.1 ha0.2 rfl ?_
    refine fb_gdE h (fun i41 h => ?_)
    refine fb_iast (pc := 41) dX2_addPart_41 s30.1 (fb_eta s30.2) i41 ?_
    exact fb_sub [0, 2] rfl (tjX2_addPart_42 a0 x2 (fb_wI (fb_wI (fb_wI u q10 (fb_I u a0 4).toNatClampNeg x1) q20 (fb_I (fb_wI u q10 (fb_I u a0 4).toNatClampNeg x1) a0 4).toNatClampNeg x2) q30 (fb_I (fb_wI (fb_wI u q10 (fb_I u a0 4).toNatClampNeg x1) q20 (fb_I (fb_wI u q10 (fb_I u a0 4).toNatClampNeg x1) a0 4).toNatClampNeg x2) a0 4).toNatClampNeg (fb_I (fb_wI (fb_wI u q10 (fb_I u a0 4).toNatClampNeg x1) q20 (fb_I (fb_wI u q10 (fb_I u a0 4).toNatClampNeg x1) a0 4).toNatClampNeg x2) a0 3)) ha0 h)

theorem dX3_readPart_0 : decode cX3_readPart 0 = .ok (.iload_n 2, 1) := by decide +kernel
theorem dX3_readPart_1 : decode cX3_readPart 1 = .ok (.istore 4, 2) := by decide +kernel
theorem dX3_readPart_3 : decode cX3_readPart 3 = .ok (.iload 4, 2) := by decide +kernel
theorem dX3_readPart_5 : decode cX3_readPart 5 = .ok (.iload_n 3, 1) := by decide +kernel
theorem dX3_readPart_6 : decode cX3_readPart 6 = .ok (.if_icmp .gt 61, 3) := by decide +kernel
theorem dX3_readPart_9 : decode cX3_readPart 9 = .ok (.aload_n 0, 1) := by decide +kernel
theorem dX3_readPart_10 : decode cX3_readPart 10 = .ok (.getfield 9, 3) := by decide +kernel
theorem dX3_readPart_13 : decode cX3_readPart 13 = .ok (.iload 4, 2) := by decide +kernel
theorem dX3_readPart_15 : decode cX3_readPart 15 = .ok (.iload_n 3, 1) := by decide +kernel
theorem dX3_readPart_16 : decode cX3_readPart 16 = .ok (.invokestatic 117, 3) := by decide +kernel
theorem dX3_readPart_19 : decode cX3_readPart 19 = .ok (.istore 5, 2) := by decide +kernel
theorem dX3_readPart_21 : decode cX3_readPart 21 = .ok (.iload 5, 2) := by decide +kernel
theorem dX3_readPart_23 : decode cX3_readPart 23 = .ok (.ifCond .ge 7, 3) := by decide +kernel
theorem dX3_readPart_26 : decode cX3_readPart 26 = .ok (.iconst (-1), 1) := by decide +kernel
theorem dX3_readPart_27 : decode cX3_readPart 27 = .ok (.goto 17, 3) := by decide +kernel
theorem dX3_readPart_30 : decode cX3_readPart 30 = .ok (.aload_n 0, 1) := by decide +kernel
theorem dX3_readPart_31 : decode cX3_readPart 31 = .ok (.getfield 15, 3) := by decide +kernel
theorem dX3_readPart_34 : decode cX3_readPart 34 = .ok (.aload_n 0, 1) := by decide +kernel
theorem dX3_readPart_35 : decode cX3_readPart 35 = .ok (.getfield 9, 3) := by decide +kernel
theorem dX3_readPart_38 : decode cX3_readPart 38 = .ok (.iload_n 2, 1) := by decide +kernel
theorem dX3_readPart_39 : decode cX3_readPart 39 = .ok (.iload 4, 2) := by decide +kernel
theorem dX3_readPart_41 : decode cX3_readPart 41 = .ok (.invokevirtual 123, 3) := by decide +kernel
theorem dX3_readPart_44 : decode cX3_readPart 44 = .ok (.istore 6, 2) := by decide +kernel
theorem dX3_readPart_46 : decode cX3_readPart 46 = .ok (.iload 6, 2) := by decide +kernel
theorem dX3_readPart_48 : decode cX3_readPart 48 = .ok (.ifCond .lt 13, 3) := by decide +kernel
theorem dX3_readPart_51 : decode cX3_readPart 51 = .ok (.aload_n 1, 1) := by decide +kernel
theorem dX3_readPart_52 : decode cX3_readPart 52 = .ok (.iload 6, 2) := by decide +kernel
theorem dX3_readPart_54 : decode cX3_readPart 54 = .ok (.iload 5, 2) := by decide +kernel
theorem dX3_readPart_56 : decode cX3_readPart 56 = .ok (.invokevirtual 128, 3) := by decide +kernel
theorem dX3_readPart_59 : decode cX3_readPart 59 = .ok (.iconst 1, 1) := by decide +kernel
theorem dX3_readPart_60 : decode cX3_readPart 60 = .ok (.ireturn, 1) := by decide +kernel
theorem dX3_readPart_61 : decode cX3_readPart 61 = .ok (.iinc 4 1, 3) := by decide +kernel
theorem dX3_readPart_64 : decode cX3_readPart 64 = .ok (.goto (-61), 3) := by decide +kernel
theorem dX3_readPart_67 : decode cX3_readPart 67 = .ok (.iconst 0, 1) := by decide +kernel
theorem dX3_readPart_68 : decode cX3_readPart 68 = .ok (.ireturn, 1) := by decide +kernel
def jX3_readPart_44 (K3 : Int32 → fb_M → Option (Int32 × fb_M)) (a0 : Nat) (a1 : Nat) (x2 : Int32) (x3 : Int32) (x4 : Int32) (x5 : Int32) (k0 : Int32) (u : fb_M) : Option (Int32 × fb_M) :=
 (if k0 < 0 then (K3 (x4 + 1) u)
  else ((fX2_addPart u a1 k0 x5).bind fun r56 => 
   (some (1, r56))))
set_option maxRecDepth 100000 in
set_option maxHeartbeats 4000000 in
theorem tjX3_readPart_44 {g : fb_G} {res : (Int32 × fb_M)} (a0 : Nat) (a1 : Nat) (x2 : Int32) (x3 : Int32) (x4 : Int32) (x5 : Int32) (k0 : Int32) (u : fb_M) (K3 : Int32 → fb_M → Option (Int32 × fb_M)) (ha0 : a0 < fb_NT ∧ fb_sh a0 = (3, 3)) (ha1 : a1 < fb_NT ∧ fb_sh a1 = (2, 12)) (hK3 : ∀ (x4 : Int32) (u : fb_M) ,  K3 x4 u = some res → fb_V g RX3 cX3_readPart 7 (some .boolean) "readPart" (fb_room 6 134 0 0) (fb_Qm g (some (.int res.1)) fb_NT res.2 0 0) 0 0 fb_NT u 3 [(0, .ref (fb_b g + a0)), (1, .ref (fb_b g + a1)), (2, .int x2), (3, .int x3), (4, .int x4)] []) (h : jX3_readPart_44 K3 a0 a1 x2 x3 x4 x5 k0 u = some res) : fb_V g RX3 cX3_readPart 7 (some .boolean) "readPart" (fb_room 6 134 0 0) (fb_Qm g (some (.int res.1)) fb_NT res.2 0 0) 0 0 fb_NT u 44 [(0, .ref (fb_b g + a0)), (1, .ref (fb_b g + a1)), (2, .int x2), (3, .int x3), (4, .int x4), (5, .int x5)] [.int k0] := by
  unfold jX3_readPart_44 at h
  refine fb_istore (pc := 44) (lv' := [(6, .int k0), (0, .ref (fb_b g + a0)), (1, .ref (fb_b g + a1)), (2, .int x2), (3, .int x3), (4, .int x4), (5, .int x5)]) dX3_readPart_44 (by decide) rfl ?_
  refine fb_iload (pc := 46) dX3_readPart_46 0 rfl ?_
  refine fb_if_lt (pc := 48) (tgt := 61) h dX3_readPart_48 (by decide) (fun h => ?_) (fun h => ?_)
  · refine fb_iinc (pc := 61) (v := 1) (lv' := [(4, .int (x4 + 1)), (6, .int k0), (0, .ref (fb_b g + a0)), (1, .ref (fb_b g + a1)), (2, .int x2), (3, .int x3), (5, .int x5)]) dX3_readPart_61 5 rfl fb_ki_1 (by decide) rfl ?_
    refine fb_goto (pc := 64) (tgt := 3) dX3_readPart_64 (by decide) ?_
    exact fb_sub [2, 3, 4, 5, 0] rfl (hK3 (x4 + 1) u h)
  · refine fb_aload_n (pc := 51) dX3_readPart_51 2 rfl ?_
    refine fb_iload (pc := 52) dX3_readPart_52 0 rfl ?_
    refine fb_iload (pc := 54) dX3_readPart_54 6 rfl ?_
    refine fb_bnE h (fun r56 h56 h => ?_)
    refine fb_cV0n (pc := 56) [.int k0, .int x5] dX3_readPart_56 (mX2_addPart g u a1 k0 x5 ha1 h56) ymX2_addPart yiX2_addPart ha1.1 ha1.2 ylX3_128 rfl (Nat.le_of_ble_eq_true rfl) ⟨Nat.le_of_ble_eq_true rfl, Nat.le_of_ble_eq_true rfl⟩ ⟨Nat.le_of_ble_eq_true rfl, Nat.le_of_ble_eq_true rfl⟩ ?_
    refine fb_iconst (pc := 59) (v := 1) dX3_readPart_59 fb_ki_1 ?_
    exact fb_zretM (pc := 60) rfl h dX3_readPart_60

def bX3_readPart_3 (K3 : Int32 → fb_M → Option (Int32 × fb_M)) (a0 : Nat) (a1 : Nat) (x2 : Int32) (x3 : Int32) (x4 : Int32) (u : fb_M) : Option (Int32 × fb_M) :=
 (if x3 < x4 then (some (0, u))
  else ((fb_R u a0 0).bind fun q10 => fb_gd (q10 < fb_NT ∧ fb_sh q10 = (0, 2)) 
   (((fX10_numberOf u q10 x4 x3).bind fun r16 => 
   (if 0 ≤ r16 then ((fb_R u a0 1).bind fun q31 => fb_gd (q31 < fb_NT ∧ fb_sh q31 = (6, 2)) 
    (((fb_R u a0 0).bind fun q35 => fb_gd (q35 < fb_NT ∧ fb_sh q35 = (0, 2)) 
    (((fX6_named u q31 q35 x2 x4).bind fun r41 => 
    (jX3_readPart_44 K3 a0 a1 x2 x3 x4 r16 r41 u))))))
   else (jX3_readPart_44 K3 a0 a1 x2 x3 x4 r16 ((-1)) u))))))
def gX3_readPart_3 (a0 : Nat) (a1 : Nat) (x2 : Int32) (x3 : Int32) : Nat → Int32 → fb_M → Option (Int32 × fb_M)
 | 0 => fun _ _ => none
 | fu + 1 => fun x4 u => bX3_readPart_3 (gX3_readPart_3 a0 a1 x2 x3 fu) a0 a1 x2 x3 x4 u
set_option maxRecDepth 100000 in
set_option maxHeartbeats 4000000 in
theorem tbX3_readPart_3 {g : fb_G} {res : (Int32 × fb_M)} (a0 : Nat) (a1 : Nat) (x2 : Int32) (x3 : Int32) (x4 : Int32) (u : fb_M) (K3 : Int32 → fb_M → Option (Int32 × fb_M)) (ha0 : a0 < fb_NT ∧ fb_sh a0 = (3, 3)) (ha1 : a1 < fb_NT ∧ fb_sh a1 = (2, 12)) (hK3 : ∀ (x4 : Int32) (u : fb_M) ,  K3 x4 u = some res → fb_V g RX3 cX3_readPart 7 (some .boolean) "readPart" (fb_room 6 134 0 0) (fb_Qm g (some (.int res.1)) fb_NT res.2 0 0) 0 0 fb_NT u 3 [(0, .ref (fb_b g + a0)), (1, .ref (fb_b g + a1)), (2, .int x2), (3, .int x3), (4, .int x4)] []) (h : bX3_readPart_3 K3 a0 a1 x2 x3 x4 u = some res) : fb_V g RX3 cX3_readPart 7 (some .boolean) "readPart" (fb_room 6 134 0 0) (fb_Qm g (some (.int res.1)) fb_NT res.2 0 0) 0 0 fb_NT u 3 [(0, .ref (fb_b g + a0)), (1, .ref (fb_b g + a1)), (2, .int x2), (3, .int x3), (4, .int x4)] [] := by
  unfold bX3_readPart_3 at h
  refine fb_iload (pc := 3) dX3_readPart_3 4 rfl ?_
  refine fb_iload_n (pc := 5) dX3_readPart_5 3 rfl ?_
  refine fb_icmp_gt (pc := 6) (tgt := 67) h dX3_readPart_6 (by decide) (fun h => ?_) (fun h => ?_)
  · refine fb_iconst (pc := 67) (v := 0) dX3_readPart_67 fb_ki_0 ?_
    exact fb_zretM (pc := 68) rfl h dX3_readPart_68
  · refine fb_aload_n (pc := 9) dX3_readPart_9 0 rfl ?_
    refine fb_bnE h (fun q10 e10 h => fb_gdE h (fun s10 h => ?_))
    refine fb_getR (pc := 10) dX3_readPart_10 lkX3_9 ha0.1 ha0.2 (by decide) e10 ?_
    refine fb_iload (pc := 13) dX3_readPart_13 4 rfl ?_
    refine fb_iload_n (pc := 15) dX3_readPart_15 3 rfl ?_
    refine fb_bnE h (fun r16 h16 h => ?_)
    refine fb_cS0v (pc := 16) [.ref (fb_b g + q10), .int x4, .int x3] dX3_readPart_16 (mX10_numberOf g u q10 x4 x3 s10 h16) ymX10_numberOf ysX10_numberOf ylX3_117 rfl (Nat.le_of_ble_eq_true rfl) ⟨Nat.le_of_ble_eq_true rfl, Nat.le_of_ble_eq_true rfl⟩ ⟨Nat.le_of_ble_eq_true rfl, Nat.le_of_ble_eq_true rfl⟩ ?_
    refine fb_istore (pc := 19) (lv' := [(5, .int r16), (0, .ref (fb_b g + a0)), (1, .ref (fb_b g + a1)), (2, .int x2), (3, .int x3), (4, .int x4)]) dX3_readPart_19 (by decide) rfl ?_
    refine fb_iload (pc := 21) dX3_readPart_21 0 rfl ?_
    refine fb_if_ge (pc := 23) (tgt := 30) h dX3_readPart_23 (by decide) (fun h => ?_) (fun h => ?_)
    · refine fb_aload_n (pc := 30) dX3_readPart_30 1 rfl ?_
      refine fb_bnE h (fun q31 e31 h => fb_gdE h (fun s31 h => ?_))
      refine fb_getR (pc := 31) dX3_readPart_31 lkX3_15 ha0.1 ha0.2 (by decide) e31 ?_
      refine fb_aload_n (pc := 34) dX3_readPart_34 1 rfl ?_
      refine fb_bnE h (fun q35 e35 h => fb_gdE h (fun s35 h => ?_))
      refine fb_getR (pc := 35) dX3_readPart_35 lkX3_9 ha0.1 ha0.2 (by decide) e35 ?_
      refine fb_iload_n (pc := 38) dX3_readPart_38 3 rfl ?_
      refine fb_iload (pc := 39) dX3_readPart_39 5 rfl ?_
      refine fb_bnE h (fun r41 h41 h => ?_)
      refine fb_cV0v (pc := 41) [.ref (fb_b g + q35), .int x2, .int x4] dX3_readPart_41 (mX6_named g u q31 q35 x2 x4 s31 s35 h41) ymX6_named yiX6_named s31.1 s31.2 ylX3_123 rfl (Nat.le_of_ble_eq_true rfl) ⟨Nat.le_of_ble_eq_true rfl, Nat.le_of_ble_eq_true rfl⟩ ⟨Nat.le_of_ble_eq_true rfl, Nat.le_of_ble_eq_true rfl⟩ ?_
      exact fb_sub [1, 2, 3, 4, 5, 0] rfl (tjX3_readPart_44 a0 a1 x2 x3 x4 r16 r41 u K3 ha0 ha1 hK3 h)
    · refine fb_iconst (pc := 26) (v := (-1)) dX3_readPart_26 fb_ki_m1 ?_
      refine fb_goto (pc := 27) (tgt := 44) dX3_readPart_27 (by decide) ?_
      exact fb_sub [1, 2, 3, 4, 5, 0] rfl (tjX3_readPart_44 a0 a1 x2 x3 x4 r16 ((-1)) u K3 ha0 ha1 hK3 h)

theorem tgX3_readPart_3 {g : fb_G} {res : (Int32 × fb_M)} (a0 : Nat) (a1 : Nat) (x2 : Int32) (x3 : Int32) (ha0 : a0 < fb_NT ∧ fb_sh a0 = (3, 3)) (ha1 : a1 < fb_NT ∧ fb_sh a1 = (2, 12)) : ∀ (fu : Nat) (x4 : Int32) (u : fb_M) ,  gX3_readPart_3 a0 a1 x2 x3 fu x4 u = some res → fb_V g RX3 cX3_readPart 7 (some .boolean) "readPart" (fb_room 6 134 0 0) (fb_Qm g (some (.int res.1)) fb_NT res.2 0 0) 0 0 fb_NT u 3 [(0, .ref (fb_b g + a0)), (1, .ref (fb_b g + a1)), (2, .int x2), (3, .int x3), (4, .int x4)] [] := by
  intro fu
  induction fu with
  | zero => intro x4 u h; exact absurd h (by simp [gX3_readPart_3])
  | succ fu ih => intro x4 u h; exact tbX3_readPart_3 a0 a1 x2 x3 x4 u (gX3_readPart_3 a0 a1 x2 x3 fu) ha0 ha1 ih h
def fX3_readPart (u : fb_M) (a0 : Nat) (a1 : Nat) (x2 : Int32) (x3 : Int32) : Option (Int32 × fb_M) :=
 (gX3_readPart_3 a0 a1 x2 x3 fb_F x2 u)
set_option maxRecDepth 100000 in
set_option maxHeartbeats 4000000 in
theorem mX3_readPart (g : fb_G) (u : fb_M) (a0 : Nat) (a1 : Nat) (x2 : Int32) (x3 : Int32) (ha0 : a0 < fb_NT ∧ fb_sh a0 = (3, 3)) (ha1 : a1 < fb_NT ∧ fb_sh a1 = (2, 12)) {res : (Int32 × fb_M)} (h : fX3_readPart u a0 a1 x2 x3 = some res) : fb_Runs g 6 134 0 0 fb_NT fb_NT yX3_readPart cX3_readPart 7 (some .boolean) [.ref (fb_b g + a0), .ref (fb_b g + a1), .int x2, .int x3] u (some (.int res.1)) res.2 := by
  unfold fX3_readPart at h
  refine fb_enter (by decide) (Nat.le_of_ble_eq_true rfl) ?_
  show fb_V g RX3 cX3_readPart 7 (some .boolean) "readPart" (fb_room 6 134 0 0) (fb_Qm g (some (.int res.1)) fb_NT res.2 0 0) 0 0 fb_NT u 0 [(0, .ref (fb_b g + a0)), (1, .ref (fb_b g + a1)), (2, .int x2), (3, .int x3)] []
  refine fb_iload_n (pc := 0) dX3_readPart_0 2 rfl ?_
  refine fb_istore (pc := 1) (lv' := [(4, .int x2), (0, .ref (fb_b g + a0)), (1, .ref (fb_b g + a1)), (2, .int x2), (3, .int x3)]) dX3_readPart_1 (by decide) rfl ?_
  exact fb_sub [1, 2, 3, 4, 0] rfl (tgX3_readPart_3 a0 a1 x2 x3 ha0 ha1 fb_F x2 u h)

theorem dX3_readAlternative_0 : decode cX3_readAlternative 0 = .ok (.aload_n 1, 1) := by decide +kernel
theorem dX3_readAlternative_1 : decode cX3_readAlternative 1 = .ok (.dup, 1) := by decide +kernel
theorem dX3_readAlternative_2 : decode cX3_readAlternative 2 = .ok (.getfield 109, 3) := by decide +kernel
theorem dX3_readAlternative_5 : decode cX3_readAlternative 5 = .ok (.iconst 1, 1) := by decide +kernel
theorem dX3_readAlternative_6 : decode cX3_readAlternative 6 = .ok (.iadd, 1) := by decide +kernel
theorem dX3_readAlternative_7 : decode cX3_readAlternative 7 = .ok (.putfield 109, 3) := by decide +kernel
theorem dX3_readAlternative_10 : decode cX3_readAlternative 10 = .ok (.iload_n 2, 1) := by decide +kernel
theorem dX3_readAlternative_11 : decode cX3_readAlternative 11 = .ok (.istore 4, 2) := by decide +kernel
theorem dX3_readAlternative_13 : decode cX3_readAlternative 13 = .ok (.iload_n 2, 1) := by decide +kernel
theorem dX3_readAlternative_14 : decode cX3_readAlternative 14 = .ok (.istore 5, 2) := by decide +kernel
theorem dX3_readAlternative_16 : decode cX3_readAlternative 16 = .ok (.iload 5, 2) := by decide +kernel
theorem dX3_readAlternative_18 : decode cX3_readAlternative 18 = .ok (.iload_n 3, 1) := by decide +kernel
theorem dX3_readAlternative_19 : decode cX3_readAlternative 19 = .ok (.if_icmp .ge 48, 3) := by decide +kernel
theorem dX3_readAlternative_22 : decode cX3_readAlternative 22 = .ok (.aload_n 0, 1) := by decide +kernel
theorem dX3_readAlternative_23 : decode cX3_readAlternative 23 = .ok (.getfield 9, 3) := by decide +kernel
theorem dX3_readAlternative_26 : decode cX3_readAlternative 26 = .ok (.ldc 112, 2) := by decide +kernel
theorem dX3_readAlternative_28 : decode cX3_readAlternative 28 = .ok (.iload 5, 2) := by decide +kernel
theorem dX3_readAlternative_30 : decode cX3_readAlternative 30 = .ok (.iload_n 3, 1) := by decide +kernel
theorem dX3_readAlternative_31 : decode cX3_readAlternative 31 = .ok (.invokevirtual 103, 3) := by decide +kernel
theorem dX3_readAlternative_34 : decode cX3_readAlternative 34 = .ok (.ifCond .eq 27, 3) := by decide +kernel
theorem dX3_readAlternative_37 : decode cX3_readAlternative 37 = .ok (.aload_n 0, 1) := by decide +kernel
theorem dX3_readAlternative_38 : decode cX3_readAlternative 38 = .ok (.aload_n 1, 1) := by decide +kernel
theorem dX3_readAlternative_39 : decode cX3_readAlternative 39 = .ok (.iload 4, 2) := by decide +kernel
theorem dX3_readAlternative_41 : decode cX3_readAlternative 41 = .ok (.iload 5, 2) := by decide +kernel
theorem dX3_readAlternative_43 : decode cX3_readAlternative 43 = .ok (.invokevirtual 114, 3) := by decide +kernel
theorem dX3_readAlternative_46 : decode cX3_readAlternative 46 = .ok (.ifCond .ne 5, 3) := by decide +kernel
theorem dX3_readAlternative_49 : decode cX3_readAlternative 49 = .ok (.iconst 0, 1) := by decide +kernel
theorem dX3_readAlternative_50 : decode cX3_readAlternative 50 = .ok (.ireturn, 1) := by decide +kernel
theorem dX3_readAlternative_51 : decode cX3_readAlternative 51 = .ok (.iload 5, 2) := by decide +kernel
theorem dX3_readAlternative_53 : decode cX3_readAlternative 53 = .ok (.ldc 112, 2) := by decide +kernel
theorem dX3_readAlternative_55 : decode cX3_readAlternative 55 = .ok (.invokevirtual 57, 3) := by decide +kernel
theorem dX3_readAlternative_58 : decode cX3_readAlternative 58 = .ok (.iadd, 1) := by decide +kernel
theorem dX3_readAlternative_59 : decode cX3_readAlternative 59 = .ok (.istore 4, 2) := by decide +kernel
theorem dX3_readAlternative_61 : decode cX3_readAlternative 61 = .ok (.iinc 5 1, 3) := by decide +kernel
theorem dX3_readAlternative_64 : decode cX3_readAlternative 64 = .ok (.goto (-48), 3) := by decide +kernel
theorem dX3_readAlternative_67 : decode cX3_readAlternative 67 = .ok (.aload_n 0, 1) := by decide +kernel
theorem dX3_readAlternative_68 : decode cX3_readAlternative 68 = .ok (.aload_n 1, 1) := by decide +kernel
theorem dX3_readAlternative_69 : decode cX3_readAlternative 69 = .ok (.iload 4, 2) := by decide +kernel
theorem dX3_readAlternative_71 : decode cX3_readAlternative 71 = .ok (.iload_n 3, 1) := by decide +kernel
theorem dX3_readAlternative_72 : decode cX3_readAlternative 72 = .ok (.invokevirtual 114, 3) := by decide +kernel
theorem dX3_readAlternative_75 : decode cX3_readAlternative 75 = .ok (.ireturn, 1) := by decide +kernel
def bX3_readAlternative_16 (K16 : Int32 → Int32 → fb_M → Option (Int32 × fb_M)) (a0 : Nat) (a1 : Nat) (x3 : Int32) (x4 : Int32) (x5 : Int32) (u : fb_M) : Option (Int32 × fb_M) :=
 (if x3 ≤ x5 then ((fX3_readPart u a0 a1 x4 x3).bind fun r72 => 
   (fb_gd (r72.1 = 0 ∨ r72.1 = 1) 
   (some (r72.1, r72.2))))
  else ((fb_R u a0 0).bind fun q23 => fb_gd (q23 < fb_NT ∧ fb_sh q23 = (0, 2)) 
   (((fX0_isCutAt u q23 9 x5 x3).bind fun r31 => 
   (if r31 = 0 then (K16 x4 (x5 + 1) u)
   else ((fX3_readPart u a0 a1 x4 x5).bind fun r43 => 
    (if r43.1 = 0 then (some (0, r43.2))
    else (K16 (x5 + (Int32.ofNat (fb_len.getD 9 0))) (x5 + 1) r43.2))))))))
def gX3_readAlternative_16 (a0 : Nat) (a1 : Nat) (x3 : Int32) : Nat → Int32 → Int32 → fb_M → Option (Int32 × fb_M)
 | 0 => fun _ _ _ => none
 | fu + 1 => fun x4 x5 u => bX3_readAlternative_16 (gX3_readAlternative_16 a0 a1 x3 fu) a0 a1 x3 x4 x5 u
set_option maxRecDepth 100000 in
set_option maxHeartbeats 4000000 in
theorem tbX3_readAlternative_16 {g : fb_G} {res : (Int32 × fb_M)} (a0 : Nat) (a1 : Nat) (x3 : Int32) (x4 : Int32) (x5 : Int32) (u : fb_M) (K16 : Int32 → Int32 → fb_M → Option (Int32 × fb_M)) (ha0 : a0 < fb_NT ∧ fb_sh a0 = (3, 3)) (ha1 : a1 < fb_NT ∧ fb_sh a1 = (2, 12)) (hK16 : ∀ (x4 : Int32) (x5 : Int32) (u : fb_M) ,  K16 x4 x5 u = some res → fb_V g RX3 cX3_readAlternative 6 (some .boolean) "readAlternative" (fb_room 7 160 0 0) (fb_Qm g (some (.int res.1)) fb_NT res.2 0 0) 0 0 fb_NT u 16 [(0, .ref (fb_b g + a0)), (1, .ref (fb_b g + a1)), (3, .int x3), (4, .int x4), (5, .int x5)] []) (h : bX3_readAlternative_16 K16 a0 a1 x3 x4 x5 u = some res) : fb_V g RX3 cX3_readAlternative 6 (some .boolean) "readAlternative" (fb_room 7 160 0 0) (fb_Qm g (some (.int res.1)) fb_NT res.2 0 0) 0 0 fb_NT u 16 [(0, .ref (fb_b g + a0)), (1, .ref (fb_b g + a1)), (3, .int x3), (4, .int x4), (5, .int x5)] [] := by
  unfold bX3_readAlternative_16 at h
  refine fb_iload (pc := 16) dX3_readAlternative_16 4 rfl ?_
  refine fb_iload_n (pc := 18) dX3_readAlternative_18 2 rfl ?_
  refine fb_icmp_ge (pc := 19) (tgt := 67) h dX3_readAlternative_19 (by decide) (fun h => ?_) (fun h => ?_)
  · refine fb_aload_n (pc := 67) dX3_readAlternative_67 0 rfl ?_
    refine fb_aload_n (pc := 68) dX3_readAlternative_68 1 rfl ?_
    refine fb_iload (pc := 69) dX3_readAlternative_69 3 rfl ?_
    refine fb_iload_n (pc := 71) dX3_readAlternative_71 2 rfl ?_
    refine fb_bnE h (fun r72 h72 h => ?_)
    refine fb_cV0v (pc := 72) [.ref (fb_b g + a1), .int x4, .int x3] dX3_readAlternative_72 (mX3_readPart g u a0 a1 x4 x3 ha0 ha1 h72) ymX3_readPart yiX3_readPart ha0.1 ha0.2 ylX3_114 rfl (Nat.le_of_ble_eq_true rfl) ⟨Nat.le_of_ble_eq_true rfl, Nat.le_of_ble_eq_true rfl⟩ ⟨Nat.le_of_ble_eq_true rfl, Nat.le_of_ble_eq_true rfl⟩ ?_
    refine fb_gdE h (fun z75 h => ?_)
    exact fb_zretM (pc := 75) (fb_nz z75) h dX3_readAlternative_75
  · refine fb_aload_n (pc := 22) dX3_readAlternative_22 0 rfl ?_
    refine fb_bnE h (fun q23 e23 h => fb_gdE h (fun s23 h => ?_))
    refine fb_getR (pc := 23) dX3_readAlternative_23 lkX3_9 ha0.1 ha0.2 (by decide) e23 ?_
    refine fb_ldcS (pc := 26) (i := 9) (tx := "And") dX3_readAlternative_26 srX3_112 ?_
    refine fb_iload (pc := 28) dX3_readAlternative_28 4 rfl ?_
    refine fb_iload_n (pc := 30) dX3_readAlternative_30 2 rfl ?_
    refine fb_bnE h (fun r31 h31 h => ?_)
    refine fb_cV0v (pc := 31) [.ref (fb_K g 9), .int x5, .int x3] dX3_readAlternative_31 (mX0_isCutAt g u q23 9 x5 x3 s23 (by decide : 9 < fb_nS) h31) ymX0_isCutAt yiX0_isCutAt s23.1 s23.2 ylX3_103 rfl (Nat.le_of_ble_eq_true rfl) ⟨Nat.le_of_ble_eq_true rfl, Nat.le_of_ble_eq_true rfl⟩ ⟨Nat.le_of_ble_eq_true rfl, Nat.le_of_ble_eq_true rfl⟩ ?_
    refine fb_if_eq (pc := 34) (tgt := 61) h dX3_readAlternative_34 (by decide) (fun h => ?_) (fun h => ?_)
    · refine fb_iinc (pc := 61) (v := 1) (lv' := [(5, .int (x5 + 1)), (0, .ref (fb_b g + a0)), (1, .ref (fb_b g + a1)), (3, .int x3), (4, .int x4)]) dX3_readAlternative_61 4 rfl fb_ki_1 (by decide) rfl ?_
      refine fb_goto (pc := 64) (tgt := 16) dX3_readAlternative_64 (by decide) ?_
      exact fb_sub [1, 2, 3, 4, 0] rfl (hK16 x4 (x5 + 1) u h)
    · refine fb_aload_n (pc := 37) dX3_readAlternative_37 0 rfl ?_
      refine fb_aload_n (pc := 38) dX3_readAlternative_38 1 rfl ?_
      refine fb_iload (pc := 39) dX3_readAlternative_39 3 rfl ?_
      refine fb_iload (pc := 41) dX3_readAlternative_41 4 rfl ?_
      refine fb_bnE h (fun r43 h43 h => ?_)
      refine fb_cV0v (pc := 43) [.ref (fb_b g + a1), .int x4, .int x5] dX3_readAlternative_43 (mX3_readPart g u a0 a1 x4 x5 ha0 ha1 h43) ymX3_readPart yiX3_readPart ha0.1 ha0.2 ylX3_114 rfl (Nat.le_of_ble_eq_true rfl) ⟨Nat.le_of_ble_eq_true rfl, Nat.le_of_ble_eq_true rfl⟩ ⟨Nat.le_of_ble_eq_true rfl, Nat.le_of_ble_eq_true rfl⟩ ?_
      refine fb_if_ne (pc := 46) (tgt := 51) h dX3_readAlternative_46 (by decide) (fun h => ?_) (fun h => ?_)
      · refine fb_iload (pc := 51) dX3_readAlternative_51 4 rfl ?_
        refine fb_ldcS (pc := 53) (i := 9) (tx := "And") dX3_readAlternative_53 srX3_112 ?_
        refine fb_cT0v (pc := 55) [] dX3_readAlternative_55 (m_strlen g 9 (by decide : 9 < fb_nS) r43.2) ymJ_length yiJ_length (by decide : 9 < fb_nS) ylX3_57 rfl (Nat.le_of_ble_eq_true rfl) ⟨Nat.le_of_ble_eq_true rfl, Nat.le_of_ble_eq_true rfl⟩ ⟨Nat.le_of_ble_eq_true rfl, Nat.le_of_ble_eq_true rfl⟩ ?_
        refine fb_iadd (pc := 58) dX3_readAlternative_58 ?_
        refine fb_istore (pc := 59) (lv' := [(4, .int (x5 + (Int32.ofNat (fb_len.getD 9 0)))), (0, .ref (fb_b g + a0)), (1, .ref (fb_b g + a1)), (3, .int x3), (5, .int x5)]) dX3_readAlternative_59 (by decide) rfl ?_
        refine fb_iinc (pc := 61) (v := 1) (lv' := [(5, .int (x5 + 1)), (4, .int (x5 + (Int32.ofNat (fb_len.getD 9 0)))), (0, .ref (fb_b g + a0)), (1, .ref (fb_b g + a1)), (3, .int x3)]) dX3_readAlternative_61 4 rfl fb_ki_1 (by decide) rfl ?_
        refine fb_goto (pc := 64) (tgt := 16) dX3_readAlternative_64 (by decide) ?_
        exact fb_sub [2, 3, 4, 1, 0] rfl (hK16 (x5 + (Int32.ofNat (fb_len.getD 9 0))) (x5 + 1) r43.2 h)
      · refine fb_iconst (pc := 49) (v := 0) dX3_readAlternative_49 fb_ki_0 ?_
        exact fb_zretM (pc := 50) rfl h dX3_readAlternative_50

theorem tgX3_readAlternative_16 {g : fb_G} {res : (Int32 × fb_M)} (a0 : Nat) (a1 : Nat) (x3 : Int32) (ha0 : a0 < fb_NT ∧ fb_sh a0 = (3, 3)) (ha1 : a1 < fb_NT ∧ fb_sh a1 = (2, 12)) : ∀ (fu : Nat) (x4 : Int32) (x5 : Int32) (u : fb_M) ,  gX3_readAlternative_16 a0 a1 x3 fu x4 x5 u = some res → fb_V g RX3 cX3_readAlternative 6 (some .boolean) "readAlternative" (fb_room 7 160 0 0) (fb_Qm g (some (.int res.1)) fb_NT res.2 0 0) 0 0 fb_NT u 16 [(0, .ref (fb_b g + a0)), (1, .ref (fb_b g + a1)), (3, .int x3), (4, .int x4), (5, .int x5)] [] := by
  intro fu
  induction fu with
  | zero => intro x4 x5 u h; exact absurd h (by simp [gX3_readAlternative_16])
  | succ fu ih => intro x4 x5 u h; exact tbX3_readAlternative_16 a0 a1 x3 x4 x5 u (gX3_readAlternative_16 a0 a1 x3 fu) ha0 ha1 ih h
def fX3_readAlternative (u : fb_M) (a0 : Nat) (a1 : Nat) (x2 : Int32) (x3 : Int32) : Option (Int32 × fb_M) :=
 (gX3_readAlternative_16 a0 a1 x3 fb_F x2 x2 (fb_wI u a1 3 ((fb_I u a1 3) + 1)))
set_option maxRecDepth 100000 in
set_option maxHeartbeats 4000000 in
theorem mX3_readAlternative (g : fb_G) (u : fb_M) (a0 : Nat) (a1 : Nat) (x2 : Int32) (x3 : Int32) (ha0 : a0 < fb_NT ∧ fb_sh a0 = (3, 3)) (ha1 : a1 < fb_NT ∧ fb_sh a1 = (2, 12)) {res : (Int32 × fb_M)} (h : fX3_readAlternative u a0 a1 x2 x3 = some res) : fb_Runs g 7 160 0 0 fb_NT fb_NT yX3_readAlternative cX3_readAlternative 6 (some .boolean) [.ref (fb_b g + a0), .ref (fb_b g + a1), .int x2, .int x3] u (some (.int res.1)) res.2 := by
  unfold fX3_readAlternative at h
  refine fb_enter (by decide) (Nat.le_of_ble_eq_true rfl) ?_
  show fb_V g RX3 cX3_readAlternative 6 (some .boolean) "readAlternative" (fb_room 7 160 0 0) (fb_Qm g (some (.int res.1)) fb_NT res.2 0 0) 0 0 fb_NT u 0 [(0, .ref (fb_b g + a0)), (1, .ref (fb_b g + a1)), (2, .int x2), (3, .int x3)] []
  refine fb_aload_n (pc := 0) dX3_readAlternative_0 1 rfl ?_
  refine fb_dup (pc := 1) dX3_readAlternative_1 rfl ?_
  refine fb_getI (pc := 2) dX3_readAlternative_2 lkX3_109 ha1.1 ha1.2 rfl ?_
  refine fb_iconst (pc := 5) (v := 1) dX3_readAlternative_5 fb_ki_1 ?_
  refine fb_iadd (pc := 6) dX3_readAlternative_6 ?_
  refine fb_putI (pc := 7) dX3_readAlternative_7 lkX3_109 ly_2_3 ha1.1 ha1.2 rfl rfl rfl ?_
  refine fb_iload_n (pc := 10) dX3_readAlternative_10 2 rfl ?_
  refine fb_istore (pc := 11) (lv' := [(4, .int x2), (0, .ref (fb_b g + a0)), (1, .ref (fb_b g + a1)), (2, .int x2), (3, .int x3)]) dX3_readAlternative_11 (by decide) rfl ?_
  refine fb_iload_n (pc := 13) dX3_readAlternative_13 3 rfl ?_
  refine fb_istore (pc := 14) (lv' := [(5, .int x2), (4, .int x2), (0, .ref (fb_b g + a0)), (1, .ref (fb_b g + a1)), (2, .int x2), (3, .int x3)]) dX3_readAlternative_14 (by decide) rfl ?_
  exact fb_sub [2, 3, 5, 1, 0] rfl (tgX3_readAlternative_16 a0 a1 x3 ha0 ha1 fb_F x2 x2 (fb_wI u a1 3 ((fb_I u a1 3) + 1)) h)

theorem dX3_readCondition_0 : decode cX3_readCondition 0 = .ok (.iload_n 2, 1) := by decide +kernel
theorem dX3_readCondition_1 : decode cX3_readCondition 1 = .ok (.istore 4, 2) := by decide +kernel
theorem dX3_readCondition_3 : decode cX3_readCondition 3 = .ok (.iload_n 2, 1) := by decide +kernel
theorem dX3_readCondition_4 : decode cX3_readCondition 4 = .ok (.istore 5, 2) := by decide +kernel
theorem dX3_readCondition_6 : decode cX3_readCondition 6 = .ok (.iload 5, 2) := by decide +kernel
theorem dX3_readCondition_8 : decode cX3_readCondition 8 = .ok (.iload_n 3, 1) := by decide +kernel
theorem dX3_readCondition_9 : decode cX3_readCondition 9 = .ok (.if_icmp .ge 48, 3) := by decide +kernel
theorem dX3_readCondition_12 : decode cX3_readCondition 12 = .ok (.aload_n 0, 1) := by decide +kernel
theorem dX3_readCondition_13 : decode cX3_readCondition 13 = .ok (.getfield 9, 3) := by decide +kernel
theorem dX3_readCondition_16 : decode cX3_readCondition 16 = .ok (.ldc 101, 2) := by decide +kernel
theorem dX3_readCondition_18 : decode cX3_readCondition 18 = .ok (.iload 5, 2) := by decide +kernel
theorem dX3_readCondition_20 : decode cX3_readCondition 20 = .ok (.iload_n 3, 1) := by decide +kernel
theorem dX3_readCondition_21 : decode cX3_readCondition 21 = .ok (.invokevirtual 103, 3) := by decide +kernel
theorem dX3_readCondition_24 : decode cX3_readCondition 24 = .ok (.ifCond .eq 27, 3) := by decide +kernel
theorem dX3_readCondition_27 : decode cX3_readCondition 27 = .ok (.aload_n 0, 1) := by decide +kernel
theorem dX3_readCondition_28 : decode cX3_readCondition 28 = .ok (.aload_n 1, 1) := by decide +kernel
theorem dX3_readCondition_29 : decode cX3_readCondition 29 = .ok (.iload 4, 2) := by decide +kernel
theorem dX3_readCondition_31 : decode cX3_readCondition 31 = .ok (.iload 5, 2) := by decide +kernel
theorem dX3_readCondition_33 : decode cX3_readCondition 33 = .ok (.invokevirtual 106, 3) := by decide +kernel
theorem dX3_readCondition_36 : decode cX3_readCondition 36 = .ok (.ifCond .ne 5, 3) := by decide +kernel
theorem dX3_readCondition_39 : decode cX3_readCondition 39 = .ok (.iconst 0, 1) := by decide +kernel
theorem dX3_readCondition_40 : decode cX3_readCondition 40 = .ok (.ireturn, 1) := by decide +kernel
theorem dX3_readCondition_41 : decode cX3_readCondition 41 = .ok (.iload 5, 2) := by decide +kernel
theorem dX3_readCondition_43 : decode cX3_readCondition 43 = .ok (.ldc 101, 2) := by decide +kernel
theorem dX3_readCondition_45 : decode cX3_readCondition 45 = .ok (.invokevirtual 57, 3) := by decide +kernel
theorem dX3_readCondition_48 : decode cX3_readCondition 48 = .ok (.iadd, 1) := by decide +kernel
theorem dX3_readCondition_49 : decode cX3_readCondition 49 = .ok (.istore 4, 2) := by decide +kernel
theorem dX3_readCondition_51 : decode cX3_readCondition 51 = .ok (.iinc 5 1, 3) := by decide +kernel
theorem dX3_readCondition_54 : decode cX3_readCondition 54 = .ok (.goto (-48), 3) := by decide +kernel
theorem dX3_readCondition_57 : decode cX3_readCondition 57 = .ok (.iload_n 2, 1) := by decide +kernel
theorem dX3_readCondition_58 : decode cX3_readCondition 58 = .ok (.iload_n 3, 1) := by decide +kernel
theorem dX3_readCondition_59 : decode cX3_readCondition 59 = .ok (.if_icmp .eq 14, 3) := by decide +kernel
theorem dX3_readCondition_62 : decode cX3_readCondition 62 = .ok (.aload_n 0, 1) := by decide +kernel
theorem dX3_readCondition_63 : decode cX3_readCondition 63 = .ok (.aload_n 1, 1) := by decide +kernel
theorem dX3_readCondition_64 : decode cX3_readCondition 64 = .ok (.iload 4, 2) := by decide +kernel
theorem dX3_readCondition_66 : decode cX3_readCondition 66 = .ok (.iload_n 3, 1) := by decide +kernel
theorem dX3_readCondition_67 : decode cX3_readCondition 67 = .ok (.invokevirtual 106, 3) := by decide +kernel
theorem dX3_readCondition_70 : decode cX3_readCondition 70 = .ok (.ifCond .eq 7, 3) := by decide +kernel
theorem dX3_readCondition_73 : decode cX3_readCondition 73 = .ok (.iconst 1, 1) := by decide +kernel
theorem dX3_readCondition_74 : decode cX3_readCondition 74 = .ok (.goto 4, 3) := by decide +kernel
theorem dX3_readCondition_77 : decode cX3_readCondition 77 = .ok (.iconst 0, 1) := by decide +kernel
theorem dX3_readCondition_78 : decode cX3_readCondition 78 = .ok (.ireturn, 1) := by decide +kernel
def bX3_readCondition_6 (K6 : Int32 → Int32 → fb_M → Option (Int32 × fb_M)) (a0 : Nat) (a1 : Nat) (x2 : Int32) (x3 : Int32) (x4 : Int32) (x5 : Int32) (u : fb_M) : Option (Int32 × fb_M) :=
 (if x3 ≤ x5 then (if x2 = x3 then (some (1, u))
   else ((fX3_readAlternative u a0 a1 x4 x3).bind fun r67 => 
    (if r67.1 = 0 then (some (0, r67.2))
    else (some (1, r67.2)))))
  else ((fb_R u a0 0).bind fun q13 => fb_gd (q13 < fb_NT ∧ fb_sh q13 = (0, 2)) 
   (((fX0_isCutAt u q13 8 x5 x3).bind fun r21 => 
   (if r21 = 0 then (K6 x4 (x5 + 1) u)
   else ((fX3_readAlternative u a0 a1 x4 x5).bind fun r33 => 
    (if r33.1 = 0 then (some (0, r33.2))
    else (K6 (x5 + (Int32.ofNat (fb_len.getD 8 0))) (x5 + 1) r33.2))))))))
def gX3_readCondition_6 (a0 : Nat) (a1 : Nat) (x2 : Int32) (x3 : Int32) : Nat → Int32 → Int32 → fb_M → Option (Int32 × fb_M)
 | 0 => fun _ _ _ => none
 | fu + 1 => fun x4 x5 u => bX3_readCondition_6 (gX3_readCondition_6 a0 a1 x2 x3 fu) a0 a1 x2 x3 x4 x5 u
set_option maxRecDepth 100000 in
set_option maxHeartbeats 4000000 in
theorem tbX3_readCondition_6 {g : fb_G} {res : (Int32 × fb_M)} (a0 : Nat) (a1 : Nat) (x2 : Int32) (x3 : Int32) (x4 : Int32) (x5 : Int32) (u : fb_M) (K6 : Int32 → Int32 → fb_M → Option (Int32 × fb_M)) (ha0 : a0 < fb_NT ∧ fb_sh a0 = (3, 3)) (ha1 : a1 < fb_NT ∧ fb_sh a1 = (2, 12)) (hK6 : ∀ (x4 : Int32) (x5 : Int32) (u : fb_M) ,  K6 x4 x5 u = some res → fb_V g RX3 cX3_readCondition 6 (some .boolean) "readCondition" (fb_room 8 185 0 0) (fb_Qm g (some (.int res.1)) fb_NT res.2 0 0) 0 0 fb_NT u 6 [(0, .ref (fb_b g + a0)), (1, .ref (fb_b g + a1)), (2, .int x2), (3, .int x3), (4, .int x4), (5, .int x5)] []) (h : bX3_readCondition_6 K6 a0 a1 x2 x3 x4 x5 u = some res) : fb_V g RX3 cX3_readCondition 6 (some .boolean) "readCondition" (fb_room 8 185 0 0) (fb_Qm g (some (.int res.1)) fb_NT res.2 0 0) 0 0 fb_NT u 6 [(0, .ref (fb_b g + a0)), (1, .ref (fb_b g + a1)), (2, .int x2), (3, .int x3), (4, .int x4), (5, .int x5)] [] := by
  unfold bX3_readCondition_6 at h
  refine fb_iload (pc := 6) dX3_readCondition_6 5 rfl ?_
  refine fb_iload_n (pc := 8) dX3_readCondition_8 3 rfl ?_
  refine fb_icmp_ge (pc := 9) (tgt := 57) h dX3_readCondition_9 (by decide) (fun h => ?_) (fun h => ?_)
  · refine fb_iload_n (pc := 57) dX3_readCondition_57 2 rfl ?_
    refine fb_iload_n (pc := 58) dX3_readCondition_58 3 rfl ?_
    refine fb_icmp_eq (pc := 59) (tgt := 73) h dX3_readCondition_59 (by decide) (fun h => ?_) (fun h => ?_)
    · refine fb_iconst (pc := 73) (v := 1) dX3_readCondition_73 fb_ki_1 ?_
      refine fb_goto (pc := 74) (tgt := 78) dX3_readCondition_74 (by decide) ?_
      exact fb_zretM (pc := 78) rfl h dX3_readCondition_78
    · refine fb_aload_n (pc := 62) dX3_readCondition_62 0 rfl ?_
      refine fb_aload_n (pc := 63) dX3_readCondition_63 1 rfl ?_
      refine fb_iload (pc := 64) dX3_readCondition_64 4 rfl ?_
      refine fb_iload_n (pc := 66) dX3_readCondition_66 3 rfl ?_
      refine fb_bnE h (fun r67 h67 h => ?_)
      refine fb_cV0v (pc := 67) [.ref (fb_b g + a1), .int x4, .int x3] dX3_readCondition_67 (mX3_readAlternative g u a0 a1 x4 x3 ha0 ha1 h67) ymX3_readAlternative yiX3_readAlternative ha0.1 ha0.2 ylX3_106 rfl (Nat.le_of_ble_eq_true rfl) ⟨Nat.le_of_ble_eq_true rfl, Nat.le_of_ble_eq_true rfl⟩ ⟨Nat.le_of_ble_eq_true rfl, Nat.le_of_ble_eq_true rfl⟩ ?_
      refine fb_if_eq (pc := 70) (tgt := 77) h dX3_readCondition_70 (by decide) (fun h => ?_) (fun h => ?_)
      · refine fb_iconst (pc := 77) (v := 0) dX3_readCondition_77 fb_ki_0 ?_
        exact fb_zretM (pc := 78) rfl h dX3_readCondition_78
      · refine fb_iconst (pc := 73) (v := 1) dX3_readCondition_73 fb_ki_1 ?_
        refine fb_goto (pc := 74) (tgt := 78) dX3_readCondition_74 (by decide) ?_
        exact fb_zretM (pc := 78) rfl h dX3_readCondition_78
  · refine fb_aload_n (pc := 12) dX3_readCondition_12 0 rfl ?_
    refine fb_bnE h (fun q13 e13 h => fb_gdE h (fun s13 h => ?_))
    refine fb_getR (pc := 13) dX3_readCondition_13 lkX3_9 ha0.1 ha0.2 (by decide) e13 ?_
    refine fb_ldcS (pc := 16) (i := 8) (tx := "Or") dX3_readCondition_16 srX3_101 ?_
    refine fb_iload (pc := 18) dX3_readCondition_18 5 rfl ?_
    refine fb_iload_n (pc := 20) dX3_readCondition_20 3 rfl ?_
    refine fb_bnE h (fun r21 h21 h => ?_)
    refine fb_cV0v (pc := 21) [.ref (fb_K g 8), .int x5, .int x3] dX3_readCondition_21 (mX0_isCutAt g u q13 8 x5 x3 s13 (by decide : 8 < fb_nS) h21) ymX0_isCutAt yiX0_isCutAt s13.1 s13.2 ylX3_103 rfl (Nat.le_of_ble_eq_true rfl) ⟨Nat.le_of_ble_eq_true rfl, Nat.le_of_ble_eq_true rfl⟩ ⟨Nat.le_of_ble_eq_true rfl, Nat.le_of_ble_eq_true rfl⟩ ?_
    refine fb_if_eq (pc := 24) (tgt := 51) h dX3_readCondition_24 (by decide) (fun h => ?_) (fun h => ?_)
    · refine fb_iinc (pc := 51) (v := 1) (lv' := [(5, .int (x5 + 1)), (0, .ref (fb_b g + a0)), (1, .ref (fb_b g + a1)), (2, .int x2), (3, .int x3), (4, .int x4)]) dX3_readCondition_51 5 rfl fb_ki_1 (by decide) rfl ?_
      refine fb_goto (pc := 54) (tgt := 6) dX3_readCondition_54 (by decide) ?_
      exact fb_sub [1, 2, 3, 4, 5, 0] rfl (hK6 x4 (x5 + 1) u h)
    · refine fb_aload_n (pc := 27) dX3_readCondition_27 0 rfl ?_
      refine fb_aload_n (pc := 28) dX3_readCondition_28 1 rfl ?_
      refine fb_iload (pc := 29) dX3_readCondition_29 4 rfl ?_
      refine fb_iload (pc := 31) dX3_readCondition_31 5 rfl ?_
      refine fb_bnE h (fun r33 h33 h => ?_)
      refine fb_cV0v (pc := 33) [.ref (fb_b g + a1), .int x4, .int x5] dX3_readCondition_33 (mX3_readAlternative g u a0 a1 x4 x5 ha0 ha1 h33) ymX3_readAlternative yiX3_readAlternative ha0.1 ha0.2 ylX3_106 rfl (Nat.le_of_ble_eq_true rfl) ⟨Nat.le_of_ble_eq_true rfl, Nat.le_of_ble_eq_true rfl⟩ ⟨Nat.le_of_ble_eq_true rfl, Nat.le_of_ble_eq_true rfl⟩ ?_
      refine fb_if_ne (pc := 36) (tgt := 41) h dX3_readCondition_36 (by decide) (fun h => ?_) (fun h => ?_)
      · refine fb_iload (pc := 41) dX3_readCondition_41 5 rfl ?_
        refine fb_ldcS (pc := 43) (i := 8) (tx := "Or") dX3_readCondition_43 srX3_101 ?_
        refine fb_cT0v (pc := 45) [] dX3_readCondition_45 (m_strlen g 8 (by decide : 8 < fb_nS) r33.2) ymJ_length yiJ_length (by decide : 8 < fb_nS) ylX3_57 rfl (Nat.le_of_ble_eq_true rfl) ⟨Nat.le_of_ble_eq_true rfl, Nat.le_of_ble_eq_true rfl⟩ ⟨Nat.le_of_ble_eq_true rfl, Nat.le_of_ble_eq_true rfl⟩ ?_
        refine fb_iadd (pc := 48) dX3_readCondition_48 ?_
        refine fb_istore (pc := 49) (lv' := [(4, .int (x5 + (Int32.ofNat (fb_len.getD 8 0)))), (0, .ref (fb_b g + a0)), (1, .ref (fb_b g + a1)), (2, .int x2), (3, .int x3), (5, .int x5)]) dX3_readCondition_49 (by decide) rfl ?_
        refine fb_iinc (pc := 51) (v := 1) (lv' := [(5, .int (x5 + 1)), (4, .int (x5 + (Int32.ofNat (fb_len.getD 8 0)))), (0, .ref (fb_b g + a0)), (1, .ref (fb_b g + a1)), (2, .int x2), (3, .int x3)]) dX3_readCondition_51 5 rfl fb_ki_1 (by decide) rfl ?_
        refine fb_goto (pc := 54) (tgt := 6) dX3_readCondition_54 (by decide) ?_
        exact fb_sub [2, 3, 4, 5, 1, 0] rfl (hK6 (x5 + (Int32.ofNat (fb_len.getD 8 0))) (x5 + 1) r33.2 h)
      · refine fb_iconst (pc := 39) (v := 0) dX3_readCondition_39 fb_ki_0 ?_
        exact fb_zretM (pc := 40) rfl h dX3_readCondition_40

theorem tgX3_readCondition_6 {g : fb_G} {res : (Int32 × fb_M)} (a0 : Nat) (a1 : Nat) (x2 : Int32) (x3 : Int32) (ha0 : a0 < fb_NT ∧ fb_sh a0 = (3, 3)) (ha1 : a1 < fb_NT ∧ fb_sh a1 = (2, 12)) : ∀ (fu : Nat) (x4 : Int32) (x5 : Int32) (u : fb_M) ,  gX3_readCondition_6 a0 a1 x2 x3 fu x4 x5 u = some res → fb_V g RX3 cX3_readCondition 6 (some .boolean) "readCondition" (fb_room 8 185 0 0) (fb_Qm g (some (.int res.1)) fb_NT res.2 0 0) 0 0 fb_NT u 6 [(0, .ref (fb_b g + a0)), (1, .ref (fb_b g + a1)), (2, .int x2), (3, .int x3), (4, .int x4), (5, .int x5)] [] := by
  intro fu
  induction fu with
  | zero => intro x4 x5 u h; exact absurd h (by simp [gX3_readCondition_6])
  | succ fu ih => intro x4 x5 u h; exact tbX3_readCondition_6 a0 a1 x2 x3 x4 x5 u (gX3_readCondition_6 a0 a1 x2 x3 fu) ha0 ha1 ih h
def fX3_readCondition (u : fb_M) (a0 : Nat) (a1 : Nat) (x2 : Int32) (x3 : Int32) : Option (Int32 × fb_M) :=
 (gX3_readCondition_6 a0 a1 x2 x3 fb_F x2 x2 u)
set_option maxRecDepth 100000 in
set_option maxHeartbeats 4000000 in
theorem mX3_readCondition (g : fb_G) (u : fb_M) (a0 : Nat) (a1 : Nat) (x2 : Int32) (x3 : Int32) (ha0 : a0 < fb_NT ∧ fb_sh a0 = (3, 3)) (ha1 : a1 < fb_NT ∧ fb_sh a1 = (2, 12)) {res : (Int32 × fb_M)} (h : fX3_readCondition u a0 a1 x2 x3 = some res) : fb_Runs g 8 185 0 0 fb_NT fb_NT yX3_readCondition cX3_readCondition 6 (some .boolean) [.ref (fb_b g + a0), .ref (fb_b g + a1), .int x2, .int x3] u (some (.int res.1)) res.2 := by
  unfold fX3_readCondition at h
  refine fb_enter (by decide) (Nat.le_of_ble_eq_true rfl) ?_
  show fb_V g RX3 cX3_readCondition 6 (some .boolean) "readCondition" (fb_room 8 185 0 0) (fb_Qm g (some (.int res.1)) fb_NT res.2 0 0) 0 0 fb_NT u 0 [(0, .ref (fb_b g + a0)), (1, .ref (fb_b g + a1)), (2, .int x2), (3, .int x3)] []
  refine fb_iload_n (pc := 0) dX3_readCondition_0 2 rfl ?_
  refine fb_istore (pc := 1) (lv' := [(4, .int x2), (0, .ref (fb_b g + a0)), (1, .ref (fb_b g + a1)), (2, .int x2), (3, .int x3)]) dX3_readCondition_1 (by decide) rfl ?_
  refine fb_iload_n (pc := 3) dX3_readCondition_3 3 rfl ?_
  refine fb_istore (pc := 4) (lv' := [(5, .int x2), (4, .int x2), (0, .ref (fb_b g + a0)), (1, .ref (fb_b g + a1)), (2, .int x2), (3, .int x3)]) dX3_readCondition_4 (by decide) rfl ?_
  exact fb_sub [2, 3, 4, 5, 1, 0] rfl (tgX3_readCondition_6 a0 a1 x2 x3 ha0 ha1 fb_F x2 x2 u h)

theorem dX0_endsWith_0 : decode cX0_endsWith 0 = .ok (.iload_n 3, 1) := by decide +kernel
theorem dX0_endsWith_1 : decode cX0_endsWith 1 = .ok (.aload_n 1, 1) := by decide +kernel
theorem dX0_endsWith_2 : decode cX0_endsWith 2 = .ok (.invokevirtual 28, 3) := by decide +kernel
theorem dX0_endsWith_5 : decode cX0_endsWith 5 = .ok (.isub, 1) := by decide +kernel
theorem dX0_endsWith_6 : decode cX0_endsWith 6 = .ok (.istore 4, 2) := by decide +kernel
theorem dX0_endsWith_8 : decode cX0_endsWith 8 = .ok (.iload 4, 2) := by decide +kernel
theorem dX0_endsWith_10 : decode cX0_endsWith 10 = .ok (.iload_n 2, 1) := by decide +kernel
theorem dX0_endsWith_11 : decode cX0_endsWith 11 = .ok (.if_icmp .lt 18, 3) := by decide +kernel
theorem dX0_endsWith_14 : decode cX0_endsWith 14 = .ok (.aload_n 0, 1) := by decide +kernel
theorem dX0_endsWith_15 : decode cX0_endsWith 15 = .ok (.aload_n 1, 1) := by decide +kernel
theorem dX0_endsWith_16 : decode cX0_endsWith 16 = .ok (.iload 4, 2) := by decide +kernel
theorem dX0_endsWith_18 : decode cX0_endsWith 18 = .ok (.iload_n 3, 1) := by decide +kernel
theorem dX0_endsWith_19 : decode cX0_endsWith 19 = .ok (.invokevirtual 37, 3) := by decide +kernel
theorem dX0_endsWith_22 : decode cX0_endsWith 22 = .ok (.ifCond .eq 7, 3) := by decide +kernel
theorem dX0_endsWith_25 : decode cX0_endsWith 25 = .ok (.iconst 1, 1) := by decide +kernel
theorem dX0_endsWith_26 : decode cX0_endsWith 26 = .ok (.goto 4, 3) := by decide +kernel
theorem dX0_endsWith_29 : decode cX0_endsWith 29 = .ok (.iconst 0, 1) := by decide +kernel
theorem dX0_endsWith_30 : decode cX0_endsWith 30 = .ok (.ireturn, 1) := by decide +kernel
def fX0_endsWith (u : fb_M) (a0 : Nat) (w1 : Nat) (x2 : Int32) (x3 : Int32) : Option Int32 :=
 (if (x3 - (Int32.ofNat (fb_len.getD w1 0))) < x2 then (some 0)
  else ((fX0_startsWith u a0 w1 (x3 - (Int32.ofNat (fb_len.getD w1 0))) x3).bind fun r19 => 
   (if r19 = 0 then (some 0)
   else (some 1))))
set_option maxRecDepth 100000 in
set_option maxHeartbeats 4000000 in
theorem mX0_endsWith (g : fb_G) (u : fb_M) (a0 : Nat) (w1 : Nat) (x2 : Int32) (x3 : Int32) (ha0 : a0 < fb_NT ∧ fb_sh a0 = (0, 2)) (hw1 : w1 < fb_nS) {res : Int32} (h : fX0_endsWith u a0 w1 x2 x3 = some res) : fb_Runs g 5 109 0 0 fb_NT fb_NT yX0_endsWith cX0_endsWith 5 (some .boolean) [.ref (fb_b g + a0), .ref (fb_K g w1), .int x2, .int x3] u (some (.int res)) u := by
  unfold fX0_endsWith at h
  refine fb_enter (by decide) (Nat.le_of_ble_eq_true rfl) ?_
  show fb_V g RX0 cX0_endsWith 5 (some .boolean) "endsWith" (fb_room 5 109 0 0) (fb_Qm g (some (.int res)) fb_NT u 0 0) 0 0 fb_NT u 0 [(0, .ref (fb_b g + a0)), (1, .ref (fb_K g w1)), (2, .int x2), (3, .int x3)] []
  refine fb_iload_n (pc := 0) dX0_endsWith_0 3 rfl ?_
  refine fb_aload_n (pc := 1) dX0_endsWith_1 1 rfl ?_
  refine fb_cT0v (pc := 2) [] dX0_endsWith_2 (m_strlen g w1 hw1 u) ymJ_length yiJ_length hw1 ylX0_28 rfl (Nat.le_of_ble_eq_true rfl) ⟨Nat.le_of_ble_eq_true rfl, Nat.le_of_ble_eq_true rfl⟩ ⟨Nat.le_of_ble_eq_true rfl, Nat.le_of_ble_eq_true rfl⟩ ?_
  refine fb_isub (pc := 5) dX0_endsWith_5 ?_
  refine fb_istore (pc := 6) (lv' := [(4, .int (x3 - (Int32.ofNat (fb_len.getD w1 0)))), (0, .ref (fb_b g + a0)), (1, .ref (fb_K g w1)), (2, .int x2), (3, .int x3)]) dX0_endsWith_6 (by decide) rfl ?_
  refine fb_iload (pc := 8) dX0_endsWith_8 0 rfl ?_
  refine fb_iload_n (pc := 10) dX0_endsWith_10 3 rfl ?_
  refine fb_icmp_lt (pc := 11) (tgt := 29) h dX0_endsWith_11 (by decide) (fun h => ?_) (fun h => ?_)
  · refine fb_iconst (pc := 29) (v := 0) dX0_endsWith_29 fb_ki_0 ?_
    exact fb_zretR (pc := 30) rfl h dX0_endsWith_30
  · refine fb_aload_n (pc := 14) dX0_endsWith_14 1 rfl ?_
    refine fb_aload_n (pc := 15) dX0_endsWith_15 2 rfl ?_
    refine fb_iload (pc := 16) dX0_endsWith_16 0 rfl ?_
    refine fb_iload_n (pc := 18) dX0_endsWith_18 4 rfl ?_
    refine fb_bnE h (fun r19 h19 h => ?_)
    refine fb_cV0v (pc := 19) [.ref (fb_K g w1), .int (x3 - (Int32.ofNat (fb_len.getD w1 0))), .int x3] dX0_endsWith_19 (mX0_startsWith g u a0 w1 (x3 - (Int32.ofNat (fb_len.getD w1 0))) x3 ha0 hw1 h19) ymX0_startsWith yiX0_startsWith ha0.1 ha0.2 ylX0_37 rfl (Nat.le_of_ble_eq_true rfl) ⟨Nat.le_of_ble_eq_true rfl, Nat.le_of_ble_eq_true rfl⟩ ⟨Nat.le_of_ble_eq_true rfl, Nat.le_of_ble_eq_true rfl⟩ ?_
    refine fb_if_eq (pc := 22) (tgt := 29) h dX0_endsWith_22 (by decide) (fun h => ?_) (fun h => ?_)
    · refine fb_iconst (pc := 29) (v := 0) dX0_endsWith_29 fb_ki_0 ?_
      exact fb_zretR (pc := 30) rfl h dX0_endsWith_30
    · refine fb_iconst (pc := 25) (v := 1) dX0_endsWith_25 fb_ki_1 ?_
      refine fb_goto (pc := 26) (tgt := 30) dX0_endsWith_26 (by decide) ?_
      exact fb_zretR (pc := 30) rfl h dX0_endsWith_30

theorem dX3_endsWithDirection_0 : decode cX3_endsWithDirection 0 = .ok (.aload_n 0, 1) := by decide +kernel
theorem dX3_endsWithDirection_1 : decode cX3_endsWithDirection 1 = .ok (.getfield 9, 3) := by decide +kernel
theorem dX3_endsWithDirection_4 : decode cX3_endsWithDirection 4 = .ok (.ldc 142, 2) := by decide +kernel
theorem dX3_endsWithDirection_6 : decode cX3_endsWithDirection 6 = .ok (.iload_n 1, 1) := by decide +kernel
theorem dX3_endsWithDirection_7 : decode cX3_endsWithDirection 7 = .ok (.iload_n 2, 1) := by decide +kernel
theorem dX3_endsWithDirection_8 : decode cX3_endsWithDirection 8 = .ok (.invokevirtual 144, 3) := by decide +kernel
theorem dX3_endsWithDirection_11 : decode cX3_endsWithDirection 11 = .ok (.ifCond .ne 17, 3) := by decide +kernel
theorem dX3_endsWithDirection_14 : decode cX3_endsWithDirection 14 = .ok (.aload_n 0, 1) := by decide +kernel
theorem dX3_endsWithDirection_15 : decode cX3_endsWithDirection 15 = .ok (.getfield 9, 3) := by decide +kernel
theorem dX3_endsWithDirection_18 : decode cX3_endsWithDirection 18 = .ok (.ldc 147, 2) := by decide +kernel
theorem dX3_endsWithDirection_20 : decode cX3_endsWithDirection 20 = .ok (.iload_n 1, 1) := by decide +kernel
theorem dX3_endsWithDirection_21 : decode cX3_endsWithDirection 21 = .ok (.iload_n 2, 1) := by decide +kernel
theorem dX3_endsWithDirection_22 : decode cX3_endsWithDirection 22 = .ok (.invokevirtual 144, 3) := by decide +kernel
theorem dX3_endsWithDirection_25 : decode cX3_endsWithDirection 25 = .ok (.ifCond .eq 7, 3) := by decide +kernel
theorem dX3_endsWithDirection_28 : decode cX3_endsWithDirection 28 = .ok (.iconst 1, 1) := by decide +kernel
theorem dX3_endsWithDirection_29 : decode cX3_endsWithDirection 29 = .ok (.goto 4, 3) := by decide +kernel
theorem dX3_endsWithDirection_32 : decode cX3_endsWithDirection 32 = .ok (.iconst 0, 1) := by decide +kernel
theorem dX3_endsWithDirection_33 : decode cX3_endsWithDirection 33 = .ok (.ireturn, 1) := by decide +kernel
def fX3_endsWithDirection (u : fb_M) (a0 : Nat) (x1 : Int32) (x2 : Int32) : Option Int32 :=
 ((fb_R u a0 0).bind fun q1 => fb_gd (q1 < fb_NT ∧ fb_sh q1 = (0, 2)) 
  (((fX0_endsWith u q1 23 x1 x2).bind fun r8 => 
  (if r8 = 0 then ((fb_R u a0 0).bind fun q15 => fb_gd (q15 < fb_NT ∧ fb_sh q15 = (0, 2)) 
   (((fX0_endsWith u q15 24 x1 x2).bind fun r22 => 
   (if r22 = 0 then (some 0)
   else (some 1)))))
  else (some 1)))))
set_option maxRecDepth 100000 in
set_option maxHeartbeats 4000000 in
theorem mX3_endsWithDirection (g : fb_G) (u : fb_M) (a0 : Nat) (x1 : Int32) (x2 : Int32) (ha0 : a0 < fb_NT ∧ fb_sh a0 = (3, 3)) {res : Int32} (h : fX3_endsWithDirection u a0 x1 x2 = some res) : fb_Runs g 6 133 0 0 fb_NT fb_NT yX3_endsWithDirection cX3_endsWithDirection 3 (some .boolean) [.ref (fb_b g + a0), .int x1, .int x2] u (some (.int res)) u := by
  unfold fX3_endsWithDirection at h
  refine fb_enter (by decide) (Nat.le_of_ble_eq_true rfl) ?_
  show fb_V g RX3 cX3_endsWithDirection 3 (some .boolean) "endsWithDirection" (fb_room 6 133 0 0) (fb_Qm g (some (.int res)) fb_NT u 0 0) 0 0 fb_NT u 0 [(0, .ref (fb_b g + a0)), (1, .int x1), (2, .int x2)] []
  refine fb_aload_n (pc := 0) dX3_endsWithDirection_0 0 rfl ?_
  refine fb_bnE h (fun q1 e1 h => fb_gdE h (fun s1 h => ?_))
  refine fb_getR (pc := 1) dX3_endsWithDirection_1 lkX3_9 ha0.1 ha0.2 (by decide) e1 ?_
  refine fb_ldcS (pc := 4) (i := 23) (tx := "Asc") dX3_endsWithDirection_4 srX3_142 ?_
  refine fb_iload_n (pc := 6) dX3_endsWithDirection_6 1 rfl ?_
  refine fb_iload_n (pc := 7) dX3_endsWithDirection_7 2 rfl ?_
  refine fb_bnE h (fun r8 h8 h => ?_)
  refine fb_cV0v (pc := 8) [.ref (fb_K g 23), .int x1, .int x2] dX3_endsWithDirection_8 (mX0_endsWith g u q1 23 x1 x2 s1 (by decide : 23 < fb_nS) h8) ymX0_endsWith yiX0_endsWith s1.1 s1.2 ylX3_144 rfl (Nat.le_of_ble_eq_true rfl) ⟨Nat.le_of_ble_eq_true rfl, Nat.le_of_ble_eq_true rfl⟩ ⟨Nat.le_of_ble_eq_true rfl, Nat.le_of_ble_eq_true rfl⟩ ?_
  refine fb_if_ne (pc := 11) (tgt := 28) h dX3_endsWithDirection_11 (by decide) (fun h => ?_) (fun h => ?_)
  · refine fb_iconst (pc := 28) (v := 1) dX3_endsWithDirection_28 fb_ki_1 ?_
    refine fb_goto (pc := 29) (tgt := 33) dX3_endsWithDirection_29 (by decide) ?_
    exact fb_zretR (pc := 33) rfl h dX3_endsWithDirection_33
  · refine fb_aload_n (pc := 14) dX3_endsWithDirection_14 0 rfl ?_
    refine fb_bnE h (fun q15 e15 h => fb_gdE h (fun s15 h => ?_))
    refine fb_getR (pc := 15) dX3_endsWithDirection_15 lkX3_9 ha0.1 ha0.2 (by decide) e15 ?_
    refine fb_ldcS (pc := 18) (i := 24) (tx := "Desc") dX3_endsWithDirection_18 srX3_147 ?_
    refine fb_iload_n (pc := 20) dX3_endsWithDirection_20 1 rfl ?_
    refine fb_iload_n (pc := 21) dX3_endsWithDirection_21 2 rfl ?_
    refine fb_bnE h (fun r22 h22 h => ?_)
    refine fb_cV0v (pc := 22) [.ref (fb_K g 24), .int x1, .int x2] dX3_endsWithDirection_22 (mX0_endsWith g u q15 24 x1 x2 s15 (by decide : 24 < fb_nS) h22) ymX0_endsWith yiX0_endsWith s15.1 s15.2 ylX3_144 rfl (Nat.le_of_ble_eq_true rfl) ⟨Nat.le_of_ble_eq_true rfl, Nat.le_of_ble_eq_true rfl⟩ ⟨Nat.le_of_ble_eq_true rfl, Nat.le_of_ble_eq_true rfl⟩ ?_
    refine fb_if_eq (pc := 25) (tgt := 32) h dX3_endsWithDirection_25 (by decide) (fun h => ?_) (fun h => ?_)
    · refine fb_iconst (pc := 32) (v := 0) dX3_endsWithDirection_32 fb_ki_0 ?_
      exact fb_zretR (pc := 33) rfl h dX3_endsWithDirection_33
    · refine fb_iconst (pc := 28) (v := 1) dX3_endsWithDirection_28 fb_ki_1 ?_
      refine fb_goto (pc := 29) (tgt := 33) dX3_endsWithDirection_29 (by decide) ?_
      exact fb_zretR (pc := 33) rfl h dX3_endsWithDirection_33

theorem dX2_addOrder_0 : decode cX2_addOrder 0 = .ok (.aload_n 0, 1) := by decide +kernel
theorem dX2_addOrder_1 : decode cX2_addOrder 1 = .ok (.getfield 48, 3) := by decide +kernel
theorem dX2_addOrder_4 : decode cX2_addOrder 4 = .ok (.iconst 3, 1) := by decide +kernel
theorem dX2_addOrder_5 : decode cX2_addOrder 5 = .ok (.if_icmp .ge 23, 3) := by decide +kernel
theorem dX2_addOrder_8 : decode cX2_addOrder 8 = .ok (.aload_n 0, 1) := by decide +kernel
theorem dX2_addOrder_9 : decode cX2_addOrder 9 = .ok (.getfield 21, 3) := by decide +kernel
theorem dX2_addOrder_12 : decode cX2_addOrder 12 = .ok (.aload_n 0, 1) := by decide +kernel
theorem dX2_addOrder_13 : decode cX2_addOrder 13 = .ok (.getfield 48, 3) := by decide +kernel
theorem dX2_addOrder_16 : decode cX2_addOrder 16 = .ok (.iload_n 1, 1) := by decide +kernel
theorem dX2_addOrder_17 : decode cX2_addOrder 17 = .ok (.iastore, 1) := by decide +kernel
theorem dX2_addOrder_18 : decode cX2_addOrder 18 = .ok (.aload_n 0, 1) := by decide +kernel
theorem dX2_addOrder_19 : decode cX2_addOrder 19 = .ok (.getfield 24, 3) := by decide +kernel
theorem dX2_addOrder_22 : decode cX2_addOrder 22 = .ok (.aload_n 0, 1) := by decide +kernel
theorem dX2_addOrder_23 : decode cX2_addOrder 23 = .ok (.getfield 48, 3) := by decide +kernel
theorem dX2_addOrder_26 : decode cX2_addOrder 26 = .ok (.iload_n 2, 1) := by decide +kernel
theorem dX2_addOrder_27 : decode cX2_addOrder 27 = .ok (.bastore, 1) := by decide +kernel
theorem dX2_addOrder_28 : decode cX2_addOrder 28 = .ok (.aload_n 0, 1) := by decide +kernel
theorem dX2_addOrder_29 : decode cX2_addOrder 29 = .ok (.dup, 1) := by decide +kernel
theorem dX2_addOrder_30 : decode cX2_addOrder 30 = .ok (.getfield 48, 3) := by decide +kernel
theorem dX2_addOrder_33 : decode cX2_addOrder 33 = .ok (.iconst 1, 1) := by decide +kernel
theorem dX2_addOrder_34 : decode cX2_addOrder 34 = .ok (.iadd, 1) := by decide +kernel
theorem dX2_addOrder_35 : decode cX2_addOrder 35 = .ok (.putfield 48, 3) := by decide +kernel
theorem dX2_addOrder_38 : decode cX2_addOrder 38 = .ok (.return_, 1) := by decide +kernel
def fX2_addOrder (u : fb_M) (a0 : Nat) (x1 : Int32) (x2 : Int32) : Option fb_M :=
 (if 3 ≤ (fb_I u a0 6) then (some (fb_wI u a0 6 ((fb_I u a0 6) + 1)))
  else ((fb_R u a0 10).bind fun q9 => fb_gd (q9 < fb_NT ∧ (fb_sh q9).1 = 100) 
   ((fb_gd (¬ (fb_I u a0 6 < 0 ∨ (fb_sh q9).2 ≤ (fb_I u a0 6).toNatClampNeg)) 
   ((fb_R (fb_wI u q9 (fb_I u a0 6).toNatClampNeg x1) a0 11).bind fun q19 => fb_gd (q19 < fb_NT ∧ (fb_sh q19).1 = 102) 
   ((fb_gd (¬ (fb_I (fb_wI u q9 (fb_I u a0 6).toNatClampNeg x1) a0 6 < 0 ∨ (fb_sh q19).2 ≤ (fb_I (fb_wI u q9 (fb_I u a0 6).toNatClampNeg x1) a0 6).toNatClampNeg)) 
   (some (fb_wI (fb_wI (fb_wI u q9 (fb_I u a0 6).toNatClampNeg x1) q19 (fb_I (fb_wI u q9 (fb_I u a0 6).toNatClampNeg x1) a0 6).toNatClampNeg (vp_nar .boolean x2)) a0 6 ((fb_I (fb_wI (fb_wI u q9 (fb_I u a0 6).toNatClampNeg x1) q19 (fb_I (fb_wI u q9 (fb_I u a0 6).toNatClampNeg x1) a0 6).toNatClampNeg (vp_nar .boolean x2)) a0 6) + 1))))))))))
set_option maxRecDepth 100000 in
set_option maxHeartbeats 4000000 in
theorem mX2_addOrder (g : fb_G) (u : fb_M) (a0 : Nat) (x1 : Int32) (x2 : Int32) (ha0 : a0 < fb_NT ∧ fb_sh a0 = (2, 12)) {res : fb_M} (h : fX2_addOrder u a0 x1 x2 = some res) : fb_Runs g 0 0 0 0 fb_NT fb_NT yX2_addOrder cX2_addOrder 3 none [.ref (fb_b g + a0), .int x1, .int x2] u none res := by
  unfold fX2_addOrder at h
  refine fb_enter (by decide) (Nat.le_of_ble_eq_true rfl) ?_
  show fb_V g RX2 cX2_addOrder 3 none "addOrder" (fb_room 0 0 0 0) (fb_Qm g none fb_NT res 0 0) 0 0 fb_NT u 0 [(0, .ref (fb_b g + a0)), (1, .int x1), (2, .int x2)] []
  refine fb_aload_n (pc := 0) dX2_addOrder_0 0 rfl ?_
  refine fb_getI (pc := 1) dX2_addOrder_1 lkX2_48 ha0.1 ha0.2 rfl ?_
  refine fb_iconst (pc := 4) (v := 3) dX2_addOrder_4 fb_ki_3 ?_
  refine fb_icmp_ge (pc := 5) (tgt := 28) h dX2_addOrder_5 (by decide) (fun h => ?_) (fun h => ?_)
  · refine fb_aload_n (pc := 28) dX2_addOrder_28 0 rfl ?_
    refine fb_dup (pc := 29) dX2_addOrder_29 rfl ?_
    refine fb_getI (pc := 30) dX2_addOrder_30 lkX2_48 ha0.1 ha0.2 rfl ?_
    refine fb_iconst (pc := 33) (v := 1) dX2_addOrder_33 fb_ki_1 ?_
    refine fb_iadd (pc := 34) dX2_addOrder_34 ?_
    refine fb_putI (pc := 35) dX2_addOrder_35 lkX2_48 ly_2_6 ha0.1 ha0.2 rfl rfl rfl ?_
    exact fb_vretM (pc := 38) h dX2_addOrder_38
  · refine fb_aload_n (pc := 8) dX2_addOrder_8 0 rfl ?_
    refine fb_bnE h (fun q9 e9 h => fb_gdE h (fun s9 h => ?_))
    refine fb_getR (pc := 9) dX2_addOrder_9 lkX2_21 ha0.1 ha0.2 (by decide) e9 ?_
    refine fb_aload_n (pc := 12) dX2_addOrder_12 0 rfl ?_
    refine fb_getI (pc := 13) dX2_addOrder_13 lkX2_48 ha0.1 ha0.2 rfl ?_
    refine fb_iload_n (pc := 16) dX2_addOrder_16 1 rfl ?_
    refine fb_gdE h (fun i17 h => ?_)
    refine fb_iast (pc := 17) dX2_addOrder_17 s9.1 (fb_eta s9.2) i17 ?_
    refine fb_aload_n (pc := 18) dX2_addOrder_18 0 rfl ?_
    refine fb_bnE h (fun q19 e19 h => fb_gdE h (fun s19 h => ?_))
    refine fb_getR (pc := 19) dX2_addOrder_19 lkX2_24 ha0.1 ha0.2 (by decide) e19 ?_
    refine fb_aload_n (pc := 22) dX2_addOrder_22 0 rfl ?_
    refine fb_getI (pc := 23) dX2_addOrder_23 lkX2_48 ha0.1 ha0.2 rfl ?_
    refine fb_iload_n (pc := 26) dX2_addOrder_26 2 rfl ?_
    refine fb_gdE h (fun i27 h => ?_)
    refine fb_zast (pc := 27) dX2_addOrder_27 s19.1 (fb_eta s19.2) i27 ?_
    refine fb_aload_n (pc := 28) dX2_addOrder_28 0 rfl ?_
    refine fb_dup (pc := 29) dX2_addOrder_29 rfl ?_
    refine fb_getI (pc := 30) dX2_addOrder_30 lkX2_48 ha0.1 ha0.2 rfl ?_
    refine fb_iconst (pc := 33) (v := 1) dX2_addOrder_33 fb_ki_1 ?_
    refine fb_iadd (pc := 34) dX2_addOrder_34 ?_
    refine fb_putI (pc := 35) dX2_addOrder_35 lkX2_48 ly_2_6 ha0.1 ha0.2 rfl rfl rfl ?_
    exact fb_vretM (pc := 38) h dX2_addOrder_38

theorem dX3_readOrder_0 : decode cX3_readOrder 0 = .ok (.aload_n 0, 1) := by decide +kernel
theorem dX3_readOrder_1 : decode cX3_readOrder 1 = .ok (.getfield 9, 3) := by decide +kernel
theorem dX3_readOrder_4 : decode cX3_readOrder 4 = .ok (.ldc 147, 2) := by decide +kernel
theorem dX3_readOrder_6 : decode cX3_readOrder 6 = .ok (.iload_n 2, 1) := by decide +kernel
theorem dX3_readOrder_7 : decode cX3_readOrder 7 = .ok (.iload_n 3, 1) := by decide +kernel
theorem dX3_readOrder_8 : decode cX3_readOrder 8 = .ok (.invokevirtual 144, 3) := by decide +kernel
theorem dX3_readOrder_11 : decode cX3_readOrder 11 = .ok (.istore 4, 2) := by decide +kernel
theorem dX3_readOrder_13 : decode cX3_readOrder 13 = .ok (.iload_n 3, 1) := by decide +kernel
theorem dX3_readOrder_14 : decode cX3_readOrder 14 = .ok (.istore 5, 2) := by decide +kernel
theorem dX3_readOrder_16 : decode cX3_readOrder 16 = .ok (.iload 4, 2) := by decide +kernel
theorem dX3_readOrder_18 : decode cX3_readOrder 18 = .ok (.ifCond .eq 16, 3) := by decide +kernel
theorem dX3_readOrder_21 : decode cX3_readOrder 21 = .ok (.iload 5, 2) := by decide +kernel
theorem dX3_readOrder_23 : decode cX3_readOrder 23 = .ok (.ldc 147, 2) := by decide +kernel
theorem dX3_readOrder_25 : decode cX3_readOrder 25 = .ok (.invokevirtual 57, 3) := by decide +kernel
theorem dX3_readOrder_28 : decode cX3_readOrder 28 = .ok (.isub, 1) := by decide +kernel
theorem dX3_readOrder_29 : decode cX3_readOrder 29 = .ok (.istore 5, 2) := by decide +kernel
theorem dX3_readOrder_31 : decode cX3_readOrder 31 = .ok (.goto 27, 3) := by decide +kernel
theorem dX3_readOrder_34 : decode cX3_readOrder 34 = .ok (.aload_n 0, 1) := by decide +kernel
theorem dX3_readOrder_35 : decode cX3_readOrder 35 = .ok (.getfield 9, 3) := by decide +kernel
theorem dX3_readOrder_38 : decode cX3_readOrder 38 = .ok (.ldc 142, 2) := by decide +kernel
theorem dX3_readOrder_40 : decode cX3_readOrder 40 = .ok (.iload_n 2, 1) := by decide +kernel
theorem dX3_readOrder_41 : decode cX3_readOrder 41 = .ok (.iload_n 3, 1) := by decide +kernel
theorem dX3_readOrder_42 : decode cX3_readOrder 42 = .ok (.invokevirtual 144, 3) := by decide +kernel
theorem dX3_readOrder_45 : decode cX3_readOrder 45 = .ok (.ifCond .eq 13, 3) := by decide +kernel
theorem dX3_readOrder_48 : decode cX3_readOrder 48 = .ok (.iload 5, 2) := by decide +kernel
theorem dX3_readOrder_50 : decode cX3_readOrder 50 = .ok (.ldc 142, 2) := by decide +kernel
theorem dX3_readOrder_52 : decode cX3_readOrder 52 = .ok (.invokevirtual 57, 3) := by decide +kernel
theorem dX3_readOrder_55 : decode cX3_readOrder 55 = .ok (.isub, 1) := by decide +kernel
theorem dX3_readOrder_56 : decode cX3_readOrder 56 = .ok (.istore 5, 2) := by decide +kernel
theorem dX3_readOrder_58 : decode cX3_readOrder 58 = .ok (.aload_n 0, 1) := by decide +kernel
theorem dX3_readOrder_59 : decode cX3_readOrder 59 = .ok (.getfield 15, 3) := by decide +kernel
theorem dX3_readOrder_62 : decode cX3_readOrder 62 = .ok (.aload_n 0, 1) := by decide +kernel
theorem dX3_readOrder_63 : decode cX3_readOrder 63 = .ok (.getfield 9, 3) := by decide +kernel
theorem dX3_readOrder_66 : decode cX3_readOrder 66 = .ok (.iload_n 2, 1) := by decide +kernel
theorem dX3_readOrder_67 : decode cX3_readOrder 67 = .ok (.iload 5, 2) := by decide +kernel
theorem dX3_readOrder_69 : decode cX3_readOrder 69 = .ok (.invokevirtual 123, 3) := by decide +kernel
theorem dX3_readOrder_72 : decode cX3_readOrder 72 = .ok (.istore 6, 2) := by decide +kernel
theorem dX3_readOrder_74 : decode cX3_readOrder 74 = .ok (.iload 6, 2) := by decide +kernel
theorem dX3_readOrder_76 : decode cX3_readOrder 76 = .ok (.ifCond .ge 5, 3) := by decide +kernel
theorem dX3_readOrder_79 : decode cX3_readOrder 79 = .ok (.iconst 0, 1) := by decide +kernel
theorem dX3_readOrder_80 : decode cX3_readOrder 80 = .ok (.ireturn, 1) := by decide +kernel
theorem dX3_readOrder_81 : decode cX3_readOrder 81 = .ok (.aload_n 1, 1) := by decide +kernel
theorem dX3_readOrder_82 : decode cX3_readOrder 82 = .ok (.iload 6, 2) := by decide +kernel
theorem dX3_readOrder_84 : decode cX3_readOrder 84 = .ok (.iload 4, 2) := by decide +kernel
theorem dX3_readOrder_86 : decode cX3_readOrder 86 = .ok (.invokevirtual 149, 3) := by decide +kernel
theorem dX3_readOrder_89 : decode cX3_readOrder 89 = .ok (.iconst 1, 1) := by decide +kernel
theorem dX3_readOrder_90 : decode cX3_readOrder 90 = .ok (.ireturn, 1) := by decide +kernel
def jX3_readOrder_58 (a0 : Nat) (a1 : Nat) (x2 : Int32) (x4 : Int32) (x5 : Int32) (u : fb_M) : Option (Int32 × fb_M) :=
 ((fb_R u a0 1).bind fun q59 => fb_gd (q59 < fb_NT ∧ fb_sh q59 = (6, 2)) 
  (((fb_R u a0 0).bind fun q63 => fb_gd (q63 < fb_NT ∧ fb_sh q63 = (0, 2)) 
  (((fX6_named u q59 q63 x2 x5).bind fun r69 => 
  (if 0 ≤ r69 then ((fX2_addOrder u a1 r69 x4).bind fun r86 => 
   (some (1, r86)))
  else (some (0, u))))))))
set_option maxRecDepth 100000 in
set_option maxHeartbeats 4000000 in
theorem tjX3_readOrder_58 {g : fb_G} {res : (Int32 × fb_M)} (a0 : Nat) (a1 : Nat) (x2 : Int32) (x4 : Int32) (x5 : Int32) (u : fb_M) (ha0 : a0 < fb_NT ∧ fb_sh a0 = (3, 3)) (ha1 : a1 < fb_NT ∧ fb_sh a1 = (2, 12)) (h : jX3_readOrder_58 a0 a1 x2 x4 x5 u = some res) : fb_V g RX3 cX3_readOrder 7 (some .boolean) "readOrder" (fb_room 6 133 0 0) (fb_Qm g (some (.int res.1)) fb_NT res.2 0 0) 0 0 fb_NT u 58 [(0, .ref (fb_b g + a0)), (1, .ref (fb_b g + a1)), (2, .int x2), (4, .int x4), (5, .int x5)] [] := by
  unfold jX3_readOrder_58 at h
  refine fb_aload_n (pc := 58) dX3_readOrder_58 0 rfl ?_
  refine fb_bnE h (fun q59 e59 h => fb_gdE h (fun s59 h => ?_))
  refine fb_getR (pc := 59) dX3_readOrder_59 lkX3_15 ha0.1 ha0.2 (by decide) e59 ?_
  refine fb_aload_n (pc := 62) dX3_readOrder_62 0 rfl ?_
  refine fb_bnE h (fun q63 e63 h => fb_gdE h (fun s63 h => ?_))
  refine fb_getR (pc := 63) dX3_readOrder_63 lkX3_9 ha0.1 ha0.2 (by decide) e63 ?_
  refine fb_iload_n (pc := 66) dX3_readOrder_66 2 rfl ?_
  refine fb_iload (pc := 67) dX3_readOrder_67 4 rfl ?_
  refine fb_bnE h (fun r69 h69 h => ?_)
  refine fb_cV0v (pc := 69) [.ref (fb_b g + q63), .int x2, .int x5] dX3_readOrder_69 (mX6_named g u q59 q63 x2 x5 s59 s63 h69) ymX6_named yiX6_named s59.1 s59.2 ylX3_123 rfl (Nat.le_of_ble_eq_true rfl) ⟨Nat.le_of_ble_eq_true rfl, Nat.le_of_ble_eq_true rfl⟩ ⟨Nat.le_of_ble_eq_true rfl, Nat.le_of_ble_eq_true rfl⟩ ?_
  refine fb_istore (pc := 72) (lv' := [(6, .int r69), (0, .ref (fb_b g + a0)), (1, .ref (fb_b g + a1)), (2, .int x2), (4, .int x4), (5, .int x5)]) dX3_readOrder_72 (by decide) rfl ?_
  refine fb_iload (pc := 74) dX3_readOrder_74 0 rfl ?_
  refine fb_if_ge (pc := 76) (tgt := 81) h dX3_readOrder_76 (by decide) (fun h => ?_) (fun h => ?_)
  · refine fb_aload_n (pc := 81) dX3_readOrder_81 2 rfl ?_
    refine fb_iload (pc := 82) dX3_readOrder_82 0 rfl ?_
    refine fb_iload (pc := 84) dX3_readOrder_84 4 rfl ?_
    refine fb_bnE h (fun r86 h86 h => ?_)
    refine fb_cV0n (pc := 86) [.int r69, .int x4] dX3_readOrder_86 (mX2_addOrder g u a1 r69 x4 ha1 h86) ymX2_addOrder yiX2_addOrder ha1.1 ha1.2 ylX3_149 rfl (Nat.le_of_ble_eq_true rfl) ⟨Nat.le_of_ble_eq_true rfl, Nat.le_of_ble_eq_true rfl⟩ ⟨Nat.le_of_ble_eq_true rfl, Nat.le_of_ble_eq_true rfl⟩ ?_
    refine fb_iconst (pc := 89) (v := 1) dX3_readOrder_89 fb_ki_1 ?_
    exact fb_zretM (pc := 90) rfl h dX3_readOrder_90
  · refine fb_iconst (pc := 79) (v := 0) dX3_readOrder_79 fb_ki_0 ?_
    exact fb_zretM (pc := 80) rfl h dX3_readOrder_80

def fX3_readOrder (u : fb_M) (a0 : Nat) (a1 : Nat) (x2 : Int32) (x3 : Int32) : Option (Int32 × fb_M) :=
 ((fb_R u a0 0).bind fun q1 => fb_gd (q1 < fb_NT ∧ fb_sh q1 = (0, 2)) 
  (((fX0_endsWith u q1 24 x2 x3).bind fun r8 => 
  (if r8 = 0 then ((fb_R u a0 0).bind fun q35 => fb_gd (q35 < fb_NT ∧ fb_sh q35 = (0, 2)) 
   (((fX0_endsWith u q35 23 x2 x3).bind fun r42 => 
   (if r42 = 0 then (jX3_readOrder_58 a0 a1 x2 r8 x3 u)
   else (jX3_readOrder_58 a0 a1 x2 r8 (x3 - (Int32.ofNat (fb_len.getD 23 0))) u)))))
  else (jX3_readOrder_58 a0 a1 x2 r8 (x3 - (Int32.ofNat (fb_len.getD 24 0))) u)))))
set_option maxRecDepth 100000 in
set_option maxHeartbeats 4000000 in
theorem mX3_readOrder (g : fb_G) (u : fb_M) (a0 : Nat) (a1 : Nat) (x2 : Int32) (x3 : Int32) (ha0 : a0 < fb_NT ∧ fb_sh a0 = (3, 3)) (ha1 : a1 < fb_NT ∧ fb_sh a1 = (2, 12)) {res : (Int32 × fb_M)} (h : fX3_readOrder u a0 a1 x2 x3 = some res) : fb_Runs g 6 133 0 0 fb_NT fb_NT yX3_readOrder cX3_readOrder 7 (some .boolean) [.ref (fb_b g + a0), .ref (fb_b g + a1), .int x2, .int x3] u (some (.int res.1)) res.2 := by
  unfold fX3_readOrder at h
  refine fb_enter (by decide) (Nat.le_of_ble_eq_true rfl) ?_
  show fb_V g RX3 cX3_readOrder 7 (some .boolean) "readOrder" (fb_room 6 133 0 0) (fb_Qm g (some (.int res.1)) fb_NT res.2 0 0) 0 0 fb_NT u 0 [(0, .ref (fb_b g + a0)), (1, .ref (fb_b g + a1)), (2, .int x2), (3, .int x3)] []
  refine fb_aload_n (pc := 0) dX3_readOrder_0 0 rfl ?_
  refine fb_bnE h (fun q1 e1 h => fb_gdE h (fun s1 h => ?_))
  refine fb_getR (pc := 1) dX3_readOrder_1 lkX3_9 ha0.1 ha0.2 (by decide) e1 ?_
  refine fb_ldcS (pc := 4) (i := 24) (tx := "Desc") dX3_readOrder_4 srX3_147 ?_
  refine fb_iload_n (pc := 6) dX3_readOrder_6 2 rfl ?_
  refine fb_iload_n (pc := 7) dX3_readOrder_7 3 rfl ?_
  refine fb_bnE h (fun r8 h8 h => ?_)
  refine fb_cV0v (pc := 8) [.ref (fb_K g 24), .int x2, .int x3] dX3_readOrder_8 (mX0_endsWith g u q1 24 x2 x3 s1 (by decide : 24 < fb_nS) h8) ymX0_endsWith yiX0_endsWith s1.1 s1.2 ylX3_144 rfl (Nat.le_of_ble_eq_true rfl) ⟨Nat.le_of_ble_eq_true rfl, Nat.le_of_ble_eq_true rfl⟩ ⟨Nat.le_of_ble_eq_true rfl, Nat.le_of_ble_eq_true rfl⟩ ?_
  refine fb_istore (pc := 11) (lv' := [(4, .int r8), (0, .ref (fb_b g + a0)), (1, .ref (fb_b g + a1)), (2, .int x2), (3, .int x3)]) dX3_readOrder_11 (by decide) rfl ?_
  refine fb_iload_n (pc := 13) dX3_readOrder_13 4 rfl ?_
  refine fb_istore (pc := 14) (lv' := [(5, .int x3), (4, .int r8), (0, .ref (fb_b g + a0)), (1, .ref (fb_b g + a1)), (2, .int x2), (3, .int x3)]) dX3_readOrder_14 (by decide) rfl ?_
  refine fb_iload (pc := 16) dX3_readOrder_16 1 rfl ?_
  refine fb_if_eq (pc := 18) (tgt := 34) h dX3_readOrder_18 (by decide) (fun h => ?_) (fun h => ?_)
  · refine fb_aload_n (pc := 34) dX3_readOrder_34 2 rfl ?_
    refine fb_bnE h (fun q35 e35 h => fb_gdE h (fun s35 h => ?_))
    refine fb_getR (pc := 35) dX3_readOrder_35 lkX3_9 ha0.1 ha0.2 (by decide) e35 ?_
    refine fb_ldcS (pc := 38) (i := 23) (tx := "Asc") dX3_readOrder_38 srX3_142 ?_
    refine fb_iload_n (pc := 40) dX3_readOrder_40 4 rfl ?_
    refine fb_iload_n (pc := 41) dX3_readOrder_41 5 rfl ?_
    refine fb_bnE h (fun r42 h42 h => ?_)
    refine fb_cV0v (pc := 42) [.ref (fb_K g 23), .int x2, .int x3] dX3_readOrder_42 (mX0_endsWith g u q35 23 x2 x3 s35 (by decide : 23 < fb_nS) h42) ymX0_endsWith yiX0_endsWith s35.1 s35.2 ylX3_144 rfl (Nat.le_of_ble_eq_true rfl) ⟨Nat.le_of_ble_eq_true rfl, Nat.le_of_ble_eq_true rfl⟩ ⟨Nat.le_of_ble_eq_true rfl, Nat.le_of_ble_eq_true rfl⟩ ?_
    refine fb_if_eq (pc := 45) (tgt := 58) h dX3_readOrder_45 (by decide) (fun h => ?_) (fun h => ?_)
    · exact fb_sub [2, 3, 4, 1, 0] rfl (tjX3_readOrder_58 a0 a1 x2 r8 x3 u ha0 ha1 h)
    · refine fb_iload (pc := 48) dX3_readOrder_48 0 rfl ?_
      refine fb_ldcS (pc := 50) (i := 23) (tx := "Asc") dX3_readOrder_50 srX3_142 ?_
      refine fb_cT0v (pc := 52) [] dX3_readOrder_52 (m_strlen g 23 (by decide : 23 < fb_nS) u) ymJ_length yiJ_length (by decide : 23 < fb_nS) ylX3_57 rfl (Nat.le_of_ble_eq_true rfl) ⟨Nat.le_of_ble_eq_true rfl, Nat.le_of_ble_eq_true rfl⟩ ⟨Nat.le_of_ble_eq_true rfl, Nat.le_of_ble_eq_true rfl⟩ ?_
      refine fb_isub (pc := 55) dX3_readOrder_55 ?_
      refine fb_istore (pc := 56) (lv' := [(5, .int (x3 - (Int32.ofNat (fb_len.getD 23 0)))), (4, .int r8), (0, .ref (fb_b g + a0)), (1, .ref (fb_b g + a1)), (2, .int x2), (3, .int x3)]) dX3_readOrder_56 (by decide) rfl ?_
      exact fb_sub [2, 3, 4, 1, 0] rfl (tjX3_readOrder_58 a0 a1 x2 r8 (x3 - (Int32.ofNat (fb_len.getD 23 0))) u ha0 ha1 h)
  · refine fb_iload (pc := 21) dX3_readOrder_21 0 rfl ?_
    refine fb_ldcS (pc := 23) (i := 24) (tx := "Desc") dX3_readOrder_23 srX3_147 ?_
    refine fb_cT0v (pc := 25) [] dX3_readOrder_25 (m_strlen g 24 (by decide : 24 < fb_nS) u) ymJ_length yiJ_length (by decide : 24 < fb_nS) ylX3_57 rfl (Nat.le_of_ble_eq_true rfl) ⟨Nat.le_of_ble_eq_true rfl, Nat.le_of_ble_eq_true rfl⟩ ⟨Nat.le_of_ble_eq_true rfl, Nat.le_of_ble_eq_true rfl⟩ ?_
    refine fb_isub (pc := 28) dX3_readOrder_28 ?_
    refine fb_istore (pc := 29) (lv' := [(5, .int (x3 - (Int32.ofNat (fb_len.getD 24 0)))), (4, .int r8), (0, .ref (fb_b g + a0)), (1, .ref (fb_b g + a1)), (2, .int x2), (3, .int x3)]) dX3_readOrder_29 (by decide) rfl ?_
    refine fb_goto (pc := 31) (tgt := 58) dX3_readOrder_31 (by decide) ?_
    exact fb_sub [2, 3, 4, 1, 0] rfl (tjX3_readOrder_58 a0 a1 x2 r8 (x3 - (Int32.ofNat (fb_len.getD 24 0))) u ha0 ha1 h)

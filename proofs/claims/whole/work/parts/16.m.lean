theorem dX9_type_0 : decode cX9_type 0 = .ok (.iload_n 1, 1) := by decide +kernel
theorem dX9_type_1 : decode cX9_type 1 = .ok (.invokestatic 113, 3) := by decide +kernel
theorem dX9_type_4 : decode cX9_type 4 = .ok (.ifCond .ne 29, 3) := by decide +kernel
theorem dX9_type_7 : decode cX9_type 7 = .ok (.iload_n 1, 1) := by decide +kernel
theorem dX9_type_8 : decode cX9_type 8 = .ok (.invokestatic 117, 3) := by decide +kernel
theorem dX9_type_11 : decode cX9_type 11 = .ok (.ifCond .ne 22, 3) := by decide +kernel
theorem dX9_type_14 : decode cX9_type 14 = .ok (.iload_n 1, 1) := by decide +kernel
theorem dX9_type_15 : decode cX9_type 15 = .ok (.invokestatic 120, 3) := by decide +kernel
theorem dX9_type_18 : decode cX9_type 18 = .ok (.ifCond .ne 15, 3) := by decide +kernel
theorem dX9_type_21 : decode cX9_type 21 = .ok (.iload_n 1, 1) := by decide +kernel
theorem dX9_type_22 : decode cX9_type 22 = .ok (.bipush 95, 2) := by decide +kernel
theorem dX9_type_24 : decode cX9_type 24 = .ok (.if_icmp .eq 9, 3) := by decide +kernel
theorem dX9_type_27 : decode cX9_type 27 = .ok (.iload_n 1, 1) := by decide +kernel
theorem dX9_type_28 : decode cX9_type 28 = .ok (.bipush 46, 2) := by decide +kernel
theorem dX9_type_30 : decode cX9_type 30 = .ok (.if_icmp .ne 7, 3) := by decide +kernel
theorem dX9_type_33 : decode cX9_type 33 = .ok (.iconst 1, 1) := by decide +kernel
theorem dX9_type_34 : decode cX9_type 34 = .ok (.goto 4, 3) := by decide +kernel
theorem dX9_type_37 : decode cX9_type 37 = .ok (.iconst 0, 1) := by decide +kernel
theorem dX9_type_38 : decode cX9_type 38 = .ok (.istore_n 2, 1) := by decide +kernel
theorem dX9_type_39 : decode cX9_type 39 = .ok (.iload_n 2, 1) := by decide +kernel
theorem dX9_type_40 : decode cX9_type 40 = .ok (.ifCond .eq 12, 3) := by decide +kernel
theorem dX9_type_43 : decode cX9_type 43 = .ok (.aload_n 0, 1) := by decide +kernel
theorem dX9_type_44 : decode cX9_type 44 = .ok (.getfield 95, 3) := by decide +kernel
theorem dX9_type_47 : decode cX9_type 47 = .ok (.bipush 80, 2) := by decide +kernel
theorem dX9_type_49 : decode cX9_type 49 = .ok (.if_icmp .ne 5, 3) := by decide +kernel
theorem dX9_type_52 : decode cX9_type 52 = .ok (.iconst 0, 1) := by decide +kernel
theorem dX9_type_53 : decode cX9_type 53 = .ok (.ireturn, 1) := by decide +kernel
theorem dX9_type_54 : decode cX9_type 54 = .ok (.aload_n 0, 1) := by decide +kernel
theorem dX9_type_55 : decode cX9_type 55 = .ok (.getfield 7, 3) := by decide +kernel
theorem dX9_type_58 : decode cX9_type 58 = .ok (.aload_n 0, 1) := by decide +kernel
theorem dX9_type_59 : decode cX9_type 59 = .ok (.getfield 95, 3) := by decide +kernel
theorem dX9_type_62 : decode cX9_type 62 = .ok (.iload_n 1, 1) := by decide +kernel
theorem dX9_type_63 : decode cX9_type 63 = .ok (.iastore, 1) := by decide +kernel
theorem dX9_type_64 : decode cX9_type 64 = .ok (.aload_n 0, 1) := by decide +kernel
theorem dX9_type_65 : decode cX9_type 65 = .ok (.dup, 1) := by decide +kernel
theorem dX9_type_66 : decode cX9_type 66 = .ok (.getfield 95, 3) := by decide +kernel
theorem dX9_type_69 : decode cX9_type 69 = .ok (.iconst 1, 1) := by decide +kernel
theorem dX9_type_70 : decode cX9_type 70 = .ok (.iadd, 1) := by decide +kernel
theorem dX9_type_71 : decode cX9_type 71 = .ok (.putfield 95, 3) := by decide +kernel
theorem dX9_type_74 : decode cX9_type 74 = .ok (.iconst 1, 1) := by decide +kernel
theorem dX9_type_75 : decode cX9_type 75 = .ok (.ireturn, 1) := by decide +kernel
def jX9_type_38 (a0 : Nat) (x1 : Int32) (k0 : Int32) (u : fb_M) : Option (Int32 × fb_M) :=
 (if k0 = 0 then (some (0, u))
  else (if (fb_I u a0 1) = 80 then (some (0, u))
   else ((fb_R u a0 0).bind fun q55 => fb_gd (q55 < fb_NT ∧ (fb_sh q55).1 = 100) 
    ((fb_gd (¬ (fb_I u a0 1 < 0 ∨ (fb_sh q55).2 ≤ (fb_I u a0 1).toNatClampNeg)) 
    (some (1, fb_wI (fb_wI u q55 (fb_I u a0 1).toNatClampNeg x1) a0 1 ((fb_I (fb_wI u q55 (fb_I u a0 1).toNatClampNeg x1) a0 1) + 1))))))))
set_option maxRecDepth 100000 in
set_option maxHeartbeats 4000000 in
theorem tjX9_type_38 {g : fb_G} {res : (Int32 × fb_M)} (a0 : Nat) (x1 : Int32) (k0 : Int32) (u : fb_M) (ha0 : a0 < fb_NT ∧ fb_sh a0 = (9, 40)) (h : jX9_type_38 a0 x1 k0 u = some res) : fb_V g RX9 cX9_type 3 (some .boolean) "type" (fb_room 1 20 0 0) (fb_Qm g (some (.int res.1)) fb_NT res.2 0 0) 0 0 fb_NT u 38 [(0, .ref (fb_b g + a0)), (1, .int x1)] [.int k0] := by
  unfold jX9_type_38 at h
  refine fb_istore_n (pc := 38) (lv' := [(2, .int k0), (0, .ref (fb_b g + a0)), (1, .int x1)]) dX9_type_38 rfl (by decide) rfl ?_
  refine fb_iload_n (pc := 39) dX9_type_39 0 rfl ?_
  refine fb_if_eq (pc := 40) (tgt := 52) h dX9_type_40 (by decide) (fun h => ?_) (fun h => ?_)
  · refine fb_iconst (pc := 52) (v := 0) dX9_type_52 fb_ki_0 ?_
    exact fb_zretM (pc := 53) rfl h dX9_type_53
  · refine fb_aload_n (pc := 43) dX9_type_43 1 rfl ?_
    refine fb_getI (pc := 44) dX9_type_44 lkX9_95 ha0.1 ha0.2 rfl ?_
    refine fb_bipush (pc := 47) (v := 80) dX9_type_47 fb_kb_80 ?_
    refine fb_icmp_ne (pc := 49) (tgt := 54) h dX9_type_49 (by decide) (fun h => ?_) (fun h => ?_)
    · refine fb_aload_n (pc := 54) dX9_type_54 1 rfl ?_
      refine fb_bnE h (fun q55 e55 h => fb_gdE h (fun s55 h => ?_))
      refine fb_getR (pc := 55) dX9_type_55 lkX9_7 ha0.1 ha0.2 (by decide) e55 ?_
      refine fb_aload_n (pc := 58) dX9_type_58 1 rfl ?_
      refine fb_getI (pc := 59) dX9_type_59 lkX9_95 ha0.1 ha0.2 rfl ?_
      refine fb_iload_n (pc := 62) dX9_type_62 2 rfl ?_
      refine fb_gdE h (fun i63 h => ?_)
      refine fb_iast (pc := 63) dX9_type_63 s55.1 (fb_eta s55.2) i63 ?_
      refine fb_aload_n (pc := 64) dX9_type_64 1 rfl ?_
      refine fb_dup (pc := 65) dX9_type_65 rfl ?_
      refine fb_getI (pc := 66) dX9_type_66 lkX9_95 ha0.1 ha0.2 rfl ?_
      refine fb_iconst (pc := 69) (v := 1) dX9_type_69 fb_ki_1 ?_
      refine fb_iadd (pc := 70) dX9_type_70 ?_
      refine fb_putI (pc := 71) dX9_type_71 lkX9_95 ly_9_1 ha0.1 ha0.2 rfl rfl rfl ?_
      refine fb_iconst (pc := 74) (v := 1) dX9_type_74 fb_ki_1 ?_
      exact fb_zretM (pc := 75) rfl h dX9_type_75
    · refine fb_iconst (pc := 52) (v := 0) dX9_type_52 fb_ki_0 ?_
      exact fb_zretM (pc := 53) rfl h dX9_type_53

def fX9_type (u : fb_M) (a0 : Nat) (x1 : Int32) : Option (Int32 × fb_M) :=
 ((fX9_capital u x1).bind fun r1 => 
  (if r1 = 0 then ((fX9_small u x1).bind fun r8 => 
   (if r8 = 0 then ((fX9_figure u x1).bind fun r15 => 
    (if r15 = 0 then (if x1 = 95 then (jX9_type_38 a0 x1 1 u)
     else (if x1 = 46 then (jX9_type_38 a0 x1 1 u)
      else (jX9_type_38 a0 x1 0 u)))
    else (jX9_type_38 a0 x1 1 u)))
   else (jX9_type_38 a0 x1 1 u)))
  else (jX9_type_38 a0 x1 1 u)))
set_option maxRecDepth 100000 in
set_option maxHeartbeats 4000000 in
theorem mX9_type (g : fb_G) (u : fb_M) (a0 : Nat) (x1 : Int32) (ha0 : a0 < fb_NT ∧ fb_sh a0 = (9, 40)) {res : (Int32 × fb_M)} (h : fX9_type u a0 x1 = some res) : fb_Runs g 1 20 0 0 fb_NT fb_NT yX9_type cX9_type 3 (some .boolean) [.ref (fb_b g + a0), .int x1] u (some (.int res.1)) res.2 := by
  unfold fX9_type at h
  refine fb_enter (by decide) (Nat.le_of_ble_eq_true rfl) ?_
  show fb_V g RX9 cX9_type 3 (some .boolean) "type" (fb_room 1 20 0 0) (fb_Qm g (some (.int res.1)) fb_NT res.2 0 0) 0 0 fb_NT u 0 [(0, .ref (fb_b g + a0)), (1, .int x1)] []
  refine fb_iload_n (pc := 0) dX9_type_0 1 rfl ?_
  refine fb_bnE h (fun r1 h1 h => ?_)
  refine fb_cS0v (pc := 1) [.int x1] dX9_type_1 (mX9_capital g u x1 h1) ymX9_capital ysX9_capital ylX9_113 rfl (Nat.le_of_ble_eq_true rfl) ⟨Nat.le_of_ble_eq_true rfl, Nat.le_of_ble_eq_true rfl⟩ ⟨Nat.le_of_ble_eq_true rfl, Nat.le_of_ble_eq_true rfl⟩ ?_
  refine fb_if_ne (pc := 4) (tgt := 33) h dX9_type_4 (by decide) (fun h => ?_) (fun h => ?_)
  · refine fb_iconst (pc := 33) (v := 1) dX9_type_33 fb_ki_1 ?_
    refine fb_goto (pc := 34) (tgt := 38) dX9_type_34 (by decide) ?_
    exact fb_sub [0, 1] rfl (tjX9_type_38 a0 x1 1 u ha0 h)
  · refine fb_iload_n (pc := 7) dX9_type_7 1 rfl ?_
    refine fb_bnE h (fun r8 h8 h => ?_)
    refine fb_cS0v (pc := 8) [.int x1] dX9_type_8 (mX9_small g u x1 h8) ymX9_small ysX9_small ylX9_117 rfl (Nat.le_of_ble_eq_true rfl) ⟨Nat.le_of_ble_eq_true rfl, Nat.le_of_ble_eq_true rfl⟩ ⟨Nat.le_of_ble_eq_true rfl, Nat.le_of_ble_eq_true rfl⟩ ?_
    refine fb_if_ne (pc := 11) (tgt := 33) h dX9_type_11 (by decide) (fun h => ?_) (fun h => ?_)
    · refine fb_iconst (pc := 33) (v := 1) dX9_type_33 fb_ki_1 ?_
      refine fb_goto (pc := 34) (tgt := 38) dX9_type_34 (by decide) ?_
      exact fb_sub [0, 1] rfl (tjX9_type_38 a0 x1 1 u ha0 h)
    · refine fb_iload_n (pc := 14) dX9_type_14 1 rfl ?_
      refine fb_bnE h (fun r15 h15 h => ?_)
      refine fb_cS0v (pc := 15) [.int x1] dX9_type_15 (mX9_figure g u x1 h15) ymX9_figure ysX9_figure ylX9_120 rfl (Nat.le_of_ble_eq_true rfl) ⟨Nat.le_of_ble_eq_true rfl, Nat.le_of_ble_eq_true rfl⟩ ⟨Nat.le_of_ble_eq_true rfl, Nat.le_of_ble_eq_true rfl⟩ ?_
      refine fb_if_ne (pc := 18) (tgt := 33) h dX9_type_18 (by decide) (fun h => ?_) (fun h => ?_)
      · refine fb_iconst (pc := 33) (v := 1) dX9_type_33 fb_ki_1 ?_
        refine fb_goto (pc := 34) (tgt := 38) dX9_type_34 (by decide) ?_
        exact fb_sub [0, 1] rfl (tjX9_type_38 a0 x1 1 u ha0 h)
      · refine fb_iload_n (pc := 21) dX9_type_21 1 rfl ?_
        refine fb_bipush (pc := 22) (v := 95) dX9_type_22 fb_kb_95 ?_
        refine fb_icmp_eq (pc := 24) (tgt := 33) h dX9_type_24 (by decide) (fun h => ?_) (fun h => ?_)
        · refine fb_iconst (pc := 33) (v := 1) dX9_type_33 fb_ki_1 ?_
          refine fb_goto (pc := 34) (tgt := 38) dX9_type_34 (by decide) ?_
          exact fb_sub [0, 1] rfl (tjX9_type_38 a0 x1 1 u ha0 h)
        · refine fb_iload_n (pc := 27) dX9_type_27 1 rfl ?_
          refine fb_bipush (pc := 28) (v := 46) dX9_type_28 fb_kb_46 ?_
          refine fb_icmp_ne (pc := 30) (tgt := 37) h dX9_type_30 (by decide) (fun h => ?_) (fun h => ?_)
          · refine fb_iconst (pc := 37) (v := 0) dX9_type_37 fb_ki_0 ?_
            exact fb_sub [0, 1] rfl (tjX9_type_38 a0 x1 0 u ha0 h)
          · refine fb_iconst (pc := 33) (v := 1) dX9_type_33 fb_ki_1 ?_
            refine fb_goto (pc := 34) (tgt := 38) dX9_type_34 (by decide) ?_
            exact fb_sub [0, 1] rfl (tjX9_type_38 a0 x1 1 u ha0 h)

theorem dX9_scrap_0 : decode cX9_scrap 0 = .ok (.aload_n 0, 1) := by decide +kernel
theorem dX9_scrap_1 : decode cX9_scrap 1 = .ok (.iconst 0, 1) := by decide +kernel
theorem dX9_scrap_2 : decode cX9_scrap 2 = .ok (.putfield 95, 3) := by decide +kernel
theorem dX9_scrap_5 : decode cX9_scrap 5 = .ok (.return_, 1) := by decide +kernel
def fX9_scrap (u : fb_M) (a0 : Nat) : Option fb_M :=
 (some (fb_wI u a0 1 0))
set_option maxRecDepth 100000 in
set_option maxHeartbeats 4000000 in
theorem mX9_scrap (g : fb_G) (u : fb_M) (a0 : Nat) (ha0 : a0 < fb_NT ∧ fb_sh a0 = (9, 40)) {res : fb_M} (h : fX9_scrap u a0 = some res) : fb_Runs g 0 0 0 0 fb_NT fb_NT yX9_scrap cX9_scrap 1 none [.ref (fb_b g + a0)] u none res := by
  unfold fX9_scrap at h
  refine fb_enter (by decide) (Nat.le_of_ble_eq_true rfl) ?_
  show fb_V g RX9 cX9_scrap 1 none "scrap" (fb_room 0 0 0 0) (fb_Qm g none fb_NT res 0 0) 0 0 fb_NT u 0 [(0, .ref (fb_b g + a0))] []
  refine fb_aload_n (pc := 0) dX9_scrap_0 0 rfl ?_
  refine fb_iconst (pc := 1) (v := 0) dX9_scrap_1 fb_ki_0 ?_
  refine fb_putI (pc := 2) dX9_scrap_2 lkX9_95 ly_9_1 ha0.1 ha0.2 rfl rfl rfl ?_
  exact fb_vretM (pc := 5) h dX9_scrap_5

theorem dX9_isPath_0 : decode cX9_isPath 0 = .ok (.iconst 1, 1) := by decide +kernel
theorem dX9_isPath_1 : decode cX9_isPath 1 = .ok (.istore_n 1, 1) := by decide +kernel
theorem dX9_isPath_2 : decode cX9_isPath 2 = .ok (.iconst 0, 1) := by decide +kernel
theorem dX9_isPath_3 : decode cX9_isPath 3 = .ok (.istore_n 2, 1) := by decide +kernel
theorem dX9_isPath_4 : decode cX9_isPath 4 = .ok (.iconst 1, 1) := by decide +kernel
theorem dX9_isPath_5 : decode cX9_isPath 5 = .ok (.istore_n 3, 1) := by decide +kernel
theorem dX9_isPath_6 : decode cX9_isPath 6 = .ok (.iconst 0, 1) := by decide +kernel
theorem dX9_isPath_7 : decode cX9_isPath 7 = .ok (.istore 4, 2) := by decide +kernel
theorem dX9_isPath_9 : decode cX9_isPath 9 = .ok (.iload 4, 2) := by decide +kernel
theorem dX9_isPath_11 : decode cX9_isPath 11 = .ok (.aload_n 0, 1) := by decide +kernel
theorem dX9_isPath_12 : decode cX9_isPath 12 = .ok (.getfield 95, 3) := by decide +kernel
theorem dX9_isPath_15 : decode cX9_isPath 15 = .ok (.if_icmp .ge 105, 3) := by decide +kernel
theorem dX9_isPath_18 : decode cX9_isPath 18 = .ok (.aload_n 0, 1) := by decide +kernel
theorem dX9_isPath_19 : decode cX9_isPath 19 = .ok (.getfield 7, 3) := by decide +kernel
theorem dX9_isPath_22 : decode cX9_isPath 22 = .ok (.iload 4, 2) := by decide +kernel
theorem dX9_isPath_24 : decode cX9_isPath 24 = .ok (.iaload, 1) := by decide +kernel
theorem dX9_isPath_25 : decode cX9_isPath 25 = .ok (.istore 5, 2) := by decide +kernel
theorem dX9_isPath_27 : decode cX9_isPath 27 = .ok (.iload 5, 2) := by decide +kernel
theorem dX9_isPath_29 : decode cX9_isPath 29 = .ok (.bipush 46, 2) := by decide +kernel
theorem dX9_isPath_31 : decode cX9_isPath 31 = .ok (.if_icmp .ne 25, 3) := by decide +kernel
theorem dX9_isPath_34 : decode cX9_isPath 34 = .ok (.iload_n 3, 1) := by decide +kernel
theorem dX9_isPath_35 : decode cX9_isPath 35 = .ok (.ifCond .eq 11, 3) := by decide +kernel
theorem dX9_isPath_38 : decode cX9_isPath 38 = .ok (.iload_n 2, 1) := by decide +kernel
theorem dX9_isPath_39 : decode cX9_isPath 39 = .ok (.ifCond .le 7, 3) := by decide +kernel
theorem dX9_isPath_42 : decode cX9_isPath 42 = .ok (.iconst 1, 1) := by decide +kernel
theorem dX9_isPath_43 : decode cX9_isPath 43 = .ok (.goto 4, 3) := by decide +kernel
theorem dX9_isPath_46 : decode cX9_isPath 46 = .ok (.iconst 0, 1) := by decide +kernel
theorem dX9_isPath_47 : decode cX9_isPath 47 = .ok (.istore_n 3, 1) := by decide +kernel
theorem dX9_isPath_48 : decode cX9_isPath 48 = .ok (.iinc 1 1, 3) := by decide +kernel
theorem dX9_isPath_51 : decode cX9_isPath 51 = .ok (.iconst 0, 1) := by decide +kernel
theorem dX9_isPath_52 : decode cX9_isPath 52 = .ok (.istore_n 2, 1) := by decide +kernel
theorem dX9_isPath_53 : decode cX9_isPath 53 = .ok (.goto 61, 3) := by decide +kernel
theorem dX9_isPath_56 : decode cX9_isPath 56 = .ok (.iload_n 3, 1) := by decide +kernel
theorem dX9_isPath_57 : decode cX9_isPath 57 = .ok (.ifCond .eq 52, 3) := by decide +kernel
theorem dX9_isPath_60 : decode cX9_isPath 60 = .ok (.iload_n 2, 1) := by decide +kernel
theorem dX9_isPath_61 : decode cX9_isPath 61 = .ok (.ifCond .ne 14, 3) := by decide +kernel
theorem dX9_isPath_64 : decode cX9_isPath 64 = .ok (.iload 5, 2) := by decide +kernel
theorem dX9_isPath_66 : decode cX9_isPath 66 = .ok (.invokestatic 117, 3) := by decide +kernel
theorem dX9_isPath_69 : decode cX9_isPath 69 = .ok (.ifCond .eq 40, 3) := by decide +kernel
theorem dX9_isPath_72 : decode cX9_isPath 72 = .ok (.goto 27, 3) := by decide +kernel
theorem dX9_isPath_75 : decode cX9_isPath 75 = .ok (.iload 5, 2) := by decide +kernel
theorem dX9_isPath_77 : decode cX9_isPath 77 = .ok (.invokestatic 117, 3) := by decide +kernel
theorem dX9_isPath_80 : decode cX9_isPath 80 = .ok (.ifCond .ne 19, 3) := by decide +kernel
theorem dX9_isPath_83 : decode cX9_isPath 83 = .ok (.iload 5, 2) := by decide +kernel
theorem dX9_isPath_85 : decode cX9_isPath 85 = .ok (.invokestatic 113, 3) := by decide +kernel
theorem dX9_isPath_88 : decode cX9_isPath 88 = .ok (.ifCond .ne 11, 3) := by decide +kernel
theorem dX9_isPath_91 : decode cX9_isPath 91 = .ok (.iload 5, 2) := by decide +kernel
theorem dX9_isPath_93 : decode cX9_isPath 93 = .ok (.invokestatic 120, 3) := by decide +kernel
theorem dX9_isPath_96 : decode cX9_isPath 96 = .ok (.ifCond .eq 13, 3) := by decide +kernel
theorem dX9_isPath_99 : decode cX9_isPath 99 = .ok (.iload_n 2, 1) := by decide +kernel
theorem dX9_isPath_100 : decode cX9_isPath 100 = .ok (.bipush 12, 2) := by decide +kernel
theorem dX9_isPath_102 : decode cX9_isPath 102 = .ok (.if_icmp .ge 7, 3) := by decide +kernel
theorem dX9_isPath_105 : decode cX9_isPath 105 = .ok (.iconst 1, 1) := by decide +kernel
theorem dX9_isPath_106 : decode cX9_isPath 106 = .ok (.goto 4, 3) := by decide +kernel
theorem dX9_isPath_109 : decode cX9_isPath 109 = .ok (.iconst 0, 1) := by decide +kernel
theorem dX9_isPath_110 : decode cX9_isPath 110 = .ok (.istore_n 3, 1) := by decide +kernel
theorem dX9_isPath_111 : decode cX9_isPath 111 = .ok (.iinc 2 1, 3) := by decide +kernel
theorem dX9_isPath_114 : decode cX9_isPath 114 = .ok (.iinc 4 1, 3) := by decide +kernel
theorem dX9_isPath_117 : decode cX9_isPath 117 = .ok (.goto (-108), 3) := by decide +kernel
theorem dX9_isPath_120 : decode cX9_isPath 120 = .ok (.iload_n 3, 1) := by decide +kernel
theorem dX9_isPath_121 : decode cX9_isPath 121 = .ok (.ifCond .eq 16, 3) := by decide +kernel
theorem dX9_isPath_124 : decode cX9_isPath 124 = .ok (.iload_n 2, 1) := by decide +kernel
theorem dX9_isPath_125 : decode cX9_isPath 125 = .ok (.ifCond .le 12, 3) := by decide +kernel
theorem dX9_isPath_128 : decode cX9_isPath 128 = .ok (.iload_n 1, 1) := by decide +kernel
theorem dX9_isPath_129 : decode cX9_isPath 129 = .ok (.iconst 3, 1) := by decide +kernel
theorem dX9_isPath_130 : decode cX9_isPath 130 = .ok (.if_icmp .gt 7, 3) := by decide +kernel
theorem dX9_isPath_133 : decode cX9_isPath 133 = .ok (.iconst 1, 1) := by decide +kernel
theorem dX9_isPath_134 : decode cX9_isPath 134 = .ok (.goto 4, 3) := by decide +kernel
theorem dX9_isPath_137 : decode cX9_isPath 137 = .ok (.iconst 0, 1) := by decide +kernel
theorem dX9_isPath_138 : decode cX9_isPath 138 = .ok (.ireturn, 1) := by decide +kernel
def jX9_isPath_99 (K9 : Int32 → Int32 → Int32 → Int32 → Option Int32) (a0 : Nat) (x1 : Int32) (x2 : Int32) (x4 : Int32) (u : fb_M) : Option Int32 :=
 (if 12 ≤ x2 then (K9 x1 (x2 + 1) 0 (x4 + 1))
  else (K9 x1 (x2 + 1) 1 (x4 + 1)))
set_option maxRecDepth 100000 in
set_option maxHeartbeats 4000000 in
theorem tjX9_isPath_99 {g : fb_G} {res : Int32} (a0 : Nat) (x1 : Int32) (x2 : Int32) (x4 : Int32) (u : fb_M) (K9 : Int32 → Int32 → Int32 → Int32 → Option Int32) (ha0 : a0 < fb_NT ∧ fb_sh a0 = (9, 40)) (hK9 : ∀ (x1 : Int32) (x2 : Int32) (x3 : Int32) (x4 : Int32) ,  K9 x1 x2 x3 x4 = some res → fb_V g RX9 cX9_isPath 6 (some .boolean) "isPath" (fb_room 1 20 0 0) (fb_Qm g (some (.int res)) fb_NT u 0 0) 0 0 fb_NT u 9 [(0, .ref (fb_b g + a0)), (1, .int x1), (2, .int x2), (3, .int x3), (4, .int x4)] []) (h : jX9_isPath_99 K9 a0 x1 x2 x4 u = some res) : fb_V g RX9 cX9_isPath 6 (some .boolean) "isPath" (fb_room 1 20 0 0) (fb_Qm g (some (.int res)) fb_NT u 0 0) 0 0 fb_NT u 99 [(0, .ref (fb_b g + a0)), (1, .int x1), (2, .int x2), (4, .int x4)] [] := by
  unfold jX9_isPath_99 at h
  refine fb_iload_n (pc := 99) dX9_isPath_99 2 rfl ?_
  refine fb_bipush (pc := 100) (v := 12) dX9_isPath_100 fb_kb_12 ?_
  refine fb_icmp_ge (pc := 102) (tgt := 109) h dX9_isPath_102 (by decide) (fun h => ?_) (fun h => ?_)
  · refine fb_iconst (pc := 109) (v := 0) dX9_isPath_109 fb_ki_0 ?_
    refine fb_istore_n (pc := 110) (lv' := [(3, .int 0), (0, .ref (fb_b g + a0)), (1, .int x1), (2, .int x2), (4, .int x4)]) dX9_isPath_110 rfl (by decide) rfl ?_
    refine fb_iinc (pc := 111) (v := 1) (lv' := [(2, .int (x2 + 1)), (3, .int 0), (0, .ref (fb_b g + a0)), (1, .int x1), (4, .int x4)]) dX9_isPath_111 3 rfl fb_ki_1 (by decide) rfl ?_
    refine fb_iinc (pc := 114) (v := 1) (lv' := [(4, .int (x4 + 1)), (2, .int (x2 + 1)), (3, .int 0), (0, .ref (fb_b g + a0)), (1, .int x1)]) dX9_isPath_114 4 rfl fb_ki_1 (by decide) rfl ?_
    refine fb_goto (pc := 117) (tgt := 9) dX9_isPath_117 (by decide) ?_
    exact fb_sub [3, 4, 1, 2, 0] rfl (hK9 x1 (x2 + 1) 0 (x4 + 1) h)
  · refine fb_iconst (pc := 105) (v := 1) dX9_isPath_105 fb_ki_1 ?_
    refine fb_goto (pc := 106) (tgt := 110) dX9_isPath_106 (by decide) ?_
    refine fb_istore_n (pc := 110) (lv' := [(3, .int 1), (0, .ref (fb_b g + a0)), (1, .int x1), (2, .int x2), (4, .int x4)]) dX9_isPath_110 rfl (by decide) rfl ?_
    refine fb_iinc (pc := 111) (v := 1) (lv' := [(2, .int (x2 + 1)), (3, .int 1), (0, .ref (fb_b g + a0)), (1, .int x1), (4, .int x4)]) dX9_isPath_111 3 rfl fb_ki_1 (by decide) rfl ?_
    refine fb_iinc (pc := 114) (v := 1) (lv' := [(4, .int (x4 + 1)), (2, .int (x2 + 1)), (3, .int 1), (0, .ref (fb_b g + a0)), (1, .int x1)]) dX9_isPath_114 4 rfl fb_ki_1 (by decide) rfl ?_
    refine fb_goto (pc := 117) (tgt := 9) dX9_isPath_117 (by decide) ?_
    exact fb_sub [3, 4, 1, 2, 0] rfl (hK9 x1 (x2 + 1) 1 (x4 + 1) h)

def bX9_isPath_9 (K9 : Int32 → Int32 → Int32 → Int32 → Option Int32) (a0 : Nat) (x1 : Int32) (x2 : Int32) (x3 : Int32) (x4 : Int32) (u : fb_M) : Option Int32 :=
 (if (fb_I u a0 1) ≤ x4 then (if x3 = 0 then (some 0)
   else (if x2 ≤ 0 then (some 0)
    else (if 3 < x1 then (some 0)
     else (some 1))))
  else ((fb_R u a0 0).bind fun q19 => fb_gd (q19 < fb_NT ∧ (fb_sh q19).1 = 100) 
   ((fb_gd (¬ (x4 < 0 ∨ (fb_sh q19).2 ≤ x4.toNatClampNeg)) 
   (if (fb_I u q19 x4.toNatClampNeg) = 46 then (if x3 = 0 then (K9 (x1 + 1) 0 0 (x4 + 1))
    else (if x2 ≤ 0 then (K9 (x1 + 1) 0 0 (x4 + 1))
     else (K9 (x1 + 1) 0 1 (x4 + 1))))
   else (if x3 = 0 then (K9 x1 (x2 + 1) 0 (x4 + 1))
    else (if x2 = 0 then ((fX9_small u (fb_I u q19 x4.toNatClampNeg)).bind fun r66 => 
      (if r66 = 0 then (K9 x1 (x2 + 1) 0 (x4 + 1))
      else (jX9_isPath_99 K9 a0 x1 x2 x4 u)))
     else ((fX9_small u (fb_I u q19 x4.toNatClampNeg)).bind fun r77 => 
      (if r77 = 0 then ((fX9_capital u (fb_I u q19 x4.toNatClampNeg)).bind fun r85 => 
       (if r85 = 0 then ((fX9_figure u (fb_I u q19 x4.toNatClampNeg)).bind fun r93 => 
        (if r93 = 0 then (K9 x1 (x2 + 1) 0 (x4 + 1))
        else (jX9_isPath_99 K9 a0 x1 x2 x4 u)))
       else (jX9_isPath_99 K9 a0 x1 x2 x4 u)))
      else (jX9_isPath_99 K9 a0 x1 x2 x4 u))))))))))
def gX9_isPath_9 (a0 : Nat) (u : fb_M) : Nat → Int32 → Int32 → Int32 → Int32 → Option Int32
 | 0 => fun _ _ _ _ => none
 | fu + 1 => fun x1 x2 x3 x4 => bX9_isPath_9 (gX9_isPath_9 a0 u fu) a0 x1 x2 x3 x4 u
set_option maxRecDepth 100000 in
set_option maxHeartbeats 4000000 in
theorem tbX9_isPath_9 {g : fb_G} {res : Int32} (a0 : Nat) (x1 : Int32) (x2 : Int32) (x3 : Int32) (x4 : Int32) (u : fb_M) (K9 : Int32 → Int32 → Int32 → Int32 → Option Int32) (ha0 : a0 < fb_NT ∧ fb_sh a0 = (9, 40)) (hK9 : ∀ (x1 : Int32) (x2 : Int32) (x3 : Int32) (x4 : Int32) ,  K9 x1 x2 x3 x4 = some res → fb_V g RX9 cX9_isPath 6 (some .boolean) "isPath" (fb_room 1 20 0 0) (fb_Qm g (some (.int res)) fb_NT u 0 0) 0 0 fb_NT u 9 [(0, .ref (fb_b g + a0)), (1, .int x1), (2, .int x2), (3, .int x3), (4, .int x4)] []) (h : bX9_isPath_9 K9 a0 x1 x2 x3 x4 u = some res) : fb_V g RX9 cX9_isPath 6 (some .boolean) "isPath" (fb_room 1 20 0 0) (fb_Qm g (some (.int res)) fb_NT u 0 0) 0 0 fb_NT u 9 [(0, .ref (fb_b g + a0)), (1, .int x1), (2, .int x2), (3, .int x3), (4, .int x4)] [] := by
  unfold bX9_isPath_9 at h
  refine fb_iload (pc := 9) dX9_isPath_9 4 rfl ?_
  refine fb_aload_n (pc := 11) dX9_isPath_11 0 rfl ?_
  refine fb_getI (pc := 12) dX9_isPath_12 lkX9_95 ha0.1 ha0.2 rfl ?_
  refine fb_icmp_ge (pc := 15) (tgt := 120) h dX9_isPath_15 (by decide) (fun h => ?_) (fun h => ?_)
  · refine fb_iload_n (pc := 120) dX9_isPath_120 3 rfl ?_
    refine fb_if_eq (pc := 121) (tgt := 137) h dX9_isPath_121 (by decide) (fun h => ?_) (fun h => ?_)
    · refine fb_iconst (pc := 137) (v := 0) dX9_isPath_137 fb_ki_0 ?_
      exact fb_zretR (pc := 138) rfl h dX9_isPath_138
    · refine fb_iload_n (pc := 124) dX9_isPath_124 2 rfl ?_
      refine fb_if_le (pc := 125) (tgt := 137) h dX9_isPath_125 (by decide) (fun h => ?_) (fun h => ?_)
      · refine fb_iconst (pc := 137) (v := 0) dX9_isPath_137 fb_ki_0 ?_
        exact fb_zretR (pc := 138) rfl h dX9_isPath_138
      · refine fb_iload_n (pc := 128) dX9_isPath_128 1 rfl ?_
        refine fb_iconst (pc := 129) (v := 3) dX9_isPath_129 fb_ki_3 ?_
        refine fb_icmp_gt (pc := 130) (tgt := 137) h dX9_isPath_130 (by decide) (fun h => ?_) (fun h => ?_)
        · refine fb_iconst (pc := 137) (v := 0) dX9_isPath_137 fb_ki_0 ?_
          exact fb_zretR (pc := 138) rfl h dX9_isPath_138
        · refine fb_iconst (pc := 133) (v := 1) dX9_isPath_133 fb_ki_1 ?_
          refine fb_goto (pc := 134) (tgt := 138) dX9_isPath_134 (by decide) ?_
          exact fb_zretR (pc := 138) rfl h dX9_isPath_138
  · refine fb_aload_n (pc := 18) dX9_isPath_18 0 rfl ?_
    refine fb_bnE h (fun q19 e19 h => fb_gdE h (fun s19 h => ?_))
    refine fb_getR (pc := 19) dX9_isPath_19 lkX9_7 ha0.1 ha0.2 (by decide) e19 ?_
    refine fb_iload (pc := 22) dX9_isPath_22 4 rfl ?_
    refine fb_gdE h (fun i24 h => ?_)
    refine fb_iald (pc := 24) dX9_isPath_24 s19.1 (fb_eta s19.2) i24 ?_
    refine fb_istore (pc := 25) (lv' := [(5, .int (fb_I u q19 x4.toNatClampNeg)), (0, .ref (fb_b g + a0)), (1, .int x1), (2, .int x2), (3, .int x3), (4, .int x4)]) dX9_isPath_25 (by decide) rfl ?_
    refine fb_iload (pc := 27) dX9_isPath_27 0 rfl ?_
    refine fb_bipush (pc := 29) (v := 46) dX9_isPath_29 fb_kb_46 ?_
    refine fb_icmp_ne (pc := 31) (tgt := 56) h dX9_isPath_31 (by decide) (fun h => ?_) (fun h => ?_)
    · refine fb_iload_n (pc := 56) dX9_isPath_56 4 rfl ?_
      refine fb_if_eq (pc := 57) (tgt := 109) h dX9_isPath_57 (by decide) (fun h => ?_) (fun h => ?_)
      · refine fb_iconst (pc := 109) (v := 0) dX9_isPath_109 fb_ki_0 ?_
        refine fb_istore_n (pc := 110) (lv' := [(3, .int 0), (5, .int (fb_I u q19 x4.toNatClampNeg)), (0, .ref (fb_b g + a0)), (1, .int x1), (2, .int x2), (4, .int x4)]) dX9_isPath_110 rfl (by decide) rfl ?_
        refine fb_iinc (pc := 111) (v := 1) (lv' := [(2, .int (x2 + 1)), (3, .int 0), (5, .int (fb_I u q19 x4.toNatClampNeg)), (0, .ref (fb_b g + a0)), (1, .int x1), (4, .int x4)]) dX9_isPath_111 4 rfl fb_ki_1 (by decide) rfl ?_
        refine fb_iinc (pc := 114) (v := 1) (lv' := [(4, .int (x4 + 1)), (2, .int (x2 + 1)), (3, .int 0), (5, .int (fb_I u q19 x4.toNatClampNeg)), (0, .ref (fb_b g + a0)), (1, .int x1)]) dX9_isPath_114 5 rfl fb_ki_1 (by decide) rfl ?_
        refine fb_goto (pc := 117) (tgt := 9) dX9_isPath_117 (by decide) ?_
        exact fb_sub [4, 5, 1, 2, 0] rfl (hK9 x1 (x2 + 1) 0 (x4 + 1) h)
      · refine fb_iload_n (pc := 60) dX9_isPath_60 3 rfl ?_
        refine fb_if_ne (pc := 61) (tgt := 75) h dX9_isPath_61 (by decide) (fun h => ?_) (fun h => ?_)
        · refine fb_iload (pc := 75) dX9_isPath_75 0 rfl ?_
          refine fb_bnE h (fun r77 h77 h => ?_)
          refine fb_cS0v (pc := 77) [.int (fb_I u q19 x4.toNatClampNeg)] dX9_isPath_77 (mX9_small g u (fb_I u q19 x4.toNatClampNeg) h77) ymX9_small ysX9_small ylX9_117 rfl (Nat.le_of_ble_eq_true rfl) ⟨Nat.le_of_ble_eq_true rfl, Nat.le_of_ble_eq_true rfl⟩ ⟨Nat.le_of_ble_eq_true rfl, Nat.le_of_ble_eq_true rfl⟩ ?_
          refine fb_if_ne (pc := 80) (tgt := 99) h dX9_isPath_80 (by decide) (fun h => ?_) (fun h => ?_)
          · exact fb_sub [1, 2, 3, 5] rfl (tjX9_isPath_99 a0 x1 x2 x4 u K9 ha0 hK9 h)
          · refine fb_iload (pc := 83) dX9_isPath_83 0 rfl ?_
            refine fb_bnE h (fun r85 h85 h => ?_)
            refine fb_cS0v (pc := 85) [.int (fb_I u q19 x4.toNatClampNeg)] dX9_isPath_85 (mX9_capital g u (fb_I u q19 x4.toNatClampNeg) h85) ymX9_capital ysX9_capital ylX9_113 rfl (Nat.le_of_ble_eq_true rfl) ⟨Nat.le_of_ble_eq_true rfl, Nat.le_of_ble_eq_true rfl⟩ ⟨Nat.le_of_ble_eq_true rfl, Nat.le_of_ble_eq_true rfl⟩ ?_
            refine fb_if_ne (pc := 88) (tgt := 99) h dX9_isPath_88 (by decide) (fun h => ?_) (fun h => ?_)
            · exact fb_sub [1, 2, 3, 5] rfl (tjX9_isPath_99 a0 x1 x2 x4 u K9 ha0 hK9 h)
            · refine fb_iload (pc := 91) dX9_isPath_91 0 rfl ?_
              refine fb_bnE h (fun r93 h93 h => ?_)
              refine fb_cS0v (pc := 93) [.int (fb_I u q19 x4.toNatClampNeg)] dX9_isPath_93 (mX9_figure g u (fb_I u q19 x4.toNatClampNeg) h93) ymX9_figure ysX9_figure ylX9_120 rfl (Nat.le_of_ble_eq_true rfl) ⟨Nat.le_of_ble_eq_true rfl, Nat.le_of_ble_eq_true rfl⟩ ⟨Nat.le_of_ble_eq_true rfl, Nat.le_of_ble_eq_true rfl⟩ ?_
              refine fb_if_eq (pc := 96) (tgt := 109) h dX9_isPath_96 (by decide) (fun h => ?_) (fun h => ?_)
              · refine fb_iconst (pc := 109) (v := 0) dX9_isPath_109 fb_ki_0 ?_
                refine fb_istore_n (pc := 110) (lv' := [(3, .int 0), (5, .int (fb_I u q19 x4.toNatClampNeg)), (0, .ref (fb_b g + a0)), (1, .int x1), (2, .int x2), (4, .int x4)]) dX9_isPath_110 rfl (by decide) rfl ?_
                refine fb_iinc (pc := 111) (v := 1) (lv' := [(2, .int (x2 + 1)), (3, .int 0), (5, .int (fb_I u q19 x4.toNatClampNeg)), (0, .ref (fb_b g + a0)), (1, .int x1), (4, .int x4)]) dX9_isPath_111 4 rfl fb_ki_1 (by decide) rfl ?_
                refine fb_iinc (pc := 114) (v := 1) (lv' := [(4, .int (x4 + 1)), (2, .int (x2 + 1)), (3, .int 0), (5, .int (fb_I u q19 x4.toNatClampNeg)), (0, .ref (fb_b g + a0)), (1, .int x1)]) dX9_isPath_114 5 rfl fb_ki_1 (by decide) rfl ?_
                refine fb_goto (pc := 117) (tgt := 9) dX9_isPath_117 (by decide) ?_
                exact fb_sub [4, 5, 1, 2, 0] rfl (hK9 x1 (x2 + 1) 0 (x4 + 1) h)
              · exact fb_sub [1, 2, 3, 5] rfl (tjX9_isPath_99 a0 x1 x2 x4 u K9 ha0 hK9 h)
        · refine fb_iload (pc := 64) dX9_isPath_64 0 rfl ?_
          refine fb_bnE h (fun r66 h66 h => ?_)
          refine fb_cS0v (pc := 66) [.int (fb_I u q19 x4.toNatClampNeg)] dX9_isPath_66 (mX9_small g u (fb_I u q19 x4.toNatClampNeg) h66) ymX9_small ysX9_small ylX9_117 rfl (Nat.le_of_ble_eq_true rfl) ⟨Nat.le_of_ble_eq_true rfl, Nat.le_of_ble_eq_true rfl⟩ ⟨Nat.le_of_ble_eq_true rfl, Nat.le_of_ble_eq_true rfl⟩ ?_
          refine fb_if_eq (pc := 69) (tgt := 109) h dX9_isPath_69 (by decide) (fun h => ?_) (fun h => ?_)
          · refine fb_iconst (pc := 109) (v := 0) dX9_isPath_109 fb_ki_0 ?_
            refine fb_istore_n (pc := 110) (lv' := [(3, .int 0), (5, .int (fb_I u q19 x4.toNatClampNeg)), (0, .ref (fb_b g + a0)), (1, .int x1), (2, .int x2), (4, .int x4)]) dX9_isPath_110 rfl (by decide) rfl ?_
            refine fb_iinc (pc := 111) (v := 1) (lv' := [(2, .int (x2 + 1)), (3, .int 0), (5, .int (fb_I u q19 x4.toNatClampNeg)), (0, .ref (fb_b g + a0)), (1, .int x1), (4, .int x4)]) dX9_isPath_111 4 rfl fb_ki_1 (by decide) rfl ?_
            refine fb_iinc (pc := 114) (v := 1) (lv' := [(4, .int (x4 + 1)), (2, .int (x2 + 1)), (3, .int 0), (5, .int (fb_I u q19 x4.toNatClampNeg)), (0, .ref (fb_b g + a0)), (1, .int x1)]) dX9_isPath_114 5 rfl fb_ki_1 (by decide) rfl ?_
            refine fb_goto (pc := 117) (tgt := 9) dX9_isPath_117 (by decide) ?_
            exact fb_sub [4, 5, 1, 2, 0] rfl (hK9 x1 (x2 + 1) 0 (x4 + 1) h)
          · refine fb_goto (pc := 72) (tgt := 99) dX9_isPath_72 (by decide) ?_
            exact fb_sub [1, 2, 3, 5] rfl (tjX9_isPath_99 a0 x1 x2 x4 u K9 ha0 hK9 h)
    · refine fb_iload_n (pc := 34) dX9_isPath_34 4 rfl ?_
      refine fb_if_eq (pc := 35) (tgt := 46) h dX9_isPath_35 (by decide) (fun h => ?_) (fun h => ?_)
      · refine fb_iconst (pc := 46) (v := 0) dX9_isPath_46 fb_ki_0 ?_
        refine fb_istore_n (pc := 47) (lv' := [(3, .int 0), (5, .int (fb_I u q19 x4.toNatClampNeg)), (0, .ref (fb_b g + a0)), (1, .int x1), (2, .int x2), (4, .int x4)]) dX9_isPath_47 rfl (by decide) rfl ?_
        refine fb_iinc (pc := 48) (v := 1) (lv' := [(1, .int (x1 + 1)), (3, .int 0), (5, .int (fb_I u q19 x4.toNatClampNeg)), (0, .ref (fb_b g + a0)), (2, .int x2), (4, .int x4)]) dX9_isPath_48 3 rfl fb_ki_1 (by decide) rfl ?_
        refine fb_iconst (pc := 51) (v := 0) dX9_isPath_51 fb_ki_0 ?_
        refine fb_istore_n (pc := 52) (lv' := [(2, .int 0), (1, .int (x1 + 1)), (3, .int 0), (5, .int (fb_I u q19 x4.toNatClampNeg)), (0, .ref (fb_b g + a0)), (4, .int x4)]) dX9_isPath_52 rfl (by decide) rfl ?_
        refine fb_goto (pc := 53) (tgt := 114) dX9_isPath_53 (by decide) ?_
        refine fb_iinc (pc := 114) (v := 1) (lv' := [(4, .int (x4 + 1)), (2, .int 0), (1, .int (x1 + 1)), (3, .int 0), (5, .int (fb_I u q19 x4.toNatClampNeg)), (0, .ref (fb_b g + a0))]) dX9_isPath_114 5 rfl fb_ki_1 (by decide) rfl ?_
        refine fb_goto (pc := 117) (tgt := 9) dX9_isPath_117 (by decide) ?_
        exact fb_sub [5, 2, 1, 3, 0] rfl (hK9 (x1 + 1) 0 0 (x4 + 1) h)
      · refine fb_iload_n (pc := 38) dX9_isPath_38 3 rfl ?_
        refine fb_if_le (pc := 39) (tgt := 46) h dX9_isPath_39 (by decide) (fun h => ?_) (fun h => ?_)
        · refine fb_iconst (pc := 46) (v := 0) dX9_isPath_46 fb_ki_0 ?_
          refine fb_istore_n (pc := 47) (lv' := [(3, .int 0), (5, .int (fb_I u q19 x4.toNatClampNeg)), (0, .ref (fb_b g + a0)), (1, .int x1), (2, .int x2), (4, .int x4)]) dX9_isPath_47 rfl (by decide) rfl ?_
          refine fb_iinc (pc := 48) (v := 1) (lv' := [(1, .int (x1 + 1)), (3, .int 0), (5, .int (fb_I u q19 x4.toNatClampNeg)), (0, .ref (fb_b g + a0)), (2, .int x2), (4, .int x4)]) dX9_isPath_48 3 rfl fb_ki_1 (by decide) rfl ?_
          refine fb_iconst (pc := 51) (v := 0) dX9_isPath_51 fb_ki_0 ?_
          refine fb_istore_n (pc := 52) (lv' := [(2, .int 0), (1, .int (x1 + 1)), (3, .int 0), (5, .int (fb_I u q19 x4.toNatClampNeg)), (0, .ref (fb_b g + a0)), (4, .int x4)]) dX9_isPath_52 rfl (by decide) rfl ?_
          refine fb_goto (pc := 53) (tgt := 114) dX9_isPath_53 (by decide) ?_
          refine fb_iinc (pc := 114) (v := 1) (lv' := [(4, .int (x4 + 1)), (2, .int 0), (1, .int (x1 + 1)), (3, .int 0), (5, .int (fb_I u q19 x4.toNatClampNeg)), (0, .ref (fb_b g + a0))]) dX9_isPath_114 5 rfl fb_ki_1 (by decide) rfl ?_
          refine fb_goto (pc := 117) (tgt := 9) dX9_isPath_117 (by decide) ?_
          exact fb_sub [5, 2, 1, 3, 0] rfl (hK9 (x1 + 1) 0 0 (x4 + 1) h)
        · refine fb_iconst (pc := 42) (v := 1) dX9_isPath_42 fb_ki_1 ?_
          refine fb_goto (pc := 43) (tgt := 47) dX9_isPath_43 (by decide) ?_
          refine fb_istore_n (pc := 47) (lv' := [(3, .int 1), (5, .int (fb_I u q19 x4.toNatClampNeg)), (0, .ref (fb_b g + a0)), (1, .int x1), (2, .int x2), (4, .int x4)]) dX9_isPath_47 rfl (by decide) rfl ?_
          refine fb_iinc (pc := 48) (v := 1) (lv' := [(1, .int (x1 + 1)), (3, .int 1), (5, .int (fb_I u q19 x4.toNatClampNeg)), (0, .ref (fb_b g + a0)), (2, .int x2), (4, .int x4)]) dX9_isPath_48 3 rfl fb_ki_1 (by decide) rfl ?_
          refine fb_iconst (pc := 51) (v := 0) dX9_isPath_51 fb_ki_0 ?_
          refine fb_istore_n (pc := 52) (lv' := [(2, .int 0), (1, .int (x1 + 1)), (3, .int 1), (5, .int (fb_I u q19 x4.toNatClampNeg)), (0, .ref (fb_b g + a0)), (4, .int x4)]) dX9_isPath_52 rfl (by decide) rfl ?_
          refine fb_goto (pc := 53) (tgt := 114) dX9_isPath_53 (by decide) ?_
          refine fb_iinc (pc := 114) (v := 1) (lv' := [(4, .int (x4 + 1)), (2, .int 0), (1, .int (x1 + 1)), (3, .int 1), (5, .int (fb_I u q19 x4.toNatClampNeg)), (0, .ref (fb_b g + a0))]) dX9_isPath_114 5 rfl fb_ki_1 (by decide) rfl ?_
          refine fb_goto (pc := 117) (tgt := 9) dX9_isPath_117 (by decide) ?_
          exact fb_sub [5, 2, 1, 3, 0] rfl (hK9 (x1 + 1) 0 1 (x4 + 1) h)

theorem tgX9_isPath_9 {g : fb_G} {res : Int32} (a0 : Nat) (u : fb_M) (ha0 : a0 < fb_NT ∧ fb_sh a0 = (9, 40)) : ∀ (fu : Nat) (x1 : Int32) (x2 : Int32) (x3 : Int32) (x4 : Int32) ,  gX9_isPath_9 a0 u fu x1 x2 x3 x4 = some res → fb_V g RX9 cX9_isPath 6 (some .boolean) "isPath" (fb_room 1 20 0 0) (fb_Qm g (some (.int res)) fb_NT u 0 0) 0 0 fb_NT u 9 [(0, .ref (fb_b g + a0)), (1, .int x1), (2, .int x2), (3, .int x3), (4, .int x4)] [] := by
  intro fu
  induction fu with
  | zero => intro x1 x2 x3 x4 h; exact absurd h (by simp [gX9_isPath_9])
  | succ fu ih => intro x1 x2 x3 x4 h; exact tbX9_isPath_9 a0 x1 x2 x3 x4 u (gX9_isPath_9 a0 u fu) ha0 ih h
def fX9_isPath (u : fb_M) (a0 : Nat) : Option Int32 :=
 (gX9_isPath_9 a0 u fb_F 1 0 1 0)
set_option maxRecDepth 100000 in
set_option maxHeartbeats 4000000 in
theorem mX9_isPath (g : fb_G) (u : fb_M) (a0 : Nat) (ha0 : a0 < fb_NT ∧ fb_sh a0 = (9, 40)) {res : Int32} (h : fX9_isPath u a0 = some res) : fb_Runs g 1 20 0 0 fb_NT fb_NT yX9_isPath cX9_isPath 6 (some .boolean) [.ref (fb_b g + a0)] u (some (.int res)) u := by
  unfold fX9_isPath at h
  refine fb_enter (by decide) (Nat.le_of_ble_eq_true rfl) ?_
  show fb_V g RX9 cX9_isPath 6 (some .boolean) "isPath" (fb_room 1 20 0 0) (fb_Qm g (some (.int res)) fb_NT u 0 0) 0 0 fb_NT u 0 [(0, .ref (fb_b g + a0))] []
  refine fb_iconst (pc := 0) (v := 1) dX9_isPath_0 fb_ki_1 ?_
  refine fb_istore_n (pc := 1) (lv' := [(1, .int 1), (0, .ref (fb_b g + a0))]) dX9_isPath_1 rfl (by decide) rfl ?_
  refine fb_iconst (pc := 2) (v := 0) dX9_isPath_2 fb_ki_0 ?_
  refine fb_istore_n (pc := 3) (lv' := [(2, .int 0), (1, .int 1), (0, .ref (fb_b g + a0))]) dX9_isPath_3 rfl (by decide) rfl ?_
  refine fb_iconst (pc := 4) (v := 1) dX9_isPath_4 fb_ki_1 ?_
  refine fb_istore_n (pc := 5) (lv' := [(3, .int 1), (2, .int 0), (1, .int 1), (0, .ref (fb_b g + a0))]) dX9_isPath_5 rfl (by decide) rfl ?_
  refine fb_iconst (pc := 6) (v := 0) dX9_isPath_6 fb_ki_0 ?_
  refine fb_istore (pc := 7) (lv' := [(4, .int 0), (3, .int 1), (2, .int 0), (1, .int 1), (0, .ref (fb_b g + a0))]) dX9_isPath_7 (by decide) rfl ?_
  exact fb_sub [4, 3, 2, 1, 0] rfl (tgX9_isPath_9 a0 u ha0 fb_F 1 0 1 0 h)

theorem dX9_clashes_0 : decode cX9_clashes 0 = .ok (.aload_n 0, 1) := by decide +kernel
theorem dX9_clashes_1 : decode cX9_clashes 1 = .ok (.getfield 95, 3) := by decide +kernel
theorem dX9_clashes_4 : decode cX9_clashes 4 = .ok (.aload_n 0, 1) := by decide +kernel
theorem dX9_clashes_5 : decode cX9_clashes 5 = .ok (.getfield 16, 3) := by decide +kernel
theorem dX9_clashes_8 : decode cX9_clashes 8 = .ok (.iload_n 1, 1) := by decide +kernel
theorem dX9_clashes_9 : decode cX9_clashes 9 = .ok (.iaload, 1) := by decide +kernel
theorem dX9_clashes_10 : decode cX9_clashes 10 = .ok (.if_icmp .ge 10, 3) := by decide +kernel
theorem dX9_clashes_13 : decode cX9_clashes 13 = .ok (.aload_n 0, 1) := by decide +kernel
theorem dX9_clashes_14 : decode cX9_clashes 14 = .ok (.getfield 95, 3) := by decide +kernel
theorem dX9_clashes_17 : decode cX9_clashes 17 = .ok (.goto 9, 3) := by decide +kernel
theorem dX9_clashes_20 : decode cX9_clashes 20 = .ok (.aload_n 0, 1) := by decide +kernel
theorem dX9_clashes_21 : decode cX9_clashes 21 = .ok (.getfield 16, 3) := by decide +kernel
theorem dX9_clashes_24 : decode cX9_clashes 24 = .ok (.iload_n 1, 1) := by decide +kernel
theorem dX9_clashes_25 : decode cX9_clashes 25 = .ok (.iaload, 1) := by decide +kernel
theorem dX9_clashes_26 : decode cX9_clashes 26 = .ok (.istore_n 2, 1) := by decide +kernel
theorem dX9_clashes_27 : decode cX9_clashes 27 = .ok (.iconst 0, 1) := by decide +kernel
theorem dX9_clashes_28 : decode cX9_clashes 28 = .ok (.istore_n 3, 1) := by decide +kernel
theorem dX9_clashes_29 : decode cX9_clashes 29 = .ok (.iload_n 3, 1) := by decide +kernel
theorem dX9_clashes_30 : decode cX9_clashes 30 = .ok (.iload_n 2, 1) := by decide +kernel
theorem dX9_clashes_31 : decode cX9_clashes 31 = .ok (.if_icmp .ge 31, 3) := by decide +kernel
theorem dX9_clashes_34 : decode cX9_clashes 34 = .ok (.aload_n 0, 1) := by decide +kernel
theorem dX9_clashes_35 : decode cX9_clashes 35 = .ok (.getfield 7, 3) := by decide +kernel
theorem dX9_clashes_38 : decode cX9_clashes 38 = .ok (.iload_n 3, 1) := by decide +kernel
theorem dX9_clashes_39 : decode cX9_clashes 39 = .ok (.iaload, 1) := by decide +kernel
theorem dX9_clashes_40 : decode cX9_clashes 40 = .ok (.aload_n 0, 1) := by decide +kernel
theorem dX9_clashes_41 : decode cX9_clashes 41 = .ok (.getfield 13, 3) := by decide +kernel
theorem dX9_clashes_44 : decode cX9_clashes 44 = .ok (.bipush 40, 2) := by decide +kernel
theorem dX9_clashes_46 : decode cX9_clashes 46 = .ok (.iload_n 1, 1) := by decide +kernel
theorem dX9_clashes_47 : decode cX9_clashes 47 = .ok (.imul, 1) := by decide +kernel
theorem dX9_clashes_48 : decode cX9_clashes 48 = .ok (.iload_n 3, 1) := by decide +kernel
theorem dX9_clashes_49 : decode cX9_clashes 49 = .ok (.iadd, 1) := by decide +kernel
theorem dX9_clashes_50 : decode cX9_clashes 50 = .ok (.iaload, 1) := by decide +kernel
theorem dX9_clashes_51 : decode cX9_clashes 51 = .ok (.if_icmp .eq 5, 3) := by decide +kernel
theorem dX9_clashes_54 : decode cX9_clashes 54 = .ok (.iconst 0, 1) := by decide +kernel
theorem dX9_clashes_55 : decode cX9_clashes 55 = .ok (.ireturn, 1) := by decide +kernel
theorem dX9_clashes_56 : decode cX9_clashes 56 = .ok (.iinc 3 1, 3) := by decide +kernel
theorem dX9_clashes_59 : decode cX9_clashes 59 = .ok (.goto (-30), 3) := by decide +kernel
theorem dX9_clashes_62 : decode cX9_clashes 62 = .ok (.aload_n 0, 1) := by decide +kernel
theorem dX9_clashes_63 : decode cX9_clashes 63 = .ok (.getfield 95, 3) := by decide +kernel
theorem dX9_clashes_66 : decode cX9_clashes 66 = .ok (.aload_n 0, 1) := by decide +kernel
theorem dX9_clashes_67 : decode cX9_clashes 67 = .ok (.getfield 16, 3) := by decide +kernel
theorem dX9_clashes_70 : decode cX9_clashes 70 = .ok (.iload_n 1, 1) := by decide +kernel
theorem dX9_clashes_71 : decode cX9_clashes 71 = .ok (.iaload, 1) := by decide +kernel
theorem dX9_clashes_72 : decode cX9_clashes 72 = .ok (.if_icmp .eq 41, 3) := by decide +kernel
theorem dX9_clashes_75 : decode cX9_clashes 75 = .ok (.aload_n 0, 1) := by decide +kernel
theorem dX9_clashes_76 : decode cX9_clashes 76 = .ok (.getfield 95, 3) := by decide +kernel
theorem dX9_clashes_79 : decode cX9_clashes 79 = .ok (.iload_n 2, 1) := by decide +kernel
theorem dX9_clashes_80 : decode cX9_clashes 80 = .ok (.if_icmp .le 17, 3) := by decide +kernel
theorem dX9_clashes_83 : decode cX9_clashes 83 = .ok (.aload_n 0, 1) := by decide +kernel
theorem dX9_clashes_84 : decode cX9_clashes 84 = .ok (.getfield 7, 3) := by decide +kernel
theorem dX9_clashes_87 : decode cX9_clashes 87 = .ok (.iload_n 2, 1) := by decide +kernel
theorem dX9_clashes_88 : decode cX9_clashes 88 = .ok (.iaload, 1) := by decide +kernel
theorem dX9_clashes_89 : decode cX9_clashes 89 = .ok (.bipush 46, 2) := by decide +kernel
theorem dX9_clashes_91 : decode cX9_clashes 91 = .ok (.if_icmp .ne 26, 3) := by decide +kernel
theorem dX9_clashes_94 : decode cX9_clashes 94 = .ok (.goto 19, 3) := by decide +kernel
theorem dX9_clashes_97 : decode cX9_clashes 97 = .ok (.aload_n 0, 1) := by decide +kernel
theorem dX9_clashes_98 : decode cX9_clashes 98 = .ok (.getfield 13, 3) := by decide +kernel
theorem dX9_clashes_101 : decode cX9_clashes 101 = .ok (.bipush 40, 2) := by decide +kernel
theorem dX9_clashes_103 : decode cX9_clashes 103 = .ok (.iload_n 1, 1) := by decide +kernel
theorem dX9_clashes_104 : decode cX9_clashes 104 = .ok (.imul, 1) := by decide +kernel
theorem dX9_clashes_105 : decode cX9_clashes 105 = .ok (.iload_n 2, 1) := by decide +kernel
theorem dX9_clashes_106 : decode cX9_clashes 106 = .ok (.iadd, 1) := by decide +kernel
theorem dX9_clashes_107 : decode cX9_clashes 107 = .ok (.iaload, 1) := by decide +kernel
theorem dX9_clashes_108 : decode cX9_clashes 108 = .ok (.bipush 46, 2) := by decide +kernel
theorem dX9_clashes_110 : decode cX9_clashes 110 = .ok (.if_icmp .ne 7, 3) := by decide +kernel
theorem dX9_clashes_113 : decode cX9_clashes 113 = .ok (.iconst 1, 1) := by decide +kernel
theorem dX9_clashes_114 : decode cX9_clashes 114 = .ok (.goto 4, 3) := by decide +kernel
theorem dX9_clashes_117 : decode cX9_clashes 117 = .ok (.iconst 0, 1) := by decide +kernel
theorem dX9_clashes_118 : decode cX9_clashes 118 = .ok (.ireturn, 1) := by decide +kernel
def bX9_clashes_29 (K29 : Int32 → Option Int32) (a0 : Nat) (x1 : Int32) (x2 : Int32) (x3 : Int32) (u : fb_M) : Option Int32 :=
 (if x2 ≤ x3 then ((fb_R u a0 3).bind fun q67 => fb_gd (q67 < fb_NT ∧ (fb_sh q67).1 = 100) 
   ((fb_gd (¬ (x1 < 0 ∨ (fb_sh q67).2 ≤ x1.toNatClampNeg)) 
   (if (fb_I u a0 1) = (fb_I u q67 x1.toNatClampNeg) then (some 1)
   else (if (fb_I u a0 1) ≤ x2 then ((fb_R u a0 2).bind fun q98 => fb_gd (q98 < fb_NT ∧ (fb_sh q98).1 = 100) 
     ((fb_gd (¬ ((40 * x1) + x2 < 0 ∨ (fb_sh q98).2 ≤ ((40 * x1) + x2).toNatClampNeg)) 
     (if (fb_I u q98 ((40 * x1) + x2).toNatClampNeg) = 46 then (some 1)
     else (some 0)))))
    else ((fb_R u a0 0).bind fun q84 => fb_gd (q84 < fb_NT ∧ (fb_sh q84).1 = 100) 
     ((fb_gd (¬ (x2 < 0 ∨ (fb_sh q84).2 ≤ x2.toNatClampNeg)) 
     (if (fb_I u q84 x2.toNatClampNeg) = 46 then (some 1)
     else (some 0))))))))))
  else ((fb_R u a0 0).bind fun q35 => fb_gd (q35 < fb_NT ∧ (fb_sh q35).1 = 100) 
   ((fb_gd (¬ (x3 < 0 ∨ (fb_sh q35).2 ≤ x3.toNatClampNeg)) 
   ((fb_R u a0 2).bind fun q41 => fb_gd (q41 < fb_NT ∧ (fb_sh q41).1 = 100) 
   ((fb_gd (¬ ((40 * x1) + x3 < 0 ∨ (fb_sh q41).2 ≤ ((40 * x1) + x3).toNatClampNeg)) 
   (if (fb_I u q35 x3.toNatClampNeg) = (fb_I u q41 ((40 * x1) + x3).toNatClampNeg) then (K29 (x3 + 1))
   else (some 0)))))))))
def gX9_clashes_29 (a0 : Nat) (x1 : Int32) (x2 : Int32) (u : fb_M) : Nat → Int32 → Option Int32
 | 0 => fun _ => none
 | fu + 1 => fun x3 => bX9_clashes_29 (gX9_clashes_29 a0 x1 x2 u fu) a0 x1 x2 x3 u
set_option maxRecDepth 100000 in
set_option maxHeartbeats 4000000 in
theorem tbX9_clashes_29 {g : fb_G} {res : Int32} (a0 : Nat) (x1 : Int32) (x2 : Int32) (x3 : Int32) (u : fb_M) (K29 : Int32 → Option Int32) (ha0 : a0 < fb_NT ∧ fb_sh a0 = (9, 40)) (hK29 : ∀ (x3 : Int32) ,  K29 x3 = some res → fb_V g RX9 cX9_clashes 4 (some .boolean) "clashes" (fb_room 0 0 0 0) (fb_Qm g (some (.int res)) fb_NT u 0 0) 0 0 fb_NT u 29 [(0, .ref (fb_b g + a0)), (1, .int x1), (2, .int x2), (3, .int x3)] []) (h : bX9_clashes_29 K29 a0 x1 x2 x3 u = some res) : fb_V g RX9 cX9_clashes 4 (some .boolean) "clashes" (fb_room 0 0 0 0) (fb_Qm g (some (.int res)) fb_NT u 0 0) 0 0 fb_NT u 29 [(0, .ref (fb_b g + a0)), (1, .int x1), (2, .int x2), (3, .int x3)] [] := by
  unfold bX9_clashes_29 at h
  refine fb_iload_n (pc := 29) dX9_clashes_29 3 rfl ?_
  refine fb_iload_n (pc := 30) dX9_clashes_30 2 rfl ?_
  refine fb_icmp_ge (pc := 31) (tgt := 62) h dX9_clashes_31 (by decide) (fun h => ?_) (fun h => ?_)
  · refine fb_aload_n (pc := 62) dX9_clashes_62 0 rfl ?_
    refine fb_getI (pc := 63) dX9_clashes_63 lkX9_95 ha0.1 ha0.2 rfl ?_
    refine fb_aload_n (pc := 66) dX9_clashes_66 0 rfl ?_
    refine fb_bnE h (fun q67 e67 h => fb_gdE h (fun s67 h => ?_))
    refine fb_getR (pc := 67) dX9_clashes_67 lkX9_16 ha0.1 ha0.2 (by decide) e67 ?_
    refine fb_iload_n (pc := 70) dX9_clashes_70 1 rfl ?_
    refine fb_gdE h (fun i71 h => ?_)
    refine fb_iald (pc := 71) dX9_clashes_71 s67.1 (fb_eta s67.2) i71 ?_
    refine fb_icmp_eq (pc := 72) (tgt := 113) h dX9_clashes_72 (by decide) (fun h => ?_) (fun h => ?_)
    · refine fb_iconst (pc := 113) (v := 1) dX9_clashes_113 fb_ki_1 ?_
      refine fb_goto (pc := 114) (tgt := 118) dX9_clashes_114 (by decide) ?_
      exact fb_zretR (pc := 118) rfl h dX9_clashes_118
    · refine fb_aload_n (pc := 75) dX9_clashes_75 0 rfl ?_
      refine fb_getI (pc := 76) dX9_clashes_76 lkX9_95 ha0.1 ha0.2 rfl ?_
      refine fb_iload_n (pc := 79) dX9_clashes_79 2 rfl ?_
      refine fb_icmp_le (pc := 80) (tgt := 97) h dX9_clashes_80 (by decide) (fun h => ?_) (fun h => ?_)
      · refine fb_aload_n (pc := 97) dX9_clashes_97 0 rfl ?_
        refine fb_bnE h (fun q98 e98 h => fb_gdE h (fun s98 h => ?_))
        refine fb_getR (pc := 98) dX9_clashes_98 lkX9_13 ha0.1 ha0.2 (by decide) e98 ?_
        refine fb_bipush (pc := 101) (v := 40) dX9_clashes_101 fb_kb_40 ?_
        refine fb_iload_n (pc := 103) dX9_clashes_103 1 rfl ?_
        refine fb_imul (pc := 104) dX9_clashes_104 ?_
        refine fb_iload_n (pc := 105) dX9_clashes_105 2 rfl ?_
        refine fb_iadd (pc := 106) dX9_clashes_106 ?_
        refine fb_gdE h (fun i107 h => ?_)
        refine fb_iald (pc := 107) dX9_clashes_107 s98.1 (fb_eta s98.2) i107 ?_
        refine fb_bipush (pc := 108) (v := 46) dX9_clashes_108 fb_kb_46 ?_
        refine fb_icmp_ne (pc := 110) (tgt := 117) h dX9_clashes_110 (by decide) (fun h => ?_) (fun h => ?_)
        · refine fb_iconst (pc := 117) (v := 0) dX9_clashes_117 fb_ki_0 ?_
          exact fb_zretR (pc := 118) rfl h dX9_clashes_118
        · refine fb_iconst (pc := 113) (v := 1) dX9_clashes_113 fb_ki_1 ?_
          refine fb_goto (pc := 114) (tgt := 118) dX9_clashes_114 (by decide) ?_
          exact fb_zretR (pc := 118) rfl h dX9_clashes_118
      · refine fb_aload_n (pc := 83) dX9_clashes_83 0 rfl ?_
        refine fb_bnE h (fun q84 e84 h => fb_gdE h (fun s84 h => ?_))
        refine fb_getR (pc := 84) dX9_clashes_84 lkX9_7 ha0.1 ha0.2 (by decide) e84 ?_
        refine fb_iload_n (pc := 87) dX9_clashes_87 2 rfl ?_
        refine fb_gdE h (fun i88 h => ?_)
        refine fb_iald (pc := 88) dX9_clashes_88 s84.1 (fb_eta s84.2) i88 ?_
        refine fb_bipush (pc := 89) (v := 46) dX9_clashes_89 fb_kb_46 ?_
        refine fb_icmp_ne (pc := 91) (tgt := 117) h dX9_clashes_91 (by decide) (fun h => ?_) (fun h => ?_)
        · refine fb_iconst (pc := 117) (v := 0) dX9_clashes_117 fb_ki_0 ?_
          exact fb_zretR (pc := 118) rfl h dX9_clashes_118
        · refine fb_goto (pc := 94) (tgt := 113) dX9_clashes_94 (by decide) ?_
          refine fb_iconst (pc := 113) (v := 1) dX9_clashes_113 fb_ki_1 ?_
          refine fb_goto (pc := 114) (tgt := 118) dX9_clashes_114 (by decide) ?_
          exact fb_zretR (pc := 118) rfl h dX9_clashes_118
  · refine fb_aload_n (pc := 34) dX9_clashes_34 0 rfl ?_
    refine fb_bnE h (fun q35 e35 h => fb_gdE h (fun s35 h => ?_))
    refine fb_getR (pc := 35) dX9_clashes_35 lkX9_7 ha0.1 ha0.2 (by decide) e35 ?_
    refine fb_iload_n (pc := 38) dX9_clashes_38 3 rfl ?_
    refine fb_gdE h (fun i39 h => ?_)
    refine fb_iald (pc := 39) dX9_clashes_39 s35.1 (fb_eta s35.2) i39 ?_
    refine fb_aload_n (pc := 40) dX9_clashes_40 0 rfl ?_
    refine fb_bnE h (fun q41 e41 h => fb_gdE h (fun s41 h => ?_))
    refine fb_getR (pc := 41) dX9_clashes_41 lkX9_13 ha0.1 ha0.2 (by decide) e41 ?_
    refine fb_bipush (pc := 44) (v := 40) dX9_clashes_44 fb_kb_40 ?_
    refine fb_iload_n (pc := 46) dX9_clashes_46 1 rfl ?_
    refine fb_imul (pc := 47) dX9_clashes_47 ?_
    refine fb_iload_n (pc := 48) dX9_clashes_48 3 rfl ?_
    refine fb_iadd (pc := 49) dX9_clashes_49 ?_
    refine fb_gdE h (fun i50 h => ?_)
    refine fb_iald (pc := 50) dX9_clashes_50 s41.1 (fb_eta s41.2) i50 ?_
    refine fb_icmp_eq (pc := 51) (tgt := 56) h dX9_clashes_51 (by decide) (fun h => ?_) (fun h => ?_)
    · refine fb_iinc (pc := 56) (v := 1) (lv' := [(3, .int (x3 + 1)), (0, .ref (fb_b g + a0)), (1, .int x1), (2, .int x2)]) dX9_clashes_56 3 rfl fb_ki_1 (by decide) rfl ?_
      refine fb_goto (pc := 59) (tgt := 29) dX9_clashes_59 (by decide) ?_
      exact fb_sub [1, 2, 3, 0] rfl (hK29 (x3 + 1) h)
    · refine fb_iconst (pc := 54) (v := 0) dX9_clashes_54 fb_ki_0 ?_
      exact fb_zretR (pc := 55) rfl h dX9_clashes_55

theorem tgX9_clashes_29 {g : fb_G} {res : Int32} (a0 : Nat) (x1 : Int32) (x2 : Int32) (u : fb_M) (ha0 : a0 < fb_NT ∧ fb_sh a0 = (9, 40)) : ∀ (fu : Nat) (x3 : Int32) ,  gX9_clashes_29 a0 x1 x2 u fu x3 = some res → fb_V g RX9 cX9_clashes 4 (some .boolean) "clashes" (fb_room 0 0 0 0) (fb_Qm g (some (.int res)) fb_NT u 0 0) 0 0 fb_NT u 29 [(0, .ref (fb_b g + a0)), (1, .int x1), (2, .int x2), (3, .int x3)] [] := by
  intro fu
  induction fu with
  | zero => intro x3 h; exact absurd h (by simp [gX9_clashes_29])
  | succ fu ih => intro x3 h; exact tbX9_clashes_29 a0 x1 x2 x3 u (gX9_clashes_29 a0 x1 x2 u fu) ha0 ih h
def fX9_clashes (u : fb_M) (a0 : Nat) (x1 : Int32) : Option Int32 :=
 ((fb_R u a0 3).bind fun q5 => fb_gd (q5 < fb_NT ∧ (fb_sh q5).1 = 100) 
  ((fb_gd (¬ (x1 < 0 ∨ (fb_sh q5).2 ≤ x1.toNatClampNeg)) 
  (if (fb_I u q5 x1.toNatClampNeg) ≤ (fb_I u a0 1) then ((fb_R u a0 3).bind fun q21 => fb_gd (q21 < fb_NT ∧ (fb_sh q21).1 = 100) 
   ((fb_gd (¬ (x1 < 0 ∨ (fb_sh q21).2 ≤ x1.toNatClampNeg)) 
   (gX9_clashes_29 a0 x1 (fb_I u q21 x1.toNatClampNeg) u fb_F 0))))
  else (gX9_clashes_29 a0 x1 (fb_I u a0 1) u fb_F 0)))))
set_option maxRecDepth 100000 in
set_option maxHeartbeats 4000000 in
theorem mX9_clashes (g : fb_G) (u : fb_M) (a0 : Nat) (x1 : Int32) (ha0 : a0 < fb_NT ∧ fb_sh a0 = (9, 40)) {res : Int32} (h : fX9_clashes u a0 x1 = some res) : fb_Runs g 0 0 0 0 fb_NT fb_NT yX9_clashes cX9_clashes 4 (some .boolean) [.ref (fb_b g + a0), .int x1] u (some (.int res)) u := by
  unfold fX9_clashes at h
  refine fb_enter (by decide) (Nat.le_of_ble_eq_true rfl) ?_
  show fb_V g RX9 cX9_clashes 4 (some .boolean) "clashes" (fb_room 0 0 0 0) (fb_Qm g (some (.int res)) fb_NT u 0 0) 0 0 fb_NT u 0 [(0, .ref (fb_b g + a0)), (1, .int x1)] []
  refine fb_aload_n (pc := 0) dX9_clashes_0 0 rfl ?_
  refine fb_getI (pc := 1) dX9_clashes_1 lkX9_95 ha0.1 ha0.2 rfl ?_
  refine fb_aload_n (pc := 4) dX9_clashes_4 0 rfl ?_
  refine fb_bnE h (fun q5 e5 h => fb_gdE h (fun s5 h => ?_))
  refine fb_getR (pc := 5) dX9_clashes_5 lkX9_16 ha0.1 ha0.2 (by decide) e5 ?_
  refine fb_iload_n (pc := 8) dX9_clashes_8 1 rfl ?_
  refine fb_gdE h (fun i9 h => ?_)
  refine fb_iald (pc := 9) dX9_clashes_9 s5.1 (fb_eta s5.2) i9 ?_
  refine fb_icmp_ge (pc := 10) (tgt := 20) h dX9_clashes_10 (by decide) (fun h => ?_) (fun h => ?_)
  · refine fb_aload_n (pc := 20) dX9_clashes_20 0 rfl ?_
    refine fb_bnE h (fun q21 e21 h => fb_gdE h (fun s21 h => ?_))
    refine fb_getR (pc := 21) dX9_clashes_21 lkX9_16 ha0.1 ha0.2 (by decide) e21 ?_
    refine fb_iload_n (pc := 24) dX9_clashes_24 1 rfl ?_
    refine fb_gdE h (fun i25 h => ?_)
    refine fb_iald (pc := 25) dX9_clashes_25 s21.1 (fb_eta s21.2) i25 ?_
    refine fb_istore_n (pc := 26) (lv' := [(2, .int (fb_I u q21 x1.toNatClampNeg)), (0, .ref (fb_b g + a0)), (1, .int x1)]) dX9_clashes_26 rfl (by decide) rfl ?_
    refine fb_iconst (pc := 27) (v := 0) dX9_clashes_27 fb_ki_0 ?_
    refine fb_istore_n (pc := 28) (lv' := [(3, .int 0), (2, .int (fb_I u q21 x1.toNatClampNeg)), (0, .ref (fb_b g + a0)), (1, .int x1)]) dX9_clashes_28 rfl (by decide) rfl ?_
    exact fb_sub [2, 3, 1, 0] rfl (tgX9_clashes_29 a0 x1 (fb_I u q21 x1.toNatClampNeg) u ha0 fb_F 0 h)
  · refine fb_aload_n (pc := 13) dX9_clashes_13 0 rfl ?_
    refine fb_getI (pc := 14) dX9_clashes_14 lkX9_95 ha0.1 ha0.2 rfl ?_
    refine fb_goto (pc := 17) (tgt := 26) dX9_clashes_17 (by decide) ?_
    refine fb_istore_n (pc := 26) (lv' := [(2, .int (fb_I u a0 1)), (0, .ref (fb_b g + a0)), (1, .int x1)]) dX9_clashes_26 rfl (by decide) rfl ?_
    refine fb_iconst (pc := 27) (v := 0) dX9_clashes_27 fb_ki_0 ?_
    refine fb_istore_n (pc := 28) (lv' := [(3, .int 0), (2, .int (fb_I u a0 1)), (0, .ref (fb_b g + a0)), (1, .int x1)]) dX9_clashes_28 rfl (by decide) rfl ?_
    exact fb_sub [2, 3, 1, 0] rfl (tgX9_clashes_29 a0 x1 (fb_I u a0 1) u ha0 fb_F 0 h)

theorem dX9_declare_0 : decode cX9_declare 0 = .ok (.aload_n 0, 1) := by decide +kernel
theorem dX9_declare_1 : decode cX9_declare 1 = .ok (.invokevirtual 123, 3) := by decide +kernel
theorem dX9_declare_4 : decode cX9_declare 4 = .ok (.ifCond .ne 5, 3) := by decide +kernel
theorem dX9_declare_7 : decode cX9_declare 7 = .ok (.iconst (-1), 1) := by decide +kernel
theorem dX9_declare_8 : decode cX9_declare 8 = .ok (.ireturn, 1) := by decide +kernel
theorem dX9_declare_9 : decode cX9_declare 9 = .ok (.iconst 0, 1) := by decide +kernel
theorem dX9_declare_10 : decode cX9_declare 10 = .ok (.istore_n 1, 1) := by decide +kernel
theorem dX9_declare_11 : decode cX9_declare 11 = .ok (.iload_n 1, 1) := by decide +kernel
theorem dX9_declare_12 : decode cX9_declare 12 = .ok (.aload_n 0, 1) := by decide +kernel
theorem dX9_declare_13 : decode cX9_declare 13 = .ok (.getfield 127, 3) := by decide +kernel
theorem dX9_declare_16 : decode cX9_declare 16 = .ok (.if_icmp .ge 20, 3) := by decide +kernel
theorem dX9_declare_19 : decode cX9_declare 19 = .ok (.aload_n 0, 1) := by decide +kernel
theorem dX9_declare_20 : decode cX9_declare 20 = .ok (.iload_n 1, 1) := by decide +kernel
theorem dX9_declare_21 : decode cX9_declare 21 = .ok (.invokevirtual 130, 3) := by decide +kernel
theorem dX9_declare_24 : decode cX9_declare 24 = .ok (.ifCond .eq 6, 3) := by decide +kernel
theorem dX9_declare_27 : decode cX9_declare 27 = .ok (.bipush (-2), 2) := by decide +kernel
theorem dX9_declare_29 : decode cX9_declare 29 = .ok (.ireturn, 1) := by decide +kernel
theorem dX9_declare_30 : decode cX9_declare 30 = .ok (.iinc 1 1, 3) := by decide +kernel
theorem dX9_declare_33 : decode cX9_declare 33 = .ok (.goto (-22), 3) := by decide +kernel
theorem dX9_declare_36 : decode cX9_declare 36 = .ok (.aload_n 0, 1) := by decide +kernel
theorem dX9_declare_37 : decode cX9_declare 37 = .ok (.getfield 127, 3) := by decide +kernel
theorem dX9_declare_40 : decode cX9_declare 40 = .ok (.bipush 8, 2) := by decide +kernel
theorem dX9_declare_42 : decode cX9_declare 42 = .ok (.if_icmp .ne 6, 3) := by decide +kernel
theorem dX9_declare_45 : decode cX9_declare 45 = .ok (.bipush (-3), 2) := by decide +kernel
theorem dX9_declare_47 : decode cX9_declare 47 = .ok (.ireturn, 1) := by decide +kernel
theorem dX9_declare_48 : decode cX9_declare 48 = .ok (.iconst 0, 1) := by decide +kernel
theorem dX9_declare_49 : decode cX9_declare 49 = .ok (.istore_n 1, 1) := by decide +kernel
theorem dX9_declare_50 : decode cX9_declare 50 = .ok (.iload_n 1, 1) := by decide +kernel
theorem dX9_declare_51 : decode cX9_declare 51 = .ok (.aload_n 0, 1) := by decide +kernel
theorem dX9_declare_52 : decode cX9_declare 52 = .ok (.getfield 95, 3) := by decide +kernel
theorem dX9_declare_55 : decode cX9_declare 55 = .ok (.if_icmp .ge 29, 3) := by decide +kernel
theorem dX9_declare_58 : decode cX9_declare 58 = .ok (.aload_n 0, 1) := by decide +kernel
theorem dX9_declare_59 : decode cX9_declare 59 = .ok (.getfield 13, 3) := by decide +kernel
theorem dX9_declare_62 : decode cX9_declare 62 = .ok (.bipush 40, 2) := by decide +kernel
theorem dX9_declare_64 : decode cX9_declare 64 = .ok (.aload_n 0, 1) := by decide +kernel
theorem dX9_declare_65 : decode cX9_declare 65 = .ok (.getfield 127, 3) := by decide +kernel
theorem dX9_declare_68 : decode cX9_declare 68 = .ok (.imul, 1) := by decide +kernel
theorem dX9_declare_69 : decode cX9_declare 69 = .ok (.iload_n 1, 1) := by decide +kernel
theorem dX9_declare_70 : decode cX9_declare 70 = .ok (.iadd, 1) := by decide +kernel
theorem dX9_declare_71 : decode cX9_declare 71 = .ok (.aload_n 0, 1) := by decide +kernel
theorem dX9_declare_72 : decode cX9_declare 72 = .ok (.getfield 7, 3) := by decide +kernel
theorem dX9_declare_75 : decode cX9_declare 75 = .ok (.iload_n 1, 1) := by decide +kernel
theorem dX9_declare_76 : decode cX9_declare 76 = .ok (.iaload, 1) := by decide +kernel
theorem dX9_declare_77 : decode cX9_declare 77 = .ok (.iastore, 1) := by decide +kernel
theorem dX9_declare_78 : decode cX9_declare 78 = .ok (.iinc 1 1, 3) := by decide +kernel
theorem dX9_declare_81 : decode cX9_declare 81 = .ok (.goto (-31), 3) := by decide +kernel
theorem dX9_declare_84 : decode cX9_declare 84 = .ok (.aload_n 0, 1) := by decide +kernel
theorem dX9_declare_85 : decode cX9_declare 85 = .ok (.getfield 16, 3) := by decide +kernel
theorem dX9_declare_88 : decode cX9_declare 88 = .ok (.aload_n 0, 1) := by decide +kernel
theorem dX9_declare_89 : decode cX9_declare 89 = .ok (.getfield 127, 3) := by decide +kernel
theorem dX9_declare_92 : decode cX9_declare 92 = .ok (.aload_n 0, 1) := by decide +kernel
theorem dX9_declare_93 : decode cX9_declare 93 = .ok (.getfield 95, 3) := by decide +kernel
theorem dX9_declare_96 : decode cX9_declare 96 = .ok (.iastore, 1) := by decide +kernel
theorem dX9_declare_97 : decode cX9_declare 97 = .ok (.aload_n 0, 1) := by decide +kernel
theorem dX9_declare_98 : decode cX9_declare 98 = .ok (.iconst 0, 1) := by decide +kernel
theorem dX9_declare_99 : decode cX9_declare 99 = .ok (.putfield 95, 3) := by decide +kernel
theorem dX9_declare_102 : decode cX9_declare 102 = .ok (.aload_n 0, 1) := by decide +kernel
theorem dX9_declare_103 : decode cX9_declare 103 = .ok (.dup, 1) := by decide +kernel
theorem dX9_declare_104 : decode cX9_declare 104 = .ok (.getfield 127, 3) := by decide +kernel
theorem dX9_declare_107 : decode cX9_declare 107 = .ok (.iconst 1, 1) := by decide +kernel
theorem dX9_declare_108 : decode cX9_declare 108 = .ok (.iadd, 1) := by decide +kernel
theorem dX9_declare_109 : decode cX9_declare 109 = .ok (.putfield 127, 3) := by decide +kernel
theorem dX9_declare_112 : decode cX9_declare 112 = .ok (.aload_n 0, 1) := by decide +kernel
theorem dX9_declare_113 : decode cX9_declare 113 = .ok (.getfield 127, 3) := by decide +kernel
theorem dX9_declare_116 : decode cX9_declare 116 = .ok (.iconst 1, 1) := by decide +kernel
theorem dX9_declare_117 : decode cX9_declare 117 = .ok (.isub, 1) := by decide +kernel
theorem dX9_declare_118 : decode cX9_declare 118 = .ok (.ireturn, 1) := by decide +kernel
def bX9_declare_50 (K50 : Int32 → fb_M → Option (Int32 × fb_M)) (a0 : Nat) (x1 : Int32) (u : fb_M) : Option (Int32 × fb_M) :=
 (if (fb_I u a0 1) ≤ x1 then ((fb_R u a0 3).bind fun q85 => fb_gd (q85 < fb_NT ∧ (fb_sh q85).1 = 100) 
   ((fb_gd (¬ (fb_I u a0 4 < 0 ∨ (fb_sh q85).2 ≤ (fb_I u a0 4).toNatClampNeg)) 
   (some ((fb_I (fb_wI (fb_wI (fb_wI u q85 (fb_I u a0 4).toNatClampNeg (fb_I u a0 1)) a0 1 0) a0 4 ((fb_I (fb_wI (fb_wI u q85 (fb_I u a0 4).toNatClampNeg (fb_I u a0 1)) a0 1 0) a0 4) + 1)) a0 4) - 1, fb_wI (fb_wI (fb_wI u q85 (fb_I u a0 4).toNatClampNeg (fb_I u a0 1)) a0 1 0) a0 4 ((fb_I (fb_wI (fb_wI u q85 (fb_I u a0 4).toNatClampNeg (fb_I u a0 1)) a0 1 0) a0 4) + 1))))))
  else ((fb_R u a0 2).bind fun q59 => fb_gd (q59 < fb_NT ∧ (fb_sh q59).1 = 100) 
   (((fb_R u a0 0).bind fun q72 => fb_gd (q72 < fb_NT ∧ (fb_sh q72).1 = 100) 
   ((fb_gd (¬ (x1 < 0 ∨ (fb_sh q72).2 ≤ x1.toNatClampNeg)) 
   (fb_gd (¬ ((40 * (fb_I u a0 4)) + x1 < 0 ∨ (fb_sh q59).2 ≤ ((40 * (fb_I u a0 4)) + x1).toNatClampNeg)) 
   (K50 (x1 + 1) (fb_wI u q59 ((40 * (fb_I u a0 4)) + x1).toNatClampNeg (fb_I u q72 x1.toNatClampNeg))))))))))
def gX9_declare_50 (a0 : Nat) : Nat → Int32 → fb_M → Option (Int32 × fb_M)
 | 0 => fun _ _ => none
 | fu + 1 => fun x1 u => bX9_declare_50 (gX9_declare_50 a0 fu) a0 x1 u
set_option maxRecDepth 100000 in
set_option maxHeartbeats 4000000 in
theorem tbX9_declare_50 {g : fb_G} {res : (Int32 × fb_M)} (a0 : Nat) (x1 : Int32) (u : fb_M) (K50 : Int32 → fb_M → Option (Int32 × fb_M)) (ha0 : a0 < fb_NT ∧ fb_sh a0 = (9, 40)) (hK50 : ∀ (x1 : Int32) (u : fb_M) ,  K50 x1 u = some res → fb_V g RX9 cX9_declare 2 (some .int) "declare" (fb_room 2 45 0 0) (fb_Qm g (some (.int res.1)) fb_NT res.2 0 0) 0 0 fb_NT u 50 [(0, .ref (fb_b g + a0)), (1, .int x1)] []) (h : bX9_declare_50 K50 a0 x1 u = some res) : fb_V g RX9 cX9_declare 2 (some .int) "declare" (fb_room 2 45 0 0) (fb_Qm g (some (.int res.1)) fb_NT res.2 0 0) 0 0 fb_NT u 50 [(0, .ref (fb_b g + a0)), (1, .int x1)] [] := by
  unfold bX9_declare_50 at h
  refine fb_iload_n (pc := 50) dX9_declare_50 1 rfl ?_
  refine fb_aload_n (pc := 51) dX9_declare_51 0 rfl ?_
  refine fb_getI (pc := 52) dX9_declare_52 lkX9_95 ha0.1 ha0.2 rfl ?_
  refine fb_icmp_ge (pc := 55) (tgt := 84) h dX9_declare_55 (by decide) (fun h => ?_) (fun h => ?_)
  · refine fb_aload_n (pc := 84) dX9_declare_84 0 rfl ?_
    refine fb_bnE h (fun q85 e85 h => fb_gdE h (fun s85 h => ?_))
    refine fb_getR (pc := 85) dX9_declare_85 lkX9_16 ha0.1 ha0.2 (by decide) e85 ?_
    refine fb_aload_n (pc := 88) dX9_declare_88 0 rfl ?_
    refine fb_getI (pc := 89) dX9_declare_89 lkX9_127 ha0.1 ha0.2 rfl ?_
    refine fb_aload_n (pc := 92) dX9_declare_92 0 rfl ?_
    refine fb_getI (pc := 93) dX9_declare_93 lkX9_95 ha0.1 ha0.2 rfl ?_
    refine fb_gdE h (fun i96 h => ?_)
    refine fb_iast (pc := 96) dX9_declare_96 s85.1 (fb_eta s85.2) i96 ?_
    refine fb_aload_n (pc := 97) dX9_declare_97 0 rfl ?_
    refine fb_iconst (pc := 98) (v := 0) dX9_declare_98 fb_ki_0 ?_
    refine fb_putI (pc := 99) dX9_declare_99 lkX9_95 ly_9_1 ha0.1 ha0.2 rfl rfl rfl ?_
    refine fb_aload_n (pc := 102) dX9_declare_102 0 rfl ?_
    refine fb_dup (pc := 103) dX9_declare_103 rfl ?_
    refine fb_getI (pc := 104) dX9_declare_104 lkX9_127 ha0.1 ha0.2 rfl ?_
    refine fb_iconst (pc := 107) (v := 1) dX9_declare_107 fb_ki_1 ?_
    refine fb_iadd (pc := 108) dX9_declare_108 ?_
    refine fb_putI (pc := 109) dX9_declare_109 lkX9_127 ly_9_4 ha0.1 ha0.2 rfl rfl rfl ?_
    refine fb_aload_n (pc := 112) dX9_declare_112 0 rfl ?_
    refine fb_getI (pc := 113) dX9_declare_113 lkX9_127 ha0.1 ha0.2 rfl ?_
    refine fb_iconst (pc := 116) (v := 1) dX9_declare_116 fb_ki_1 ?_
    refine fb_isub (pc := 117) dX9_declare_117 ?_
    exact fb_iretM (pc := 118) h dX9_declare_118
  · refine fb_aload_n (pc := 58) dX9_declare_58 0 rfl ?_
    refine fb_bnE h (fun q59 e59 h => fb_gdE h (fun s59 h => ?_))
    refine fb_getR (pc := 59) dX9_declare_59 lkX9_13 ha0.1 ha0.2 (by decide) e59 ?_
    refine fb_bipush (pc := 62) (v := 40) dX9_declare_62 fb_kb_40 ?_
    refine fb_aload_n (pc := 64) dX9_declare_64 0 rfl ?_
    refine fb_getI (pc := 65) dX9_declare_65 lkX9_127 ha0.1 ha0.2 rfl ?_
    refine fb_imul (pc := 68) dX9_declare_68 ?_
    refine fb_iload_n (pc := 69) dX9_declare_69 1 rfl ?_
    refine fb_iadd (pc := 70) dX9_declare_70 ?_
    refine fb_aload_n (pc := 71) dX9_declare_71 0 rfl ?_
    refine fb_bnE h (fun q72 e72 h => fb_gdE h (fun s72 h => ?_))
    refine fb_getR (pc := 72) dX9_declare_72 lkX9_7 ha0.1 ha0.2 (by decide) e72 ?_
    refine fb_iload_n (pc := 75) dX9_declare_75 1 rfl ?_
    refine fb_gdE h (fun i76 h => ?_)
    refine fb_iald (pc := 76) dX9_declare_76 s72.1 (fb_eta s72.2) i76 ?_
    refine fb_gdE h (fun i77 h => ?_)
    refine fb_iast (pc := 77) dX9_declare_77 s59.1 (fb_eta s59.2) i77 ?_
    refine fb_iinc (pc := 78) (v := 1) (lv' := [(1, .int (x1 + 1)), (0, .ref (fb_b g + a0))]) dX9_declare_78 1 rfl fb_ki_1 (by decide) rfl ?_
    refine fb_goto (pc := 81) (tgt := 50) dX9_declare_81 (by decide) ?_
    exact fb_sub [1, 0] rfl (hK50 (x1 + 1) (fb_wI u q59 ((40 * (fb_I u a0 4)) + x1).toNatClampNeg (fb_I u q72 x1.toNatClampNeg)) h)

theorem tgX9_declare_50 {g : fb_G} {res : (Int32 × fb_M)} (a0 : Nat) (ha0 : a0 < fb_NT ∧ fb_sh a0 = (9, 40)) : ∀ (fu : Nat) (x1 : Int32) (u : fb_M) ,  gX9_declare_50 a0 fu x1 u = some res → fb_V g RX9 cX9_declare 2 (some .int) "declare" (fb_room 2 45 0 0) (fb_Qm g (some (.int res.1)) fb_NT res.2 0 0) 0 0 fb_NT u 50 [(0, .ref (fb_b g + a0)), (1, .int x1)] [] := by
  intro fu
  induction fu with
  | zero => intro x1 u h; exact absurd h (by simp [gX9_declare_50])
  | succ fu ih => intro x1 u h; exact tbX9_declare_50 a0 x1 u (gX9_declare_50 a0 fu) ha0 ih h
def bX9_declare_11 (K11 : Int32 → Option (Int32 × fb_M)) (a0 : Nat) (x1 : Int32) (u : fb_M) : Option (Int32 × fb_M) :=
 (if (fb_I u a0 4) ≤ x1 then (if (fb_I u a0 4) = 8 then (some ((-3), u))
   else (gX9_declare_50 a0 fb_F 0 u))
  else ((fX9_clashes u a0 x1).bind fun r21 => 
   (if r21 = 0 then (K11 (x1 + 1))
   else (some ((-2), u)))))
def gX9_declare_11 (a0 : Nat) (u : fb_M) : Nat → Int32 → Option (Int32 × fb_M)
 | 0 => fun _ => none
 | fu + 1 => fun x1 => bX9_declare_11 (gX9_declare_11 a0 u fu) a0 x1 u
set_option maxRecDepth 100000 in
set_option maxHeartbeats 4000000 in
theorem tbX9_declare_11 {g : fb_G} {res : (Int32 × fb_M)} (a0 : Nat) (x1 : Int32) (u : fb_M) (K11 : Int32 → Option (Int32 × fb_M)) (ha0 : a0 < fb_NT ∧ fb_sh a0 = (9, 40)) (hK11 : ∀ (x1 : Int32) ,  K11 x1 = some res → fb_V g RX9 cX9_declare 2 (some .int) "declare" (fb_room 2 45 0 0) (fb_Qm g (some (.int res.1)) fb_NT res.2 0 0) 0 0 fb_NT u 11 [(0, .ref (fb_b g + a0)), (1, .int x1)] []) (h : bX9_declare_11 K11 a0 x1 u = some res) : fb_V g RX9 cX9_declare 2 (some .int) "declare" (fb_room 2 45 0 0) (fb_Qm g (some (.int res.1)) fb_NT res.2 0 0) 0 0 fb_NT u 11 [(0, .ref (fb_b g + a0)), (1, .int x1)] [] := by
  unfold bX9_declare_11 at h
  refine fb_iload_n (pc := 11) dX9_declare_11 1 rfl ?_
  refine fb_aload_n (pc := 12) dX9_declare_12 0 rfl ?_
  refine fb_getI (pc := 13) dX9_declare_13 lkX9_127 ha0.1 ha0.2 rfl ?_
  refine fb_icmp_ge (pc := 16) (tgt := 36) h dX9_declare_16 (by decide) (fun h => ?_) (fun h => ?_)
  · refine fb_aload_n (pc := 36) dX9_declare_36 0 rfl ?_
    refine fb_getI (pc := 37) dX9_declare_37 lkX9_127 ha0.1 ha0.2 rfl ?_
    refine fb_bipush (pc := 40) (v := 8) dX9_declare_40 fb_kb_8 ?_
    refine fb_icmp_ne (pc := 42) (tgt := 48) h dX9_declare_42 (by decide) (fun h => ?_) (fun h => ?_)
    · refine fb_iconst (pc := 48) (v := 0) dX9_declare_48 fb_ki_0 ?_
      refine fb_istore_n (pc := 49) (lv' := [(1, .int 0), (0, .ref (fb_b g + a0))]) dX9_declare_49 rfl (by decide) rfl ?_
      exact fb_sub [1, 0] rfl (tgX9_declare_50 a0 ha0 fb_F 0 u h)
    · refine fb_bipush (pc := 45) (v := (-3)) dX9_declare_45 fb_kb_m3 ?_
      exact fb_iretM (pc := 47) h dX9_declare_47
  · refine fb_aload_n (pc := 19) dX9_declare_19 0 rfl ?_
    refine fb_iload_n (pc := 20) dX9_declare_20 1 rfl ?_
    refine fb_bnE h (fun r21 h21 h => ?_)
    refine fb_cV0v (pc := 21) [.int x1] dX9_declare_21 (mX9_clashes g u a0 x1 ha0 h21) ymX9_clashes yiX9_clashes ha0.1 ha0.2 ylX9_130 rfl (Nat.le_of_ble_eq_true rfl) ⟨Nat.le_of_ble_eq_true rfl, Nat.le_of_ble_eq_true rfl⟩ ⟨Nat.le_of_ble_eq_true rfl, Nat.le_of_ble_eq_true rfl⟩ ?_
    refine fb_if_eq (pc := 24) (tgt := 30) h dX9_declare_24 (by decide) (fun h => ?_) (fun h => ?_)
    · refine fb_iinc (pc := 30) (v := 1) (lv' := [(1, .int (x1 + 1)), (0, .ref (fb_b g + a0))]) dX9_declare_30 1 rfl fb_ki_1 (by decide) rfl ?_
      refine fb_goto (pc := 33) (tgt := 11) dX9_declare_33 (by decide) ?_
      exact fb_sub [1, 0] rfl (hK11 (x1 + 1) h)
    · refine fb_bipush (pc := 27) (v := (-2)) dX9_declare_27 fb_kb_m2 ?_
      exact fb_iretM (pc := 29) h dX9_declare_29

theorem tgX9_declare_11 {g : fb_G} {res : (Int32 × fb_M)} (a0 : Nat) (u : fb_M) (ha0 : a0 < fb_NT ∧ fb_sh a0 = (9, 40)) : ∀ (fu : Nat) (x1 : Int32) ,  gX9_declare_11 a0 u fu x1 = some res → fb_V g RX9 cX9_declare 2 (some .int) "declare" (fb_room 2 45 0 0) (fb_Qm g (some (.int res.1)) fb_NT res.2 0 0) 0 0 fb_NT u 11 [(0, .ref (fb_b g + a0)), (1, .int x1)] [] := by
  intro fu
  induction fu with
  | zero => intro x1 h; exact absurd h (by simp [gX9_declare_11])
  | succ fu ih => intro x1 h; exact tbX9_declare_11 a0 x1 u (gX9_declare_11 a0 u fu) ha0 ih h
def fX9_declare (u : fb_M) (a0 : Nat) : Option (Int32 × fb_M) :=
 ((fX9_isPath u a0).bind fun r1 => 
  (if r1 = 0 then (some ((-1), u))
  else (gX9_declare_11 a0 u fb_F 0)))
set_option maxRecDepth 100000 in
set_option maxHeartbeats 4000000 in
theorem mX9_declare (g : fb_G) (u : fb_M) (a0 : Nat) (ha0 : a0 < fb_NT ∧ fb_sh a0 = (9, 40)) {res : (Int32 × fb_M)} (h : fX9_declare u a0 = some res) : fb_Runs g 2 45 0 0 fb_NT fb_NT yX9_declare cX9_declare 2 (some .int) [.ref (fb_b g + a0)] u (some (.int res.1)) res.2 := by
  unfold fX9_declare at h
  refine fb_enter (by decide) (Nat.le_of_ble_eq_true rfl) ?_
  show fb_V g RX9 cX9_declare 2 (some .int) "declare" (fb_room 2 45 0 0) (fb_Qm g (some (.int res.1)) fb_NT res.2 0 0) 0 0 fb_NT u 0 [(0, .ref (fb_b g + a0))] []
  refine fb_aload_n (pc := 0) dX9_declare_0 0 rfl ?_
  refine fb_bnE h (fun r1 h1 h => ?_)
  refine fb_cV0v (pc := 1) [] dX9_declare_1 (mX9_isPath g u a0 ha0 h1) ymX9_isPath yiX9_isPath ha0.1 ha0.2 ylX9_123 rfl (Nat.le_of_ble_eq_true rfl) ⟨Nat.le_of_ble_eq_true rfl, Nat.le_of_ble_eq_true rfl⟩ ⟨Nat.le_of_ble_eq_true rfl, Nat.le_of_ble_eq_true rfl⟩ ?_
  refine fb_if_ne (pc := 4) (tgt := 9) h dX9_declare_4 (by decide) (fun h => ?_) (fun h => ?_)
  · refine fb_iconst (pc := 9) (v := 0) dX9_declare_9 fb_ki_0 ?_
    refine fb_istore_n (pc := 10) (lv' := [(1, .int 0), (0, .ref (fb_b g + a0))]) dX9_declare_10 rfl (by decide) rfl ?_
    exact fb_sub [1, 0] rfl (tgX9_declare_11 a0 u ha0 fb_F 0 h)
  · refine fb_iconst (pc := 7) (v := (-1)) dX9_declare_7 fb_ki_m1 ?_
    exact fb_iretM (pc := 8) h dX9_declare_8

theorem dX9_spells_0 : decode cX9_spells 0 = .ok (.iload_n 1, 1) := by decide +kernel
theorem dX9_spells_1 : decode cX9_spells 1 = .ok (.istore 4, 2) := by decide +kernel
theorem dX9_spells_3 : decode cX9_spells 3 = .ok (.iconst 1, 1) := by decide +kernel
theorem dX9_spells_4 : decode cX9_spells 4 = .ok (.istore 5, 2) := by decide +kernel
theorem dX9_spells_6 : decode cX9_spells 6 = .ok (.iconst 0, 1) := by decide +kernel
theorem dX9_spells_7 : decode cX9_spells 7 = .ok (.istore 6, 2) := by decide +kernel
theorem dX9_spells_9 : decode cX9_spells 9 = .ok (.iload 6, 2) := by decide +kernel
theorem dX9_spells_11 : decode cX9_spells 11 = .ok (.aload_n 0, 1) := by decide +kernel
theorem dX9_spells_12 : decode cX9_spells 12 = .ok (.getfield 16, 3) := by decide +kernel
theorem dX9_spells_15 : decode cX9_spells 15 = .ok (.iload_n 3, 1) := by decide +kernel
theorem dX9_spells_16 : decode cX9_spells 16 = .ok (.iaload, 1) := by decide +kernel
theorem dX9_spells_17 : decode cX9_spells 17 = .ok (.if_icmp .ge 106, 3) := by decide +kernel
theorem dX9_spells_20 : decode cX9_spells 20 = .ok (.aload_n 0, 1) := by decide +kernel
theorem dX9_spells_21 : decode cX9_spells 21 = .ok (.getfield 13, 3) := by decide +kernel
theorem dX9_spells_24 : decode cX9_spells 24 = .ok (.bipush 40, 2) := by decide +kernel
theorem dX9_spells_26 : decode cX9_spells 26 = .ok (.iload_n 3, 1) := by decide +kernel
theorem dX9_spells_27 : decode cX9_spells 27 = .ok (.imul, 1) := by decide +kernel
theorem dX9_spells_28 : decode cX9_spells 28 = .ok (.iload 6, 2) := by decide +kernel
theorem dX9_spells_30 : decode cX9_spells 30 = .ok (.iadd, 1) := by decide +kernel
theorem dX9_spells_31 : decode cX9_spells 31 = .ok (.iaload, 1) := by decide +kernel
theorem dX9_spells_32 : decode cX9_spells 32 = .ok (.istore 7, 2) := by decide +kernel
theorem dX9_spells_34 : decode cX9_spells 34 = .ok (.iload 7, 2) := by decide +kernel
theorem dX9_spells_36 : decode cX9_spells 36 = .ok (.bipush 46, 2) := by decide +kernel
theorem dX9_spells_38 : decode cX9_spells 38 = .ok (.if_icmp .ne 37, 3) := by decide +kernel
theorem dX9_spells_41 : decode cX9_spells 41 = .ok (.iload 4, 2) := by decide +kernel
theorem dX9_spells_43 : decode cX9_spells 43 = .ok (.iload_n 2, 1) := by decide +kernel
theorem dX9_spells_44 : decode cX9_spells 44 = .ok (.if_icmp .ge 21, 3) := by decide +kernel
theorem dX9_spells_47 : decode cX9_spells 47 = .ok (.aload_n 0, 1) := by decide +kernel
theorem dX9_spells_48 : decode cX9_spells 48 = .ok (.iload 4, 2) := by decide +kernel
theorem dX9_spells_50 : decode cX9_spells 50 = .ok (.invokevirtual 99, 3) := by decide +kernel
theorem dX9_spells_53 : decode cX9_spells 53 = .ok (.bipush 95, 2) := by decide +kernel
theorem dX9_spells_55 : decode cX9_spells 55 = .ok (.if_icmp .ne 10, 3) := by decide +kernel
theorem dX9_spells_58 : decode cX9_spells 58 = .ok (.iload 4, 2) := by decide +kernel
theorem dX9_spells_60 : decode cX9_spells 60 = .ok (.iconst 1, 1) := by decide +kernel
theorem dX9_spells_61 : decode cX9_spells 61 = .ok (.iadd, 1) := by decide +kernel
theorem dX9_spells_62 : decode cX9_spells 62 = .ok (.goto 5, 3) := by decide +kernel
theorem dX9_spells_65 : decode cX9_spells 65 = .ok (.iload 4, 2) := by decide +kernel
theorem dX9_spells_67 : decode cX9_spells 67 = .ok (.istore 4, 2) := by decide +kernel
theorem dX9_spells_69 : decode cX9_spells 69 = .ok (.iconst 1, 1) := by decide +kernel
theorem dX9_spells_70 : decode cX9_spells 70 = .ok (.istore 5, 2) := by decide +kernel
theorem dX9_spells_72 : decode cX9_spells 72 = .ok (.goto 45, 3) := by decide +kernel
theorem dX9_spells_75 : decode cX9_spells 75 = .ok (.iload 5, 2) := by decide +kernel
theorem dX9_spells_77 : decode cX9_spells 77 = .ok (.ifCond .eq 11, 3) := by decide +kernel
theorem dX9_spells_80 : decode cX9_spells 80 = .ok (.iload 7, 2) := by decide +kernel
theorem dX9_spells_82 : decode cX9_spells 82 = .ok (.bipush 32, 2) := by decide +kernel
theorem dX9_spells_84 : decode cX9_spells 84 = .ok (.isub, 1) := by decide +kernel
theorem dX9_spells_85 : decode cX9_spells 85 = .ok (.goto 5, 3) := by decide +kernel
theorem dX9_spells_88 : decode cX9_spells 88 = .ok (.iload 7, 2) := by decide +kernel
theorem dX9_spells_90 : decode cX9_spells 90 = .ok (.istore 8, 2) := by decide +kernel
theorem dX9_spells_92 : decode cX9_spells 92 = .ok (.iload 4, 2) := by decide +kernel
theorem dX9_spells_94 : decode cX9_spells 94 = .ok (.iload_n 2, 1) := by decide +kernel
theorem dX9_spells_95 : decode cX9_spells 95 = .ok (.if_icmp .ge 14, 3) := by decide +kernel
theorem dX9_spells_98 : decode cX9_spells 98 = .ok (.aload_n 0, 1) := by decide +kernel
theorem dX9_spells_99 : decode cX9_spells 99 = .ok (.iload 4, 2) := by decide +kernel
theorem dX9_spells_101 : decode cX9_spells 101 = .ok (.invokevirtual 99, 3) := by decide +kernel
theorem dX9_spells_104 : decode cX9_spells 104 = .ok (.iload 8, 2) := by decide +kernel
theorem dX9_spells_106 : decode cX9_spells 106 = .ok (.if_icmp .eq 5, 3) := by decide +kernel
theorem dX9_spells_109 : decode cX9_spells 109 = .ok (.iconst 0, 1) := by decide +kernel
theorem dX9_spells_110 : decode cX9_spells 110 = .ok (.ireturn, 1) := by decide +kernel
theorem dX9_spells_111 : decode cX9_spells 111 = .ok (.iconst 0, 1) := by decide +kernel
theorem dX9_spells_112 : decode cX9_spells 112 = .ok (.istore 5, 2) := by decide +kernel
theorem dX9_spells_114 : decode cX9_spells 114 = .ok (.iinc 4 1, 3) := by decide +kernel
theorem dX9_spells_117 : decode cX9_spells 117 = .ok (.iinc 6 1, 3) := by decide +kernel
theorem dX9_spells_120 : decode cX9_spells 120 = .ok (.goto (-111), 3) := by decide +kernel
theorem dX9_spells_123 : decode cX9_spells 123 = .ok (.iload 4, 2) := by decide +kernel
theorem dX9_spells_125 : decode cX9_spells 125 = .ok (.iload_n 2, 1) := by decide +kernel
theorem dX9_spells_126 : decode cX9_spells 126 = .ok (.if_icmp .ne 7, 3) := by decide +kernel
theorem dX9_spells_129 : decode cX9_spells 129 = .ok (.iconst 1, 1) := by decide +kernel
theorem dX9_spells_130 : decode cX9_spells 130 = .ok (.goto 4, 3) := by decide +kernel
theorem dX9_spells_133 : decode cX9_spells 133 = .ok (.iconst 0, 1) := by decide +kernel
theorem dX9_spells_134 : decode cX9_spells 134 = .ok (.ireturn, 1) := by decide +kernel
def jX9_spells_90 (K9 : Int32 → Int32 → Int32 → Option Int32) (a0 : Nat) (x2 : Int32) (x3 : Int32) (x4 : Int32) (x6 : Int32) (k0 : Int32) (u : fb_M) : Option Int32 :=
 (if x2 ≤ x4 then (some 0)
  else ((fX9_at u a0 x4).bind fun r101 => 
   (if r101 = k0 then (K9 (x4 + 1) 0 (x6 + 1))
   else (some 0))))
set_option maxRecDepth 100000 in
set_option maxHeartbeats 4000000 in
theorem tjX9_spells_90 {g : fb_G} {res : Int32} (a0 : Nat) (x2 : Int32) (x3 : Int32) (x4 : Int32) (x6 : Int32) (k0 : Int32) (u : fb_M) (K9 : Int32 → Int32 → Int32 → Option Int32) (ha0 : a0 < fb_NT ∧ fb_sh a0 = (9, 40)) (hK9 : ∀ (x4 : Int32) (x5 : Int32) (x6 : Int32) ,  K9 x4 x5 x6 = some res → fb_V g RX9 cX9_spells 9 (some .boolean) "spells" (fb_room 1 21 0 0) (fb_Qm g (some (.int res)) fb_NT u 0 0) 0 0 fb_NT u 9 [(0, .ref (fb_b g + a0)), (2, .int x2), (3, .int x3), (4, .int x4), (5, .int x5), (6, .int x6)] []) (h : jX9_spells_90 K9 a0 x2 x3 x4 x6 k0 u = some res) : fb_V g RX9 cX9_spells 9 (some .boolean) "spells" (fb_room 1 21 0 0) (fb_Qm g (some (.int res)) fb_NT u 0 0) 0 0 fb_NT u 90 [(0, .ref (fb_b g + a0)), (2, .int x2), (3, .int x3), (4, .int x4), (6, .int x6)] [.int k0] := by
  unfold jX9_spells_90 at h
  refine fb_istore (pc := 90) (lv' := [(8, .int k0), (0, .ref (fb_b g + a0)), (2, .int x2), (3, .int x3), (4, .int x4), (6, .int x6)]) dX9_spells_90 (by decide) rfl ?_
  refine fb_iload (pc := 92) dX9_spells_92 4 rfl ?_
  refine fb_iload_n (pc := 94) dX9_spells_94 2 rfl ?_
  refine fb_icmp_ge (pc := 95) (tgt := 109) h dX9_spells_95 (by decide) (fun h => ?_) (fun h => ?_)
  · refine fb_iconst (pc := 109) (v := 0) dX9_spells_109 fb_ki_0 ?_
    exact fb_zretR (pc := 110) rfl h dX9_spells_110
  · refine fb_aload_n (pc := 98) dX9_spells_98 1 rfl ?_
    refine fb_iload (pc := 99) dX9_spells_99 4 rfl ?_
    refine fb_bnE h (fun r101 h101 h => ?_)
    refine fb_cV0v (pc := 101) [.int x4] dX9_spells_101 (mX9_at g u a0 x4 ha0 h101) ymX9_at yiX9_at ha0.1 ha0.2 ylX9_99 rfl (Nat.le_of_ble_eq_true rfl) ⟨Nat.le_of_ble_eq_true rfl, Nat.le_of_ble_eq_true rfl⟩ ⟨Nat.le_of_ble_eq_true rfl, Nat.le_of_ble_eq_true rfl⟩ ?_
    refine fb_iload (pc := 104) dX9_spells_104 0 rfl ?_
    refine fb_icmp_eq (pc := 106) (tgt := 111) h dX9_spells_106 (by decide) (fun h => ?_) (fun h => ?_)
    · refine fb_iconst (pc := 111) (v := 0) dX9_spells_111 fb_ki_0 ?_
      refine fb_istore (pc := 112) (lv' := [(5, .int 0), (8, .int k0), (0, .ref (fb_b g + a0)), (2, .int x2), (3, .int x3), (4, .int x4), (6, .int x6)]) dX9_spells_112 (by decide) rfl ?_
      refine fb_iinc (pc := 114) (v := 1) (lv' := [(4, .int (x4 + 1)), (5, .int 0), (8, .int k0), (0, .ref (fb_b g + a0)), (2, .int x2), (3, .int x3), (6, .int x6)]) dX9_spells_114 5 rfl fb_ki_1 (by decide) rfl ?_
      refine fb_iinc (pc := 117) (v := 1) (lv' := [(6, .int (x6 + 1)), (4, .int (x4 + 1)), (5, .int 0), (8, .int k0), (0, .ref (fb_b g + a0)), (2, .int x2), (3, .int x3)]) dX9_spells_117 6 rfl fb_ki_1 (by decide) rfl ?_
      refine fb_goto (pc := 120) (tgt := 9) dX9_spells_120 (by decide) ?_
      exact fb_sub [4, 5, 6, 1, 2, 0] rfl (hK9 (x4 + 1) 0 (x6 + 1) h)
    · refine fb_iconst (pc := 109) (v := 0) dX9_spells_109 fb_ki_0 ?_
      exact fb_zretR (pc := 110) rfl h dX9_spells_110

def bX9_spells_9 (K9 : Int32 → Int32 → Int32 → Option Int32) (a0 : Nat) (x2 : Int32) (x3 : Int32) (x4 : Int32) (x5 : Int32) (x6 : Int32) (u : fb_M) : Option Int32 :=
 ((fb_R u a0 3).bind fun q12 => fb_gd (q12 < fb_NT ∧ (fb_sh q12).1 = 100) 
  ((fb_gd (¬ (x3 < 0 ∨ (fb_sh q12).2 ≤ x3.toNatClampNeg)) 
  (if (fb_I u q12 x3.toNatClampNeg) ≤ x6 then (if x4 = x2 then (some 1)
   else (some 0))
  else ((fb_R u a0 2).bind fun q21 => fb_gd (q21 < fb_NT ∧ (fb_sh q21).1 = 100) 
   ((fb_gd (¬ ((40 * x3) + x6 < 0 ∨ (fb_sh q21).2 ≤ ((40 * x3) + x6).toNatClampNeg)) 
   (if (fb_I u q21 ((40 * x3) + x6).toNatClampNeg) = 46 then (if x2 ≤ x4 then (K9 x4 1 (x6 + 1))
    else ((fX9_at u a0 x4).bind fun r50 => 
     (if r50 = 95 then (K9 (x4 + 1) 1 (x6 + 1))
     else (K9 x4 1 (x6 + 1)))))
   else (if x5 = 0 then (jX9_spells_90 K9 a0 x2 x3 x4 x6 (fb_I u q21 ((40 * x3) + x6).toNatClampNeg) u)
    else (jX9_spells_90 K9 a0 x2 x3 x4 x6 ((fb_I u q21 ((40 * x3) + x6).toNatClampNeg) - 32) u))))))))))
def gX9_spells_9 (a0 : Nat) (x2 : Int32) (x3 : Int32) (u : fb_M) : Nat → Int32 → Int32 → Int32 → Option Int32
 | 0 => fun _ _ _ => none
 | fu + 1 => fun x4 x5 x6 => bX9_spells_9 (gX9_spells_9 a0 x2 x3 u fu) a0 x2 x3 x4 x5 x6 u
set_option maxRecDepth 100000 in
set_option maxHeartbeats 4000000 in
theorem tbX9_spells_9 {g : fb_G} {res : Int32} (a0 : Nat) (x2 : Int32) (x3 : Int32) (x4 : Int32) (x5 : Int32) (x6 : Int32) (u : fb_M) (K9 : Int32 → Int32 → Int32 → Option Int32) (ha0 : a0 < fb_NT ∧ fb_sh a0 = (9, 40)) (hK9 : ∀ (x4 : Int32) (x5 : Int32) (x6 : Int32) ,  K9 x4 x5 x6 = some res → fb_V g RX9 cX9_spells 9 (some .boolean) "spells" (fb_room 1 21 0 0) (fb_Qm g (some (.int res)) fb_NT u 0 0) 0 0 fb_NT u 9 [(0, .ref (fb_b g + a0)), (2, .int x2), (3, .int x3), (4, .int x4), (5, .int x5), (6, .int x6)] []) (h : bX9_spells_9 K9 a0 x2 x3 x4 x5 x6 u = some res) : fb_V g RX9 cX9_spells 9 (some .boolean) "spells" (fb_room 1 21 0 0) (fb_Qm g (some (.int res)) fb_NT u 0 0) 0 0 fb_NT u 9 [(0, .ref (fb_b g + a0)), (2, .int x2), (3, .int x3), (4, .int x4), (5, .int x5), (6, .int x6)] [] := by
  unfold bX9_spells_9 at h
  refine fb_iload (pc := 9) dX9_spells_9 5 rfl ?_
  refine fb_aload_n (pc := 11) dX9_spells_11 0 rfl ?_
  refine fb_bnE h (fun q12 e12 h => fb_gdE h (fun s12 h => ?_))
  refine fb_getR (pc := 12) dX9_spells_12 lkX9_16 ha0.1 ha0.2 (by decide) e12 ?_
  refine fb_iload_n (pc := 15) dX9_spells_15 2 rfl ?_
  refine fb_gdE h (fun i16 h => ?_)
  refine fb_iald (pc := 16) dX9_spells_16 s12.1 (fb_eta s12.2) i16 ?_
  refine fb_icmp_ge (pc := 17) (tgt := 123) h dX9_spells_17 (by decide) (fun h => ?_) (fun h => ?_)
  · refine fb_iload (pc := 123) dX9_spells_123 3 rfl ?_
    refine fb_iload_n (pc := 125) dX9_spells_125 1 rfl ?_
    refine fb_icmp_ne (pc := 126) (tgt := 133) h dX9_spells_126 (by decide) (fun h => ?_) (fun h => ?_)
    · refine fb_iconst (pc := 133) (v := 0) dX9_spells_133 fb_ki_0 ?_
      exact fb_zretR (pc := 134) rfl h dX9_spells_134
    · refine fb_iconst (pc := 129) (v := 1) dX9_spells_129 fb_ki_1 ?_
      refine fb_goto (pc := 130) (tgt := 134) dX9_spells_130 (by decide) ?_
      exact fb_zretR (pc := 134) rfl h dX9_spells_134
  · refine fb_aload_n (pc := 20) dX9_spells_20 0 rfl ?_
    refine fb_bnE h (fun q21 e21 h => fb_gdE h (fun s21 h => ?_))
    refine fb_getR (pc := 21) dX9_spells_21 lkX9_13 ha0.1 ha0.2 (by decide) e21 ?_
    refine fb_bipush (pc := 24) (v := 40) dX9_spells_24 fb_kb_40 ?_
    refine fb_iload_n (pc := 26) dX9_spells_26 2 rfl ?_
    refine fb_imul (pc := 27) dX9_spells_27 ?_
    refine fb_iload (pc := 28) dX9_spells_28 5 rfl ?_
    refine fb_iadd (pc := 30) dX9_spells_30 ?_
    refine fb_gdE h (fun i31 h => ?_)
    refine fb_iald (pc := 31) dX9_spells_31 s21.1 (fb_eta s21.2) i31 ?_
    refine fb_istore (pc := 32) (lv' := [(7, .int (fb_I u q21 ((40 * x3) + x6).toNatClampNeg)), (0, .ref (fb_b g + a0)), (2, .int x2), (3, .int x3), (4, .int x4), (5, .int x5), (6, .int x6)]) dX9_spells_32 (by decide) rfl ?_
    refine fb_iload (pc := 34) dX9_spells_34 0 rfl ?_
    refine fb_bipush (pc := 36) (v := 46) dX9_spells_36 fb_kb_46 ?_
    refine fb_icmp_ne (pc := 38) (tgt := 75) h dX9_spells_38 (by decide) (fun h => ?_) (fun h => ?_)
    · refine fb_iload (pc := 75) dX9_spells_75 5 rfl ?_
      refine fb_if_eq (pc := 77) (tgt := 88) h dX9_spells_77 (by decide) (fun h => ?_) (fun h => ?_)
      · refine fb_iload (pc := 88) dX9_spells_88 0 rfl ?_
        exact fb_sub [1, 2, 3, 4, 6] rfl (tjX9_spells_90 a0 x2 x3 x4 x6 (fb_I u q21 ((40 * x3) + x6).toNatClampNeg) u K9 ha0 hK9 h)
      · refine fb_iload (pc := 80) dX9_spells_80 0 rfl ?_
        refine fb_bipush (pc := 82) (v := 32) dX9_spells_82 fb_kb_32 ?_
        refine fb_isub (pc := 84) dX9_spells_84 ?_
        refine fb_goto (pc := 85) (tgt := 90) dX9_spells_85 (by decide) ?_
        exact fb_sub [1, 2, 3, 4, 6] rfl (tjX9_spells_90 a0 x2 x3 x4 x6 ((fb_I u q21 ((40 * x3) + x6).toNatClampNeg) - 32) u K9 ha0 hK9 h)
    · refine fb_iload (pc := 41) dX9_spells_41 4 rfl ?_
      refine fb_iload_n (pc := 43) dX9_spells_43 2 rfl ?_
      refine fb_icmp_ge (pc := 44) (tgt := 65) h dX9_spells_44 (by decide) (fun h => ?_) (fun h => ?_)
      · refine fb_iload (pc := 65) dX9_spells_65 4 rfl ?_
        refine fb_istore (pc := 67) (lv' := [(4, .int x4), (7, .int (fb_I u q21 ((40 * x3) + x6).toNatClampNeg)), (0, .ref (fb_b g + a0)), (2, .int x2), (3, .int x3), (5, .int x5), (6, .int x6)]) dX9_spells_67 (by decide) rfl ?_
        refine fb_iconst (pc := 69) (v := 1) dX9_spells_69 fb_ki_1 ?_
        refine fb_istore (pc := 70) (lv' := [(5, .int 1), (4, .int x4), (7, .int (fb_I u q21 ((40 * x3) + x6).toNatClampNeg)), (0, .ref (fb_b g + a0)), (2, .int x2), (3, .int x3), (6, .int x6)]) dX9_spells_70 (by decide) rfl ?_
        refine fb_goto (pc := 72) (tgt := 117) dX9_spells_72 (by decide) ?_
        refine fb_iinc (pc := 117) (v := 1) (lv' := [(6, .int (x6 + 1)), (5, .int 1), (4, .int x4), (7, .int (fb_I u q21 ((40 * x3) + x6).toNatClampNeg)), (0, .ref (fb_b g + a0)), (2, .int x2), (3, .int x3)]) dX9_spells_117 6 rfl fb_ki_1 (by decide) rfl ?_
        refine fb_goto (pc := 120) (tgt := 9) dX9_spells_120 (by decide) ?_
        exact fb_sub [4, 5, 6, 2, 1, 0] rfl (hK9 x4 1 (x6 + 1) h)
      · refine fb_aload_n (pc := 47) dX9_spells_47 1 rfl ?_
        refine fb_iload (pc := 48) dX9_spells_48 4 rfl ?_
        refine fb_bnE h (fun r50 h50 h => ?_)
        refine fb_cV0v (pc := 50) [.int x4] dX9_spells_50 (mX9_at g u a0 x4 ha0 h50) ymX9_at yiX9_at ha0.1 ha0.2 ylX9_99 rfl (Nat.le_of_ble_eq_true rfl) ⟨Nat.le_of_ble_eq_true rfl, Nat.le_of_ble_eq_true rfl⟩ ⟨Nat.le_of_ble_eq_true rfl, Nat.le_of_ble_eq_true rfl⟩ ?_
        refine fb_bipush (pc := 53) (v := 95) dX9_spells_53 fb_kb_95 ?_
        refine fb_icmp_ne (pc := 55) (tgt := 65) h dX9_spells_55 (by decide) (fun h => ?_) (fun h => ?_)
        · refine fb_iload (pc := 65) dX9_spells_65 4 rfl ?_
          refine fb_istore (pc := 67) (lv' := [(4, .int x4), (7, .int (fb_I u q21 ((40 * x3) + x6).toNatClampNeg)), (0, .ref (fb_b g + a0)), (2, .int x2), (3, .int x3), (5, .int x5), (6, .int x6)]) dX9_spells_67 (by decide) rfl ?_
          refine fb_iconst (pc := 69) (v := 1) dX9_spells_69 fb_ki_1 ?_
          refine fb_istore (pc := 70) (lv' := [(5, .int 1), (4, .int x4), (7, .int (fb_I u q21 ((40 * x3) + x6).toNatClampNeg)), (0, .ref (fb_b g + a0)), (2, .int x2), (3, .int x3), (6, .int x6)]) dX9_spells_70 (by decide) rfl ?_
          refine fb_goto (pc := 72) (tgt := 117) dX9_spells_72 (by decide) ?_
          refine fb_iinc (pc := 117) (v := 1) (lv' := [(6, .int (x6 + 1)), (5, .int 1), (4, .int x4), (7, .int (fb_I u q21 ((40 * x3) + x6).toNatClampNeg)), (0, .ref (fb_b g + a0)), (2, .int x2), (3, .int x3)]) dX9_spells_117 6 rfl fb_ki_1 (by decide) rfl ?_
          refine fb_goto (pc := 120) (tgt := 9) dX9_spells_120 (by decide) ?_
          exact fb_sub [4, 5, 6, 2, 1, 0] rfl (hK9 x4 1 (x6 + 1) h)
        · refine fb_iload (pc := 58) dX9_spells_58 4 rfl ?_
          refine fb_iconst (pc := 60) (v := 1) dX9_spells_60 fb_ki_1 ?_
          refine fb_iadd (pc := 61) dX9_spells_61 ?_
          refine fb_goto (pc := 62) (tgt := 67) dX9_spells_62 (by decide) ?_
          refine fb_istore (pc := 67) (lv' := [(4, .int (x4 + 1)), (7, .int (fb_I u q21 ((40 * x3) + x6).toNatClampNeg)), (0, .ref (fb_b g + a0)), (2, .int x2), (3, .int x3), (5, .int x5), (6, .int x6)]) dX9_spells_67 (by decide) rfl ?_
          refine fb_iconst (pc := 69) (v := 1) dX9_spells_69 fb_ki_1 ?_
          refine fb_istore (pc := 70) (lv' := [(5, .int 1), (4, .int (x4 + 1)), (7, .int (fb_I u q21 ((40 * x3) + x6).toNatClampNeg)), (0, .ref (fb_b g + a0)), (2, .int x2), (3, .int x3), (6, .int x6)]) dX9_spells_70 (by decide) rfl ?_
          refine fb_goto (pc := 72) (tgt := 117) dX9_spells_72 (by decide) ?_
          refine fb_iinc (pc := 117) (v := 1) (lv' := [(6, .int (x6 + 1)), (5, .int 1), (4, .int (x4 + 1)), (7, .int (fb_I u q21 ((40 * x3) + x6).toNatClampNeg)), (0, .ref (fb_b g + a0)), (2, .int x2), (3, .int x3)]) dX9_spells_117 6 rfl fb_ki_1 (by decide) rfl ?_
          refine fb_goto (pc := 120) (tgt := 9) dX9_spells_120 (by decide) ?_
          exact fb_sub [4, 5, 6, 2, 1, 0] rfl (hK9 (x4 + 1) 1 (x6 + 1) h)

theorem tgX9_spells_9 {g : fb_G} {res : Int32} (a0 : Nat) (x2 : Int32) (x3 : Int32) (u : fb_M) (ha0 : a0 < fb_NT ∧ fb_sh a0 = (9, 40)) : ∀ (fu : Nat) (x4 : Int32) (x5 : Int32) (x6 : Int32) ,  gX9_spells_9 a0 x2 x3 u fu x4 x5 x6 = some res → fb_V g RX9 cX9_spells 9 (some .boolean) "spells" (fb_room 1 21 0 0) (fb_Qm g (some (.int res)) fb_NT u 0 0) 0 0 fb_NT u 9 [(0, .ref (fb_b g + a0)), (2, .int x2), (3, .int x3), (4, .int x4), (5, .int x5), (6, .int x6)] [] := by
  intro fu
  induction fu with
  | zero => intro x4 x5 x6 h; exact absurd h (by simp [gX9_spells_9])
  | succ fu ih => intro x4 x5 x6 h; exact tbX9_spells_9 a0 x2 x3 x4 x5 x6 u (gX9_spells_9 a0 x2 x3 u fu) ha0 ih h
def fX9_spells (u : fb_M) (a0 : Nat) (x1 : Int32) (x2 : Int32) (x3 : Int32) : Option Int32 :=
 (gX9_spells_9 a0 x2 x3 u fb_F x1 1 0)
set_option maxRecDepth 100000 in
set_option maxHeartbeats 4000000 in
theorem mX9_spells (g : fb_G) (u : fb_M) (a0 : Nat) (x1 : Int32) (x2 : Int32) (x3 : Int32) (ha0 : a0 < fb_NT ∧ fb_sh a0 = (9, 40)) {res : Int32} (h : fX9_spells u a0 x1 x2 x3 = some res) : fb_Runs g 1 21 0 0 fb_NT fb_NT yX9_spells cX9_spells 9 (some .boolean) [.ref (fb_b g + a0), .int x1, .int x2, .int x3] u (some (.int res)) u := by
  unfold fX9_spells at h
  refine fb_enter (by decide) (Nat.le_of_ble_eq_true rfl) ?_
  show fb_V g RX9 cX9_spells 9 (some .boolean) "spells" (fb_room 1 21 0 0) (fb_Qm g (some (.int res)) fb_NT u 0 0) 0 0 fb_NT u 0 [(0, .ref (fb_b g + a0)), (1, .int x1), (2, .int x2), (3, .int x3)] []
  refine fb_iload_n (pc := 0) dX9_spells_0 1 rfl ?_
  refine fb_istore (pc := 1) (lv' := [(4, .int x1), (0, .ref (fb_b g + a0)), (1, .int x1), (2, .int x2), (3, .int x3)]) dX9_spells_1 (by decide) rfl ?_
  refine fb_iconst (pc := 3) (v := 1) dX9_spells_3 fb_ki_1 ?_
  refine fb_istore (pc := 4) (lv' := [(5, .int 1), (4, .int x1), (0, .ref (fb_b g + a0)), (1, .int x1), (2, .int x2), (3, .int x3)]) dX9_spells_4 (by decide) rfl ?_
  refine fb_iconst (pc := 6) (v := 0) dX9_spells_6 fb_ki_0 ?_
  refine fb_istore (pc := 7) (lv' := [(6, .int 0), (5, .int 1), (4, .int x1), (0, .ref (fb_b g + a0)), (1, .int x1), (2, .int x2), (3, .int x3)]) dX9_spells_7 (by decide) rfl ?_
  exact fb_sub [3, 5, 6, 2, 1, 0] rfl (tgX9_spells_9 a0 x2 x3 u ha0 fb_F x1 1 0 h)

theorem dX9_nameLength_0 : decode cX9_nameLength 0 = .ok (.iconst 0, 1) := by decide +kernel
theorem dX9_nameLength_1 : decode cX9_nameLength 1 = .ok (.istore_n 3, 1) := by decide +kernel
theorem dX9_nameLength_2 : decode cX9_nameLength 2 = .ok (.iconst 0, 1) := by decide +kernel
theorem dX9_nameLength_3 : decode cX9_nameLength 3 = .ok (.istore 4, 2) := by decide +kernel
theorem dX9_nameLength_5 : decode cX9_nameLength 5 = .ok (.iconst 0, 1) := by decide +kernel
theorem dX9_nameLength_6 : decode cX9_nameLength 6 = .ok (.istore 5, 2) := by decide +kernel
theorem dX9_nameLength_8 : decode cX9_nameLength 8 = .ok (.iload 5, 2) := by decide +kernel
theorem dX9_nameLength_10 : decode cX9_nameLength 10 = .ok (.aload_n 0, 1) := by decide +kernel
theorem dX9_nameLength_11 : decode cX9_nameLength 11 = .ok (.getfield 16, 3) := by decide +kernel
theorem dX9_nameLength_14 : decode cX9_nameLength 14 = .ok (.iload_n 1, 1) := by decide +kernel
theorem dX9_nameLength_15 : decode cX9_nameLength 15 = .ok (.iaload, 1) := by decide +kernel
theorem dX9_nameLength_16 : decode cX9_nameLength 16 = .ok (.if_icmp .ge 67, 3) := by decide +kernel
theorem dX9_nameLength_19 : decode cX9_nameLength 19 = .ok (.aload_n 0, 1) := by decide +kernel
theorem dX9_nameLength_20 : decode cX9_nameLength 20 = .ok (.getfield 13, 3) := by decide +kernel
theorem dX9_nameLength_23 : decode cX9_nameLength 23 = .ok (.bipush 40, 2) := by decide +kernel
theorem dX9_nameLength_25 : decode cX9_nameLength 25 = .ok (.iload_n 1, 1) := by decide +kernel
theorem dX9_nameLength_26 : decode cX9_nameLength 26 = .ok (.imul, 1) := by decide +kernel
theorem dX9_nameLength_27 : decode cX9_nameLength 27 = .ok (.iload 5, 2) := by decide +kernel
theorem dX9_nameLength_29 : decode cX9_nameLength 29 = .ok (.iadd, 1) := by decide +kernel
theorem dX9_nameLength_30 : decode cX9_nameLength 30 = .ok (.iaload, 1) := by decide +kernel
theorem dX9_nameLength_31 : decode cX9_nameLength 31 = .ok (.bipush 46, 2) := by decide +kernel
theorem dX9_nameLength_33 : decode cX9_nameLength 33 = .ok (.if_icmp .ne 7, 3) := by decide +kernel
theorem dX9_nameLength_36 : decode cX9_nameLength 36 = .ok (.iconst 1, 1) := by decide +kernel
theorem dX9_nameLength_37 : decode cX9_nameLength 37 = .ok (.goto 4, 3) := by decide +kernel
theorem dX9_nameLength_40 : decode cX9_nameLength 40 = .ok (.iconst 0, 1) := by decide +kernel
theorem dX9_nameLength_41 : decode cX9_nameLength 41 = .ok (.istore 6, 2) := by decide +kernel
theorem dX9_nameLength_43 : decode cX9_nameLength 43 = .ok (.iload 6, 2) := by decide +kernel
theorem dX9_nameLength_45 : decode cX9_nameLength 45 = .ok (.ifCond .eq 9, 3) := by decide +kernel
theorem dX9_nameLength_48 : decode cX9_nameLength 48 = .ok (.iload_n 3, 1) := by decide +kernel
theorem dX9_nameLength_49 : decode cX9_nameLength 49 = .ok (.iconst 1, 1) := by decide +kernel
theorem dX9_nameLength_50 : decode cX9_nameLength 50 = .ok (.iadd, 1) := by decide +kernel
theorem dX9_nameLength_51 : decode cX9_nameLength 51 = .ok (.goto 4, 3) := by decide +kernel
theorem dX9_nameLength_54 : decode cX9_nameLength 54 = .ok (.iload_n 3, 1) := by decide +kernel
theorem dX9_nameLength_55 : decode cX9_nameLength 55 = .ok (.istore_n 3, 1) := by decide +kernel
theorem dX9_nameLength_56 : decode cX9_nameLength 56 = .ok (.iload 6, 2) := by decide +kernel
theorem dX9_nameLength_58 : decode cX9_nameLength 58 = .ok (.ifCond .ne 15, 3) := by decide +kernel
theorem dX9_nameLength_61 : decode cX9_nameLength 61 = .ok (.iload_n 3, 1) := by decide +kernel
theorem dX9_nameLength_62 : decode cX9_nameLength 62 = .ok (.iload_n 2, 1) := by decide +kernel
theorem dX9_nameLength_63 : decode cX9_nameLength 63 = .ok (.if_icmp .ne 10, 3) := by decide +kernel
theorem dX9_nameLength_66 : decode cX9_nameLength 66 = .ok (.iload 4, 2) := by decide +kernel
theorem dX9_nameLength_68 : decode cX9_nameLength 68 = .ok (.iconst 1, 1) := by decide +kernel
theorem dX9_nameLength_69 : decode cX9_nameLength 69 = .ok (.iadd, 1) := by decide +kernel
theorem dX9_nameLength_70 : decode cX9_nameLength 70 = .ok (.goto 5, 3) := by decide +kernel
theorem dX9_nameLength_73 : decode cX9_nameLength 73 = .ok (.iload 4, 2) := by decide +kernel
theorem dX9_nameLength_75 : decode cX9_nameLength 75 = .ok (.istore 4, 2) := by decide +kernel
theorem dX9_nameLength_77 : decode cX9_nameLength 77 = .ok (.iinc 5 1, 3) := by decide +kernel
theorem dX9_nameLength_80 : decode cX9_nameLength 80 = .ok (.goto (-72), 3) := by decide +kernel
theorem dX9_nameLength_83 : decode cX9_nameLength 83 = .ok (.iload 4, 2) := by decide +kernel
theorem dX9_nameLength_85 : decode cX9_nameLength 85 = .ok (.ireturn, 1) := by decide +kernel
def jX9_nameLength_55 (K8 : Int32 → Int32 → Int32 → Option Int32) (a0 : Nat) (x1 : Int32) (x2 : Int32) (x4 : Int32) (x5 : Int32) (x6 : Int32) (k0 : Int32) (u : fb_M) : Option Int32 :=
 (if x6 = 0 then (if k0 = x2 then (K8 k0 (x4 + 1) (x5 + 1))
   else (K8 k0 x4 (x5 + 1)))
  else (K8 k0 x4 (x5 + 1)))
set_option maxRecDepth 100000 in
set_option maxHeartbeats 4000000 in
theorem tjX9_nameLength_55 {g : fb_G} {res : Int32} (a0 : Nat) (x1 : Int32) (x2 : Int32) (x4 : Int32) (x5 : Int32) (x6 : Int32) (k0 : Int32) (u : fb_M) (K8 : Int32 → Int32 → Int32 → Option Int32) (ha0 : a0 < fb_NT ∧ fb_sh a0 = (9, 40)) (hK8 : ∀ (x3 : Int32) (x4 : Int32) (x5 : Int32) ,  K8 x3 x4 x5 = some res → fb_V g RX9 cX9_nameLength 7 (some .int) "nameLength" (fb_room 0 0 0 0) (fb_Qm g (some (.int res)) fb_NT u 0 0) 0 0 fb_NT u 8 [(0, .ref (fb_b g + a0)), (1, .int x1), (2, .int x2), (3, .int x3), (4, .int x4), (5, .int x5)] []) (h : jX9_nameLength_55 K8 a0 x1 x2 x4 x5 x6 k0 u = some res) : fb_V g RX9 cX9_nameLength 7 (some .int) "nameLength" (fb_room 0 0 0 0) (fb_Qm g (some (.int res)) fb_NT u 0 0) 0 0 fb_NT u 55 [(0, .ref (fb_b g + a0)), (1, .int x1), (2, .int x2), (4, .int x4), (5, .int x5), (6, .int x6)] [.int k0] := by
  unfold jX9_nameLength_55 at h
  refine fb_istore_n (pc := 55) (lv' := [(3, .int k0), (0, .ref (fb_b g + a0)), (1, .int x1), (2, .int x2), (4, .int x4), (5, .int x5), (6, .int x6)]) dX9_nameLength_55 rfl (by decide) rfl ?_
  refine fb_iload (pc := 56) dX9_nameLength_56 6 rfl ?_
  refine fb_if_ne (pc := 58) (tgt := 73) h dX9_nameLength_58 (by decide) (fun h => ?_) (fun h => ?_)
  · refine fb_iload (pc := 73) dX9_nameLength_73 4 rfl ?_
    refine fb_istore (pc := 75) (lv' := [(4, .int x4), (3, .int k0), (0, .ref (fb_b g + a0)), (1, .int x1), (2, .int x2), (5, .int x5), (6, .int x6)]) dX9_nameLength_75 (by decide) rfl ?_
    refine fb_iinc (pc := 77) (v := 1) (lv' := [(5, .int (x5 + 1)), (4, .int x4), (3, .int k0), (0, .ref (fb_b g + a0)), (1, .int x1), (2, .int x2), (6, .int x6)]) dX9_nameLength_77 5 rfl fb_ki_1 (by decide) rfl ?_
    refine fb_goto (pc := 80) (tgt := 8) dX9_nameLength_80 (by decide) ?_
    exact fb_sub [3, 4, 5, 2, 1, 0] rfl (hK8 k0 x4 (x5 + 1) h)
  · refine fb_iload_n (pc := 61) dX9_nameLength_61 0 rfl ?_
    refine fb_iload_n (pc := 62) dX9_nameLength_62 3 rfl ?_
    refine fb_icmp_ne (pc := 63) (tgt := 73) h dX9_nameLength_63 (by decide) (fun h => ?_) (fun h => ?_)
    · refine fb_iload (pc := 73) dX9_nameLength_73 4 rfl ?_
      refine fb_istore (pc := 75) (lv' := [(4, .int x4), (3, .int k0), (0, .ref (fb_b g + a0)), (1, .int x1), (2, .int x2), (5, .int x5), (6, .int x6)]) dX9_nameLength_75 (by decide) rfl ?_
      refine fb_iinc (pc := 77) (v := 1) (lv' := [(5, .int (x5 + 1)), (4, .int x4), (3, .int k0), (0, .ref (fb_b g + a0)), (1, .int x1), (2, .int x2), (6, .int x6)]) dX9_nameLength_77 5 rfl fb_ki_1 (by decide) rfl ?_
      refine fb_goto (pc := 80) (tgt := 8) dX9_nameLength_80 (by decide) ?_
      exact fb_sub [3, 4, 5, 2, 1, 0] rfl (hK8 k0 x4 (x5 + 1) h)
    · refine fb_iload (pc := 66) dX9_nameLength_66 4 rfl ?_
      refine fb_iconst (pc := 68) (v := 1) dX9_nameLength_68 fb_ki_1 ?_
      refine fb_iadd (pc := 69) dX9_nameLength_69 ?_
      refine fb_goto (pc := 70) (tgt := 75) dX9_nameLength_70 (by decide) ?_
      refine fb_istore (pc := 75) (lv' := [(4, .int (x4 + 1)), (3, .int k0), (0, .ref (fb_b g + a0)), (1, .int x1), (2, .int x2), (5, .int x5), (6, .int x6)]) dX9_nameLength_75 (by decide) rfl ?_
      refine fb_iinc (pc := 77) (v := 1) (lv' := [(5, .int (x5 + 1)), (4, .int (x4 + 1)), (3, .int k0), (0, .ref (fb_b g + a0)), (1, .int x1), (2, .int x2), (6, .int x6)]) dX9_nameLength_77 5 rfl fb_ki_1 (by decide) rfl ?_
      refine fb_goto (pc := 80) (tgt := 8) dX9_nameLength_80 (by decide) ?_
      exact fb_sub [3, 4, 5, 2, 1, 0] rfl (hK8 k0 (x4 + 1) (x5 + 1) h)

def jX9_nameLength_41 (K8 : Int32 → Int32 → Int32 → Option Int32) (a0 : Nat) (x1 : Int32) (x2 : Int32) (x3 : Int32) (x4 : Int32) (x5 : Int32) (k0 : Int32) (u : fb_M) : Option Int32 :=
 (if k0 = 0 then (jX9_nameLength_55 K8 a0 x1 x2 x4 x5 k0 x3 u)
  else (jX9_nameLength_55 K8 a0 x1 x2 x4 x5 k0 (x3 + 1) u))
set_option maxRecDepth 100000 in
set_option maxHeartbeats 4000000 in
theorem tjX9_nameLength_41 {g : fb_G} {res : Int32} (a0 : Nat) (x1 : Int32) (x2 : Int32) (x3 : Int32) (x4 : Int32) (x5 : Int32) (k0 : Int32) (u : fb_M) (K8 : Int32 → Int32 → Int32 → Option Int32) (ha0 : a0 < fb_NT ∧ fb_sh a0 = (9, 40)) (hK8 : ∀ (x3 : Int32) (x4 : Int32) (x5 : Int32) ,  K8 x3 x4 x5 = some res → fb_V g RX9 cX9_nameLength 7 (some .int) "nameLength" (fb_room 0 0 0 0) (fb_Qm g (some (.int res)) fb_NT u 0 0) 0 0 fb_NT u 8 [(0, .ref (fb_b g + a0)), (1, .int x1), (2, .int x2), (3, .int x3), (4, .int x4), (5, .int x5)] []) (h : jX9_nameLength_41 K8 a0 x1 x2 x3 x4 x5 k0 u = some res) : fb_V g RX9 cX9_nameLength 7 (some .int) "nameLength" (fb_room 0 0 0 0) (fb_Qm g (some (.int res)) fb_NT u 0 0) 0 0 fb_NT u 41 [(0, .ref (fb_b g + a0)), (1, .int x1), (2, .int x2), (3, .int x3), (4, .int x4), (5, .int x5)] [.int k0] := by
  unfold jX9_nameLength_41 at h
  refine fb_istore (pc := 41) (lv' := [(6, .int k0), (0, .ref (fb_b g + a0)), (1, .int x1), (2, .int x2), (3, .int x3), (4, .int x4), (5, .int x5)]) dX9_nameLength_41 (by decide) rfl ?_
  refine fb_iload (pc := 43) dX9_nameLength_43 0 rfl ?_
  refine fb_if_eq (pc := 45) (tgt := 54) h dX9_nameLength_45 (by decide) (fun h => ?_) (fun h => ?_)
  · refine fb_iload_n (pc := 54) dX9_nameLength_54 4 rfl ?_
    exact fb_sub [1, 2, 3, 5, 6, 0] rfl (tjX9_nameLength_55 a0 x1 x2 x4 x5 k0 x3 u K8 ha0 hK8 h)
  · refine fb_iload_n (pc := 48) dX9_nameLength_48 4 rfl ?_
    refine fb_iconst (pc := 49) (v := 1) dX9_nameLength_49 fb_ki_1 ?_
    refine fb_iadd (pc := 50) dX9_nameLength_50 ?_
    refine fb_goto (pc := 51) (tgt := 55) dX9_nameLength_51 (by decide) ?_
    exact fb_sub [1, 2, 3, 5, 6, 0] rfl (tjX9_nameLength_55 a0 x1 x2 x4 x5 k0 (x3 + 1) u K8 ha0 hK8 h)

def bX9_nameLength_8 (K8 : Int32 → Int32 → Int32 → Option Int32) (a0 : Nat) (x1 : Int32) (x2 : Int32) (x3 : Int32) (x4 : Int32) (x5 : Int32) (u : fb_M) : Option Int32 :=
 ((fb_R u a0 3).bind fun q11 => fb_gd (q11 < fb_NT ∧ (fb_sh q11).1 = 100) 
  ((fb_gd (¬ (x1 < 0 ∨ (fb_sh q11).2 ≤ x1.toNatClampNeg)) 
  (if (fb_I u q11 x1.toNatClampNeg) ≤ x5 then (some x4)
  else ((fb_R u a0 2).bind fun q20 => fb_gd (q20 < fb_NT ∧ (fb_sh q20).1 = 100) 
   ((fb_gd (¬ ((40 * x1) + x5 < 0 ∨ (fb_sh q20).2 ≤ ((40 * x1) + x5).toNatClampNeg)) 
   (if (fb_I u q20 ((40 * x1) + x5).toNatClampNeg) = 46 then (jX9_nameLength_41 K8 a0 x1 x2 x3 x4 x5 1 u)
   else (jX9_nameLength_41 K8 a0 x1 x2 x3 x4 x5 0 u)))))))))
def gX9_nameLength_8 (a0 : Nat) (x1 : Int32) (x2 : Int32) (u : fb_M) : Nat → Int32 → Int32 → Int32 → Option Int32
 | 0 => fun _ _ _ => none
 | fu + 1 => fun x3 x4 x5 => bX9_nameLength_8 (gX9_nameLength_8 a0 x1 x2 u fu) a0 x1 x2 x3 x4 x5 u
set_option maxRecDepth 100000 in
set_option maxHeartbeats 4000000 in
theorem tbX9_nameLength_8 {g : fb_G} {res : Int32} (a0 : Nat) (x1 : Int32) (x2 : Int32) (x3 : Int32) (x4 : Int32) (x5 : Int32) (u : fb_M) (K8 : Int32 → Int32 → Int32 → Option Int32) (ha0 : a0 < fb_NT ∧ fb_sh a0 = (9, 40)) (hK8 : ∀ (x3 : Int32) (x4 : Int32) (x5 : Int32) ,  K8 x3 x4 x5 = some res → fb_V g RX9 cX9_nameLength 7 (some .int) "nameLength" (fb_room 0 0 0 0) (fb_Qm g (some (.int res)) fb_NT u 0 0) 0 0 fb_NT u 8 [(0, .ref (fb_b g + a0)), (1, .int x1), (2, .int x2), (3, .int x3), (4, .int x4), (5, .int x5)] []) (h : bX9_nameLength_8 K8 a0 x1 x2 x3 x4 x5 u = some res) : fb_V g RX9 cX9_nameLength 7 (some .int) "nameLength" (fb_room 0 0 0 0) (fb_Qm g (some (.int res)) fb_NT u 0 0) 0 0 fb_NT u 8 [(0, .ref (fb_b g + a0)), (1, .int x1), (2, .int x2), (3, .int x3), (4, .int x4), (5, .int x5)] [] := by
  unfold bX9_nameLength_8 at h
  refine fb_iload (pc := 8) dX9_nameLength_8 5 rfl ?_
  refine fb_aload_n (pc := 10) dX9_nameLength_10 0 rfl ?_
  refine fb_bnE h (fun q11 e11 h => fb_gdE h (fun s11 h => ?_))
  refine fb_getR (pc := 11) dX9_nameLength_11 lkX9_16 ha0.1 ha0.2 (by decide) e11 ?_
  refine fb_iload_n (pc := 14) dX9_nameLength_14 1 rfl ?_
  refine fb_gdE h (fun i15 h => ?_)
  refine fb_iald (pc := 15) dX9_nameLength_15 s11.1 (fb_eta s11.2) i15 ?_
  refine fb_icmp_ge (pc := 16) (tgt := 83) h dX9_nameLength_16 (by decide) (fun h => ?_) (fun h => ?_)
  · refine fb_iload (pc := 83) dX9_nameLength_83 4 rfl ?_
    exact fb_iretR (pc := 85) h dX9_nameLength_85
  · refine fb_aload_n (pc := 19) dX9_nameLength_19 0 rfl ?_
    refine fb_bnE h (fun q20 e20 h => fb_gdE h (fun s20 h => ?_))
    refine fb_getR (pc := 20) dX9_nameLength_20 lkX9_13 ha0.1 ha0.2 (by decide) e20 ?_
    refine fb_bipush (pc := 23) (v := 40) dX9_nameLength_23 fb_kb_40 ?_
    refine fb_iload_n (pc := 25) dX9_nameLength_25 1 rfl ?_
    refine fb_imul (pc := 26) dX9_nameLength_26 ?_
    refine fb_iload (pc := 27) dX9_nameLength_27 5 rfl ?_
    refine fb_iadd (pc := 29) dX9_nameLength_29 ?_
    refine fb_gdE h (fun i30 h => ?_)
    refine fb_iald (pc := 30) dX9_nameLength_30 s20.1 (fb_eta s20.2) i30 ?_
    refine fb_bipush (pc := 31) (v := 46) dX9_nameLength_31 fb_kb_46 ?_
    refine fb_icmp_ne (pc := 33) (tgt := 40) h dX9_nameLength_33 (by decide) (fun h => ?_) (fun h => ?_)
    · refine fb_iconst (pc := 40) (v := 0) dX9_nameLength_40 fb_ki_0 ?_
      exact fb_sub [0, 1, 2, 3, 4, 5] rfl (tjX9_nameLength_41 a0 x1 x2 x3 x4 x5 0 u K8 ha0 hK8 h)
    · refine fb_iconst (pc := 36) (v := 1) dX9_nameLength_36 fb_ki_1 ?_
      refine fb_goto (pc := 37) (tgt := 41) dX9_nameLength_37 (by decide) ?_
      exact fb_sub [0, 1, 2, 3, 4, 5] rfl (tjX9_nameLength_41 a0 x1 x2 x3 x4 x5 1 u K8 ha0 hK8 h)

theorem tgX9_nameLength_8 {g : fb_G} {res : Int32} (a0 : Nat) (x1 : Int32) (x2 : Int32) (u : fb_M) (ha0 : a0 < fb_NT ∧ fb_sh a0 = (9, 40)) : ∀ (fu : Nat) (x3 : Int32) (x4 : Int32) (x5 : Int32) ,  gX9_nameLength_8 a0 x1 x2 u fu x3 x4 x5 = some res → fb_V g RX9 cX9_nameLength 7 (some .int) "nameLength" (fb_room 0 0 0 0) (fb_Qm g (some (.int res)) fb_NT u 0 0) 0 0 fb_NT u 8 [(0, .ref (fb_b g + a0)), (1, .int x1), (2, .int x2), (3, .int x3), (4, .int x4), (5, .int x5)] [] := by
  intro fu
  induction fu with
  | zero => intro x3 x4 x5 h; exact absurd h (by simp [gX9_nameLength_8])
  | succ fu ih => intro x3 x4 x5 h; exact tbX9_nameLength_8 a0 x1 x2 x3 x4 x5 u (gX9_nameLength_8 a0 x1 x2 u fu) ha0 ih h
def fX9_nameLength (u : fb_M) (a0 : Nat) (x1 : Int32) (x2 : Int32) : Option Int32 :=
 (gX9_nameLength_8 a0 x1 x2 u fb_F 0 0 0)
set_option maxRecDepth 100000 in
set_option maxHeartbeats 4000000 in
theorem mX9_nameLength (g : fb_G) (u : fb_M) (a0 : Nat) (x1 : Int32) (x2 : Int32) (ha0 : a0 < fb_NT ∧ fb_sh a0 = (9, 40)) {res : Int32} (h : fX9_nameLength u a0 x1 x2 = some res) : fb_Runs g 0 0 0 0 fb_NT fb_NT yX9_nameLength cX9_nameLength 7 (some .int) [.ref (fb_b g + a0), .int x1, .int x2] u (some (.int res)) u := by
  unfold fX9_nameLength at h
  refine fb_enter (by decide) (Nat.le_of_ble_eq_true rfl) ?_
  show fb_V g RX9 cX9_nameLength 7 (some .int) "nameLength" (fb_room 0 0 0 0) (fb_Qm g (some (.int res)) fb_NT u 0 0) 0 0 fb_NT u 0 [(0, .ref (fb_b g + a0)), (1, .int x1), (2, .int x2)] []
  refine fb_iconst (pc := 0) (v := 0) dX9_nameLength_0 fb_ki_0 ?_
  refine fb_istore_n (pc := 1) (lv' := [(3, .int 0), (0, .ref (fb_b g + a0)), (1, .int x1), (2, .int x2)]) dX9_nameLength_1 rfl (by decide) rfl ?_
  refine fb_iconst (pc := 2) (v := 0) dX9_nameLength_2 fb_ki_0 ?_
  refine fb_istore (pc := 3) (lv' := [(4, .int 0), (3, .int 0), (0, .ref (fb_b g + a0)), (1, .int x1), (2, .int x2)]) dX9_nameLength_3 (by decide) rfl ?_
  refine fb_iconst (pc := 5) (v := 0) dX9_nameLength_5 fb_ki_0 ?_
  refine fb_istore (pc := 6) (lv' := [(5, .int 0), (4, .int 0), (3, .int 0), (0, .ref (fb_b g + a0)), (1, .int x1), (2, .int x2)]) dX9_nameLength_6 (by decide) rfl ?_
  exact fb_sub [3, 4, 5, 2, 1, 0] rfl (tgX9_nameLength_8 a0 x1 x2 u ha0 fb_F 0 0 0 h)

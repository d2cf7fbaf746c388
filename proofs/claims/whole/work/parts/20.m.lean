theorem dX9_save_0 : decode cX9_save 0 = .ok (.aload_n 0, 1) := by decide +kernel
theorem dX9_save_1 : decode cX9_save 1 = .ok (.iload_n 1, 1) := by decide +kernel
theorem dX9_save_2 : decode cX9_save 2 = .ok (.invokevirtual 263, 3) := by decide +kernel
theorem dX9_save_5 : decode cX9_save 5 = .ok (.istore_n 2, 1) := by decide +kernel
theorem dX9_save_6 : decode cX9_save 6 = .ok (.iload_n 1, 1) := by decide +kernel
theorem dX9_save_7 : decode cX9_save 7 = .ok (.iconst 1, 1) := by decide +kernel
theorem dX9_save_8 : decode cX9_save 8 = .ok (.if_icmp .lt 16, 3) := by decide +kernel
theorem dX9_save_11 : decode cX9_save 11 = .ok (.iload_n 1, 1) := by decide +kernel
theorem dX9_save_12 : decode cX9_save 12 = .ok (.sipush 9999, 3) := by decide +kernel
theorem dX9_save_15 : decode cX9_save 15 = .ok (.if_icmp .gt 9, 3) := by decide +kernel
theorem dX9_save_18 : decode cX9_save 18 = .ok (.iload_n 2, 1) := by decide +kernel
theorem dX9_save_19 : decode cX9_save 19 = .ok (.bipush 10, 2) := by decide +kernel
theorem dX9_save_21 : decode cX9_save 21 = .ok (.if_icmp .ne 5, 3) := by decide +kernel
theorem dX9_save_24 : decode cX9_save 24 = .ok (.iconst 0, 1) := by decide +kernel
theorem dX9_save_25 : decode cX9_save 25 = .ok (.ireturn, 1) := by decide +kernel
theorem dX9_save_26 : decode cX9_save 26 = .ok (.aload_n 0, 1) := by decide +kernel
theorem dX9_save_27 : decode cX9_save 27 = .ok (.getfield 68, 3) := by decide +kernel
theorem dX9_save_30 : decode cX9_save 30 = .ok (.iload_n 2, 1) := by decide +kernel
theorem dX9_save_31 : decode cX9_save 31 = .ok (.iload_n 1, 1) := by decide +kernel
theorem dX9_save_32 : decode cX9_save 32 = .ok (.iastore, 1) := by decide +kernel
theorem dX9_save_33 : decode cX9_save 33 = .ok (.iconst 0, 1) := by decide +kernel
theorem dX9_save_34 : decode cX9_save 34 = .ok (.istore_n 3, 1) := by decide +kernel
theorem dX9_save_35 : decode cX9_save 35 = .ok (.iload_n 3, 1) := by decide +kernel
theorem dX9_save_36 : decode cX9_save 36 = .ok (.bipush 8, 2) := by decide +kernel
theorem dX9_save_38 : decode cX9_save 38 = .ok (.if_icmp .ge 43, 3) := by decide +kernel
theorem dX9_save_41 : decode cX9_save 41 = .ok (.aload_n 0, 1) := by decide +kernel
theorem dX9_save_42 : decode cX9_save 42 = .ok (.getfield 71, 3) := by decide +kernel
theorem dX9_save_45 : decode cX9_save 45 = .ok (.bipush 8, 2) := by decide +kernel
theorem dX9_save_47 : decode cX9_save 47 = .ok (.iload_n 2, 1) := by decide +kernel
theorem dX9_save_48 : decode cX9_save 48 = .ok (.imul, 1) := by decide +kernel
theorem dX9_save_49 : decode cX9_save 49 = .ok (.iload_n 3, 1) := by decide +kernel
theorem dX9_save_50 : decode cX9_save 50 = .ok (.iadd, 1) := by decide +kernel
theorem dX9_save_51 : decode cX9_save 51 = .ok (.aload_n 0, 1) := by decide +kernel
theorem dX9_save_52 : decode cX9_save 52 = .ok (.getfield 77, 3) := by decide +kernel
theorem dX9_save_55 : decode cX9_save 55 = .ok (.iload_n 3, 1) := by decide +kernel
theorem dX9_save_56 : decode cX9_save 56 = .ok (.iaload, 1) := by decide +kernel
theorem dX9_save_57 : decode cX9_save 57 = .ok (.iastore, 1) := by decide +kernel
theorem dX9_save_58 : decode cX9_save 58 = .ok (.aload_n 0, 1) := by decide +kernel
theorem dX9_save_59 : decode cX9_save 59 = .ok (.getfield 74, 3) := by decide +kernel
theorem dX9_save_62 : decode cX9_save 62 = .ok (.bipush 8, 2) := by decide +kernel
theorem dX9_save_64 : decode cX9_save 64 = .ok (.iload_n 2, 1) := by decide +kernel
theorem dX9_save_65 : decode cX9_save 65 = .ok (.imul, 1) := by decide +kernel
theorem dX9_save_66 : decode cX9_save 66 = .ok (.iload_n 3, 1) := by decide +kernel
theorem dX9_save_67 : decode cX9_save 67 = .ok (.iadd, 1) := by decide +kernel
theorem dX9_save_68 : decode cX9_save 68 = .ok (.aload_n 0, 1) := by decide +kernel
theorem dX9_save_69 : decode cX9_save 69 = .ok (.getfield 80, 3) := by decide +kernel
theorem dX9_save_72 : decode cX9_save 72 = .ok (.iload_n 3, 1) := by decide +kernel
theorem dX9_save_73 : decode cX9_save 73 = .ok (.baload, 1) := by decide +kernel
theorem dX9_save_74 : decode cX9_save 74 = .ok (.bastore, 1) := by decide +kernel
theorem dX9_save_75 : decode cX9_save 75 = .ok (.iinc 3 1, 3) := by decide +kernel
theorem dX9_save_78 : decode cX9_save 78 = .ok (.goto (-43), 3) := by decide +kernel
theorem dX9_save_81 : decode cX9_save 81 = .ok (.aload_n 0, 1) := by decide +kernel
theorem dX9_save_82 : decode cX9_save 82 = .ok (.iload_n 2, 1) := by decide +kernel
theorem dX9_save_83 : decode cX9_save 83 = .ok (.aload_n 0, 1) := by decide +kernel
theorem dX9_save_84 : decode cX9_save 84 = .ok (.getfield 260, 3) := by decide +kernel
theorem dX9_save_87 : decode cX9_save 87 = .ok (.if_icmp .ne 12, 3) := by decide +kernel
theorem dX9_save_90 : decode cX9_save 90 = .ok (.aload_n 0, 1) := by decide +kernel
theorem dX9_save_91 : decode cX9_save 91 = .ok (.getfield 260, 3) := by decide +kernel
theorem dX9_save_94 : decode cX9_save 94 = .ok (.iconst 1, 1) := by decide +kernel
theorem dX9_save_95 : decode cX9_save 95 = .ok (.iadd, 1) := by decide +kernel
theorem dX9_save_96 : decode cX9_save 96 = .ok (.goto 7, 3) := by decide +kernel
theorem dX9_save_99 : decode cX9_save 99 = .ok (.aload_n 0, 1) := by decide +kernel
theorem dX9_save_100 : decode cX9_save 100 = .ok (.getfield 260, 3) := by decide +kernel
theorem dX9_save_103 : decode cX9_save 103 = .ok (.putfield 260, 3) := by decide +kernel
theorem dX9_save_106 : decode cX9_save 106 = .ok (.iconst 1, 1) := by decide +kernel
theorem dX9_save_107 : decode cX9_save 107 = .ok (.ireturn, 1) := by decide +kernel
def bX9_save_35 (K35 : Int32 → fb_M → Option (Int32 × fb_M)) (a0 : Nat) (x2 : Int32) (x3 : Int32) (u : fb_M) : Option (Int32 × fb_M) :=
 (if 8 ≤ x3 then (if x2 = (fb_I u a0 28) then (some (1, fb_wI u a0 28 ((fb_I u a0 28) + 1)))
   else (some (1, fb_wI u a0 28 (fb_I u a0 28))))
  else ((fb_R u a0 30).bind fun q42 => fb_gd (q42 < fb_NT ∧ (fb_sh q42).1 = 100) 
   (((fb_R u a0 32).bind fun q52 => fb_gd (q52 < fb_NT ∧ (fb_sh q52).1 = 100) 
   ((fb_gd (¬ (x3 < 0 ∨ (fb_sh q52).2 ≤ x3.toNatClampNeg)) 
   (fb_gd (¬ ((8 * x2) + x3 < 0 ∨ (fb_sh q42).2 ≤ ((8 * x2) + x3).toNatClampNeg)) 
   ((fb_R (fb_wI u q42 ((8 * x2) + x3).toNatClampNeg (fb_I u q52 x3.toNatClampNeg)) a0 31).bind fun q59 => fb_gd (q59 < fb_NT ∧ (fb_sh q59).1 = 102) 
   (((fb_R (fb_wI u q42 ((8 * x2) + x3).toNatClampNeg (fb_I u q52 x3.toNatClampNeg)) a0 33).bind fun q69 => fb_gd (q69 < fb_NT ∧ (fb_sh q69).1 = 102) 
   ((fb_gd (¬ (x3 < 0 ∨ (fb_sh q69).2 ≤ x3.toNatClampNeg)) 
   (fb_gd (¬ ((8 * x2) + x3 < 0 ∨ (fb_sh q59).2 ≤ ((8 * x2) + x3).toNatClampNeg)) 
   (K35 (x3 + 1) (fb_wI (fb_wI u q42 ((8 * x2) + x3).toNatClampNeg (fb_I u q52 x3.toNatClampNeg)) q59 ((8 * x2) + x3).toNatClampNeg (vp_nar .boolean (fb_I (fb_wI u q42 ((8 * x2) + x3).toNatClampNeg (fb_I u q52 x3.toNatClampNeg)) q69 x3.toNatClampNeg)))))))))))))))))
def gX9_save_35 (a0 : Nat) (x2 : Int32) : Nat → Int32 → fb_M → Option (Int32 × fb_M)
 | 0 => fun _ _ => none
 | fu + 1 => fun x3 u => bX9_save_35 (gX9_save_35 a0 x2 fu) a0 x2 x3 u
set_option maxRecDepth 100000 in
set_option maxHeartbeats 4000000 in
theorem tbX9_save_35 {g : fb_G} {res : (Int32 × fb_M)} (a0 : Nat) (x2 : Int32) (x3 : Int32) (u : fb_M) (K35 : Int32 → fb_M → Option (Int32 × fb_M)) (ha0 : a0 < fb_NT ∧ fb_sh a0 = (9, 40)) (hK35 : ∀ (x3 : Int32) (u : fb_M) ,  K35 x3 u = some res → fb_V g RX9 cX9_save 4 (some .boolean) "save" (fb_room 1 22 0 0) (fb_Qm g (some (.int res.1)) fb_NT res.2 0 0) 0 0 fb_NT u 35 [(0, .ref (fb_b g + a0)), (2, .int x2), (3, .int x3)] []) (h : bX9_save_35 K35 a0 x2 x3 u = some res) : fb_V g RX9 cX9_save 4 (some .boolean) "save" (fb_room 1 22 0 0) (fb_Qm g (some (.int res.1)) fb_NT res.2 0 0) 0 0 fb_NT u 35 [(0, .ref (fb_b g + a0)), (2, .int x2), (3, .int x3)] [] := by
  unfold bX9_save_35 at h
  refine fb_iload_n (pc := 35) dX9_save_35 2 rfl ?_
  refine fb_bipush (pc := 36) (v := 8) dX9_save_36 fb_kb_8 ?_
  refine fb_icmp_ge (pc := 38) (tgt := 81) h dX9_save_38 (by decide) (fun h => ?_) (fun h => ?_)
  · refine fb_aload_n (pc := 81) dX9_save_81 0 rfl ?_
    refine fb_iload_n (pc := 82) dX9_save_82 1 rfl ?_
    refine fb_aload_n (pc := 83) dX9_save_83 0 rfl ?_
    refine fb_getI (pc := 84) dX9_save_84 lkX9_260 ha0.1 ha0.2 rfl ?_
    refine fb_icmp_ne (pc := 87) (tgt := 99) h dX9_save_87 (by decide) (fun h => ?_) (fun h => ?_)
    · refine fb_aload_n (pc := 99) dX9_save_99 0 rfl ?_
      refine fb_getI (pc := 100) dX9_save_100 lkX9_260 ha0.1 ha0.2 rfl ?_
      refine fb_putI (pc := 103) dX9_save_103 lkX9_260 ly_9_28 ha0.1 ha0.2 rfl rfl rfl ?_
      refine fb_iconst (pc := 106) (v := 1) dX9_save_106 fb_ki_1 ?_
      exact fb_zretM (pc := 107) rfl h dX9_save_107
    · refine fb_aload_n (pc := 90) dX9_save_90 0 rfl ?_
      refine fb_getI (pc := 91) dX9_save_91 lkX9_260 ha0.1 ha0.2 rfl ?_
      refine fb_iconst (pc := 94) (v := 1) dX9_save_94 fb_ki_1 ?_
      refine fb_iadd (pc := 95) dX9_save_95 ?_
      refine fb_goto (pc := 96) (tgt := 103) dX9_save_96 (by decide) ?_
      refine fb_putI (pc := 103) dX9_save_103 lkX9_260 ly_9_28 ha0.1 ha0.2 rfl rfl rfl ?_
      refine fb_iconst (pc := 106) (v := 1) dX9_save_106 fb_ki_1 ?_
      exact fb_zretM (pc := 107) rfl h dX9_save_107
  · refine fb_aload_n (pc := 41) dX9_save_41 0 rfl ?_
    refine fb_bnE h (fun q42 e42 h => fb_gdE h (fun s42 h => ?_))
    refine fb_getR (pc := 42) dX9_save_42 lkX9_71 ha0.1 ha0.2 (by decide) e42 ?_
    refine fb_bipush (pc := 45) (v := 8) dX9_save_45 fb_kb_8 ?_
    refine fb_iload_n (pc := 47) dX9_save_47 1 rfl ?_
    refine fb_imul (pc := 48) dX9_save_48 ?_
    refine fb_iload_n (pc := 49) dX9_save_49 2 rfl ?_
    refine fb_iadd (pc := 50) dX9_save_50 ?_
    refine fb_aload_n (pc := 51) dX9_save_51 0 rfl ?_
    refine fb_bnE h (fun q52 e52 h => fb_gdE h (fun s52 h => ?_))
    refine fb_getR (pc := 52) dX9_save_52 lkX9_77 ha0.1 ha0.2 (by decide) e52 ?_
    refine fb_iload_n (pc := 55) dX9_save_55 2 rfl ?_
    refine fb_gdE h (fun i56 h => ?_)
    refine fb_iald (pc := 56) dX9_save_56 s52.1 (fb_eta s52.2) i56 ?_
    refine fb_gdE h (fun i57 h => ?_)
    refine fb_iast (pc := 57) dX9_save_57 s42.1 (fb_eta s42.2) i57 ?_
    refine fb_aload_n (pc := 58) dX9_save_58 0 rfl ?_
    refine fb_bnE h (fun q59 e59 h => fb_gdE h (fun s59 h => ?_))
    refine fb_getR (pc := 59) dX9_save_59 lkX9_74 ha0.1 ha0.2 (by decide) e59 ?_
    refine fb_bipush (pc := 62) (v := 8) dX9_save_62 fb_kb_8 ?_
    refine fb_iload_n (pc := 64) dX9_save_64 1 rfl ?_
    refine fb_imul (pc := 65) dX9_save_65 ?_
    refine fb_iload_n (pc := 66) dX9_save_66 2 rfl ?_
    refine fb_iadd (pc := 67) dX9_save_67 ?_
    refine fb_aload_n (pc := 68) dX9_save_68 0 rfl ?_
    refine fb_bnE h (fun q69 e69 h => fb_gdE h (fun s69 h => ?_))
    refine fb_getR (pc := 69) dX9_save_69 lkX9_80 ha0.1 ha0.2 (by decide) e69 ?_
    refine fb_iload_n (pc := 72) dX9_save_72 2 rfl ?_
    refine fb_gdE h (fun i73 h => ?_)
    refine fb_zald (pc := 73) dX9_save_73 s69.1 (fb_eta s69.2) i73 ?_
    refine fb_gdE h (fun i74 h => ?_)
    refine fb_zast (pc := 74) dX9_save_74 s59.1 (fb_eta s59.2) i74 ?_
    refine fb_iinc (pc := 75) (v := 1) (lv' := [(3, .int (x3 + 1)), (0, .ref (fb_b g + a0)), (2, .int x2)]) dX9_save_75 2 rfl fb_ki_1 (by decide) rfl ?_
    refine fb_goto (pc := 78) (tgt := 35) dX9_save_78 (by decide) ?_
    exact fb_sub [1, 2, 0] rfl (hK35 (x3 + 1) (fb_wI (fb_wI u q42 ((8 * x2) + x3).toNatClampNeg (fb_I u q52 x3.toNatClampNeg)) q59 ((8 * x2) + x3).toNatClampNeg (vp_nar .boolean (fb_I (fb_wI u q42 ((8 * x2) + x3).toNatClampNeg (fb_I u q52 x3.toNatClampNeg)) q69 x3.toNatClampNeg))) h)

theorem tgX9_save_35 {g : fb_G} {res : (Int32 × fb_M)} (a0 : Nat) (x2 : Int32) (ha0 : a0 < fb_NT ∧ fb_sh a0 = (9, 40)) : ∀ (fu : Nat) (x3 : Int32) (u : fb_M) ,  gX9_save_35 a0 x2 fu x3 u = some res → fb_V g RX9 cX9_save 4 (some .boolean) "save" (fb_room 1 22 0 0) (fb_Qm g (some (.int res.1)) fb_NT res.2 0 0) 0 0 fb_NT u 35 [(0, .ref (fb_b g + a0)), (2, .int x2), (3, .int x3)] [] := by
  intro fu
  induction fu with
  | zero => intro x3 u h; exact absurd h (by simp [gX9_save_35])
  | succ fu ih => intro x3 u h; exact tbX9_save_35 a0 x2 x3 u (gX9_save_35 a0 x2 fu) ha0 ih h
def fX9_save (u : fb_M) (a0 : Nat) (x1 : Int32) : Option (Int32 × fb_M) :=
 ((fX9_place u a0 x1).bind fun r2 => 
  (if x1 < 1 then (some (0, u))
  else (if 9999 < x1 then (some (0, u))
   else (if r2 = 10 then (some (0, u))
    else ((fb_R u a0 29).bind fun q27 => fb_gd (q27 < fb_NT ∧ (fb_sh q27).1 = 100) 
     ((fb_gd (¬ (r2 < 0 ∨ (fb_sh q27).2 ≤ r2.toNatClampNeg)) 
     (gX9_save_35 a0 r2 fb_F 0 (fb_wI u q27 r2.toNatClampNeg x1)))))))))
set_option maxRecDepth 100000 in
set_option maxHeartbeats 4000000 in
theorem mX9_save (g : fb_G) (u : fb_M) (a0 : Nat) (x1 : Int32) (ha0 : a0 < fb_NT ∧ fb_sh a0 = (9, 40)) {res : (Int32 × fb_M)} (h : fX9_save u a0 x1 = some res) : fb_Runs g 1 22 0 0 fb_NT fb_NT yX9_save cX9_save 4 (some .boolean) [.ref (fb_b g + a0), .int x1] u (some (.int res.1)) res.2 := by
  unfold fX9_save at h
  refine fb_enter (by decide) (Nat.le_of_ble_eq_true rfl) ?_
  show fb_V g RX9 cX9_save 4 (some .boolean) "save" (fb_room 1 22 0 0) (fb_Qm g (some (.int res.1)) fb_NT res.2 0 0) 0 0 fb_NT u 0 [(0, .ref (fb_b g + a0)), (1, .int x1)] []
  refine fb_aload_n (pc := 0) dX9_save_0 0 rfl ?_
  refine fb_iload_n (pc := 1) dX9_save_1 1 rfl ?_
  refine fb_bnE h (fun r2 h2 h => ?_)
  refine fb_cV0v (pc := 2) [.int x1] dX9_save_2 (mX9_place g u a0 x1 ha0 h2) ymX9_place yiX9_place ha0.1 ha0.2 ylX9_263 rfl (Nat.le_of_ble_eq_true rfl) ⟨Nat.le_of_ble_eq_true rfl, Nat.le_of_ble_eq_true rfl⟩ ⟨Nat.le_of_ble_eq_true rfl, Nat.le_of_ble_eq_true rfl⟩ ?_
  refine fb_istore_n (pc := 5) (lv' := [(2, .int r2), (0, .ref (fb_b g + a0)), (1, .int x1)]) dX9_save_5 rfl (by decide) rfl ?_
  refine fb_iload_n (pc := 6) dX9_save_6 2 rfl ?_
  refine fb_iconst (pc := 7) (v := 1) dX9_save_7 fb_ki_1 ?_
  refine fb_icmp_lt (pc := 8) (tgt := 24) h dX9_save_8 (by decide) (fun h => ?_) (fun h => ?_)
  · refine fb_iconst (pc := 24) (v := 0) dX9_save_24 fb_ki_0 ?_
    exact fb_zretM (pc := 25) rfl h dX9_save_25
  · refine fb_iload_n (pc := 11) dX9_save_11 2 rfl ?_
    refine fb_sipush (pc := 12) (v := 9999) dX9_save_12 fb_ks_9999 ?_
    refine fb_icmp_gt (pc := 15) (tgt := 24) h dX9_save_15 (by decide) (fun h => ?_) (fun h => ?_)
    · refine fb_iconst (pc := 24) (v := 0) dX9_save_24 fb_ki_0 ?_
      exact fb_zretM (pc := 25) rfl h dX9_save_25
    · refine fb_iload_n (pc := 18) dX9_save_18 0 rfl ?_
      refine fb_bipush (pc := 19) (v := 10) dX9_save_19 fb_kb_10 ?_
      refine fb_icmp_ne (pc := 21) (tgt := 26) h dX9_save_21 (by decide) (fun h => ?_) (fun h => ?_)
      · refine fb_aload_n (pc := 26) dX9_save_26 1 rfl ?_
        refine fb_bnE h (fun q27 e27 h => fb_gdE h (fun s27 h => ?_))
        refine fb_getR (pc := 27) dX9_save_27 lkX9_68 ha0.1 ha0.2 (by decide) e27 ?_
        refine fb_iload_n (pc := 30) dX9_save_30 0 rfl ?_
        refine fb_iload_n (pc := 31) dX9_save_31 2 rfl ?_
        refine fb_gdE h (fun i32 h => ?_)
        refine fb_iast (pc := 32) dX9_save_32 s27.1 (fb_eta s27.2) i32 ?_
        refine fb_iconst (pc := 33) (v := 0) dX9_save_33 fb_ki_0 ?_
        refine fb_istore_n (pc := 34) (lv' := [(3, .int 0), (2, .int r2), (0, .ref (fb_b g + a0)), (1, .int x1)]) dX9_save_34 rfl (by decide) rfl ?_
        exact fb_sub [2, 1, 0] rfl (tgX9_save_35 a0 r2 ha0 fb_F 0 (fb_wI u q27 r2.toNatClampNeg x1) h)
      · refine fb_iconst (pc := 24) (v := 0) dX9_save_24 fb_ki_0 ?_
        exact fb_zretM (pc := 25) rfl h dX9_save_25

theorem dX9_removeAt_0 : decode cX9_removeAt 0 = .ok (.aload_n 0, 1) := by decide +kernel
theorem dX9_removeAt_1 : decode cX9_removeAt 1 = .ok (.dup, 1) := by decide +kernel
theorem dX9_removeAt_2 : decode cX9_removeAt 2 = .ok (.getfield 260, 3) := by decide +kernel
theorem dX9_removeAt_5 : decode cX9_removeAt 5 = .ok (.iconst 1, 1) := by decide +kernel
theorem dX9_removeAt_6 : decode cX9_removeAt 6 = .ok (.isub, 1) := by decide +kernel
theorem dX9_removeAt_7 : decode cX9_removeAt 7 = .ok (.putfield 260, 3) := by decide +kernel
theorem dX9_removeAt_10 : decode cX9_removeAt 10 = .ok (.iload_n 1, 1) := by decide +kernel
theorem dX9_removeAt_11 : decode cX9_removeAt 11 = .ok (.istore_n 2, 1) := by decide +kernel
theorem dX9_removeAt_12 : decode cX9_removeAt 12 = .ok (.iload_n 2, 1) := by decide +kernel
theorem dX9_removeAt_13 : decode cX9_removeAt 13 = .ok (.aload_n 0, 1) := by decide +kernel
theorem dX9_removeAt_14 : decode cX9_removeAt 14 = .ok (.getfield 260, 3) := by decide +kernel
theorem dX9_removeAt_17 : decode cX9_removeAt 17 = .ok (.if_icmp .ge 87, 3) := by decide +kernel
theorem dX9_removeAt_20 : decode cX9_removeAt 20 = .ok (.aload_n 0, 1) := by decide +kernel
theorem dX9_removeAt_21 : decode cX9_removeAt 21 = .ok (.getfield 68, 3) := by decide +kernel
theorem dX9_removeAt_24 : decode cX9_removeAt 24 = .ok (.iload_n 2, 1) := by decide +kernel
theorem dX9_removeAt_25 : decode cX9_removeAt 25 = .ok (.aload_n 0, 1) := by decide +kernel
theorem dX9_removeAt_26 : decode cX9_removeAt 26 = .ok (.getfield 68, 3) := by decide +kernel
theorem dX9_removeAt_29 : decode cX9_removeAt 29 = .ok (.iload_n 2, 1) := by decide +kernel
theorem dX9_removeAt_30 : decode cX9_removeAt 30 = .ok (.iconst 1, 1) := by decide +kernel
theorem dX9_removeAt_31 : decode cX9_removeAt 31 = .ok (.iadd, 1) := by decide +kernel
theorem dX9_removeAt_32 : decode cX9_removeAt 32 = .ok (.iaload, 1) := by decide +kernel
theorem dX9_removeAt_33 : decode cX9_removeAt 33 = .ok (.iastore, 1) := by decide +kernel
theorem dX9_removeAt_34 : decode cX9_removeAt 34 = .ok (.iconst 0, 1) := by decide +kernel
theorem dX9_removeAt_35 : decode cX9_removeAt 35 = .ok (.istore_n 3, 1) := by decide +kernel
theorem dX9_removeAt_36 : decode cX9_removeAt 36 = .ok (.iload_n 3, 1) := by decide +kernel
theorem dX9_removeAt_37 : decode cX9_removeAt 37 = .ok (.bipush 8, 2) := by decide +kernel
theorem dX9_removeAt_39 : decode cX9_removeAt 39 = .ok (.if_icmp .ge 59, 3) := by decide +kernel
theorem dX9_removeAt_42 : decode cX9_removeAt 42 = .ok (.aload_n 0, 1) := by decide +kernel
theorem dX9_removeAt_43 : decode cX9_removeAt 43 = .ok (.getfield 71, 3) := by decide +kernel
theorem dX9_removeAt_46 : decode cX9_removeAt 46 = .ok (.bipush 8, 2) := by decide +kernel
theorem dX9_removeAt_48 : decode cX9_removeAt 48 = .ok (.iload_n 2, 1) := by decide +kernel
theorem dX9_removeAt_49 : decode cX9_removeAt 49 = .ok (.imul, 1) := by decide +kernel
theorem dX9_removeAt_50 : decode cX9_removeAt 50 = .ok (.iload_n 3, 1) := by decide +kernel
theorem dX9_removeAt_51 : decode cX9_removeAt 51 = .ok (.iadd, 1) := by decide +kernel
theorem dX9_removeAt_52 : decode cX9_removeAt 52 = .ok (.aload_n 0, 1) := by decide +kernel
theorem dX9_removeAt_53 : decode cX9_removeAt 53 = .ok (.getfield 71, 3) := by decide +kernel
theorem dX9_removeAt_56 : decode cX9_removeAt 56 = .ok (.bipush 8, 2) := by decide +kernel
theorem dX9_removeAt_58 : decode cX9_removeAt 58 = .ok (.iload_n 2, 1) := by decide +kernel
theorem dX9_removeAt_59 : decode cX9_removeAt 59 = .ok (.imul, 1) := by decide +kernel
theorem dX9_removeAt_60 : decode cX9_removeAt 60 = .ok (.bipush 8, 2) := by decide +kernel
theorem dX9_removeAt_62 : decode cX9_removeAt 62 = .ok (.iadd, 1) := by decide +kernel
theorem dX9_removeAt_63 : decode cX9_removeAt 63 = .ok (.iload_n 3, 1) := by decide +kernel
theorem dX9_removeAt_64 : decode cX9_removeAt 64 = .ok (.iadd, 1) := by decide +kernel
theorem dX9_removeAt_65 : decode cX9_removeAt 65 = .ok (.iaload, 1) := by decide +kernel
theorem dX9_removeAt_66 : decode cX9_removeAt 66 = .ok (.iastore, 1) := by decide +kernel
theorem dX9_removeAt_67 : decode cX9_removeAt 67 = .ok (.aload_n 0, 1) := by decide +kernel
theorem dX9_removeAt_68 : decode cX9_removeAt 68 = .ok (.getfield 74, 3) := by decide +kernel
theorem dX9_removeAt_71 : decode cX9_removeAt 71 = .ok (.bipush 8, 2) := by decide +kernel
theorem dX9_removeAt_73 : decode cX9_removeAt 73 = .ok (.iload_n 2, 1) := by decide +kernel
theorem dX9_removeAt_74 : decode cX9_removeAt 74 = .ok (.imul, 1) := by decide +kernel
theorem dX9_removeAt_75 : decode cX9_removeAt 75 = .ok (.iload_n 3, 1) := by decide +kernel
theorem dX9_removeAt_76 : decode cX9_removeAt 76 = .ok (.iadd, 1) := by decide +kernel
theorem dX9_removeAt_77 : decode cX9_removeAt 77 = .ok (.aload_n 0, 1) := by decide +kernel
theorem dX9_removeAt_78 : decode cX9_removeAt 78 = .ok (.getfield 74, 3) := by decide +kernel
theorem dX9_removeAt_81 : decode cX9_removeAt 81 = .ok (.bipush 8, 2) := by decide +kernel
theorem dX9_removeAt_83 : decode cX9_removeAt 83 = .ok (.iload_n 2, 1) := by decide +kernel
theorem dX9_removeAt_84 : decode cX9_removeAt 84 = .ok (.imul, 1) := by decide +kernel
theorem dX9_removeAt_85 : decode cX9_removeAt 85 = .ok (.bipush 8, 2) := by decide +kernel
theorem dX9_removeAt_87 : decode cX9_removeAt 87 = .ok (.iadd, 1) := by decide +kernel
theorem dX9_removeAt_88 : decode cX9_removeAt 88 = .ok (.iload_n 3, 1) := by decide +kernel
theorem dX9_removeAt_89 : decode cX9_removeAt 89 = .ok (.iadd, 1) := by decide +kernel
theorem dX9_removeAt_90 : decode cX9_removeAt 90 = .ok (.baload, 1) := by decide +kernel
theorem dX9_removeAt_91 : decode cX9_removeAt 91 = .ok (.bastore, 1) := by decide +kernel
theorem dX9_removeAt_92 : decode cX9_removeAt 92 = .ok (.iinc 3 1, 3) := by decide +kernel
theorem dX9_removeAt_95 : decode cX9_removeAt 95 = .ok (.goto (-59), 3) := by decide +kernel
theorem dX9_removeAt_98 : decode cX9_removeAt 98 = .ok (.iinc 2 1, 3) := by decide +kernel
theorem dX9_removeAt_101 : decode cX9_removeAt 101 = .ok (.goto (-89), 3) := by decide +kernel
theorem dX9_removeAt_104 : decode cX9_removeAt 104 = .ok (.return_, 1) := by decide +kernel
def bX9_removeAt_36 (K12 : Int32 → fb_M → Option fb_M) (K36 : Int32 → fb_M → Option fb_M) (a0 : Nat) (x2 : Int32) (x3 : Int32) (u : fb_M) : Option fb_M :=
 (if 8 ≤ x3 then (K12 (x2 + 1) u)
  else ((fb_R u a0 30).bind fun q43 => fb_gd (q43 < fb_NT ∧ (fb_sh q43).1 = 100) 
   (((fb_R u a0 30).bind fun q53 => fb_gd (q53 < fb_NT ∧ (fb_sh q53).1 = 100) 
   ((fb_gd (¬ (((8 * x2) + 8) + x3 < 0 ∨ (fb_sh q53).2 ≤ (((8 * x2) + 8) + x3).toNatClampNeg)) 
   (fb_gd (¬ ((8 * x2) + x3 < 0 ∨ (fb_sh q43).2 ≤ ((8 * x2) + x3).toNatClampNeg)) 
   ((fb_R (fb_wI u q43 ((8 * x2) + x3).toNatClampNeg (fb_I u q53 (((8 * x2) + 8) + x3).toNatClampNeg)) a0 31).bind fun q68 => fb_gd (q68 < fb_NT ∧ (fb_sh q68).1 = 102) 
   (((fb_R (fb_wI u q43 ((8 * x2) + x3).toNatClampNeg (fb_I u q53 (((8 * x2) + 8) + x3).toNatClampNeg)) a0 31).bind fun q78 => fb_gd (q78 < fb_NT ∧ (fb_sh q78).1 = 102) 
   ((fb_gd (¬ (((8 * x2) + 8) + x3 < 0 ∨ (fb_sh q78).2 ≤ (((8 * x2) + 8) + x3).toNatClampNeg)) 
   (fb_gd (¬ ((8 * x2) + x3 < 0 ∨ (fb_sh q68).2 ≤ ((8 * x2) + x3).toNatClampNeg)) 
   (K36 (x3 + 1) (fb_wI (fb_wI u q43 ((8 * x2) + x3).toNatClampNeg (fb_I u q53 (((8 * x2) + 8) + x3).toNatClampNeg)) q68 ((8 * x2) + x3).toNatClampNeg (vp_nar .boolean (fb_I (fb_wI u q43 ((8 * x2) + x3).toNatClampNeg (fb_I u q53 (((8 * x2) + 8) + x3).toNatClampNeg)) q78 (((8 * x2) + 8) + x3).toNatClampNeg)))))))))))))))))
def gX9_removeAt_36 (K12 : Int32 → fb_M → Option fb_M) (a0 : Nat) (x2 : Int32) : Nat → Int32 → fb_M → Option fb_M
 | 0 => fun _ _ => none
 | fu + 1 => fun x3 u => bX9_removeAt_36 K12 (gX9_removeAt_36 K12 a0 x2 fu) a0 x2 x3 u
set_option maxRecDepth 100000 in
set_option maxHeartbeats 4000000 in
theorem tbX9_removeAt_36 {g : fb_G} {res : fb_M} (a0 : Nat) (x2 : Int32) (x3 : Int32) (u : fb_M) (K12 : Int32 → fb_M → Option fb_M) (K36 : Int32 → fb_M → Option fb_M) (ha0 : a0 < fb_NT ∧ fb_sh a0 = (9, 40)) (hK12 : ∀ (x2 : Int32) (u : fb_M) ,  K12 x2 u = some res → fb_V g RX9 cX9_removeAt 4 none "removeAt" (fb_room 0 0 0 0) (fb_Qm g none fb_NT res 0 0) 0 0 fb_NT u 12 [(0, .ref (fb_b g + a0)), (2, .int x2)] []) (hK36 : ∀ (x3 : Int32) (u : fb_M) ,  K36 x3 u = some res → fb_V g RX9 cX9_removeAt 4 none "removeAt" (fb_room 0 0 0 0) (fb_Qm g none fb_NT res 0 0) 0 0 fb_NT u 36 [(0, .ref (fb_b g + a0)), (2, .int x2), (3, .int x3)] []) (h : bX9_removeAt_36 K12 K36 a0 x2 x3 u = some res) : fb_V g RX9 cX9_removeAt 4 none "removeAt" (fb_room 0 0 0 0) (fb_Qm g none fb_NT res 0 0) 0 0 fb_NT u 36 [(0, .ref (fb_b g + a0)), (2, .int x2), (3, .int x3)] [] := by
  unfold bX9_removeAt_36 at h
  refine fb_iload_n (pc := 36) dX9_removeAt_36 2 rfl ?_
  refine fb_bipush (pc := 37) (v := 8) dX9_removeAt_37 fb_kb_8 ?_
  refine fb_icmp_ge (pc := 39) (tgt := 98) h dX9_removeAt_39 (by decide) (fun h => ?_) (fun h => ?_)
  · refine fb_iinc (pc := 98) (v := 1) (lv' := [(2, .int (x2 + 1)), (0, .ref (fb_b g + a0)), (3, .int x3)]) dX9_removeAt_98 1 rfl fb_ki_1 (by decide) rfl ?_
    refine fb_goto (pc := 101) (tgt := 12) dX9_removeAt_101 (by decide) ?_
    exact fb_sub [1, 0] rfl (hK12 (x2 + 1) u h)
  · refine fb_aload_n (pc := 42) dX9_removeAt_42 0 rfl ?_
    refine fb_bnE h (fun q43 e43 h => fb_gdE h (fun s43 h => ?_))
    refine fb_getR (pc := 43) dX9_removeAt_43 lkX9_71 ha0.1 ha0.2 (by decide) e43 ?_
    refine fb_bipush (pc := 46) (v := 8) dX9_removeAt_46 fb_kb_8 ?_
    refine fb_iload_n (pc := 48) dX9_removeAt_48 1 rfl ?_
    refine fb_imul (pc := 49) dX9_removeAt_49 ?_
    refine fb_iload_n (pc := 50) dX9_removeAt_50 2 rfl ?_
    refine fb_iadd (pc := 51) dX9_removeAt_51 ?_
    refine fb_aload_n (pc := 52) dX9_removeAt_52 0 rfl ?_
    refine fb_bnE h (fun q53 e53 h => fb_gdE h (fun s53 h => ?_))
    refine fb_getR (pc := 53) dX9_removeAt_53 lkX9_71 ha0.1 ha0.2 (by decide) e53 ?_
    refine fb_bipush (pc := 56) (v := 8) dX9_removeAt_56 fb_kb_8 ?_
    refine fb_iload_n (pc := 58) dX9_removeAt_58 1 rfl ?_
    refine fb_imul (pc := 59) dX9_removeAt_59 ?_
    refine fb_bipush (pc := 60) (v := 8) dX9_removeAt_60 fb_kb_8 ?_
    refine fb_iadd (pc := 62) dX9_removeAt_62 ?_
    refine fb_iload_n (pc := 63) dX9_removeAt_63 2 rfl ?_
    refine fb_iadd (pc := 64) dX9_removeAt_64 ?_
    refine fb_gdE h (fun i65 h => ?_)
    refine fb_iald (pc := 65) dX9_removeAt_65 s53.1 (fb_eta s53.2) i65 ?_
    refine fb_gdE h (fun i66 h => ?_)
    refine fb_iast (pc := 66) dX9_removeAt_66 s43.1 (fb_eta s43.2) i66 ?_
    refine fb_aload_n (pc := 67) dX9_removeAt_67 0 rfl ?_
    refine fb_bnE h (fun q68 e68 h => fb_gdE h (fun s68 h => ?_))
    refine fb_getR (pc := 68) dX9_removeAt_68 lkX9_74 ha0.1 ha0.2 (by decide) e68 ?_
    refine fb_bipush (pc := 71) (v := 8) dX9_removeAt_71 fb_kb_8 ?_
    refine fb_iload_n (pc := 73) dX9_removeAt_73 1 rfl ?_
    refine fb_imul (pc := 74) dX9_removeAt_74 ?_
    refine fb_iload_n (pc := 75) dX9_removeAt_75 2 rfl ?_
    refine fb_iadd (pc := 76) dX9_removeAt_76 ?_
    refine fb_aload_n (pc := 77) dX9_removeAt_77 0 rfl ?_
    refine fb_bnE h (fun q78 e78 h => fb_gdE h (fun s78 h => ?_))
    refine fb_getR (pc := 78) dX9_removeAt_78 lkX9_74 ha0.1 ha0.2 (by decide) e78 ?_
    refine fb_bipush (pc := 81) (v := 8) dX9_removeAt_81 fb_kb_8 ?_
    refine fb_iload_n (pc := 83) dX9_removeAt_83 1 rfl ?_
    refine fb_imul (pc := 84) dX9_removeAt_84 ?_
    refine fb_bipush (pc := 85) (v := 8) dX9_removeAt_85 fb_kb_8 ?_
    refine fb_iadd (pc := 87) dX9_removeAt_87 ?_
    refine fb_iload_n (pc := 88) dX9_removeAt_88 2 rfl ?_
    refine fb_iadd (pc := 89) dX9_removeAt_89 ?_
    refine fb_gdE h (fun i90 h => ?_)
    refine fb_zald (pc := 90) dX9_removeAt_90 s78.1 (fb_eta s78.2) i90 ?_
    refine fb_gdE h (fun i91 h => ?_)
    refine fb_zast (pc := 91) dX9_removeAt_91 s68.1 (fb_eta s68.2) i91 ?_
    refine fb_iinc (pc := 92) (v := 1) (lv' := [(3, .int (x3 + 1)), (0, .ref (fb_b g + a0)), (2, .int x2)]) dX9_removeAt_92 2 rfl fb_ki_1 (by decide) rfl ?_
    refine fb_goto (pc := 95) (tgt := 36) dX9_removeAt_95 (by decide) ?_
    exact fb_sub [1, 2, 0] rfl (hK36 (x3 + 1) (fb_wI (fb_wI u q43 ((8 * x2) + x3).toNatClampNeg (fb_I u q53 (((8 * x2) + 8) + x3).toNatClampNeg)) q68 ((8 * x2) + x3).toNatClampNeg (vp_nar .boolean (fb_I (fb_wI u q43 ((8 * x2) + x3).toNatClampNeg (fb_I u q53 (((8 * x2) + 8) + x3).toNatClampNeg)) q78 (((8 * x2) + 8) + x3).toNatClampNeg))) h)

theorem tgX9_removeAt_36 {g : fb_G} {res : fb_M} (a0 : Nat) (x2 : Int32) (K12 : Int32 → fb_M → Option fb_M) (ha0 : a0 < fb_NT ∧ fb_sh a0 = (9, 40)) (hK12 : ∀ (x2 : Int32) (u : fb_M) ,  K12 x2 u = some res → fb_V g RX9 cX9_removeAt 4 none "removeAt" (fb_room 0 0 0 0) (fb_Qm g none fb_NT res 0 0) 0 0 fb_NT u 12 [(0, .ref (fb_b g + a0)), (2, .int x2)] []) : ∀ (fu : Nat) (x3 : Int32) (u : fb_M) ,  gX9_removeAt_36 K12 a0 x2 fu x3 u = some res → fb_V g RX9 cX9_removeAt 4 none "removeAt" (fb_room 0 0 0 0) (fb_Qm g none fb_NT res 0 0) 0 0 fb_NT u 36 [(0, .ref (fb_b g + a0)), (2, .int x2), (3, .int x3)] [] := by
  intro fu
  induction fu with
  | zero => intro x3 u h; exact absurd h (by simp [gX9_removeAt_36])
  | succ fu ih => intro x3 u h; exact tbX9_removeAt_36 a0 x2 x3 u K12 (gX9_removeAt_36 K12 a0 x2 fu) ha0 hK12 ih h
def bX9_removeAt_12 (K12 : Int32 → fb_M → Option fb_M) (a0 : Nat) (x2 : Int32) (u : fb_M) : Option fb_M :=
 (if (fb_I u a0 28) ≤ x2 then (some u)
  else ((fb_R u a0 29).bind fun q21 => fb_gd (q21 < fb_NT ∧ (fb_sh q21).1 = 100) 
   (((fb_R u a0 29).bind fun q26 => fb_gd (q26 < fb_NT ∧ (fb_sh q26).1 = 100) 
   ((fb_gd (¬ (x2 + 1 < 0 ∨ (fb_sh q26).2 ≤ (x2 + 1).toNatClampNeg)) 
   (fb_gd (¬ (x2 < 0 ∨ (fb_sh q21).2 ≤ x2.toNatClampNeg)) 
   (gX9_removeAt_36 K12 a0 x2 fb_F 0 (fb_wI u q21 x2.toNatClampNeg (fb_I u q26 (x2 + 1).toNatClampNeg))))))))))
def gX9_removeAt_12 (a0 : Nat) : Nat → Int32 → fb_M → Option fb_M
 | 0 => fun _ _ => none
 | fu + 1 => fun x2 u => bX9_removeAt_12 (gX9_removeAt_12 a0 fu) a0 x2 u
set_option maxRecDepth 100000 in
set_option maxHeartbeats 4000000 in
theorem tbX9_removeAt_12 {g : fb_G} {res : fb_M} (a0 : Nat) (x2 : Int32) (u : fb_M) (K12 : Int32 → fb_M → Option fb_M) (ha0 : a0 < fb_NT ∧ fb_sh a0 = (9, 40)) (hK12 : ∀ (x2 : Int32) (u : fb_M) ,  K12 x2 u = some res → fb_V g RX9 cX9_removeAt 4 none "removeAt" (fb_room 0 0 0 0) (fb_Qm g none fb_NT res 0 0) 0 0 fb_NT u 12 [(0, .ref (fb_b g + a0)), (2, .int x2)] []) (h : bX9_removeAt_12 K12 a0 x2 u = some res) : fb_V g RX9 cX9_removeAt 4 none "removeAt" (fb_room 0 0 0 0) (fb_Qm g none fb_NT res 0 0) 0 0 fb_NT u 12 [(0, .ref (fb_b g + a0)), (2, .int x2)] [] := by
  unfold bX9_removeAt_12 at h
  refine fb_iload_n (pc := 12) dX9_removeAt_12 1 rfl ?_
  refine fb_aload_n (pc := 13) dX9_removeAt_13 0 rfl ?_
  refine fb_getI (pc := 14) dX9_removeAt_14 lkX9_260 ha0.1 ha0.2 rfl ?_
  refine fb_icmp_ge (pc := 17) (tgt := 104) h dX9_removeAt_17 (by decide) (fun h => ?_) (fun h => ?_)
  · exact fb_vretM (pc := 104) h dX9_removeAt_104
  · refine fb_aload_n (pc := 20) dX9_removeAt_20 0 rfl ?_
    refine fb_bnE h (fun q21 e21 h => fb_gdE h (fun s21 h => ?_))
    refine fb_getR (pc := 21) dX9_removeAt_21 lkX9_68 ha0.1 ha0.2 (by decide) e21 ?_
    refine fb_iload_n (pc := 24) dX9_removeAt_24 1 rfl ?_
    refine fb_aload_n (pc := 25) dX9_removeAt_25 0 rfl ?_
    refine fb_bnE h (fun q26 e26 h => fb_gdE h (fun s26 h => ?_))
    refine fb_getR (pc := 26) dX9_removeAt_26 lkX9_68 ha0.1 ha0.2 (by decide) e26 ?_
    refine fb_iload_n (pc := 29) dX9_removeAt_29 1 rfl ?_
    refine fb_iconst (pc := 30) (v := 1) dX9_removeAt_30 fb_ki_1 ?_
    refine fb_iadd (pc := 31) dX9_removeAt_31 ?_
    refine fb_gdE h (fun i32 h => ?_)
    refine fb_iald (pc := 32) dX9_removeAt_32 s26.1 (fb_eta s26.2) i32 ?_
    refine fb_gdE h (fun i33 h => ?_)
    refine fb_iast (pc := 33) dX9_removeAt_33 s21.1 (fb_eta s21.2) i33 ?_
    refine fb_iconst (pc := 34) (v := 0) dX9_removeAt_34 fb_ki_0 ?_
    refine fb_istore_n (pc := 35) (lv' := [(3, .int 0), (0, .ref (fb_b g + a0)), (2, .int x2)]) dX9_removeAt_35 rfl (by decide) rfl ?_
    exact fb_sub [1, 2, 0] rfl (tgX9_removeAt_36 a0 x2 K12 ha0 hK12 fb_F 0 (fb_wI u q21 x2.toNatClampNeg (fb_I u q26 (x2 + 1).toNatClampNeg)) h)

theorem tgX9_removeAt_12 {g : fb_G} {res : fb_M} (a0 : Nat) (ha0 : a0 < fb_NT ∧ fb_sh a0 = (9, 40)) : ∀ (fu : Nat) (x2 : Int32) (u : fb_M) ,  gX9_removeAt_12 a0 fu x2 u = some res → fb_V g RX9 cX9_removeAt 4 none "removeAt" (fb_room 0 0 0 0) (fb_Qm g none fb_NT res 0 0) 0 0 fb_NT u 12 [(0, .ref (fb_b g + a0)), (2, .int x2)] [] := by
  intro fu
  induction fu with
  | zero => intro x2 u h; exact absurd h (by simp [gX9_removeAt_12])
  | succ fu ih => intro x2 u h; exact tbX9_removeAt_12 a0 x2 u (gX9_removeAt_12 a0 fu) ha0 ih h
def fX9_removeAt (u : fb_M) (a0 : Nat) (x1 : Int32) : Option fb_M :=
 (gX9_removeAt_12 a0 fb_F x1 (fb_wI u a0 28 ((fb_I u a0 28) - 1)))
set_option maxRecDepth 100000 in
set_option maxHeartbeats 4000000 in
theorem mX9_removeAt (g : fb_G) (u : fb_M) (a0 : Nat) (x1 : Int32) (ha0 : a0 < fb_NT ∧ fb_sh a0 = (9, 40)) {res : fb_M} (h : fX9_removeAt u a0 x1 = some res) : fb_Runs g 0 0 0 0 fb_NT fb_NT yX9_removeAt cX9_removeAt 4 none [.ref (fb_b g + a0), .int x1] u none res := by
  unfold fX9_removeAt at h
  refine fb_enter (by decide) (Nat.le_of_ble_eq_true rfl) ?_
  show fb_V g RX9 cX9_removeAt 4 none "removeAt" (fb_room 0 0 0 0) (fb_Qm g none fb_NT res 0 0) 0 0 fb_NT u 0 [(0, .ref (fb_b g + a0)), (1, .int x1)] []
  refine fb_aload_n (pc := 0) dX9_removeAt_0 0 rfl ?_
  refine fb_dup (pc := 1) dX9_removeAt_1 rfl ?_
  refine fb_getI (pc := 2) dX9_removeAt_2 lkX9_260 ha0.1 ha0.2 rfl ?_
  refine fb_iconst (pc := 5) (v := 1) dX9_removeAt_5 fb_ki_1 ?_
  refine fb_isub (pc := 6) dX9_removeAt_6 ?_
  refine fb_putI (pc := 7) dX9_removeAt_7 lkX9_260 ly_9_28 ha0.1 ha0.2 rfl rfl rfl ?_
  refine fb_iload_n (pc := 10) dX9_removeAt_10 1 rfl ?_
  refine fb_istore_n (pc := 11) (lv' := [(2, .int x1), (0, .ref (fb_b g + a0)), (1, .int x1)]) dX9_removeAt_11 rfl (by decide) rfl ?_
  exact fb_sub [1, 0] rfl (tgX9_removeAt_12 a0 ha0 fb_F x1 (fb_wI u a0 28 ((fb_I u a0 28) - 1)) h)

theorem dX9_remove_0 : decode cX9_remove 0 = .ok (.aload_n 0, 1) := by decide +kernel
theorem dX9_remove_1 : decode cX9_remove 1 = .ok (.iload_n 1, 1) := by decide +kernel
theorem dX9_remove_2 : decode cX9_remove 2 = .ok (.invokevirtual 263, 3) := by decide +kernel
theorem dX9_remove_5 : decode cX9_remove 5 = .ok (.istore_n 2, 1) := by decide +kernel
theorem dX9_remove_6 : decode cX9_remove 6 = .ok (.iload_n 2, 1) := by decide +kernel
theorem dX9_remove_7 : decode cX9_remove 7 = .ok (.aload_n 0, 1) := by decide +kernel
theorem dX9_remove_8 : decode cX9_remove 8 = .ok (.getfield 260, 3) := by decide +kernel
theorem dX9_remove_11 : decode cX9_remove 11 = .ok (.if_icmp .ne 5, 3) := by decide +kernel
theorem dX9_remove_14 : decode cX9_remove 14 = .ok (.iconst 0, 1) := by decide +kernel
theorem dX9_remove_15 : decode cX9_remove 15 = .ok (.ireturn, 1) := by decide +kernel
theorem dX9_remove_16 : decode cX9_remove 16 = .ok (.aload_n 0, 1) := by decide +kernel
theorem dX9_remove_17 : decode cX9_remove 17 = .ok (.iload_n 2, 1) := by decide +kernel
theorem dX9_remove_18 : decode cX9_remove 18 = .ok (.invokevirtual 266, 3) := by decide +kernel
theorem dX9_remove_21 : decode cX9_remove 21 = .ok (.iconst 1, 1) := by decide +kernel
theorem dX9_remove_22 : decode cX9_remove 22 = .ok (.ireturn, 1) := by decide +kernel
def fX9_remove (u : fb_M) (a0 : Nat) (x1 : Int32) : Option (Int32 × fb_M) :=
 ((fX9_place u a0 x1).bind fun r2 => 
  (if r2 = (fb_I u a0 28) then (some (0, u))
  else ((fX9_removeAt u a0 r2).bind fun r18 => 
   (some (1, r18)))))
set_option maxRecDepth 100000 in
set_option maxHeartbeats 4000000 in
theorem mX9_remove (g : fb_G) (u : fb_M) (a0 : Nat) (x1 : Int32) (ha0 : a0 < fb_NT ∧ fb_sh a0 = (9, 40)) {res : (Int32 × fb_M)} (h : fX9_remove u a0 x1 = some res) : fb_Runs g 1 23 0 0 fb_NT fb_NT yX9_remove cX9_remove 3 (some .boolean) [.ref (fb_b g + a0), .int x1] u (some (.int res.1)) res.2 := by
  unfold fX9_remove at h
  refine fb_enter (by decide) (Nat.le_of_ble_eq_true rfl) ?_
  show fb_V g RX9 cX9_remove 3 (some .boolean) "remove" (fb_room 1 23 0 0) (fb_Qm g (some (.int res.1)) fb_NT res.2 0 0) 0 0 fb_NT u 0 [(0, .ref (fb_b g + a0)), (1, .int x1)] []
  refine fb_aload_n (pc := 0) dX9_remove_0 0 rfl ?_
  refine fb_iload_n (pc := 1) dX9_remove_1 1 rfl ?_
  refine fb_bnE h (fun r2 h2 h => ?_)
  refine fb_cV0v (pc := 2) [.int x1] dX9_remove_2 (mX9_place g u a0 x1 ha0 h2) ymX9_place yiX9_place ha0.1 ha0.2 ylX9_263 rfl (Nat.le_of_ble_eq_true rfl) ⟨Nat.le_of_ble_eq_true rfl, Nat.le_of_ble_eq_true rfl⟩ ⟨Nat.le_of_ble_eq_true rfl, Nat.le_of_ble_eq_true rfl⟩ ?_
  refine fb_istore_n (pc := 5) (lv' := [(2, .int r2), (0, .ref (fb_b g + a0)), (1, .int x1)]) dX9_remove_5 rfl (by decide) rfl ?_
  refine fb_iload_n (pc := 6) dX9_remove_6 0 rfl ?_
  refine fb_aload_n (pc := 7) dX9_remove_7 1 rfl ?_
  refine fb_getI (pc := 8) dX9_remove_8 lkX9_260 ha0.1 ha0.2 rfl ?_
  refine fb_icmp_ne (pc := 11) (tgt := 16) h dX9_remove_11 (by decide) (fun h => ?_) (fun h => ?_)
  · refine fb_aload_n (pc := 16) dX9_remove_16 1 rfl ?_
    refine fb_iload_n (pc := 17) dX9_remove_17 0 rfl ?_
    refine fb_bnE h (fun r18 h18 h => ?_)
    refine fb_cV0n (pc := 18) [.int r2] dX9_remove_18 (mX9_removeAt g u a0 r2 ha0 h18) ymX9_removeAt yiX9_removeAt ha0.1 ha0.2 ylX9_266 rfl (Nat.le_of_ble_eq_true rfl) ⟨Nat.le_of_ble_eq_true rfl, Nat.le_of_ble_eq_true rfl⟩ ⟨Nat.le_of_ble_eq_true rfl, Nat.le_of_ble_eq_true rfl⟩ ?_
    refine fb_iconst (pc := 21) (v := 1) dX9_remove_21 fb_ki_1 ?_
    exact fb_zretM (pc := 22) rfl h dX9_remove_22
  · refine fb_iconst (pc := 14) (v := 0) dX9_remove_14 fb_ki_0 ?_
    exact fb_zretM (pc := 15) rfl h dX9_remove_15

theorem dX9_arg_0 : decode cX9_arg 0 = .ok (.aload_n 0, 1) := by decide +kernel
theorem dX9_arg_1 : decode cX9_arg 1 = .ok (.getfield 269, 3) := by decide +kernel
theorem dX9_arg_4 : decode cX9_arg 4 = .ok (.bipush 12, 2) := by decide +kernel
theorem dX9_arg_6 : decode cX9_arg 6 = .ok (.if_icmp .ne 5, 3) := by decide +kernel
theorem dX9_arg_9 : decode cX9_arg 9 = .ok (.iconst 0, 1) := by decide +kernel
theorem dX9_arg_10 : decode cX9_arg 10 = .ok (.ireturn, 1) := by decide +kernel
theorem dX9_arg_11 : decode cX9_arg 11 = .ok (.aload_n 0, 1) := by decide +kernel
theorem dX9_arg_12 : decode cX9_arg 12 = .ok (.getfield 83, 3) := by decide +kernel
theorem dX9_arg_15 : decode cX9_arg 15 = .ok (.aload_n 0, 1) := by decide +kernel
theorem dX9_arg_16 : decode cX9_arg 16 = .ok (.getfield 269, 3) := by decide +kernel
theorem dX9_arg_19 : decode cX9_arg 19 = .ok (.iload_n 1, 1) := by decide +kernel
theorem dX9_arg_20 : decode cX9_arg 20 = .ok (.iastore, 1) := by decide +kernel
theorem dX9_arg_21 : decode cX9_arg 21 = .ok (.aload_n 0, 1) := by decide +kernel
theorem dX9_arg_22 : decode cX9_arg 22 = .ok (.dup, 1) := by decide +kernel
theorem dX9_arg_23 : decode cX9_arg 23 = .ok (.getfield 269, 3) := by decide +kernel
theorem dX9_arg_26 : decode cX9_arg 26 = .ok (.iconst 1, 1) := by decide +kernel
theorem dX9_arg_27 : decode cX9_arg 27 = .ok (.iadd, 1) := by decide +kernel
theorem dX9_arg_28 : decode cX9_arg 28 = .ok (.putfield 269, 3) := by decide +kernel
theorem dX9_arg_31 : decode cX9_arg 31 = .ok (.iconst 1, 1) := by decide +kernel
theorem dX9_arg_32 : decode cX9_arg 32 = .ok (.ireturn, 1) := by decide +kernel
def fX9_arg (u : fb_M) (a0 : Nat) (x1 : Int32) : Option (Int32 × fb_M) :=
 (if (fb_I u a0 35) = 12 then (some (0, u))
  else ((fb_R u a0 34).bind fun q12 => fb_gd (q12 < fb_NT ∧ (fb_sh q12).1 = 100) 
   ((fb_gd (¬ (fb_I u a0 35 < 0 ∨ (fb_sh q12).2 ≤ (fb_I u a0 35).toNatClampNeg)) 
   (some (1, fb_wI (fb_wI u q12 (fb_I u a0 35).toNatClampNeg x1) a0 35 ((fb_I (fb_wI u q12 (fb_I u a0 35).toNatClampNeg x1) a0 35) + 1)))))))
set_option maxRecDepth 100000 in
set_option maxHeartbeats 4000000 in
theorem mX9_arg (g : fb_G) (u : fb_M) (a0 : Nat) (x1 : Int32) (ha0 : a0 < fb_NT ∧ fb_sh a0 = (9, 40)) {res : (Int32 × fb_M)} (h : fX9_arg u a0 x1 = some res) : fb_Runs g 0 0 0 0 fb_NT fb_NT yX9_arg cX9_arg 2 (some .boolean) [.ref (fb_b g + a0), .int x1] u (some (.int res.1)) res.2 := by
  unfold fX9_arg at h
  refine fb_enter (by decide) (Nat.le_of_ble_eq_true rfl) ?_
  show fb_V g RX9 cX9_arg 2 (some .boolean) "arg" (fb_room 0 0 0 0) (fb_Qm g (some (.int res.1)) fb_NT res.2 0 0) 0 0 fb_NT u 0 [(0, .ref (fb_b g + a0)), (1, .int x1)] []
  refine fb_aload_n (pc := 0) dX9_arg_0 0 rfl ?_
  refine fb_getI (pc := 1) dX9_arg_1 lkX9_269 ha0.1 ha0.2 rfl ?_
  refine fb_bipush (pc := 4) (v := 12) dX9_arg_4 fb_kb_12 ?_
  refine fb_icmp_ne (pc := 6) (tgt := 11) h dX9_arg_6 (by decide) (fun h => ?_) (fun h => ?_)
  · refine fb_aload_n (pc := 11) dX9_arg_11 0 rfl ?_
    refine fb_bnE h (fun q12 e12 h => fb_gdE h (fun s12 h => ?_))
    refine fb_getR (pc := 12) dX9_arg_12 lkX9_83 ha0.1 ha0.2 (by decide) e12 ?_
    refine fb_aload_n (pc := 15) dX9_arg_15 0 rfl ?_
    refine fb_getI (pc := 16) dX9_arg_16 lkX9_269 ha0.1 ha0.2 rfl ?_
    refine fb_iload_n (pc := 19) dX9_arg_19 1 rfl ?_
    refine fb_gdE h (fun i20 h => ?_)
    refine fb_iast (pc := 20) dX9_arg_20 s12.1 (fb_eta s12.2) i20 ?_
    refine fb_aload_n (pc := 21) dX9_arg_21 0 rfl ?_
    refine fb_dup (pc := 22) dX9_arg_22 rfl ?_
    refine fb_getI (pc := 23) dX9_arg_23 lkX9_269 ha0.1 ha0.2 rfl ?_
    refine fb_iconst (pc := 26) (v := 1) dX9_arg_26 fb_ki_1 ?_
    refine fb_iadd (pc := 27) dX9_arg_27 ?_
    refine fb_putI (pc := 28) dX9_arg_28 lkX9_269 ly_9_35 ha0.1 ha0.2 rfl rfl rfl ?_
    refine fb_iconst (pc := 31) (v := 1) dX9_arg_31 fb_ki_1 ?_
    exact fb_zretM (pc := 32) rfl h dX9_arg_32
  · refine fb_iconst (pc := 9) (v := 0) dX9_arg_9 fb_ki_0 ?_
    exact fb_zretM (pc := 10) rfl h dX9_arg_10

theorem dX9_holds_0 : decode cX9_holds 0 = .ok (.bipush 8, 2) := by decide +kernel
theorem dX9_holds_2 : decode cX9_holds 2 = .ok (.iload_n 3, 1) := by decide +kernel
theorem dX9_holds_3 : decode cX9_holds 3 = .ok (.imul, 1) := by decide +kernel
theorem dX9_holds_4 : decode cX9_holds 4 = .ok (.aload_n 0, 1) := by decide +kernel
theorem dX9_holds_5 : decode cX9_holds 5 = .ok (.getfield 38, 3) := by decide +kernel
theorem dX9_holds_8 : decode cX9_holds 8 = .ok (.bipush 6, 2) := by decide +kernel
theorem dX9_holds_10 : decode cX9_holds 10 = .ok (.iload_n 1, 1) := by decide +kernel
theorem dX9_holds_11 : decode cX9_holds 11 = .ok (.imul, 1) := by decide +kernel
theorem dX9_holds_12 : decode cX9_holds 12 = .ok (.iload_n 2, 1) := by decide +kernel
theorem dX9_holds_13 : decode cX9_holds 13 = .ok (.iadd, 1) := by decide +kernel
theorem dX9_holds_14 : decode cX9_holds 14 = .ok (.iaload, 1) := by decide +kernel
theorem dX9_holds_15 : decode cX9_holds 15 = .ok (.iadd, 1) := by decide +kernel
theorem dX9_holds_16 : decode cX9_holds 16 = .ok (.istore 5, 2) := by decide +kernel
theorem dX9_holds_18 : decode cX9_holds 18 = .ok (.aload_n 0, 1) := by decide +kernel
theorem dX9_holds_19 : decode cX9_holds 19 = .ok (.getfield 41, 3) := by decide +kernel
theorem dX9_holds_22 : decode cX9_holds 22 = .ok (.bipush 6, 2) := by decide +kernel
theorem dX9_holds_24 : decode cX9_holds 24 = .ok (.iload_n 1, 1) := by decide +kernel
theorem dX9_holds_25 : decode cX9_holds 25 = .ok (.imul, 1) := by decide +kernel
theorem dX9_holds_26 : decode cX9_holds 26 = .ok (.iload_n 2, 1) := by decide +kernel
theorem dX9_holds_27 : decode cX9_holds 27 = .ok (.iadd, 1) := by decide +kernel
theorem dX9_holds_28 : decode cX9_holds 28 = .ok (.iaload, 1) := by decide +kernel
theorem dX9_holds_29 : decode cX9_holds 29 = .ok (.istore 6, 2) := by decide +kernel
theorem dX9_holds_31 : decode cX9_holds 31 = .ok (.aload_n 0, 1) := by decide +kernel
theorem dX9_holds_32 : decode cX9_holds 32 = .ok (.getfield 74, 3) := by decide +kernel
theorem dX9_holds_35 : decode cX9_holds 35 = .ok (.iload 5, 2) := by decide +kernel
theorem dX9_holds_37 : decode cX9_holds 37 = .ok (.baload, 1) := by decide +kernel
theorem dX9_holds_38 : decode cX9_holds 38 = .ok (.ifCond .eq 10, 3) := by decide +kernel
theorem dX9_holds_41 : decode cX9_holds 41 = .ok (.iload 6, 2) := by decide +kernel
theorem dX9_holds_43 : decode cX9_holds 43 = .ok (.bipush 7, 2) := by decide +kernel
theorem dX9_holds_45 : decode cX9_holds 45 = .ok (.if_icmp .ne 26, 3) := by decide +kernel
theorem dX9_holds_48 : decode cX9_holds 48 = .ok (.aload_n 0, 1) := by decide +kernel
theorem dX9_holds_49 : decode cX9_holds 49 = .ok (.getfield 74, 3) := by decide +kernel
theorem dX9_holds_52 : decode cX9_holds 52 = .ok (.iload 5, 2) := by decide +kernel
theorem dX9_holds_54 : decode cX9_holds 54 = .ok (.baload, 1) := by decide +kernel
theorem dX9_holds_55 : decode cX9_holds 55 = .ok (.ifCond .ne 14, 3) := by decide +kernel
theorem dX9_holds_58 : decode cX9_holds 58 = .ok (.iload 6, 2) := by decide +kernel
theorem dX9_holds_60 : decode cX9_holds 60 = .ok (.bipush 7, 2) := by decide +kernel
theorem dX9_holds_62 : decode cX9_holds 62 = .ok (.if_icmp .ne 7, 3) := by decide +kernel
theorem dX9_holds_65 : decode cX9_holds 65 = .ok (.iconst 1, 1) := by decide +kernel
theorem dX9_holds_66 : decode cX9_holds 66 = .ok (.goto 4, 3) := by decide +kernel
theorem dX9_holds_69 : decode cX9_holds 69 = .ok (.iconst 0, 1) := by decide +kernel
theorem dX9_holds_70 : decode cX9_holds 70 = .ok (.ireturn, 1) := by decide +kernel
theorem dX9_holds_71 : decode cX9_holds 71 = .ok (.aload_n 0, 1) := by decide +kernel
theorem dX9_holds_72 : decode cX9_holds 72 = .ok (.getfield 71, 3) := by decide +kernel
theorem dX9_holds_75 : decode cX9_holds 75 = .ok (.iload 5, 2) := by decide +kernel
theorem dX9_holds_77 : decode cX9_holds 77 = .ok (.iaload, 1) := by decide +kernel
theorem dX9_holds_78 : decode cX9_holds 78 = .ok (.istore 7, 2) := by decide +kernel
theorem dX9_holds_80 : decode cX9_holds 80 = .ok (.iload 4, 2) := by decide +kernel
theorem dX9_holds_82 : decode cX9_holds 82 = .ok (.bipush 12, 2) := by decide +kernel
theorem dX9_holds_84 : decode cX9_holds 84 = .ok (.if_icmp .ge 13, 3) := by decide +kernel
theorem dX9_holds_87 : decode cX9_holds 87 = .ok (.aload_n 0, 1) := by decide +kernel
theorem dX9_holds_88 : decode cX9_holds 88 = .ok (.getfield 83, 3) := by decide +kernel
theorem dX9_holds_91 : decode cX9_holds 91 = .ok (.iload 4, 2) := by decide +kernel
theorem dX9_holds_93 : decode cX9_holds 93 = .ok (.iaload, 1) := by decide +kernel
theorem dX9_holds_94 : decode cX9_holds 94 = .ok (.goto 4, 3) := by decide +kernel
theorem dX9_holds_97 : decode cX9_holds 97 = .ok (.iconst 0, 1) := by decide +kernel
theorem dX9_holds_98 : decode cX9_holds 98 = .ok (.istore 8, 2) := by decide +kernel
theorem dX9_holds_100 : decode cX9_holds 100 = .ok (.iload 6, 2) := by decide +kernel
theorem dX9_holds_102 : decode cX9_holds 102 = .ok (.tableswitch 192 0 10 #[58, 71, 84, 97, 110, 123, 136, 192, 192, 170, 181], 58) := by decide +kernel
theorem dX9_holds_160 : decode cX9_holds 160 = .ok (.iload 7, 2) := by decide +kernel
theorem dX9_holds_162 : decode cX9_holds 162 = .ok (.iload 8, 2) := by decide +kernel
theorem dX9_holds_164 : decode cX9_holds 164 = .ok (.if_icmp .ne 7, 3) := by decide +kernel
theorem dX9_holds_167 : decode cX9_holds 167 = .ok (.iconst 1, 1) := by decide +kernel
theorem dX9_holds_168 : decode cX9_holds 168 = .ok (.goto 4, 3) := by decide +kernel
theorem dX9_holds_171 : decode cX9_holds 171 = .ok (.iconst 0, 1) := by decide +kernel
theorem dX9_holds_172 : decode cX9_holds 172 = .ok (.ireturn, 1) := by decide +kernel
theorem dX9_holds_173 : decode cX9_holds 173 = .ok (.iload 7, 2) := by decide +kernel
theorem dX9_holds_175 : decode cX9_holds 175 = .ok (.iload 8, 2) := by decide +kernel
theorem dX9_holds_177 : decode cX9_holds 177 = .ok (.if_icmp .eq 7, 3) := by decide +kernel
theorem dX9_holds_180 : decode cX9_holds 180 = .ok (.iconst 1, 1) := by decide +kernel
theorem dX9_holds_181 : decode cX9_holds 181 = .ok (.goto 4, 3) := by decide +kernel
theorem dX9_holds_184 : decode cX9_holds 184 = .ok (.iconst 0, 1) := by decide +kernel
theorem dX9_holds_185 : decode cX9_holds 185 = .ok (.ireturn, 1) := by decide +kernel
theorem dX9_holds_186 : decode cX9_holds 186 = .ok (.iload 7, 2) := by decide +kernel
theorem dX9_holds_188 : decode cX9_holds 188 = .ok (.iload 8, 2) := by decide +kernel
theorem dX9_holds_190 : decode cX9_holds 190 = .ok (.if_icmp .ge 7, 3) := by decide +kernel
theorem dX9_holds_193 : decode cX9_holds 193 = .ok (.iconst 1, 1) := by decide +kernel
theorem dX9_holds_194 : decode cX9_holds 194 = .ok (.goto 4, 3) := by decide +kernel
theorem dX9_holds_197 : decode cX9_holds 197 = .ok (.iconst 0, 1) := by decide +kernel
theorem dX9_holds_198 : decode cX9_holds 198 = .ok (.ireturn, 1) := by decide +kernel
theorem dX9_holds_199 : decode cX9_holds 199 = .ok (.iload 7, 2) := by decide +kernel
theorem dX9_holds_201 : decode cX9_holds 201 = .ok (.iload 8, 2) := by decide +kernel
theorem dX9_holds_203 : decode cX9_holds 203 = .ok (.if_icmp .gt 7, 3) := by decide +kernel
theorem dX9_holds_206 : decode cX9_holds 206 = .ok (.iconst 1, 1) := by decide +kernel
theorem dX9_holds_207 : decode cX9_holds 207 = .ok (.goto 4, 3) := by decide +kernel
theorem dX9_holds_210 : decode cX9_holds 210 = .ok (.iconst 0, 1) := by decide +kernel
theorem dX9_holds_211 : decode cX9_holds 211 = .ok (.ireturn, 1) := by decide +kernel
theorem dX9_holds_212 : decode cX9_holds 212 = .ok (.iload 7, 2) := by decide +kernel
theorem dX9_holds_214 : decode cX9_holds 214 = .ok (.iload 8, 2) := by decide +kernel
theorem dX9_holds_216 : decode cX9_holds 216 = .ok (.if_icmp .le 7, 3) := by decide +kernel
theorem dX9_holds_219 : decode cX9_holds 219 = .ok (.iconst 1, 1) := by decide +kernel
theorem dX9_holds_220 : decode cX9_holds 220 = .ok (.goto 4, 3) := by decide +kernel
theorem dX9_holds_223 : decode cX9_holds 223 = .ok (.iconst 0, 1) := by decide +kernel
theorem dX9_holds_224 : decode cX9_holds 224 = .ok (.ireturn, 1) := by decide +kernel
theorem dX9_holds_225 : decode cX9_holds 225 = .ok (.iload 7, 2) := by decide +kernel
theorem dX9_holds_227 : decode cX9_holds 227 = .ok (.iload 8, 2) := by decide +kernel
theorem dX9_holds_229 : decode cX9_holds 229 = .ok (.if_icmp .lt 7, 3) := by decide +kernel
theorem dX9_holds_232 : decode cX9_holds 232 = .ok (.iconst 1, 1) := by decide +kernel
theorem dX9_holds_233 : decode cX9_holds 233 = .ok (.goto 4, 3) := by decide +kernel
theorem dX9_holds_236 : decode cX9_holds 236 = .ok (.iconst 0, 1) := by decide +kernel
theorem dX9_holds_237 : decode cX9_holds 237 = .ok (.ireturn, 1) := by decide +kernel
theorem dX9_holds_238 : decode cX9_holds 238 = .ok (.iload 8, 2) := by decide +kernel
theorem dX9_holds_240 : decode cX9_holds 240 = .ok (.iload 7, 2) := by decide +kernel
theorem dX9_holds_242 : decode cX9_holds 242 = .ok (.if_icmp .gt 28, 3) := by decide +kernel
theorem dX9_holds_245 : decode cX9_holds 245 = .ok (.iload 4, 2) := by decide +kernel
theorem dX9_holds_247 : decode cX9_holds 247 = .ok (.bipush 11, 2) := by decide +kernel
theorem dX9_holds_249 : decode cX9_holds 249 = .ok (.if_icmp .ge 21, 3) := by decide +kernel
theorem dX9_holds_252 : decode cX9_holds 252 = .ok (.iload 7, 2) := by decide +kernel
theorem dX9_holds_254 : decode cX9_holds 254 = .ok (.aload_n 0, 1) := by decide +kernel
theorem dX9_holds_255 : decode cX9_holds 255 = .ok (.getfield 83, 3) := by decide +kernel
theorem dX9_holds_258 : decode cX9_holds 258 = .ok (.iload 4, 2) := by decide +kernel
theorem dX9_holds_260 : decode cX9_holds 260 = .ok (.iconst 1, 1) := by decide +kernel
theorem dX9_holds_261 : decode cX9_holds 261 = .ok (.iadd, 1) := by decide +kernel
theorem dX9_holds_262 : decode cX9_holds 262 = .ok (.iaload, 1) := by decide +kernel
theorem dX9_holds_263 : decode cX9_holds 263 = .ok (.if_icmp .gt 7, 3) := by decide +kernel
theorem dX9_holds_266 : decode cX9_holds 266 = .ok (.iconst 1, 1) := by decide +kernel
theorem dX9_holds_267 : decode cX9_holds 267 = .ok (.goto 4, 3) := by decide +kernel
theorem dX9_holds_270 : decode cX9_holds 270 = .ok (.iconst 0, 1) := by decide +kernel
theorem dX9_holds_271 : decode cX9_holds 271 = .ok (.ireturn, 1) := by decide +kernel
theorem dX9_holds_272 : decode cX9_holds 272 = .ok (.iload 7, 2) := by decide +kernel
theorem dX9_holds_274 : decode cX9_holds 274 = .ok (.ifCond .eq 7, 3) := by decide +kernel
theorem dX9_holds_277 : decode cX9_holds 277 = .ok (.iconst 1, 1) := by decide +kernel
theorem dX9_holds_278 : decode cX9_holds 278 = .ok (.goto 4, 3) := by decide +kernel
theorem dX9_holds_281 : decode cX9_holds 281 = .ok (.iconst 0, 1) := by decide +kernel
theorem dX9_holds_282 : decode cX9_holds 282 = .ok (.ireturn, 1) := by decide +kernel
theorem dX9_holds_283 : decode cX9_holds 283 = .ok (.iload 7, 2) := by decide +kernel
theorem dX9_holds_285 : decode cX9_holds 285 = .ok (.ifCond .ne 7, 3) := by decide +kernel
theorem dX9_holds_288 : decode cX9_holds 288 = .ok (.iconst 1, 1) := by decide +kernel
theorem dX9_holds_289 : decode cX9_holds 289 = .ok (.goto 4, 3) := by decide +kernel
theorem dX9_holds_292 : decode cX9_holds 292 = .ok (.iconst 0, 1) := by decide +kernel
theorem dX9_holds_293 : decode cX9_holds 293 = .ok (.ireturn, 1) := by decide +kernel
theorem dX9_holds_294 : decode cX9_holds 294 = .ok (.iconst 1, 1) := by decide +kernel
theorem dX9_holds_295 : decode cX9_holds 295 = .ok (.ireturn, 1) := by decide +kernel
def jX9_holds_48 (a0 : Nat) (x5 : Int32) (x6 : Int32) (u : fb_M) : Option Int32 :=
 ((fb_R u a0 31).bind fun q49 => fb_gd (q49 < fb_NT ∧ (fb_sh q49).1 = 102) 
  ((fb_gd (¬ (x5 < 0 ∨ (fb_sh q49).2 ≤ x5.toNatClampNeg)) 
  (if (fb_I u q49 x5.toNatClampNeg) = 0 then (if x6 = 7 then (some 1)
   else (some 0))
  else (some 0)))))
set_option maxRecDepth 100000 in
set_option maxHeartbeats 4000000 in
theorem tjX9_holds_48 {g : fb_G} {res : Int32} (a0 : Nat) (x5 : Int32) (x6 : Int32) (u : fb_M) (ha0 : a0 < fb_NT ∧ fb_sh a0 = (9, 40)) (h : jX9_holds_48 a0 x5 x6 u = some res) : fb_V g RX9 cX9_holds 9 (some .boolean) "holds" (fb_room 0 0 0 0) (fb_Qm g (some (.int res)) fb_NT u 0 0) 0 0 fb_NT u 48 [(0, .ref (fb_b g + a0)), (5, .int x5), (6, .int x6)] [] := by
  unfold jX9_holds_48 at h
  refine fb_aload_n (pc := 48) dX9_holds_48 0 rfl ?_
  refine fb_bnE h (fun q49 e49 h => fb_gdE h (fun s49 h => ?_))
  refine fb_getR (pc := 49) dX9_holds_49 lkX9_74 ha0.1 ha0.2 (by decide) e49 ?_
  refine fb_iload (pc := 52) dX9_holds_52 1 rfl ?_
  refine fb_gdE h (fun i54 h => ?_)
  refine fb_zald (pc := 54) dX9_holds_54 s49.1 (fb_eta s49.2) i54 ?_
  refine fb_if_ne (pc := 55) (tgt := 69) h dX9_holds_55 (by decide) (fun h => ?_) (fun h => ?_)
  · refine fb_iconst (pc := 69) (v := 0) dX9_holds_69 fb_ki_0 ?_
    exact fb_zretR (pc := 70) rfl h dX9_holds_70
  · refine fb_iload (pc := 58) dX9_holds_58 2 rfl ?_
    refine fb_bipush (pc := 60) (v := 7) dX9_holds_60 fb_kb_7 ?_
    refine fb_icmp_ne (pc := 62) (tgt := 69) h dX9_holds_62 (by decide) (fun h => ?_) (fun h => ?_)
    · refine fb_iconst (pc := 69) (v := 0) dX9_holds_69 fb_ki_0 ?_
      exact fb_zretR (pc := 70) rfl h dX9_holds_70
    · refine fb_iconst (pc := 65) (v := 1) dX9_holds_65 fb_ki_1 ?_
      refine fb_goto (pc := 66) (tgt := 70) dX9_holds_66 (by decide) ?_
      exact fb_zretR (pc := 70) rfl h dX9_holds_70

def jX9_holds_98 (a0 : Nat) (x4 : Int32) (x6 : Int32) (x7 : Int32) (k0 : Int32) (u : fb_M) : Option Int32 :=
 (if x6 = 0 then (if x7 = k0 then (some 1)
   else (some 0))
  else (if x6 = 1 then (if x7 = k0 then (some 0)
   else (some 1))
  else (if x6 = 2 then (if k0 ≤ x7 then (some 0)
   else (some 1))
  else (if x6 = 3 then (if k0 < x7 then (some 0)
   else (some 1))
  else (if x6 = 4 then (if x7 ≤ k0 then (some 0)
   else (some 1))
  else (if x6 = 5 then (if x7 < k0 then (some 0)
   else (some 1))
  else (if x6 = 6 then (if x7 < k0 then (some 0)
   else (if 11 ≤ x4 then (some 0)
    else ((fb_R u a0 34).bind fun q255 => fb_gd (q255 < fb_NT ∧ (fb_sh q255).1 = 100) 
     ((fb_gd (¬ (x4 + 1 < 0 ∨ (fb_sh q255).2 ≤ (x4 + 1).toNatClampNeg)) 
     (if (fb_I u q255 (x4 + 1).toNatClampNeg) < x7 then (some 0)
     else (some 1)))))))
  else (if x6 = 7 then (some 1)
  else (if x6 = 8 then (some 1)
  else (if x6 = 9 then (if x7 = 0 then (some 0)
   else (some 1))
  else (if x6 = 10 then (if x7 = 0 then (some 1)
   else (some 0))
  else (some 1))))))))))))
set_option maxRecDepth 100000 in
set_option maxHeartbeats 4000000 in
theorem tjX9_holds_98 {g : fb_G} {res : Int32} (a0 : Nat) (x4 : Int32) (x6 : Int32) (x7 : Int32) (k0 : Int32) (u : fb_M) (ha0 : a0 < fb_NT ∧ fb_sh a0 = (9, 40)) (h : jX9_holds_98 a0 x4 x6 x7 k0 u = some res) : fb_V g RX9 cX9_holds 9 (some .boolean) "holds" (fb_room 0 0 0 0) (fb_Qm g (some (.int res)) fb_NT u 0 0) 0 0 fb_NT u 98 [(0, .ref (fb_b g + a0)), (4, .int x4), (6, .int x6), (7, .int x7)] [.int k0] := by
  unfold jX9_holds_98 at h
  refine fb_istore (pc := 98) (lv' := [(8, .int k0), (0, .ref (fb_b g + a0)), (4, .int x4), (6, .int x6), (7, .int x7)]) dX9_holds_98 (by decide) rfl ?_
  refine fb_iload (pc := 100) dX9_holds_100 3 rfl ?_
  refine fb_ifE h (fun c102_0 h => ?_) (fun c102_0 h => ?_)
  · refine fb_tabIn (pc := 102) (v := 0) (tgt := 160) c102_0 dX9_holds_102 (by decide) (by decide) rfl (by decide) ?_
    refine fb_iload (pc := 160) dX9_holds_160 4 rfl ?_
    refine fb_iload (pc := 162) dX9_holds_162 0 rfl ?_
    refine fb_icmp_ne (pc := 164) (tgt := 171) h dX9_holds_164 (by decide) (fun h => ?_) (fun h => ?_)
    · refine fb_iconst (pc := 171) (v := 0) dX9_holds_171 fb_ki_0 ?_
      exact fb_zretR (pc := 172) rfl h dX9_holds_172
    · refine fb_iconst (pc := 167) (v := 1) dX9_holds_167 fb_ki_1 ?_
      refine fb_goto (pc := 168) (tgt := 172) dX9_holds_168 (by decide) ?_
      exact fb_zretR (pc := 172) rfl h dX9_holds_172
  refine fb_ifE h (fun c102_1 h => ?_) (fun c102_1 h => ?_)
  · refine fb_tabIn (pc := 102) (v := 1) (tgt := 173) c102_1 dX9_holds_102 (by decide) (by decide) rfl (by decide) ?_
    refine fb_iload (pc := 173) dX9_holds_173 4 rfl ?_
    refine fb_iload (pc := 175) dX9_holds_175 0 rfl ?_
    refine fb_icmp_eq (pc := 177) (tgt := 184) h dX9_holds_177 (by decide) (fun h => ?_) (fun h => ?_)
    · refine fb_iconst (pc := 184) (v := 0) dX9_holds_184 fb_ki_0 ?_
      exact fb_zretR (pc := 185) rfl h dX9_holds_185
    · refine fb_iconst (pc := 180) (v := 1) dX9_holds_180 fb_ki_1 ?_
      refine fb_goto (pc := 181) (tgt := 185) dX9_holds_181 (by decide) ?_
      exact fb_zretR (pc := 185) rfl h dX9_holds_185
  refine fb_ifE h (fun c102_2 h => ?_) (fun c102_2 h => ?_)
  · refine fb_tabIn (pc := 102) (v := 2) (tgt := 186) c102_2 dX9_holds_102 (by decide) (by decide) rfl (by decide) ?_
    refine fb_iload (pc := 186) dX9_holds_186 4 rfl ?_
    refine fb_iload (pc := 188) dX9_holds_188 0 rfl ?_
    refine fb_icmp_ge (pc := 190) (tgt := 197) h dX9_holds_190 (by decide) (fun h => ?_) (fun h => ?_)
    · refine fb_iconst (pc := 197) (v := 0) dX9_holds_197 fb_ki_0 ?_
      exact fb_zretR (pc := 198) rfl h dX9_holds_198
    · refine fb_iconst (pc := 193) (v := 1) dX9_holds_193 fb_ki_1 ?_
      refine fb_goto (pc := 194) (tgt := 198) dX9_holds_194 (by decide) ?_
      exact fb_zretR (pc := 198) rfl h dX9_holds_198
  refine fb_ifE h (fun c102_3 h => ?_) (fun c102_3 h => ?_)
  · refine fb_tabIn (pc := 102) (v := 3) (tgt := 199) c102_3 dX9_holds_102 (by decide) (by decide) rfl (by decide) ?_
    refine fb_iload (pc := 199) dX9_holds_199 4 rfl ?_
    refine fb_iload (pc := 201) dX9_holds_201 0 rfl ?_
    refine fb_icmp_gt (pc := 203) (tgt := 210) h dX9_holds_203 (by decide) (fun h => ?_) (fun h => ?_)
    · refine fb_iconst (pc := 210) (v := 0) dX9_holds_210 fb_ki_0 ?_
      exact fb_zretR (pc := 211) rfl h dX9_holds_211
    · refine fb_iconst (pc := 206) (v := 1) dX9_holds_206 fb_ki_1 ?_
      refine fb_goto (pc := 207) (tgt := 211) dX9_holds_207 (by decide) ?_
      exact fb_zretR (pc := 211) rfl h dX9_holds_211
  refine fb_ifE h (fun c102_4 h => ?_) (fun c102_4 h => ?_)
  · refine fb_tabIn (pc := 102) (v := 4) (tgt := 212) c102_4 dX9_holds_102 (by decide) (by decide) rfl (by decide) ?_
    refine fb_iload (pc := 212) dX9_holds_212 4 rfl ?_
    refine fb_iload (pc := 214) dX9_holds_214 0 rfl ?_
    refine fb_icmp_le (pc := 216) (tgt := 223) h dX9_holds_216 (by decide) (fun h => ?_) (fun h => ?_)
    · refine fb_iconst (pc := 223) (v := 0) dX9_holds_223 fb_ki_0 ?_
      exact fb_zretR (pc := 224) rfl h dX9_holds_224
    · refine fb_iconst (pc := 219) (v := 1) dX9_holds_219 fb_ki_1 ?_
      refine fb_goto (pc := 220) (tgt := 224) dX9_holds_220 (by decide) ?_
      exact fb_zretR (pc := 224) rfl h dX9_holds_224
  refine fb_ifE h (fun c102_5 h => ?_) (fun c102_5 h => ?_)
  · refine fb_tabIn (pc := 102) (v := 5) (tgt := 225) c102_5 dX9_holds_102 (by decide) (by decide) rfl (by decide) ?_
    refine fb_iload (pc := 225) dX9_holds_225 4 rfl ?_
    refine fb_iload (pc := 227) dX9_holds_227 0 rfl ?_
    refine fb_icmp_lt (pc := 229) (tgt := 236) h dX9_holds_229 (by decide) (fun h => ?_) (fun h => ?_)
    · refine fb_iconst (pc := 236) (v := 0) dX9_holds_236 fb_ki_0 ?_
      exact fb_zretR (pc := 237) rfl h dX9_holds_237
    · refine fb_iconst (pc := 232) (v := 1) dX9_holds_232 fb_ki_1 ?_
      refine fb_goto (pc := 233) (tgt := 237) dX9_holds_233 (by decide) ?_
      exact fb_zretR (pc := 237) rfl h dX9_holds_237
  refine fb_ifE h (fun c102_6 h => ?_) (fun c102_6 h => ?_)
  · refine fb_tabIn (pc := 102) (v := 6) (tgt := 238) c102_6 dX9_holds_102 (by decide) (by decide) rfl (by decide) ?_
    refine fb_iload (pc := 238) dX9_holds_238 0 rfl ?_
    refine fb_iload (pc := 240) dX9_holds_240 4 rfl ?_
    refine fb_icmp_gt (pc := 242) (tgt := 270) h dX9_holds_242 (by decide) (fun h => ?_) (fun h => ?_)
    · refine fb_iconst (pc := 270) (v := 0) dX9_holds_270 fb_ki_0 ?_
      exact fb_zretR (pc := 271) rfl h dX9_holds_271
    · refine fb_iload (pc := 245) dX9_holds_245 2 rfl ?_
      refine fb_bipush (pc := 247) (v := 11) dX9_holds_247 fb_kb_11 ?_
      refine fb_icmp_ge (pc := 249) (tgt := 270) h dX9_holds_249 (by decide) (fun h => ?_) (fun h => ?_)
      · refine fb_iconst (pc := 270) (v := 0) dX9_holds_270 fb_ki_0 ?_
        exact fb_zretR (pc := 271) rfl h dX9_holds_271
      · refine fb_iload (pc := 252) dX9_holds_252 4 rfl ?_
        refine fb_aload_n (pc := 254) dX9_holds_254 1 rfl ?_
        refine fb_bnE h (fun q255 e255 h => fb_gdE h (fun s255 h => ?_))
        refine fb_getR (pc := 255) dX9_holds_255 lkX9_83 ha0.1 ha0.2 (by decide) e255 ?_
        refine fb_iload (pc := 258) dX9_holds_258 2 rfl ?_
        refine fb_iconst (pc := 260) (v := 1) dX9_holds_260 fb_ki_1 ?_
        refine fb_iadd (pc := 261) dX9_holds_261 ?_
        refine fb_gdE h (fun i262 h => ?_)
        refine fb_iald (pc := 262) dX9_holds_262 s255.1 (fb_eta s255.2) i262 ?_
        refine fb_icmp_gt (pc := 263) (tgt := 270) h dX9_holds_263 (by decide) (fun h => ?_) (fun h => ?_)
        · refine fb_iconst (pc := 270) (v := 0) dX9_holds_270 fb_ki_0 ?_
          exact fb_zretR (pc := 271) rfl h dX9_holds_271
        · refine fb_iconst (pc := 266) (v := 1) dX9_holds_266 fb_ki_1 ?_
          refine fb_goto (pc := 267) (tgt := 271) dX9_holds_267 (by decide) ?_
          exact fb_zretR (pc := 271) rfl h dX9_holds_271
  refine fb_ifE h (fun c102_7 h => ?_) (fun c102_7 h => ?_)
  · refine fb_tabIn (pc := 102) (v := 7) (tgt := 294) c102_7 dX9_holds_102 (by decide) (by decide) rfl (by decide) ?_
    refine fb_iconst (pc := 294) (v := 1) dX9_holds_294 fb_ki_1 ?_
    exact fb_zretR (pc := 295) rfl h dX9_holds_295
  refine fb_ifE h (fun c102_8 h => ?_) (fun c102_8 h => ?_)
  · refine fb_tabIn (pc := 102) (v := 8) (tgt := 294) c102_8 dX9_holds_102 (by decide) (by decide) rfl (by decide) ?_
    refine fb_iconst (pc := 294) (v := 1) dX9_holds_294 fb_ki_1 ?_
    exact fb_zretR (pc := 295) rfl h dX9_holds_295
  refine fb_ifE h (fun c102_9 h => ?_) (fun c102_9 h => ?_)
  · refine fb_tabIn (pc := 102) (v := 9) (tgt := 272) c102_9 dX9_holds_102 (by decide) (by decide) rfl (by decide) ?_
    refine fb_iload (pc := 272) dX9_holds_272 4 rfl ?_
    refine fb_if_eq (pc := 274) (tgt := 281) h dX9_holds_274 (by decide) (fun h => ?_) (fun h => ?_)
    · refine fb_iconst (pc := 281) (v := 0) dX9_holds_281 fb_ki_0 ?_
      exact fb_zretR (pc := 282) rfl h dX9_holds_282
    · refine fb_iconst (pc := 277) (v := 1) dX9_holds_277 fb_ki_1 ?_
      refine fb_goto (pc := 278) (tgt := 282) dX9_holds_278 (by decide) ?_
      exact fb_zretR (pc := 282) rfl h dX9_holds_282
  refine fb_ifE h (fun c102_10 h => ?_) (fun c102_10 h => ?_)
  · refine fb_tabIn (pc := 102) (v := 10) (tgt := 283) c102_10 dX9_holds_102 (by decide) (by decide) rfl (by decide) ?_
    refine fb_iload (pc := 283) dX9_holds_283 4 rfl ?_
    refine fb_if_ne (pc := 285) (tgt := 292) h dX9_holds_285 (by decide) (fun h => ?_) (fun h => ?_)
    · refine fb_iconst (pc := 292) (v := 0) dX9_holds_292 fb_ki_0 ?_
      exact fb_zretR (pc := 293) rfl h dX9_holds_293
    · refine fb_iconst (pc := 288) (v := 1) dX9_holds_288 fb_ki_1 ?_
      refine fb_goto (pc := 289) (tgt := 293) dX9_holds_289 (by decide) ?_
      exact fb_zretR (pc := 293) rfl h dX9_holds_293
  refine fb_tabOut (pc := 102) (tgt := 294) (by have a0 := lv_neT c102_0 (a := 0) (by decide); have a1 := lv_neT c102_1 (a := 1) (by decide); have a2 := lv_neT c102_2 (a := 2) (by decide); have a3 := lv_neT c102_3 (a := 3) (by decide); have a4 := lv_neT c102_4 (a := 4) (by decide); have a5 := lv_neT c102_5 (a := 5) (by decide); have a6 := lv_neT c102_6 (a := 6) (by decide); have a7 := lv_neT c102_7 (a := 7) (by decide); have a8 := lv_neT c102_8 (a := 8) (by decide); have a9 := lv_neT c102_9 (a := 9) (by decide); have a10 := lv_neT c102_10 (a := 10) (by decide); omega) dX9_holds_102 (by decide) ?_
  refine fb_iconst (pc := 294) (v := 1) dX9_holds_294 fb_ki_1 ?_
  exact fb_zretR (pc := 295) rfl h dX9_holds_295

def fX9_holds (u : fb_M) (a0 : Nat) (x1 : Int32) (x2 : Int32) (x3 : Int32) (x4 : Int32) : Option Int32 :=
 ((fb_R u a0 12).bind fun q5 => fb_gd (q5 < fb_NT ∧ (fb_sh q5).1 = 100) 
  ((fb_gd (¬ ((6 * x1) + x2 < 0 ∨ (fb_sh q5).2 ≤ ((6 * x1) + x2).toNatClampNeg)) 
  ((fb_R u a0 13).bind fun q19 => fb_gd (q19 < fb_NT ∧ (fb_sh q19).1 = 100) 
  ((fb_gd (¬ ((6 * x1) + x2 < 0 ∨ (fb_sh q19).2 ≤ ((6 * x1) + x2).toNatClampNeg)) 
  ((fb_R u a0 31).bind fun q32 => fb_gd (q32 < fb_NT ∧ (fb_sh q32).1 = 102) 
  ((fb_gd (¬ ((8 * x3) + (fb_I u q5 ((6 * x1) + x2).toNatClampNeg) < 0 ∨ (fb_sh q32).2 ≤ ((8 * x3) + (fb_I u q5 ((6 * x1) + x2).toNatClampNeg)).toNatClampNeg)) 
  (if (fb_I u q32 ((8 * x3) + (fb_I u q5 ((6 * x1) + x2).toNatClampNeg)).toNatClampNeg) = 0 then (jX9_holds_48 a0 ((8 * x3) + (fb_I u q5 ((6 * x1) + x2).toNatClampNeg)) (fb_I u q19 ((6 * x1) + x2).toNatClampNeg) u)
  else (if (fb_I u q19 ((6 * x1) + x2).toNatClampNeg) = 7 then (jX9_holds_48 a0 ((8 * x3) + (fb_I u q5 ((6 * x1) + x2).toNatClampNeg)) (fb_I u q19 ((6 * x1) + x2).toNatClampNeg) u)
   else ((fb_R u a0 30).bind fun q72 => fb_gd (q72 < fb_NT ∧ (fb_sh q72).1 = 100) 
    ((fb_gd (¬ ((8 * x3) + (fb_I u q5 ((6 * x1) + x2).toNatClampNeg) < 0 ∨ (fb_sh q72).2 ≤ ((8 * x3) + (fb_I u q5 ((6 * x1) + x2).toNatClampNeg)).toNatClampNeg)) 
    (if 12 ≤ x4 then (jX9_holds_98 a0 x4 (fb_I u q19 ((6 * x1) + x2).toNatClampNeg) (fb_I u q72 ((8 * x3) + (fb_I u q5 ((6 * x1) + x2).toNatClampNeg)).toNatClampNeg) 0 u)
    else ((fb_R u a0 34).bind fun q88 => fb_gd (q88 < fb_NT ∧ (fb_sh q88).1 = 100) 
     ((fb_gd (¬ (x4 < 0 ∨ (fb_sh q88).2 ≤ x4.toNatClampNeg)) 
     (jX9_holds_98 a0 x4 (fb_I u q19 ((6 * x1) + x2).toNatClampNeg) (fb_I u q72 ((8 * x3) + (fb_I u q5 ((6 * x1) + x2).toNatClampNeg)).toNatClampNeg) (fb_I u q88 x4.toNatClampNeg) u)))))))))))))))))))
set_option maxRecDepth 100000 in
set_option maxHeartbeats 4000000 in
theorem mX9_holds (g : fb_G) (u : fb_M) (a0 : Nat) (x1 : Int32) (x2 : Int32) (x3 : Int32) (x4 : Int32) (ha0 : a0 < fb_NT ∧ fb_sh a0 = (9, 40)) {res : Int32} (h : fX9_holds u a0 x1 x2 x3 x4 = some res) : fb_Runs g 0 0 0 0 fb_NT fb_NT yX9_holds cX9_holds 9 (some .boolean) [.ref (fb_b g + a0), .int x1, .int x2, .int x3, .int x4] u (some (.int res)) u := by
  unfold fX9_holds at h
  refine fb_enter (by decide) (Nat.le_of_ble_eq_true rfl) ?_
  show fb_V g RX9 cX9_holds 9 (some .boolean) "holds" (fb_room 0 0 0 0) (fb_Qm g (some (.int res)) fb_NT u 0 0) 0 0 fb_NT u 0 [(0, .ref (fb_b g + a0)), (1, .int x1), (2, .int x2), (3, .int x3), (4, .int x4)] []
  refine fb_bipush (pc := 0) (v := 8) dX9_holds_0 fb_kb_8 ?_
  refine fb_iload_n (pc := 2) dX9_holds_2 3 rfl ?_
  refine fb_imul (pc := 3) dX9_holds_3 ?_
  refine fb_aload_n (pc := 4) dX9_holds_4 0 rfl ?_
  refine fb_bnE h (fun q5 e5 h => fb_gdE h (fun s5 h => ?_))
  refine fb_getR (pc := 5) dX9_holds_5 lkX9_38 ha0.1 ha0.2 (by decide) e5 ?_
  refine fb_bipush (pc := 8) (v := 6) dX9_holds_8 fb_kb_6 ?_
  refine fb_iload_n (pc := 10) dX9_holds_10 1 rfl ?_
  refine fb_imul (pc := 11) dX9_holds_11 ?_
  refine fb_iload_n (pc := 12) dX9_holds_12 2 rfl ?_
  refine fb_iadd (pc := 13) dX9_holds_13 ?_
  refine fb_gdE h (fun i14 h => ?_)
  refine fb_iald (pc := 14) dX9_holds_14 s5.1 (fb_eta s5.2) i14 ?_
  refine fb_iadd (pc := 15) dX9_holds_15 ?_
  refine fb_istore (pc := 16) (lv' := [(5, .int ((8 * x3) + (fb_I u q5 ((6 * x1) + x2).toNatClampNeg))), (0, .ref (fb_b g + a0)), (1, .int x1), (2, .int x2), (3, .int x3), (4, .int x4)]) dX9_holds_16 (by decide) rfl ?_
  refine fb_aload_n (pc := 18) dX9_holds_18 1 rfl ?_
  refine fb_bnE h (fun q19 e19 h => fb_gdE h (fun s19 h => ?_))
  refine fb_getR (pc := 19) dX9_holds_19 lkX9_41 ha0.1 ha0.2 (by decide) e19 ?_
  refine fb_bipush (pc := 22) (v := 6) dX9_holds_22 fb_kb_6 ?_
  refine fb_iload_n (pc := 24) dX9_holds_24 2 rfl ?_
  refine fb_imul (pc := 25) dX9_holds_25 ?_
  refine fb_iload_n (pc := 26) dX9_holds_26 3 rfl ?_
  refine fb_iadd (pc := 27) dX9_holds_27 ?_
  refine fb_gdE h (fun i28 h => ?_)
  refine fb_iald (pc := 28) dX9_holds_28 s19.1 (fb_eta s19.2) i28 ?_
  refine fb_istore (pc := 29) (lv' := [(6, .int (fb_I u q19 ((6 * x1) + x2).toNatClampNeg)), (5, .int ((8 * x3) + (fb_I u q5 ((6 * x1) + x2).toNatClampNeg))), (0, .ref (fb_b g + a0)), (1, .int x1), (2, .int x2), (3, .int x3), (4, .int x4)]) dX9_holds_29 (by decide) rfl ?_
  refine fb_aload_n (pc := 31) dX9_holds_31 2 rfl ?_
  refine fb_bnE h (fun q32 e32 h => fb_gdE h (fun s32 h => ?_))
  refine fb_getR (pc := 32) dX9_holds_32 lkX9_74 ha0.1 ha0.2 (by decide) e32 ?_
  refine fb_iload (pc := 35) dX9_holds_35 1 rfl ?_
  refine fb_gdE h (fun i37 h => ?_)
  refine fb_zald (pc := 37) dX9_holds_37 s32.1 (fb_eta s32.2) i37 ?_
  refine fb_if_eq (pc := 38) (tgt := 48) h dX9_holds_38 (by decide) (fun h => ?_) (fun h => ?_)
  · exact fb_sub [2, 1, 0] rfl (tjX9_holds_48 a0 ((8 * x3) + (fb_I u q5 ((6 * x1) + x2).toNatClampNeg)) (fb_I u q19 ((6 * x1) + x2).toNatClampNeg) u ha0 h)
  · refine fb_iload (pc := 41) dX9_holds_41 0 rfl ?_
    refine fb_bipush (pc := 43) (v := 7) dX9_holds_43 fb_kb_7 ?_
    refine fb_icmp_ne (pc := 45) (tgt := 71) h dX9_holds_45 (by decide) (fun h => ?_) (fun h => ?_)
    · refine fb_aload_n (pc := 71) dX9_holds_71 2 rfl ?_
      refine fb_bnE h (fun q72 e72 h => fb_gdE h (fun s72 h => ?_))
      refine fb_getR (pc := 72) dX9_holds_72 lkX9_71 ha0.1 ha0.2 (by decide) e72 ?_
      refine fb_iload (pc := 75) dX9_holds_75 1 rfl ?_
      refine fb_gdE h (fun i77 h => ?_)
      refine fb_iald (pc := 77) dX9_holds_77 s72.1 (fb_eta s72.2) i77 ?_
      refine fb_istore (pc := 78) (lv' := [(7, .int (fb_I u q72 ((8 * x3) + (fb_I u q5 ((6 * x1) + x2).toNatClampNeg)).toNatClampNeg)), (6, .int (fb_I u q19 ((6 * x1) + x2).toNatClampNeg)), (5, .int ((8 * x3) + (fb_I u q5 ((6 * x1) + x2).toNatClampNeg))), (0, .ref (fb_b g + a0)), (1, .int x1), (2, .int x2), (3, .int x3), (4, .int x4)]) dX9_holds_78 (by decide) rfl ?_
      refine fb_iload (pc := 80) dX9_holds_80 7 rfl ?_
      refine fb_bipush (pc := 82) (v := 12) dX9_holds_82 fb_kb_12 ?_
      refine fb_icmp_ge (pc := 84) (tgt := 97) h dX9_holds_84 (by decide) (fun h => ?_) (fun h => ?_)
      · refine fb_iconst (pc := 97) (v := 0) dX9_holds_97 fb_ki_0 ?_
        exact fb_sub [3, 7, 1, 0] rfl (tjX9_holds_98 a0 x4 (fb_I u q19 ((6 * x1) + x2).toNatClampNeg) (fb_I u q72 ((8 * x3) + (fb_I u q5 ((6 * x1) + x2).toNatClampNeg)).toNatClampNeg) 0 u ha0 h)
      · refine fb_aload_n (pc := 87) dX9_holds_87 3 rfl ?_
        refine fb_bnE h (fun q88 e88 h => fb_gdE h (fun s88 h => ?_))
        refine fb_getR (pc := 88) dX9_holds_88 lkX9_83 ha0.1 ha0.2 (by decide) e88 ?_
        refine fb_iload (pc := 91) dX9_holds_91 7 rfl ?_
        refine fb_gdE h (fun i93 h => ?_)
        refine fb_iald (pc := 93) dX9_holds_93 s88.1 (fb_eta s88.2) i93 ?_
        refine fb_goto (pc := 94) (tgt := 98) dX9_holds_94 (by decide) ?_
        exact fb_sub [3, 7, 1, 0] rfl (tjX9_holds_98 a0 x4 (fb_I u q19 ((6 * x1) + x2).toNatClampNeg) (fb_I u q72 ((8 * x3) + (fb_I u q5 ((6 * x1) + x2).toNatClampNeg)).toNatClampNeg) (fb_I u q88 x4.toNatClampNeg) u ha0 h)
    · exact fb_sub [2, 1, 0] rfl (tjX9_holds_48 a0 ((8 * x3) + (fb_I u q5 ((6 * x1) + x2).toNatClampNeg)) (fb_I u q19 ((6 * x1) + x2).toNatClampNeg) u ha0 h)

theorem dX9_fits_0 : decode cX9_fits 0 = .ok (.aload_n 0, 1) := by decide +kernel
theorem dX9_fits_1 : decode cX9_fits 1 = .ok (.getfield 29, 3) := by decide +kernel
theorem dX9_fits_4 : decode cX9_fits 4 = .ok (.iload_n 1, 1) := by decide +kernel
theorem dX9_fits_5 : decode cX9_fits 5 = .ok (.iaload, 1) := by decide +kernel
theorem dX9_fits_6 : decode cX9_fits 6 = .ok (.ifCond .ne 7, 3) := by decide +kernel
theorem dX9_fits_9 : decode cX9_fits 9 = .ok (.iconst 1, 1) := by decide +kernel
theorem dX9_fits_10 : decode cX9_fits 10 = .ok (.goto 4, 3) := by decide +kernel
theorem dX9_fits_13 : decode cX9_fits 13 = .ok (.iconst 0, 1) := by decide +kernel
theorem dX9_fits_14 : decode cX9_fits 14 = .ok (.istore_n 3, 1) := by decide +kernel
theorem dX9_fits_15 : decode cX9_fits 15 = .ok (.iconst 0, 1) := by decide +kernel
theorem dX9_fits_16 : decode cX9_fits 16 = .ok (.istore 4, 2) := by decide +kernel
theorem dX9_fits_18 : decode cX9_fits 18 = .ok (.iload 4, 2) := by decide +kernel
theorem dX9_fits_20 : decode cX9_fits 20 = .ok (.aload_n 0, 1) := by decide +kernel
theorem dX9_fits_21 : decode cX9_fits 21 = .ok (.getfield 29, 3) := by decide +kernel
theorem dX9_fits_24 : decode cX9_fits 24 = .ok (.iload_n 1, 1) := by decide +kernel
theorem dX9_fits_25 : decode cX9_fits 25 = .ok (.iaload, 1) := by decide +kernel
theorem dX9_fits_26 : decode cX9_fits 26 = .ok (.if_icmp .ge 112, 3) := by decide +kernel
theorem dX9_fits_29 : decode cX9_fits 29 = .ok (.iconst 1, 1) := by decide +kernel
theorem dX9_fits_30 : decode cX9_fits 30 = .ok (.istore 5, 2) := by decide +kernel
theorem dX9_fits_32 : decode cX9_fits 32 = .ok (.iconst 0, 1) := by decide +kernel
theorem dX9_fits_33 : decode cX9_fits 33 = .ok (.istore 6, 2) := by decide +kernel
theorem dX9_fits_35 : decode cX9_fits 35 = .ok (.iconst 0, 1) := by decide +kernel
theorem dX9_fits_36 : decode cX9_fits 36 = .ok (.istore 7, 2) := by decide +kernel
theorem dX9_fits_38 : decode cX9_fits 38 = .ok (.iload 7, 2) := by decide +kernel
theorem dX9_fits_40 : decode cX9_fits 40 = .ok (.aload_n 0, 1) := by decide +kernel
theorem dX9_fits_41 : decode cX9_fits 41 = .ok (.getfield 32, 3) := by decide +kernel
theorem dX9_fits_44 : decode cX9_fits 44 = .ok (.iload_n 1, 1) := by decide +kernel
theorem dX9_fits_45 : decode cX9_fits 45 = .ok (.iaload, 1) := by decide +kernel
theorem dX9_fits_46 : decode cX9_fits 46 = .ok (.if_icmp .ge 71, 3) := by decide +kernel
theorem dX9_fits_49 : decode cX9_fits 49 = .ok (.iload 5, 2) := by decide +kernel
theorem dX9_fits_51 : decode cX9_fits 51 = .ok (.ifCond .eq 37, 3) := by decide +kernel
theorem dX9_fits_54 : decode cX9_fits 54 = .ok (.aload_n 0, 1) := by decide +kernel
theorem dX9_fits_55 : decode cX9_fits 55 = .ok (.getfield 44, 3) := by decide +kernel
theorem dX9_fits_58 : decode cX9_fits 58 = .ok (.bipush 6, 2) := by decide +kernel
theorem dX9_fits_60 : decode cX9_fits 60 = .ok (.iload_n 1, 1) := by decide +kernel
theorem dX9_fits_61 : decode cX9_fits 61 = .ok (.imul, 1) := by decide +kernel
theorem dX9_fits_62 : decode cX9_fits 62 = .ok (.iload 7, 2) := by decide +kernel
theorem dX9_fits_64 : decode cX9_fits 64 = .ok (.iadd, 1) := by decide +kernel
theorem dX9_fits_65 : decode cX9_fits 65 = .ok (.iaload, 1) := by decide +kernel
theorem dX9_fits_66 : decode cX9_fits 66 = .ok (.iload 4, 2) := by decide +kernel
theorem dX9_fits_68 : decode cX9_fits 68 = .ok (.if_icmp .ne 16, 3) := by decide +kernel
theorem dX9_fits_71 : decode cX9_fits 71 = .ok (.aload_n 0, 1) := by decide +kernel
theorem dX9_fits_72 : decode cX9_fits 72 = .ok (.iload_n 1, 1) := by decide +kernel
theorem dX9_fits_73 : decode cX9_fits 73 = .ok (.iload 7, 2) := by decide +kernel
theorem dX9_fits_75 : decode cX9_fits 75 = .ok (.iload_n 2, 1) := by decide +kernel
theorem dX9_fits_76 : decode cX9_fits 76 = .ok (.iload 6, 2) := by decide +kernel
theorem dX9_fits_78 : decode cX9_fits 78 = .ok (.invokevirtual 272, 3) := by decide +kernel
theorem dX9_fits_81 : decode cX9_fits 81 = .ok (.ifCond .eq 7, 3) := by decide +kernel
theorem dX9_fits_84 : decode cX9_fits 84 = .ok (.iconst 1, 1) := by decide +kernel
theorem dX9_fits_85 : decode cX9_fits 85 = .ok (.goto 4, 3) := by decide +kernel
theorem dX9_fits_88 : decode cX9_fits 88 = .ok (.iconst 0, 1) := by decide +kernel
theorem dX9_fits_89 : decode cX9_fits 89 = .ok (.istore 5, 2) := by decide +kernel
theorem dX9_fits_91 : decode cX9_fits 91 = .ok (.iload 6, 2) := by decide +kernel
theorem dX9_fits_93 : decode cX9_fits 93 = .ok (.aload_n 0, 1) := by decide +kernel
theorem dX9_fits_94 : decode cX9_fits 94 = .ok (.getfield 41, 3) := by decide +kernel
theorem dX9_fits_97 : decode cX9_fits 97 = .ok (.bipush 6, 2) := by decide +kernel
theorem dX9_fits_99 : decode cX9_fits 99 = .ok (.iload_n 1, 1) := by decide +kernel
theorem dX9_fits_100 : decode cX9_fits 100 = .ok (.imul, 1) := by decide +kernel
theorem dX9_fits_101 : decode cX9_fits 101 = .ok (.iload 7, 2) := by decide +kernel
theorem dX9_fits_103 : decode cX9_fits 103 = .ok (.iadd, 1) := by decide +kernel
theorem dX9_fits_104 : decode cX9_fits 104 = .ok (.iaload, 1) := by decide +kernel
theorem dX9_fits_105 : decode cX9_fits 105 = .ok (.invokestatic 251, 3) := by decide +kernel
theorem dX9_fits_108 : decode cX9_fits 108 = .ok (.iadd, 1) := by decide +kernel
theorem dX9_fits_109 : decode cX9_fits 109 = .ok (.istore 6, 2) := by decide +kernel
theorem dX9_fits_111 : decode cX9_fits 111 = .ok (.iinc 7 1, 3) := by decide +kernel
theorem dX9_fits_114 : decode cX9_fits 114 = .ok (.goto (-76), 3) := by decide +kernel
theorem dX9_fits_117 : decode cX9_fits 117 = .ok (.iload_n 3, 1) := by decide +kernel
theorem dX9_fits_118 : decode cX9_fits 118 = .ok (.ifCond .ne 8, 3) := by decide +kernel
theorem dX9_fits_121 : decode cX9_fits 121 = .ok (.iload 5, 2) := by decide +kernel
theorem dX9_fits_123 : decode cX9_fits 123 = .ok (.ifCond .eq 7, 3) := by decide +kernel
theorem dX9_fits_126 : decode cX9_fits 126 = .ok (.iconst 1, 1) := by decide +kernel
theorem dX9_fits_127 : decode cX9_fits 127 = .ok (.goto 4, 3) := by decide +kernel
theorem dX9_fits_130 : decode cX9_fits 130 = .ok (.iconst 0, 1) := by decide +kernel
theorem dX9_fits_131 : decode cX9_fits 131 = .ok (.istore_n 3, 1) := by decide +kernel
theorem dX9_fits_132 : decode cX9_fits 132 = .ok (.iinc 4 1, 3) := by decide +kernel
theorem dX9_fits_135 : decode cX9_fits 135 = .ok (.goto (-117), 3) := by decide +kernel
theorem dX9_fits_138 : decode cX9_fits 138 = .ok (.iload_n 3, 1) := by decide +kernel
theorem dX9_fits_139 : decode cX9_fits 139 = .ok (.ireturn, 1) := by decide +kernel
def jX9_fits_89 (K18 : Int32 → Int32 → Option Int32) (K38 : Int32 → Int32 → Int32 → Option Int32) (a0 : Nat) (x1 : Int32) (x2 : Int32) (x3 : Int32) (x4 : Int32) (x6 : Int32) (x7 : Int32) (k0 : Int32) (u : fb_M) : Option Int32 :=
 ((fb_R u a0 13).bind fun q94 => fb_gd (q94 < fb_NT ∧ (fb_sh q94).1 = 100) 
  ((fb_gd (¬ ((6 * x1) + x7 < 0 ∨ (fb_sh q94).2 ≤ ((6 * x1) + x7).toNatClampNeg)) 
  ((fX9_takes u (fb_I u q94 ((6 * x1) + x7).toNatClampNeg)).bind fun r105 => 
  (K38 k0 (x6 + r105) (x7 + 1))))))
set_option maxRecDepth 100000 in
set_option maxHeartbeats 4000000 in
theorem tjX9_fits_89 {g : fb_G} {res : Int32} (a0 : Nat) (x1 : Int32) (x2 : Int32) (x3 : Int32) (x4 : Int32) (x6 : Int32) (x7 : Int32) (k0 : Int32) (u : fb_M) (K18 : Int32 → Int32 → Option Int32) (K38 : Int32 → Int32 → Int32 → Option Int32) (ha0 : a0 < fb_NT ∧ fb_sh a0 = (9, 40)) (hK18 : ∀ (x3 : Int32) (x4 : Int32) ,  K18 x3 x4 = some res → fb_V g RX9 cX9_fits 8 (some .boolean) "fits" (fb_room 1 28 0 0) (fb_Qm g (some (.int res)) fb_NT u 0 0) 0 0 fb_NT u 18 [(0, .ref (fb_b g + a0)), (1, .int x1), (2, .int x2), (3, .int x3), (4, .int x4)] []) (hK38 : ∀ (x5 : Int32) (x6 : Int32) (x7 : Int32) ,  K38 x5 x6 x7 = some res → fb_V g RX9 cX9_fits 8 (some .boolean) "fits" (fb_room 1 28 0 0) (fb_Qm g (some (.int res)) fb_NT u 0 0) 0 0 fb_NT u 38 [(0, .ref (fb_b g + a0)), (1, .int x1), (2, .int x2), (3, .int x3), (4, .int x4), (5, .int x5), (6, .int x6), (7, .int x7)] []) (h : jX9_fits_89 K18 K38 a0 x1 x2 x3 x4 x6 x7 k0 u = some res) : fb_V g RX9 cX9_fits 8 (some .boolean) "fits" (fb_room 1 28 0 0) (fb_Qm g (some (.int res)) fb_NT u 0 0) 0 0 fb_NT u 89 [(0, .ref (fb_b g + a0)), (1, .int x1), (2, .int x2), (3, .int x3), (4, .int x4), (6, .int x6), (7, .int x7)] [.int k0] := by
  unfold jX9_fits_89 at h
  refine fb_istore (pc := 89) (lv' := [(5, .int k0), (0, .ref (fb_b g + a0)), (1, .int x1), (2, .int x2), (3, .int x3), (4, .int x4), (6, .int x6), (7, .int x7)]) dX9_fits_89 (by decide) rfl ?_
  refine fb_iload (pc := 91) dX9_fits_91 6 rfl ?_
  refine fb_aload_n (pc := 93) dX9_fits_93 1 rfl ?_
  refine fb_bnE h (fun q94 e94 h => fb_gdE h (fun s94 h => ?_))
  refine fb_getR (pc := 94) dX9_fits_94 lkX9_41 ha0.1 ha0.2 (by decide) e94 ?_
  refine fb_bipush (pc := 97) (v := 6) dX9_fits_97 fb_kb_6 ?_
  refine fb_iload_n (pc := 99) dX9_fits_99 2 rfl ?_
  refine fb_imul (pc := 100) dX9_fits_100 ?_
  refine fb_iload (pc := 101) dX9_fits_101 7 rfl ?_
  refine fb_iadd (pc := 103) dX9_fits_103 ?_
  refine fb_gdE h (fun i104 h => ?_)
  refine fb_iald (pc := 104) dX9_fits_104 s94.1 (fb_eta s94.2) i104 ?_
  refine fb_bnE h (fun r105 h105 h => ?_)
  refine fb_cS0v (pc := 105) [.int (fb_I u q94 ((6 * x1) + x7).toNatClampNeg)] dX9_fits_105 (mX9_takes g u (fb_I u q94 ((6 * x1) + x7).toNatClampNeg) h105) ymX9_takes ysX9_takes ylX9_251 rfl (Nat.le_of_ble_eq_true rfl) ⟨Nat.le_of_ble_eq_true rfl, Nat.le_of_ble_eq_true rfl⟩ ⟨Nat.le_of_ble_eq_true rfl, Nat.le_of_ble_eq_true rfl⟩ ?_
  refine fb_iadd (pc := 108) dX9_fits_108 ?_
  refine fb_istore (pc := 109) (lv' := [(6, .int (x6 + r105)), (5, .int k0), (0, .ref (fb_b g + a0)), (1, .int x1), (2, .int x2), (3, .int x3), (4, .int x4), (7, .int x7)]) dX9_fits_109 (by decide) rfl ?_
  refine fb_iinc (pc := 111) (v := 1) (lv' := [(7, .int (x7 + 1)), (6, .int (x6 + r105)), (5, .int k0), (0, .ref (fb_b g + a0)), (1, .int x1), (2, .int x2), (3, .int x3), (4, .int x4)]) dX9_fits_111 7 rfl fb_ki_1 (by decide) rfl ?_
  refine fb_goto (pc := 114) (tgt := 38) dX9_fits_114 (by decide) ?_
  exact fb_sub [3, 4, 5, 6, 7, 2, 1, 0] rfl (hK38 k0 (x6 + r105) (x7 + 1) h)

def bX9_fits_38 (K18 : Int32 → Int32 → Option Int32) (K38 : Int32 → Int32 → Int32 → Option Int32) (a0 : Nat) (x1 : Int32) (x2 : Int32) (x3 : Int32) (x4 : Int32) (x5 : Int32) (x6 : Int32) (x7 : Int32) (u : fb_M) : Option Int32 :=
 ((fb_R u a0 10).bind fun q41 => fb_gd (q41 < fb_NT ∧ (fb_sh q41).1 = 100) 
  ((fb_gd (¬ (x1 < 0 ∨ (fb_sh q41).2 ≤ x1.toNatClampNeg)) 
  (if (fb_I u q41 x1.toNatClampNeg) ≤ x7 then (if x3 = 0 then (if x5 = 0 then (K18 0 (x4 + 1))
    else (K18 1 (x4 + 1)))
   else (K18 1 (x4 + 1)))
  else (if x5 = 0 then (jX9_fits_89 K18 K38 a0 x1 x2 x3 x4 x6 x7 0 u)
   else ((fb_R u a0 14).bind fun q55 => fb_gd (q55 < fb_NT ∧ (fb_sh q55).1 = 100) 
    ((fb_gd (¬ ((6 * x1) + x7 < 0 ∨ (fb_sh q55).2 ≤ ((6 * x1) + x7).toNatClampNeg)) 
    (if (fb_I u q55 ((6 * x1) + x7).toNatClampNeg) = x4 then ((fX9_holds u a0 x1 x7 x2 x6).bind fun r78 => 
     (if r78 = 0 then (jX9_fits_89 K18 K38 a0 x1 x2 x3 x4 x6 x7 0 u)
     else (jX9_fits_89 K18 K38 a0 x1 x2 x3 x4 x6 x7 1 u)))
    else (jX9_fits_89 K18 K38 a0 x1 x2 x3 x4 x6 x7 1 u))))))))))
def gX9_fits_38 (K18 : Int32 → Int32 → Option Int32) (a0 : Nat) (x1 : Int32) (x2 : Int32) (x3 : Int32) (x4 : Int32) (u : fb_M) : Nat → Int32 → Int32 → Int32 → Option Int32
 | 0 => fun _ _ _ => none
 | fu + 1 => fun x5 x6 x7 => bX9_fits_38 K18 (gX9_fits_38 K18 a0 x1 x2 x3 x4 u fu) a0 x1 x2 x3 x4 x5 x6 x7 u
set_option maxRecDepth 100000 in
set_option maxHeartbeats 4000000 in
theorem tbX9_fits_38 {g : fb_G} {res : Int32} (a0 : Nat) (x1 : Int32) (x2 : Int32) (x3 : Int32) (x4 : Int32) (x5 : Int32) (x6 : Int32) (x7 : Int32) (u : fb_M) (K18 : Int32 → Int32 → Option Int32) (K38 : Int32 → Int32 → Int32 → Option Int32) (ha0 : a0 < fb_NT ∧ fb_sh a0 = (9, 40)) (hK18 : ∀ (x3 : Int32) (x4 : Int32) ,  K18 x3 x4 = some res → fb_V g RX9 cX9_fits 8 (some .boolean) "fits" (fb_room 1 28 0 0) (fb_Qm g (some (.int res)) fb_NT u 0 0) 0 0 fb_NT u 18 [(0, .ref (fb_b g + a0)), (1, .int x1), (2, .int x2), (3, .int x3), (4, .int x4)] []) (hK38 : ∀ (x5 : Int32) (x6 : Int32) (x7 : Int32) ,  K38 x5 x6 x7 = some res → fb_V g RX9 cX9_fits 8 (some .boolean) "fits" (fb_room 1 28 0 0) (fb_Qm g (some (.int res)) fb_NT u 0 0) 0 0 fb_NT u 38 [(0, .ref (fb_b g + a0)), (1, .int x1), (2, .int x2), (3, .int x3), (4, .int x4), (5, .int x5), (6, .int x6), (7, .int x7)] []) (h : bX9_fits_38 K18 K38 a0 x1 x2 x3 x4 x5 x6 x7 u = some res) : fb_V g RX9 cX9_fits 8 (some .boolean) "fits" (fb_room 1 28 0 0) (fb_Qm g (some (.int res)) fb_NT u 0 0) 0 0 fb_NT u 38 [(0, .ref (fb_b g + a0)), (1, .int x1), (2, .int x2), (3, .int x3), (4, .int x4), (5, .int x5), (6, .int x6), (7, .int x7)] [] := by
  unfold bX9_fits_38 at h
  refine fb_iload (pc := 38) dX9_fits_38 7 rfl ?_
  refine fb_aload_n (pc := 40) dX9_fits_40 0 rfl ?_
  refine fb_bnE h (fun q41 e41 h => fb_gdE h (fun s41 h => ?_))
  refine fb_getR (pc := 41) dX9_fits_41 lkX9_32 ha0.1 ha0.2 (by decide) e41 ?_
  refine fb_iload_n (pc := 44) dX9_fits_44 1 rfl ?_
  refine fb_gdE h (fun i45 h => ?_)
  refine fb_iald (pc := 45) dX9_fits_45 s41.1 (fb_eta s41.2) i45 ?_
  refine fb_icmp_ge (pc := 46) (tgt := 117) h dX9_fits_46 (by decide) (fun h => ?_) (fun h => ?_)
  · refine fb_iload_n (pc := 117) dX9_fits_117 3 rfl ?_
    refine fb_if_ne (pc := 118) (tgt := 126) h dX9_fits_118 (by decide) (fun h => ?_) (fun h => ?_)
    · refine fb_iconst (pc := 126) (v := 1) dX9_fits_126 fb_ki_1 ?_
      refine fb_goto (pc := 127) (tgt := 131) dX9_fits_127 (by decide) ?_
      refine fb_istore_n (pc := 131) (lv' := [(3, .int 1), (0, .ref (fb_b g + a0)), (1, .int x1), (2, .int x2), (4, .int x4), (5, .int x5), (6, .int x6), (7, .int x7)]) dX9_fits_131 rfl (by decide) rfl ?_
      refine fb_iinc (pc := 132) (v := 1) (lv' := [(4, .int (x4 + 1)), (3, .int 1), (0, .ref (fb_b g + a0)), (1, .int x1), (2, .int x2), (5, .int x5), (6, .int x6), (7, .int x7)]) dX9_fits_132 4 rfl fb_ki_1 (by decide) rfl ?_
      refine fb_goto (pc := 135) (tgt := 18) dX9_fits_135 (by decide) ?_
      exact fb_sub [2, 3, 4, 1, 0] rfl (hK18 1 (x4 + 1) h)
    · refine fb_iload (pc := 121) dX9_fits_121 5 rfl ?_
      refine fb_if_eq (pc := 123) (tgt := 130) h dX9_fits_123 (by decide) (fun h => ?_) (fun h => ?_)
      · refine fb_iconst (pc := 130) (v := 0) dX9_fits_130 fb_ki_0 ?_
        refine fb_istore_n (pc := 131) (lv' := [(3, .int 0), (0, .ref (fb_b g + a0)), (1, .int x1), (2, .int x2), (4, .int x4), (5, .int x5), (6, .int x6), (7, .int x7)]) dX9_fits_131 rfl (by decide) rfl ?_
        refine fb_iinc (pc := 132) (v := 1) (lv' := [(4, .int (x4 + 1)), (3, .int 0), (0, .ref (fb_b g + a0)), (1, .int x1), (2, .int x2), (5, .int x5), (6, .int x6), (7, .int x7)]) dX9_fits_132 4 rfl fb_ki_1 (by decide) rfl ?_
        refine fb_goto (pc := 135) (tgt := 18) dX9_fits_135 (by decide) ?_
        exact fb_sub [2, 3, 4, 1, 0] rfl (hK18 0 (x4 + 1) h)
      · refine fb_iconst (pc := 126) (v := 1) dX9_fits_126 fb_ki_1 ?_
        refine fb_goto (pc := 127) (tgt := 131) dX9_fits_127 (by decide) ?_
        refine fb_istore_n (pc := 131) (lv' := [(3, .int 1), (0, .ref (fb_b g + a0)), (1, .int x1), (2, .int x2), (4, .int x4), (5, .int x5), (6, .int x6), (7, .int x7)]) dX9_fits_131 rfl (by decide) rfl ?_
        refine fb_iinc (pc := 132) (v := 1) (lv' := [(4, .int (x4 + 1)), (3, .int 1), (0, .ref (fb_b g + a0)), (1, .int x1), (2, .int x2), (5, .int x5), (6, .int x6), (7, .int x7)]) dX9_fits_132 4 rfl fb_ki_1 (by decide) rfl ?_
        refine fb_goto (pc := 135) (tgt := 18) dX9_fits_135 (by decide) ?_
        exact fb_sub [2, 3, 4, 1, 0] rfl (hK18 1 (x4 + 1) h)
  · refine fb_iload (pc := 49) dX9_fits_49 5 rfl ?_
    refine fb_if_eq (pc := 51) (tgt := 88) h dX9_fits_51 (by decide) (fun h => ?_) (fun h => ?_)
    · refine fb_iconst (pc := 88) (v := 0) dX9_fits_88 fb_ki_0 ?_
      exact fb_sub [0, 1, 2, 3, 4, 6, 7] rfl (tjX9_fits_89 a0 x1 x2 x3 x4 x6 x7 0 u K18 K38 ha0 hK18 hK38 h)
    · refine fb_aload_n (pc := 54) dX9_fits_54 0 rfl ?_
      refine fb_bnE h (fun q55 e55 h => fb_gdE h (fun s55 h => ?_))
      refine fb_getR (pc := 55) dX9_fits_55 lkX9_44 ha0.1 ha0.2 (by decide) e55 ?_
      refine fb_bipush (pc := 58) (v := 6) dX9_fits_58 fb_kb_6 ?_
      refine fb_iload_n (pc := 60) dX9_fits_60 1 rfl ?_
      refine fb_imul (pc := 61) dX9_fits_61 ?_
      refine fb_iload (pc := 62) dX9_fits_62 7 rfl ?_
      refine fb_iadd (pc := 64) dX9_fits_64 ?_
      refine fb_gdE h (fun i65 h => ?_)
      refine fb_iald (pc := 65) dX9_fits_65 s55.1 (fb_eta s55.2) i65 ?_
      refine fb_iload (pc := 66) dX9_fits_66 4 rfl ?_
      refine fb_icmp_ne (pc := 68) (tgt := 84) h dX9_fits_68 (by decide) (fun h => ?_) (fun h => ?_)
      · refine fb_iconst (pc := 84) (v := 1) dX9_fits_84 fb_ki_1 ?_
        refine fb_goto (pc := 85) (tgt := 89) dX9_fits_85 (by decide) ?_
        exact fb_sub [0, 1, 2, 3, 4, 6, 7] rfl (tjX9_fits_89 a0 x1 x2 x3 x4 x6 x7 1 u K18 K38 ha0 hK18 hK38 h)
      · refine fb_aload_n (pc := 71) dX9_fits_71 0 rfl ?_
        refine fb_iload_n (pc := 72) dX9_fits_72 1 rfl ?_
        refine fb_iload (pc := 73) dX9_fits_73 7 rfl ?_
        refine fb_iload_n (pc := 75) dX9_fits_75 2 rfl ?_
        refine fb_iload (pc := 76) dX9_fits_76 6 rfl ?_
        refine fb_bnE h (fun r78 h78 h => ?_)
        refine fb_cV0v (pc := 78) [.int x1, .int x7, .int x2, .int x6] dX9_fits_78 (mX9_holds g u a0 x1 x7 x2 x6 ha0 h78) ymX9_holds yiX9_holds ha0.1 ha0.2 ylX9_272 rfl (Nat.le_of_ble_eq_true rfl) ⟨Nat.le_of_ble_eq_true rfl, Nat.le_of_ble_eq_true rfl⟩ ⟨Nat.le_of_ble_eq_true rfl, Nat.le_of_ble_eq_true rfl⟩ ?_
        refine fb_if_eq (pc := 81) (tgt := 88) h dX9_fits_81 (by decide) (fun h => ?_) (fun h => ?_)
        · refine fb_iconst (pc := 88) (v := 0) dX9_fits_88 fb_ki_0 ?_
          exact fb_sub [0, 1, 2, 3, 4, 6, 7] rfl (tjX9_fits_89 a0 x1 x2 x3 x4 x6 x7 0 u K18 K38 ha0 hK18 hK38 h)
        · refine fb_iconst (pc := 84) (v := 1) dX9_fits_84 fb_ki_1 ?_
          refine fb_goto (pc := 85) (tgt := 89) dX9_fits_85 (by decide) ?_
          exact fb_sub [0, 1, 2, 3, 4, 6, 7] rfl (tjX9_fits_89 a0 x1 x2 x3 x4 x6 x7 1 u K18 K38 ha0 hK18 hK38 h)

theorem tgX9_fits_38 {g : fb_G} {res : Int32} (a0 : Nat) (x1 : Int32) (x2 : Int32) (x3 : Int32) (x4 : Int32) (u : fb_M) (K18 : Int32 → Int32 → Option Int32) (ha0 : a0 < fb_NT ∧ fb_sh a0 = (9, 40)) (hK18 : ∀ (x3 : Int32) (x4 : Int32) ,  K18 x3 x4 = some res → fb_V g RX9 cX9_fits 8 (some .boolean) "fits" (fb_room 1 28 0 0) (fb_Qm g (some (.int res)) fb_NT u 0 0) 0 0 fb_NT u 18 [(0, .ref (fb_b g + a0)), (1, .int x1), (2, .int x2), (3, .int x3), (4, .int x4)] []) : ∀ (fu : Nat) (x5 : Int32) (x6 : Int32) (x7 : Int32) ,  gX9_fits_38 K18 a0 x1 x2 x3 x4 u fu x5 x6 x7 = some res → fb_V g RX9 cX9_fits 8 (some .boolean) "fits" (fb_room 1 28 0 0) (fb_Qm g (some (.int res)) fb_NT u 0 0) 0 0 fb_NT u 38 [(0, .ref (fb_b g + a0)), (1, .int x1), (2, .int x2), (3, .int x3), (4, .int x4), (5, .int x5), (6, .int x6), (7, .int x7)] [] := by
  intro fu
  induction fu with
  | zero => intro x5 x6 x7 h; exact absurd h (by simp [gX9_fits_38])
  | succ fu ih => intro x5 x6 x7 h; exact tbX9_fits_38 a0 x1 x2 x3 x4 x5 x6 x7 u K18 (gX9_fits_38 K18 a0 x1 x2 x3 x4 u fu) ha0 hK18 ih h
def bX9_fits_18 (K18 : Int32 → Int32 → Option Int32) (a0 : Nat) (x1 : Int32) (x2 : Int32) (x3 : Int32) (x4 : Int32) (u : fb_M) : Option Int32 :=
 ((fb_R u a0 9).bind fun q21 => fb_gd (q21 < fb_NT ∧ (fb_sh q21).1 = 100) 
  ((fb_gd (¬ (x1 < 0 ∨ (fb_sh q21).2 ≤ x1.toNatClampNeg)) 
  (if (fb_I u q21 x1.toNatClampNeg) ≤ x4 then (fb_gd (x3 = 0 ∨ x3 = 1) 
   (some x3))
  else (gX9_fits_38 K18 a0 x1 x2 x3 x4 u fb_F 1 0 0)))))
def gX9_fits_18 (a0 : Nat) (x1 : Int32) (x2 : Int32) (u : fb_M) : Nat → Int32 → Int32 → Option Int32
 | 0 => fun _ _ => none
 | fu + 1 => fun x3 x4 => bX9_fits_18 (gX9_fits_18 a0 x1 x2 u fu) a0 x1 x2 x3 x4 u
set_option maxRecDepth 100000 in
set_option maxHeartbeats 4000000 in
theorem tbX9_fits_18 {g : fb_G} {res : Int32} (a0 : Nat) (x1 : Int32) (x2 : Int32) (x3 : Int32) (x4 : Int32) (u : fb_M) (K18 : Int32 → Int32 → Option Int32) (ha0 : a0 < fb_NT ∧ fb_sh a0 = (9, 40)) (hK18 : ∀ (x3 : Int32) (x4 : Int32) ,  K18 x3 x4 = some res → fb_V g RX9 cX9_fits 8 (some .boolean) "fits" (fb_room 1 28 0 0) (fb_Qm g (some (.int res)) fb_NT u 0 0) 0 0 fb_NT u 18 [(0, .ref (fb_b g + a0)), (1, .int x1), (2, .int x2), (3, .int x3), (4, .int x4)] []) (h : bX9_fits_18 K18 a0 x1 x2 x3 x4 u = some res) : fb_V g RX9 cX9_fits 8 (some .boolean) "fits" (fb_room 1 28 0 0) (fb_Qm g (some (.int res)) fb_NT u 0 0) 0 0 fb_NT u 18 [(0, .ref (fb_b g + a0)), (1, .int x1), (2, .int x2), (3, .int x3), (4, .int x4)] [] := by
  unfold bX9_fits_18 at h
  refine fb_iload (pc := 18) dX9_fits_18 4 rfl ?_
  refine fb_aload_n (pc := 20) dX9_fits_20 0 rfl ?_
  refine fb_bnE h (fun q21 e21 h => fb_gdE h (fun s21 h => ?_))
  refine fb_getR (pc := 21) dX9_fits_21 lkX9_29 ha0.1 ha0.2 (by decide) e21 ?_
  refine fb_iload_n (pc := 24) dX9_fits_24 1 rfl ?_
  refine fb_gdE h (fun i25 h => ?_)
  refine fb_iald (pc := 25) dX9_fits_25 s21.1 (fb_eta s21.2) i25 ?_
  refine fb_icmp_ge (pc := 26) (tgt := 138) h dX9_fits_26 (by decide) (fun h => ?_) (fun h => ?_)
  · refine fb_iload_n (pc := 138) dX9_fits_138 3 rfl ?_
    refine fb_gdE h (fun z139 h => ?_)
    exact fb_zretR (pc := 139) (fb_nz z139) h dX9_fits_139
  · refine fb_iconst (pc := 29) (v := 1) dX9_fits_29 fb_ki_1 ?_
    refine fb_istore (pc := 30) (lv' := [(5, .int 1), (0, .ref (fb_b g + a0)), (1, .int x1), (2, .int x2), (3, .int x3), (4, .int x4)]) dX9_fits_30 (by decide) rfl ?_
    refine fb_iconst (pc := 32) (v := 0) dX9_fits_32 fb_ki_0 ?_
    refine fb_istore (pc := 33) (lv' := [(6, .int 0), (5, .int 1), (0, .ref (fb_b g + a0)), (1, .int x1), (2, .int x2), (3, .int x3), (4, .int x4)]) dX9_fits_33 (by decide) rfl ?_
    refine fb_iconst (pc := 35) (v := 0) dX9_fits_35 fb_ki_0 ?_
    refine fb_istore (pc := 36) (lv' := [(7, .int 0), (6, .int 0), (5, .int 1), (0, .ref (fb_b g + a0)), (1, .int x1), (2, .int x2), (3, .int x3), (4, .int x4)]) dX9_fits_36 (by decide) rfl ?_
    exact fb_sub [3, 4, 5, 6, 7, 2, 1, 0] rfl (tgX9_fits_38 a0 x1 x2 x3 x4 u K18 ha0 hK18 fb_F 1 0 0 h)

theorem tgX9_fits_18 {g : fb_G} {res : Int32} (a0 : Nat) (x1 : Int32) (x2 : Int32) (u : fb_M) (ha0 : a0 < fb_NT ∧ fb_sh a0 = (9, 40)) : ∀ (fu : Nat) (x3 : Int32) (x4 : Int32) ,  gX9_fits_18 a0 x1 x2 u fu x3 x4 = some res → fb_V g RX9 cX9_fits 8 (some .boolean) "fits" (fb_room 1 28 0 0) (fb_Qm g (some (.int res)) fb_NT u 0 0) 0 0 fb_NT u 18 [(0, .ref (fb_b g + a0)), (1, .int x1), (2, .int x2), (3, .int x3), (4, .int x4)] [] := by
  intro fu
  induction fu with
  | zero => intro x3 x4 h; exact absurd h (by simp [gX9_fits_18])
  | succ fu ih => intro x3 x4 h; exact tbX9_fits_18 a0 x1 x2 x3 x4 u (gX9_fits_18 a0 x1 x2 u fu) ha0 ih h
def fX9_fits (u : fb_M) (a0 : Nat) (x1 : Int32) (x2 : Int32) : Option Int32 :=
 ((fb_R u a0 9).bind fun q1 => fb_gd (q1 < fb_NT ∧ (fb_sh q1).1 = 100) 
  ((fb_gd (¬ (x1 < 0 ∨ (fb_sh q1).2 ≤ x1.toNatClampNeg)) 
  (if (fb_I u q1 x1.toNatClampNeg) = 0 then (gX9_fits_18 a0 x1 x2 u fb_F 1 0)
  else (gX9_fits_18 a0 x1 x2 u fb_F 0 0)))))
set_option maxRecDepth 100000 in
set_option maxHeartbeats 4000000 in
theorem mX9_fits (g : fb_G) (u : fb_M) (a0 : Nat) (x1 : Int32) (x2 : Int32) (ha0 : a0 < fb_NT ∧ fb_sh a0 = (9, 40)) {res : Int32} (h : fX9_fits u a0 x1 x2 = some res) : fb_Runs g 1 28 0 0 fb_NT fb_NT yX9_fits cX9_fits 8 (some .boolean) [.ref (fb_b g + a0), .int x1, .int x2] u (some (.int res)) u := by
  unfold fX9_fits at h
  refine fb_enter (by decide) (Nat.le_of_ble_eq_true rfl) ?_
  show fb_V g RX9 cX9_fits 8 (some .boolean) "fits" (fb_room 1 28 0 0) (fb_Qm g (some (.int res)) fb_NT u 0 0) 0 0 fb_NT u 0 [(0, .ref (fb_b g + a0)), (1, .int x1), (2, .int x2)] []
  refine fb_aload_n (pc := 0) dX9_fits_0 0 rfl ?_
  refine fb_bnE h (fun q1 e1 h => fb_gdE h (fun s1 h => ?_))
  refine fb_getR (pc := 1) dX9_fits_1 lkX9_29 ha0.1 ha0.2 (by decide) e1 ?_
  refine fb_iload_n (pc := 4) dX9_fits_4 1 rfl ?_
  refine fb_gdE h (fun i5 h => ?_)
  refine fb_iald (pc := 5) dX9_fits_5 s1.1 (fb_eta s1.2) i5 ?_
  refine fb_if_ne (pc := 6) (tgt := 13) h dX9_fits_6 (by decide) (fun h => ?_) (fun h => ?_)
  · refine fb_iconst (pc := 13) (v := 0) dX9_fits_13 fb_ki_0 ?_
    refine fb_istore_n (pc := 14) (lv' := [(3, .int 0), (0, .ref (fb_b g + a0)), (1, .int x1), (2, .int x2)]) dX9_fits_14 rfl (by decide) rfl ?_
    refine fb_iconst (pc := 15) (v := 0) dX9_fits_15 fb_ki_0 ?_
    refine fb_istore (pc := 16) (lv' := [(4, .int 0), (3, .int 0), (0, .ref (fb_b g + a0)), (1, .int x1), (2, .int x2)]) dX9_fits_16 (by decide) rfl ?_
    exact fb_sub [2, 3, 4, 1, 0] rfl (tgX9_fits_18 a0 x1 x2 u ha0 fb_F 0 0 h)
  · refine fb_iconst (pc := 9) (v := 1) dX9_fits_9 fb_ki_1 ?_
    refine fb_goto (pc := 10) (tgt := 14) dX9_fits_10 (by decide) ?_
    refine fb_istore_n (pc := 14) (lv' := [(3, .int 1), (0, .ref (fb_b g + a0)), (1, .int x1), (2, .int x2)]) dX9_fits_14 rfl (by decide) rfl ?_
    refine fb_iconst (pc := 15) (v := 0) dX9_fits_15 fb_ki_0 ?_
    refine fb_istore (pc := 16) (lv' := [(4, .int 0), (3, .int 1), (0, .ref (fb_b g + a0)), (1, .int x1), (2, .int x2)]) dX9_fits_16 (by decide) rfl ?_
    exact fb_sub [2, 3, 4, 1, 0] rfl (tgX9_fits_18 a0 x1 x2 u ha0 fb_F 1 0 h)

theorem dX8_isCapital_0 : decode cX8_isCapital 0 = .ok (.iload_n 0, 1) := by decide +kernel
theorem dX8_isCapital_1 : decode cX8_isCapital 1 = .ok (.bipush 65, 2) := by decide +kernel
theorem dX8_isCapital_3 : decode cX8_isCapital 3 = .ok (.if_icmp .lt 13, 3) := by decide +kernel
theorem dX8_isCapital_6 : decode cX8_isCapital 6 = .ok (.iload_n 0, 1) := by decide +kernel
theorem dX8_isCapital_7 : decode cX8_isCapital 7 = .ok (.bipush 90, 2) := by decide +kernel
theorem dX8_isCapital_9 : decode cX8_isCapital 9 = .ok (.if_icmp .gt 7, 3) := by decide +kernel
theorem dX8_isCapital_12 : decode cX8_isCapital 12 = .ok (.iconst 1, 1) := by decide +kernel
theorem dX8_isCapital_13 : decode cX8_isCapital 13 = .ok (.goto 4, 3) := by decide +kernel
theorem dX8_isCapital_16 : decode cX8_isCapital 16 = .ok (.iconst 0, 1) := by decide +kernel
theorem dX8_isCapital_17 : decode cX8_isCapital 17 = .ok (.ireturn, 1) := by decide +kernel
def fX8_isCapital (u : fb_M) (x0 : Int32) : Option Int32 :=
 (if x0 < 65 then (some 0)
  else (if 90 < x0 then (some 0)
   else (some 1)))
set_option maxRecDepth 100000 in
set_option maxHeartbeats 4000000 in
theorem mX8_isCapital (g : fb_G) (u : fb_M) (x0 : Int32) {res : Int32} (h : fX8_isCapital u x0 = some res) : fb_Runs g 0 0 0 0 fb_NT fb_NT yX8_isCapital cX8_isCapital 1 (some .boolean) [.int x0] u (some (.int res)) u := by
  unfold fX8_isCapital at h
  refine fb_enter (by decide) (Nat.le_of_ble_eq_true rfl) ?_
  show fb_V g RX8 cX8_isCapital 1 (some .boolean) "isCapital" (fb_room 0 0 0 0) (fb_Qm g (some (.int res)) fb_NT u 0 0) 0 0 fb_NT u 0 [(0, .int x0)] []
  refine fb_iload_n (pc := 0) dX8_isCapital_0 0 rfl ?_
  refine fb_bipush (pc := 1) (v := 65) dX8_isCapital_1 fb_kb_65 ?_
  refine fb_icmp_lt (pc := 3) (tgt := 16) h dX8_isCapital_3 (by decide) (fun h => ?_) (fun h => ?_)
  · refine fb_iconst (pc := 16) (v := 0) dX8_isCapital_16 fb_ki_0 ?_
    exact fb_zretR (pc := 17) rfl h dX8_isCapital_17
  · refine fb_iload_n (pc := 6) dX8_isCapital_6 0 rfl ?_
    refine fb_bipush (pc := 7) (v := 90) dX8_isCapital_7 fb_kb_90 ?_
    refine fb_icmp_gt (pc := 9) (tgt := 16) h dX8_isCapital_9 (by decide) (fun h => ?_) (fun h => ?_)
    · refine fb_iconst (pc := 16) (v := 0) dX8_isCapital_16 fb_ki_0 ?_
      exact fb_zretR (pc := 17) rfl h dX8_isCapital_17
    · refine fb_iconst (pc := 12) (v := 1) dX8_isCapital_12 fb_ki_1 ?_
      refine fb_goto (pc := 13) (tgt := 17) dX8_isCapital_13 (by decide) ?_
      exact fb_zretR (pc := 17) rfl h dX8_isCapital_17

theorem dX8_isSmall_0 : decode cX8_isSmall 0 = .ok (.iload_n 0, 1) := by decide +kernel
theorem dX8_isSmall_1 : decode cX8_isSmall 1 = .ok (.bipush 97, 2) := by decide +kernel
theorem dX8_isSmall_3 : decode cX8_isSmall 3 = .ok (.if_icmp .lt 13, 3) := by decide +kernel
theorem dX8_isSmall_6 : decode cX8_isSmall 6 = .ok (.iload_n 0, 1) := by decide +kernel
theorem dX8_isSmall_7 : decode cX8_isSmall 7 = .ok (.bipush 122, 2) := by decide +kernel
theorem dX8_isSmall_9 : decode cX8_isSmall 9 = .ok (.if_icmp .gt 7, 3) := by decide +kernel
theorem dX8_isSmall_12 : decode cX8_isSmall 12 = .ok (.iconst 1, 1) := by decide +kernel
theorem dX8_isSmall_13 : decode cX8_isSmall 13 = .ok (.goto 4, 3) := by decide +kernel
theorem dX8_isSmall_16 : decode cX8_isSmall 16 = .ok (.iconst 0, 1) := by decide +kernel
theorem dX8_isSmall_17 : decode cX8_isSmall 17 = .ok (.ireturn, 1) := by decide +kernel
def fX8_isSmall (u : fb_M) (x0 : Int32) : Option Int32 :=
 (if x0 < 97 then (some 0)
  else (if 122 < x0 then (some 0)
   else (some 1)))
set_option maxRecDepth 100000 in
set_option maxHeartbeats 4000000 in
theorem mX8_isSmall (g : fb_G) (u : fb_M) (x0 : Int32) {res : Int32} (h : fX8_isSmall u x0 = some res) : fb_Runs g 0 0 0 0 fb_NT fb_NT yX8_isSmall cX8_isSmall 1 (some .boolean) [.int x0] u (some (.int res)) u := by
  unfold fX8_isSmall at h
  refine fb_enter (by decide) (Nat.le_of_ble_eq_true rfl) ?_
  show fb_V g RX8 cX8_isSmall 1 (some .boolean) "isSmall" (fb_room 0 0 0 0) (fb_Qm g (some (.int res)) fb_NT u 0 0) 0 0 fb_NT u 0 [(0, .int x0)] []
  refine fb_iload_n (pc := 0) dX8_isSmall_0 0 rfl ?_
  refine fb_bipush (pc := 1) (v := 97) dX8_isSmall_1 fb_kb_97 ?_
  refine fb_icmp_lt (pc := 3) (tgt := 16) h dX8_isSmall_3 (by decide) (fun h => ?_) (fun h => ?_)
  · refine fb_iconst (pc := 16) (v := 0) dX8_isSmall_16 fb_ki_0 ?_
    exact fb_zretR (pc := 17) rfl h dX8_isSmall_17
  · refine fb_iload_n (pc := 6) dX8_isSmall_6 0 rfl ?_
    refine fb_bipush (pc := 7) (v := 122) dX8_isSmall_7 fb_kb_122 ?_
    refine fb_icmp_gt (pc := 9) (tgt := 16) h dX8_isSmall_9 (by decide) (fun h => ?_) (fun h => ?_)
    · refine fb_iconst (pc := 16) (v := 0) dX8_isSmall_16 fb_ki_0 ?_
      exact fb_zretR (pc := 17) rfl h dX8_isSmall_17
    · refine fb_iconst (pc := 12) (v := 1) dX8_isSmall_12 fb_ki_1 ?_
      refine fb_goto (pc := 13) (tgt := 17) dX8_isSmall_13 (by decide) ?_
      exact fb_zretR (pc := 17) rfl h dX8_isSmall_17

theorem dX8_isFigure_0 : decode cX8_isFigure 0 = .ok (.iload_n 0, 1) := by decide +kernel
theorem dX8_isFigure_1 : decode cX8_isFigure 1 = .ok (.bipush 48, 2) := by decide +kernel
theorem dX8_isFigure_3 : decode cX8_isFigure 3 = .ok (.if_icmp .lt 13, 3) := by decide +kernel
theorem dX8_isFigure_6 : decode cX8_isFigure 6 = .ok (.iload_n 0, 1) := by decide +kernel
theorem dX8_isFigure_7 : decode cX8_isFigure 7 = .ok (.bipush 57, 2) := by decide +kernel
theorem dX8_isFigure_9 : decode cX8_isFigure 9 = .ok (.if_icmp .gt 7, 3) := by decide +kernel
theorem dX8_isFigure_12 : decode cX8_isFigure 12 = .ok (.iconst 1, 1) := by decide +kernel
theorem dX8_isFigure_13 : decode cX8_isFigure 13 = .ok (.goto 4, 3) := by decide +kernel
theorem dX8_isFigure_16 : decode cX8_isFigure 16 = .ok (.iconst 0, 1) := by decide +kernel
theorem dX8_isFigure_17 : decode cX8_isFigure 17 = .ok (.ireturn, 1) := by decide +kernel
def fX8_isFigure (u : fb_M) (x0 : Int32) : Option Int32 :=
 (if x0 < 48 then (some 0)
  else (if 57 < x0 then (some 0)
   else (some 1)))
set_option maxRecDepth 100000 in
set_option maxHeartbeats 4000000 in
theorem mX8_isFigure (g : fb_G) (u : fb_M) (x0 : Int32) {res : Int32} (h : fX8_isFigure u x0 = some res) : fb_Runs g 0 0 0 0 fb_NT fb_NT yX8_isFigure cX8_isFigure 1 (some .boolean) [.int x0] u (some (.int res)) u := by
  unfold fX8_isFigure at h
  refine fb_enter (by decide) (Nat.le_of_ble_eq_true rfl) ?_
  show fb_V g RX8 cX8_isFigure 1 (some .boolean) "isFigure" (fb_room 0 0 0 0) (fb_Qm g (some (.int res)) fb_NT u 0 0) 0 0 fb_NT u 0 [(0, .int x0)] []
  refine fb_iload_n (pc := 0) dX8_isFigure_0 0 rfl ?_
  refine fb_bipush (pc := 1) (v := 48) dX8_isFigure_1 fb_kb_48 ?_
  refine fb_icmp_lt (pc := 3) (tgt := 16) h dX8_isFigure_3 (by decide) (fun h => ?_) (fun h => ?_)
  · refine fb_iconst (pc := 16) (v := 0) dX8_isFigure_16 fb_ki_0 ?_
    exact fb_zretR (pc := 17) rfl h dX8_isFigure_17
  · refine fb_iload_n (pc := 6) dX8_isFigure_6 0 rfl ?_
    refine fb_bipush (pc := 7) (v := 57) dX8_isFigure_7 fb_kb_57 ?_
    refine fb_icmp_gt (pc := 9) (tgt := 16) h dX8_isFigure_9 (by decide) (fun h => ?_) (fun h => ?_)
    · refine fb_iconst (pc := 16) (v := 0) dX8_isFigure_16 fb_ki_0 ?_
      exact fb_zretR (pc := 17) rfl h dX8_isFigure_17
    · refine fb_iconst (pc := 12) (v := 1) dX8_isFigure_12 fb_ki_1 ?_
      refine fb_goto (pc := 13) (tgt := 17) dX8_isFigure_13 (by decide) ?_
      exact fb_zretR (pc := 17) rfl h dX8_isFigure_17

theorem dX8_isLetterOrFigure_0 : decode cX8_isLetterOrFigure 0 = .ok (.iload_n 0, 1) := by decide +kernel
theorem dX8_isLetterOrFigure_1 : decode cX8_isLetterOrFigure 1 = .ok (.invokestatic 185, 3) := by decide +kernel
theorem dX8_isLetterOrFigure_4 : decode cX8_isLetterOrFigure 4 = .ok (.ifCond .ne 17, 3) := by decide +kernel
theorem dX8_isLetterOrFigure_7 : decode cX8_isLetterOrFigure 7 = .ok (.iload_n 0, 1) := by decide +kernel
theorem dX8_isLetterOrFigure_8 : decode cX8_isLetterOrFigure 8 = .ok (.invokestatic 188, 3) := by decide +kernel
theorem dX8_isLetterOrFigure_11 : decode cX8_isLetterOrFigure 11 = .ok (.ifCond .ne 10, 3) := by decide +kernel
theorem dX8_isLetterOrFigure_14 : decode cX8_isLetterOrFigure 14 = .ok (.iload_n 0, 1) := by decide +kernel
theorem dX8_isLetterOrFigure_15 : decode cX8_isLetterOrFigure 15 = .ok (.invokestatic 191, 3) := by decide +kernel
theorem dX8_isLetterOrFigure_18 : decode cX8_isLetterOrFigure 18 = .ok (.ifCond .eq 7, 3) := by decide +kernel
theorem dX8_isLetterOrFigure_21 : decode cX8_isLetterOrFigure 21 = .ok (.iconst 1, 1) := by decide +kernel
theorem dX8_isLetterOrFigure_22 : decode cX8_isLetterOrFigure 22 = .ok (.goto 4, 3) := by decide +kernel
theorem dX8_isLetterOrFigure_25 : decode cX8_isLetterOrFigure 25 = .ok (.iconst 0, 1) := by decide +kernel
theorem dX8_isLetterOrFigure_26 : decode cX8_isLetterOrFigure 26 = .ok (.ireturn, 1) := by decide +kernel
def fX8_isLetterOrFigure (u : fb_M) (x0 : Int32) : Option Int32 :=
 ((fX8_isCapital u x0).bind fun r1 => 
  (if r1 = 0 then ((fX8_isSmall u x0).bind fun r8 => 
   (if r8 = 0 then ((fX8_isFigure u x0).bind fun r15 => 
    (if r15 = 0 then (some 0)
    else (some 1)))
   else (some 1)))
  else (some 1)))
set_option maxRecDepth 100000 in
set_option maxHeartbeats 4000000 in
theorem mX8_isLetterOrFigure (g : fb_G) (u : fb_M) (x0 : Int32) {res : Int32} (h : fX8_isLetterOrFigure u x0 = some res) : fb_Runs g 1 20 0 0 fb_NT fb_NT yX8_isLetterOrFigure cX8_isLetterOrFigure 1 (some .boolean) [.int x0] u (some (.int res)) u := by
  unfold fX8_isLetterOrFigure at h
  refine fb_enter (by decide) (Nat.le_of_ble_eq_true rfl) ?_
  show fb_V g RX8 cX8_isLetterOrFigure 1 (some .boolean) "isLetterOrFigure" (fb_room 1 20 0 0) (fb_Qm g (some (.int res)) fb_NT u 0 0) 0 0 fb_NT u 0 [(0, .int x0)] []
  refine fb_iload_n (pc := 0) dX8_isLetterOrFigure_0 0 rfl ?_
  refine fb_bnE h (fun r1 h1 h => ?_)
  refine fb_cS0v (pc := 1) [.int x0] dX8_isLetterOrFigure_1 (mX8_isCapital g u x0 h1) ymX8_isCapital ysX8_isCapital ylX8_185 rfl (Nat.le_of_ble_eq_true rfl) ⟨Nat.le_of_ble_eq_true rfl, Nat.le_of_ble_eq_true rfl⟩ ⟨Nat.le_of_ble_eq_true rfl, Nat.le_of_ble_eq_true rfl⟩ ?_
  refine fb_if_ne (pc := 4) (tgt := 21) h dX8_isLetterOrFigure_4 (by decide) (fun h => ?_) (fun h => ?_)
  · refine fb_iconst (pc := 21) (v := 1) dX8_isLetterOrFigure_21 fb_ki_1 ?_
    refine fb_goto (pc := 22) (tgt := 26) dX8_isLetterOrFigure_22 (by decide) ?_
    exact fb_zretR (pc := 26) rfl h dX8_isLetterOrFigure_26
  · refine fb_iload_n (pc := 7) dX8_isLetterOrFigure_7 0 rfl ?_
    refine fb_bnE h (fun r8 h8 h => ?_)
    refine fb_cS0v (pc := 8) [.int x0] dX8_isLetterOrFigure_8 (mX8_isSmall g u x0 h8) ymX8_isSmall ysX8_isSmall ylX8_188 rfl (Nat.le_of_ble_eq_true rfl) ⟨Nat.le_of_ble_eq_true rfl, Nat.le_of_ble_eq_true rfl⟩ ⟨Nat.le_of_ble_eq_true rfl, Nat.le_of_ble_eq_true rfl⟩ ?_
    refine fb_if_ne (pc := 11) (tgt := 21) h dX8_isLetterOrFigure_11 (by decide) (fun h => ?_) (fun h => ?_)
    · refine fb_iconst (pc := 21) (v := 1) dX8_isLetterOrFigure_21 fb_ki_1 ?_
      refine fb_goto (pc := 22) (tgt := 26) dX8_isLetterOrFigure_22 (by decide) ?_
      exact fb_zretR (pc := 26) rfl h dX8_isLetterOrFigure_26
    · refine fb_iload_n (pc := 14) dX8_isLetterOrFigure_14 0 rfl ?_
      refine fb_bnE h (fun r15 h15 h => ?_)
      refine fb_cS0v (pc := 15) [.int x0] dX8_isLetterOrFigure_15 (mX8_isFigure g u x0 h15) ymX8_isFigure ysX8_isFigure ylX8_191 rfl (Nat.le_of_ble_eq_true rfl) ⟨Nat.le_of_ble_eq_true rfl, Nat.le_of_ble_eq_true rfl⟩ ⟨Nat.le_of_ble_eq_true rfl, Nat.le_of_ble_eq_true rfl⟩ ?_
      refine fb_if_eq (pc := 18) (tgt := 25) h dX8_isLetterOrFigure_18 (by decide) (fun h => ?_) (fun h => ?_)
      · refine fb_iconst (pc := 25) (v := 0) dX8_isLetterOrFigure_25 fb_ki_0 ?_
        exact fb_zretR (pc := 26) rfl h dX8_isLetterOrFigure_26
      · refine fb_iconst (pc := 21) (v := 1) dX8_isLetterOrFigure_21 fb_ki_1 ?_
        refine fb_goto (pc := 22) (tgt := 26) dX8_isLetterOrFigure_22 (by decide) ?_
        exact fb_zretR (pc := 26) rfl h dX8_isLetterOrFigure_26

theorem dX0_append_0 : decode cX0_append 0 = .ok (.iload_n 1, 1) := by decide +kernel
theorem dX0_append_1 : decode cX0_append 1 = .ok (.invokestatic 13, 3) := by decide +kernel
theorem dX0_append_4 : decode cX0_append 4 = .ok (.ifCond .ne 15, 3) := by decide +kernel
theorem dX0_append_7 : decode cX0_append 7 = .ok (.iload_n 1, 1) := by decide +kernel
theorem dX0_append_8 : decode cX0_append 8 = .ok (.bipush 95, 2) := by decide +kernel
theorem dX0_append_10 : decode cX0_append 10 = .ok (.if_icmp .eq 9, 3) := by decide +kernel
theorem dX0_append_13 : decode cX0_append 13 = .ok (.iload_n 1, 1) := by decide +kernel
theorem dX0_append_14 : decode cX0_append 14 = .ok (.bipush 46, 2) := by decide +kernel
theorem dX0_append_16 : decode cX0_append 16 = .ok (.if_icmp .ne 7, 3) := by decide +kernel
theorem dX0_append_19 : decode cX0_append 19 = .ok (.iconst 1, 1) := by decide +kernel
theorem dX0_append_20 : decode cX0_append 20 = .ok (.goto 4, 3) := by decide +kernel
theorem dX0_append_23 : decode cX0_append 23 = .ok (.iconst 0, 1) := by decide +kernel
theorem dX0_append_24 : decode cX0_append 24 = .ok (.istore_n 2, 1) := by decide +kernel
theorem dX0_append_25 : decode cX0_append 25 = .ok (.iload_n 2, 1) := by decide +kernel
theorem dX0_append_26 : decode cX0_append 26 = .ok (.ifCond .eq 12, 3) := by decide +kernel
theorem dX0_append_29 : decode cX0_append 29 = .ok (.aload_n 0, 1) := by decide +kernel
theorem dX0_append_30 : decode cX0_append 30 = .ok (.getfield 19, 3) := by decide +kernel
theorem dX0_append_33 : decode cX0_append 33 = .ok (.bipush 80, 2) := by decide +kernel
theorem dX0_append_35 : decode cX0_append 35 = .ok (.if_icmp .lt 5, 3) := by decide +kernel
theorem dX0_append_38 : decode cX0_append 38 = .ok (.iconst 0, 1) := by decide +kernel
theorem dX0_append_39 : decode cX0_append 39 = .ok (.ireturn, 1) := by decide +kernel
theorem dX0_append_40 : decode cX0_append 40 = .ok (.aload_n 0, 1) := by decide +kernel
theorem dX0_append_41 : decode cX0_append 41 = .ok (.getfield 9, 3) := by decide +kernel
theorem dX0_append_44 : decode cX0_append 44 = .ok (.aload_n 0, 1) := by decide +kernel
theorem dX0_append_45 : decode cX0_append 45 = .ok (.getfield 19, 3) := by decide +kernel
theorem dX0_append_48 : decode cX0_append 48 = .ok (.iload_n 1, 1) := by decide +kernel
theorem dX0_append_49 : decode cX0_append 49 = .ok (.castore, 1) := by decide +kernel
theorem dX0_append_50 : decode cX0_append 50 = .ok (.aload_n 0, 1) := by decide +kernel
theorem dX0_append_51 : decode cX0_append 51 = .ok (.dup, 1) := by decide +kernel
theorem dX0_append_52 : decode cX0_append 52 = .ok (.getfield 19, 3) := by decide +kernel
theorem dX0_append_55 : decode cX0_append 55 = .ok (.iconst 1, 1) := by decide +kernel
theorem dX0_append_56 : decode cX0_append 56 = .ok (.iadd, 1) := by decide +kernel
theorem dX0_append_57 : decode cX0_append 57 = .ok (.putfield 19, 3) := by decide +kernel
theorem dX0_append_60 : decode cX0_append 60 = .ok (.iconst 1, 1) := by decide +kernel
theorem dX0_append_61 : decode cX0_append 61 = .ok (.ireturn, 1) := by decide +kernel
def jX0_append_24 (a0 : Nat) (x1 : Int32) (k0 : Int32) (u : fb_M) : Option (Int32 × fb_M) :=
 (if k0 = 0 then (some (0, u))
  else (if (fb_I u a0 1) < 80 then ((fb_R u a0 0).bind fun q41 => fb_gd (q41 < fb_NT ∧ (fb_sh q41).1 = 101) 
    ((fb_gd (¬ (fb_I u a0 1 < 0 ∨ (fb_sh q41).2 ≤ (fb_I u a0 1).toNatClampNeg)) 
    (some (1, fb_wI (fb_wI u q41 (fb_I u a0 1).toNatClampNeg (vp_nar .char x1)) a0 1 ((fb_I (fb_wI u q41 (fb_I u a0 1).toNatClampNeg (vp_nar .char x1)) a0 1) + 1))))))
   else (some (0, u))))
set_option maxRecDepth 100000 in
set_option maxHeartbeats 4000000 in
theorem tjX0_append_24 {g : fb_G} {res : (Int32 × fb_M)} (a0 : Nat) (x1 : Int32) (k0 : Int32) (u : fb_M) (ha0 : a0 < fb_NT ∧ fb_sh a0 = (0, 2)) (h : jX0_append_24 a0 x1 k0 u = some res) : fb_V g RX0 cX0_append 3 (some .boolean) "append" (fb_room 2 40 0 0) (fb_Qm g (some (.int res.1)) fb_NT res.2 0 0) 0 0 fb_NT u 24 [(0, .ref (fb_b g + a0)), (1, .int x1)] [.int k0] := by
  unfold jX0_append_24 at h
  refine fb_istore_n (pc := 24) (lv' := [(2, .int k0), (0, .ref (fb_b g + a0)), (1, .int x1)]) dX0_append_24 rfl (by decide) rfl ?_
  refine fb_iload_n (pc := 25) dX0_append_25 0 rfl ?_
  refine fb_if_eq (pc := 26) (tgt := 38) h dX0_append_26 (by decide) (fun h => ?_) (fun h => ?_)
  · refine fb_iconst (pc := 38) (v := 0) dX0_append_38 fb_ki_0 ?_
    exact fb_zretM (pc := 39) rfl h dX0_append_39
  · refine fb_aload_n (pc := 29) dX0_append_29 1 rfl ?_
    refine fb_getI (pc := 30) dX0_append_30 lkX0_19 ha0.1 ha0.2 rfl ?_
    refine fb_bipush (pc := 33) (v := 80) dX0_append_33 fb_kb_80 ?_
    refine fb_icmp_lt (pc := 35) (tgt := 40) h dX0_append_35 (by decide) (fun h => ?_) (fun h => ?_)
    · refine fb_aload_n (pc := 40) dX0_append_40 1 rfl ?_
      refine fb_bnE h (fun q41 e41 h => fb_gdE h (fun s41 h => ?_))
      refine fb_getR (pc := 41) dX0_append_41 lkX0_9 ha0.1 ha0.2 (by decide) e41 ?_
      refine fb_aload_n (pc := 44) dX0_append_44 1 rfl ?_
      refine fb_getI (pc := 45) dX0_append_45 lkX0_19 ha0.1 ha0.2 rfl ?_
      refine fb_iload_n (pc := 48) dX0_append_48 2 rfl ?_
      refine fb_gdE h (fun i49 h => ?_)
      refine fb_cast (pc := 49) dX0_append_49 s41.1 (fb_eta s41.2) i49 ?_
      refine fb_aload_n (pc := 50) dX0_append_50 1 rfl ?_
      refine fb_dup (pc := 51) dX0_append_51 rfl ?_
      refine fb_getI (pc := 52) dX0_append_52 lkX0_19 ha0.1 ha0.2 rfl ?_
      refine fb_iconst (pc := 55) (v := 1) dX0_append_55 fb_ki_1 ?_
      refine fb_iadd (pc := 56) dX0_append_56 ?_
      refine fb_putI (pc := 57) dX0_append_57 lkX0_19 ly_0_1 ha0.1 ha0.2 rfl rfl rfl ?_
      refine fb_iconst (pc := 60) (v := 1) dX0_append_60 fb_ki_1 ?_
      exact fb_zretM (pc := 61) rfl h dX0_append_61
    · refine fb_iconst (pc := 38) (v := 0) dX0_append_38 fb_ki_0 ?_
      exact fb_zretM (pc := 39) rfl h dX0_append_39

def fX0_append (u : fb_M) (a0 : Nat) (x1 : Int32) : Option (Int32 × fb_M) :=
 ((fX8_isLetterOrFigure u x1).bind fun r1 => 
  (if r1 = 0 then (if x1 = 95 then (jX0_append_24 a0 x1 1 u)
   else (if x1 = 46 then (jX0_append_24 a0 x1 1 u)
    else (jX0_append_24 a0 x1 0 u)))
  else (jX0_append_24 a0 x1 1 u)))
set_option maxRecDepth 100000 in
set_option maxHeartbeats 4000000 in
theorem mX0_append (g : fb_G) (u : fb_M) (a0 : Nat) (x1 : Int32) (ha0 : a0 < fb_NT ∧ fb_sh a0 = (0, 2)) {res : (Int32 × fb_M)} (h : fX0_append u a0 x1 = some res) : fb_Runs g 2 40 0 0 fb_NT fb_NT yX0_append cX0_append 3 (some .boolean) [.ref (fb_b g + a0), .int x1] u (some (.int res.1)) res.2 := by
  unfold fX0_append at h
  refine fb_enter (by decide) (Nat.le_of_ble_eq_true rfl) ?_
  show fb_V g RX0 cX0_append 3 (some .boolean) "append" (fb_room 2 40 0 0) (fb_Qm g (some (.int res.1)) fb_NT res.2 0 0) 0 0 fb_NT u 0 [(0, .ref (fb_b g + a0)), (1, .int x1)] []
  refine fb_iload_n (pc := 0) dX0_append_0 1 rfl ?_
  refine fb_bnE h (fun r1 h1 h => ?_)
  refine fb_cS0v (pc := 1) [.int x1] dX0_append_1 (mX8_isLetterOrFigure g u x1 h1) ymX8_isLetterOrFigure ysX8_isLetterOrFigure ylX0_13 rfl (Nat.le_of_ble_eq_true rfl) ⟨Nat.le_of_ble_eq_true rfl, Nat.le_of_ble_eq_true rfl⟩ ⟨Nat.le_of_ble_eq_true rfl, Nat.le_of_ble_eq_true rfl⟩ ?_
  refine fb_if_ne (pc := 4) (tgt := 19) h dX0_append_4 (by decide) (fun h => ?_) (fun h => ?_)
  · refine fb_iconst (pc := 19) (v := 1) dX0_append_19 fb_ki_1 ?_
    refine fb_goto (pc := 20) (tgt := 24) dX0_append_20 (by decide) ?_
    exact fb_sub [0, 1] rfl (tjX0_append_24 a0 x1 1 u ha0 h)
  · refine fb_iload_n (pc := 7) dX0_append_7 1 rfl ?_
    refine fb_bipush (pc := 8) (v := 95) dX0_append_8 fb_kb_95 ?_
    refine fb_icmp_eq (pc := 10) (tgt := 19) h dX0_append_10 (by decide) (fun h => ?_) (fun h => ?_)
    · refine fb_iconst (pc := 19) (v := 1) dX0_append_19 fb_ki_1 ?_
      refine fb_goto (pc := 20) (tgt := 24) dX0_append_20 (by decide) ?_
      exact fb_sub [0, 1] rfl (tjX0_append_24 a0 x1 1 u ha0 h)
    · refine fb_iload_n (pc := 13) dX0_append_13 1 rfl ?_
      refine fb_bipush (pc := 14) (v := 46) dX0_append_14 fb_kb_46 ?_
      refine fb_icmp_ne (pc := 16) (tgt := 23) h dX0_append_16 (by decide) (fun h => ?_) (fun h => ?_)
      · refine fb_iconst (pc := 23) (v := 0) dX0_append_23 fb_ki_0 ?_
        exact fb_sub [0, 1] rfl (tjX0_append_24 a0 x1 0 u ha0 h)
      · refine fb_iconst (pc := 19) (v := 1) dX0_append_19 fb_ki_1 ?_
        refine fb_goto (pc := 20) (tgt := 24) dX0_append_20 (by decide) ?_
        exact fb_sub [0, 1] rfl (tjX0_append_24 a0 x1 1 u ha0 h)

theorem dX8_type_0 : decode cX8_type 0 = .ok (.aload_n 0, 1) := by decide +kernel
theorem dX8_type_1 : decode cX8_type 1 = .ok (.getfield 10, 3) := by decide +kernel
theorem dX8_type_4 : decode cX8_type 4 = .ok (.iload_n 1, 1) := by decide +kernel
theorem dX8_type_5 : decode cX8_type 5 = .ok (.invokevirtual 72, 3) := by decide +kernel
theorem dX8_type_8 : decode cX8_type 8 = .ok (.ireturn, 1) := by decide +kernel
def fX8_type (u : fb_M) (a0 : Nat) (x1 : Int32) : Option (Int32 × fb_M) :=
 ((fb_R u a0 0).bind fun q1 => fb_gd (q1 < fb_NT ∧ fb_sh q1 = (0, 2)) 
  (((fX0_append u q1 x1).bind fun r5 => 
  (fb_gd (r5.1 = 0 ∨ r5.1 = 1) 
  (some (r5.1, r5.2))))))
set_option maxRecDepth 100000 in
set_option maxHeartbeats 4000000 in
theorem mX8_type (g : fb_G) (u : fb_M) (a0 : Nat) (x1 : Int32) (ha0 : a0 < fb_NT ∧ fb_sh a0 = (8, 12)) {res : (Int32 × fb_M)} (h : fX8_type u a0 x1 = some res) : fb_Runs g 3 62 0 0 fb_NT fb_NT yX8_type cX8_type 2 (some .boolean) [.ref (fb_b g + a0), .int x1] u (some (.int res.1)) res.2 := by
  unfold fX8_type at h
  refine fb_enter (by decide) (Nat.le_of_ble_eq_true rfl) ?_
  show fb_V g RX8 cX8_type 2 (some .boolean) "type" (fb_room 3 62 0 0) (fb_Qm g (some (.int res.1)) fb_NT res.2 0 0) 0 0 fb_NT u 0 [(0, .ref (fb_b g + a0)), (1, .int x1)] []
  refine fb_aload_n (pc := 0) dX8_type_0 0 rfl ?_
  refine fb_bnE h (fun q1 e1 h => fb_gdE h (fun s1 h => ?_))
  refine fb_getR (pc := 1) dX8_type_1 lkX8_10 ha0.1 ha0.2 (by decide) e1 ?_
  refine fb_iload_n (pc := 4) dX8_type_4 1 rfl ?_
  refine fb_bnE h (fun r5 h5 h => ?_)
  refine fb_cV0v (pc := 5) [.int x1] dX8_type_5 (mX0_append g u q1 x1 s1 h5) ymX0_append yiX0_append s1.1 s1.2 ylX8_72 rfl (Nat.le_of_ble_eq_true rfl) ⟨Nat.le_of_ble_eq_true rfl, Nat.le_of_ble_eq_true rfl⟩ ⟨Nat.le_of_ble_eq_true rfl, Nat.le_of_ble_eq_true rfl⟩ ?_
  refine fb_gdE h (fun z8 h => ?_)
  exact fb_zretM (pc := 8) (fb_nz z8) h dX8_type_8

theorem dX0_clear_0 : decode cX0_clear 0 = .ok (.aload_n 0, 1) := by decide +kernel
theorem dX0_clear_1 : decode cX0_clear 1 = .ok (.iconst 0, 1) := by decide +kernel
theorem dX0_clear_2 : decode cX0_clear 2 = .ok (.putfield 19, 3) := by decide +kernel
theorem dX0_clear_5 : decode cX0_clear 5 = .ok (.return_, 1) := by decide +kernel
def fX0_clear (u : fb_M) (a0 : Nat) : Option fb_M :=
 (some (fb_wI u a0 1 0))
set_option maxRecDepth 100000 in
set_option maxHeartbeats 4000000 in
theorem mX0_clear (g : fb_G) (u : fb_M) (a0 : Nat) (ha0 : a0 < fb_NT ∧ fb_sh a0 = (0, 2)) {res : fb_M} (h : fX0_clear u a0 = some res) : fb_Runs g 0 0 0 0 fb_NT fb_NT yX0_clear cX0_clear 1 none [.ref (fb_b g + a0)] u none res := by
  unfold fX0_clear at h
  refine fb_enter (by decide) (Nat.le_of_ble_eq_true rfl) ?_
  show fb_V g RX0 cX0_clear 1 none "clear" (fb_room 0 0 0 0) (fb_Qm g none fb_NT res 0 0) 0 0 fb_NT u 0 [(0, .ref (fb_b g + a0))] []
  refine fb_aload_n (pc := 0) dX0_clear_0 0 rfl ?_
  refine fb_iconst (pc := 1) (v := 0) dX0_clear_1 fb_ki_0 ?_
  refine fb_putI (pc := 2) dX0_clear_2 lkX0_19 ly_0_1 ha0.1 ha0.2 rfl rfl rfl ?_
  exact fb_vretM (pc := 5) h dX0_clear_5

theorem dX8_scrap_0 : decode cX8_scrap 0 = .ok (.aload_n 0, 1) := by decide +kernel
theorem dX8_scrap_1 : decode cX8_scrap 1 = .ok (.getfield 10, 3) := by decide +kernel
theorem dX8_scrap_4 : decode cX8_scrap 4 = .ok (.invokevirtual 76, 3) := by decide +kernel
theorem dX8_scrap_7 : decode cX8_scrap 7 = .ok (.return_, 1) := by decide +kernel
def fX8_scrap (u : fb_M) (a0 : Nat) : Option fb_M :=
 ((fb_R u a0 0).bind fun q1 => fb_gd (q1 < fb_NT ∧ fb_sh q1 = (0, 2)) 
  (((fX0_clear u q1).bind fun r4 => 
  (some r4))))
set_option maxRecDepth 100000 in
set_option maxHeartbeats 4000000 in
theorem mX8_scrap (g : fb_G) (u : fb_M) (a0 : Nat) (ha0 : a0 < fb_NT ∧ fb_sh a0 = (8, 12)) {res : fb_M} (h : fX8_scrap u a0 = some res) : fb_Runs g 1 20 0 0 fb_NT fb_NT yX8_scrap cX8_scrap 1 none [.ref (fb_b g + a0)] u none res := by
  unfold fX8_scrap at h
  refine fb_enter (by decide) (Nat.le_of_ble_eq_true rfl) ?_
  show fb_V g RX8 cX8_scrap 1 none "scrap" (fb_room 1 20 0 0) (fb_Qm g none fb_NT res 0 0) 0 0 fb_NT u 0 [(0, .ref (fb_b g + a0))] []
  refine fb_aload_n (pc := 0) dX8_scrap_0 0 rfl ?_
  refine fb_bnE h (fun q1 e1 h => fb_gdE h (fun s1 h => ?_))
  refine fb_getR (pc := 1) dX8_scrap_1 lkX8_10 ha0.1 ha0.2 (by decide) e1 ?_
  refine fb_bnE h (fun r4 h4 h => ?_)
  refine fb_cV0n (pc := 4) [] dX8_scrap_4 (mX0_clear g u q1 s1 h4) ymX0_clear yiX0_clear s1.1 s1.2 ylX8_76 rfl (Nat.le_of_ble_eq_true rfl) ⟨Nat.le_of_ble_eq_true rfl, Nat.le_of_ble_eq_true rfl⟩ ⟨Nat.le_of_ble_eq_true rfl, Nat.le_of_ble_eq_true rfl⟩ ?_
  exact fb_vretM (pc := 7) h dX8_scrap_7

theorem dX0_isPath_0 : decode cX0_isPath 0 = .ok (.iconst 1, 1) := by decide +kernel
theorem dX0_isPath_1 : decode cX0_isPath 1 = .ok (.istore_n 1, 1) := by decide +kernel
theorem dX0_isPath_2 : decode cX0_isPath 2 = .ok (.iconst 0, 1) := by decide +kernel
theorem dX0_isPath_3 : decode cX0_isPath 3 = .ok (.istore_n 2, 1) := by decide +kernel
theorem dX0_isPath_4 : decode cX0_isPath 4 = .ok (.iconst 0, 1) := by decide +kernel
theorem dX0_isPath_5 : decode cX0_isPath 5 = .ok (.istore_n 3, 1) := by decide +kernel
theorem dX0_isPath_6 : decode cX0_isPath 6 = .ok (.iload_n 3, 1) := by decide +kernel
theorem dX0_isPath_7 : decode cX0_isPath 7 = .ok (.aload_n 0, 1) := by decide +kernel
theorem dX0_isPath_8 : decode cX0_isPath 8 = .ok (.getfield 19, 3) := by decide +kernel
theorem dX0_isPath_11 : decode cX0_isPath 11 = .ok (.if_icmp .ge 73, 3) := by decide +kernel
theorem dX0_isPath_14 : decode cX0_isPath 14 = .ok (.aload_n 0, 1) := by decide +kernel
theorem dX0_isPath_15 : decode cX0_isPath 15 = .ok (.getfield 9, 3) := by decide +kernel
theorem dX0_isPath_18 : decode cX0_isPath 18 = .ok (.iload_n 3, 1) := by decide +kernel
theorem dX0_isPath_19 : decode cX0_isPath 19 = .ok (.caload, 1) := by decide +kernel
theorem dX0_isPath_20 : decode cX0_isPath 20 = .ok (.istore 4, 2) := by decide +kernel
theorem dX0_isPath_22 : decode cX0_isPath 22 = .ok (.iload 4, 2) := by decide +kernel
theorem dX0_isPath_24 : decode cX0_isPath 24 = .ok (.bipush 46, 2) := by decide +kernel
theorem dX0_isPath_26 : decode cX0_isPath 26 = .ok (.if_icmp .ne 15, 3) := by decide +kernel
theorem dX0_isPath_29 : decode cX0_isPath 29 = .ok (.iload_n 2, 1) := by decide +kernel
theorem dX0_isPath_30 : decode cX0_isPath 30 = .ok (.ifCond .le 11, 3) := by decide +kernel
theorem dX0_isPath_33 : decode cX0_isPath 33 = .ok (.iinc 1 1, 3) := by decide +kernel
theorem dX0_isPath_36 : decode cX0_isPath 36 = .ok (.iconst 0, 1) := by decide +kernel
theorem dX0_isPath_37 : decode cX0_isPath 37 = .ok (.istore_n 2, 1) := by decide +kernel
theorem dX0_isPath_38 : decode cX0_isPath 38 = .ok (.goto 40, 3) := by decide +kernel
theorem dX0_isPath_41 : decode cX0_isPath 41 = .ok (.iload_n 2, 1) := by decide +kernel
theorem dX0_isPath_42 : decode cX0_isPath 42 = .ok (.bipush 12, 2) := by decide +kernel
theorem dX0_isPath_44 : decode cX0_isPath 44 = .ok (.if_icmp .ge 32, 3) := by decide +kernel
theorem dX0_isPath_47 : decode cX0_isPath 47 = .ok (.iload_n 2, 1) := by decide +kernel
theorem dX0_isPath_48 : decode cX0_isPath 48 = .ok (.ifCond .ne 14, 3) := by decide +kernel
theorem dX0_isPath_51 : decode cX0_isPath 51 = .ok (.iload 4, 2) := by decide +kernel
theorem dX0_isPath_53 : decode cX0_isPath 53 = .ok (.invokestatic 23, 3) := by decide +kernel
theorem dX0_isPath_56 : decode cX0_isPath 56 = .ok (.ifCond .eq 20, 3) := by decide +kernel
theorem dX0_isPath_59 : decode cX0_isPath 59 = .ok (.goto 11, 3) := by decide +kernel
theorem dX0_isPath_62 : decode cX0_isPath 62 = .ok (.iload 4, 2) := by decide +kernel
theorem dX0_isPath_64 : decode cX0_isPath 64 = .ok (.invokestatic 13, 3) := by decide +kernel
theorem dX0_isPath_67 : decode cX0_isPath 67 = .ok (.ifCond .eq 9, 3) := by decide +kernel
theorem dX0_isPath_70 : decode cX0_isPath 70 = .ok (.iinc 2 1, 3) := by decide +kernel
theorem dX0_isPath_73 : decode cX0_isPath 73 = .ok (.goto 5, 3) := by decide +kernel
theorem dX0_isPath_76 : decode cX0_isPath 76 = .ok (.iconst 0, 1) := by decide +kernel
theorem dX0_isPath_77 : decode cX0_isPath 77 = .ok (.ireturn, 1) := by decide +kernel
theorem dX0_isPath_78 : decode cX0_isPath 78 = .ok (.iinc 3 1, 3) := by decide +kernel
theorem dX0_isPath_81 : decode cX0_isPath 81 = .ok (.goto (-75), 3) := by decide +kernel
theorem dX0_isPath_84 : decode cX0_isPath 84 = .ok (.iload_n 2, 1) := by decide +kernel
theorem dX0_isPath_85 : decode cX0_isPath 85 = .ok (.ifCond .le 12, 3) := by decide +kernel
theorem dX0_isPath_88 : decode cX0_isPath 88 = .ok (.iload_n 1, 1) := by decide +kernel
theorem dX0_isPath_89 : decode cX0_isPath 89 = .ok (.iconst 3, 1) := by decide +kernel
theorem dX0_isPath_90 : decode cX0_isPath 90 = .ok (.if_icmp .gt 7, 3) := by decide +kernel
theorem dX0_isPath_93 : decode cX0_isPath 93 = .ok (.iconst 1, 1) := by decide +kernel
theorem dX0_isPath_94 : decode cX0_isPath 94 = .ok (.goto 4, 3) := by decide +kernel
theorem dX0_isPath_97 : decode cX0_isPath 97 = .ok (.iconst 0, 1) := by decide +kernel
theorem dX0_isPath_98 : decode cX0_isPath 98 = .ok (.ireturn, 1) := by decide +kernel
def jX0_isPath_41 (K6 : Int32 → Int32 → Int32 → Option Int32) (a0 : Nat) (x1 : Int32) (x2 : Int32) (x3 : Int32) (x4 : Int32) (u : fb_M) : Option Int32 :=
 (if 12 ≤ x2 then (some 0)
  else (if x2 = 0 then ((fX8_isSmall u x4).bind fun r53 => 
    (if r53 = 0 then (some 0)
    else (K6 x1 (x2 + 1) (x3 + 1))))
   else ((fX8_isLetterOrFigure u x4).bind fun r64 => 
    (if r64 = 0 then (some 0)
    else (K6 x1 (x2 + 1) (x3 + 1))))))
set_option maxRecDepth 100000 in
set_option maxHeartbeats 4000000 in
theorem tjX0_isPath_41 {g : fb_G} {res : Int32} (a0 : Nat) (x1 : Int32) (x2 : Int32) (x3 : Int32) (x4 : Int32) (u : fb_M) (K6 : Int32 → Int32 → Int32 → Option Int32) (ha0 : a0 < fb_NT ∧ fb_sh a0 = (0, 2)) (hK6 : ∀ (x1 : Int32) (x2 : Int32) (x3 : Int32) ,  K6 x1 x2 x3 = some res → fb_V g RX0 cX0_isPath 5 (some .boolean) "isPath" (fb_room 2 40 0 0) (fb_Qm g (some (.int res)) fb_NT u 0 0) 0 0 fb_NT u 6 [(0, .ref (fb_b g + a0)), (1, .int x1), (2, .int x2), (3, .int x3)] []) (h : jX0_isPath_41 K6 a0 x1 x2 x3 x4 u = some res) : fb_V g RX0 cX0_isPath 5 (some .boolean) "isPath" (fb_room 2 40 0 0) (fb_Qm g (some (.int res)) fb_NT u 0 0) 0 0 fb_NT u 41 [(0, .ref (fb_b g + a0)), (1, .int x1), (2, .int x2), (3, .int x3), (4, .int x4)] [] := by
  unfold jX0_isPath_41 at h
  refine fb_iload_n (pc := 41) dX0_isPath_41 2 rfl ?_
  refine fb_bipush (pc := 42) (v := 12) dX0_isPath_42 fb_kb_12 ?_
  refine fb_icmp_ge (pc := 44) (tgt := 76) h dX0_isPath_44 (by decide) (fun h => ?_) (fun h => ?_)
  · refine fb_iconst (pc := 76) (v := 0) dX0_isPath_76 fb_ki_0 ?_
    exact fb_zretR (pc := 77) rfl h dX0_isPath_77
  · refine fb_iload_n (pc := 47) dX0_isPath_47 2 rfl ?_
    refine fb_if_ne (pc := 48) (tgt := 62) h dX0_isPath_48 (by decide) (fun h => ?_) (fun h => ?_)
    · refine fb_iload (pc := 62) dX0_isPath_62 4 rfl ?_
      refine fb_bnE h (fun r64 h64 h => ?_)
      refine fb_cS0v (pc := 64) [.int x4] dX0_isPath_64 (mX8_isLetterOrFigure g u x4 h64) ymX8_isLetterOrFigure ysX8_isLetterOrFigure ylX0_13 rfl (Nat.le_of_ble_eq_true rfl) ⟨Nat.le_of_ble_eq_true rfl, Nat.le_of_ble_eq_true rfl⟩ ⟨Nat.le_of_ble_eq_true rfl, Nat.le_of_ble_eq_true rfl⟩ ?_
      refine fb_if_eq (pc := 67) (tgt := 76) h dX0_isPath_67 (by decide) (fun h => ?_) (fun h => ?_)
      · refine fb_iconst (pc := 76) (v := 0) dX0_isPath_76 fb_ki_0 ?_
        exact fb_zretR (pc := 77) rfl h dX0_isPath_77
      · refine fb_iinc (pc := 70) (v := 1) (lv' := [(2, .int (x2 + 1)), (0, .ref (fb_b g + a0)), (1, .int x1), (3, .int x3), (4, .int x4)]) dX0_isPath_70 2 rfl fb_ki_1 (by decide) rfl ?_
        refine fb_goto (pc := 73) (tgt := 78) dX0_isPath_73 (by decide) ?_
        refine fb_iinc (pc := 78) (v := 1) (lv' := [(3, .int (x3 + 1)), (2, .int (x2 + 1)), (0, .ref (fb_b g + a0)), (1, .int x1), (4, .int x4)]) dX0_isPath_78 3 rfl fb_ki_1 (by decide) rfl ?_
        refine fb_goto (pc := 81) (tgt := 6) dX0_isPath_81 (by decide) ?_
        exact fb_sub [2, 3, 1, 0] rfl (hK6 x1 (x2 + 1) (x3 + 1) h)
    · refine fb_iload (pc := 51) dX0_isPath_51 4 rfl ?_
      refine fb_bnE h (fun r53 h53 h => ?_)
      refine fb_cS0v (pc := 53) [.int x4] dX0_isPath_53 (mX8_isSmall g u x4 h53) ymX8_isSmall ysX8_isSmall ylX0_23 rfl (Nat.le_of_ble_eq_true rfl) ⟨Nat.le_of_ble_eq_true rfl, Nat.le_of_ble_eq_true rfl⟩ ⟨Nat.le_of_ble_eq_true rfl, Nat.le_of_ble_eq_true rfl⟩ ?_
      refine fb_if_eq (pc := 56) (tgt := 76) h dX0_isPath_56 (by decide) (fun h => ?_) (fun h => ?_)
      · refine fb_iconst (pc := 76) (v := 0) dX0_isPath_76 fb_ki_0 ?_
        exact fb_zretR (pc := 77) rfl h dX0_isPath_77
      · refine fb_goto (pc := 59) (tgt := 70) dX0_isPath_59 (by decide) ?_
        refine fb_iinc (pc := 70) (v := 1) (lv' := [(2, .int (x2 + 1)), (0, .ref (fb_b g + a0)), (1, .int x1), (3, .int x3), (4, .int x4)]) dX0_isPath_70 2 rfl fb_ki_1 (by decide) rfl ?_
        refine fb_goto (pc := 73) (tgt := 78) dX0_isPath_73 (by decide) ?_
        refine fb_iinc (pc := 78) (v := 1) (lv' := [(3, .int (x3 + 1)), (2, .int (x2 + 1)), (0, .ref (fb_b g + a0)), (1, .int x1), (4, .int x4)]) dX0_isPath_78 3 rfl fb_ki_1 (by decide) rfl ?_
        refine fb_goto (pc := 81) (tgt := 6) dX0_isPath_81 (by decide) ?_
        exact fb_sub [2, 3, 1, 0] rfl (hK6 x1 (x2 + 1) (x3 + 1) h)

def bX0_isPath_6 (K6 : Int32 → Int32 → Int32 → Option Int32) (a0 : Nat) (x1 : Int32) (x2 : Int32) (x3 : Int32) (u : fb_M) : Option Int32 :=
 (if (fb_I u a0 1) ≤ x3 then (if x2 ≤ 0 then (some 0)
   else (if 3 < x1 then (some 0)
    else (some 1)))
  else ((fb_R u a0 0).bind fun q15 => fb_gd (q15 < fb_NT ∧ (fb_sh q15).1 = 101) 
   ((fb_gd (¬ (x3 < 0 ∨ (fb_sh q15).2 ≤ x3.toNatClampNeg)) 
   (if (fb_I u q15 x3.toNatClampNeg) = 46 then (if x2 ≤ 0 then (jX0_isPath_41 K6 a0 x1 x2 x3 (fb_I u q15 x3.toNatClampNeg) u)
    else (K6 (x1 + 1) 0 (x3 + 1)))
   else (jX0_isPath_41 K6 a0 x1 x2 x3 (fb_I u q15 x3.toNatClampNeg) u))))))
def gX0_isPath_6 (a0 : Nat) (u : fb_M) : Nat → Int32 → Int32 → Int32 → Option Int32
 | 0 => fun _ _ _ => none
 | fu + 1 => fun x1 x2 x3 => bX0_isPath_6 (gX0_isPath_6 a0 u fu) a0 x1 x2 x3 u
set_option maxRecDepth 100000 in
set_option maxHeartbeats 4000000 in
theorem tbX0_isPath_6 {g : fb_G} {res : Int32} (a0 : Nat) (x1 : Int32) (x2 : Int32) (x3 : Int32) (u : fb_M) (K6 : Int32 → Int32 → Int32 → Option Int32) (ha0 : a0 < fb_NT ∧ fb_sh a0 = (0, 2)) (hK6 : ∀ (x1 : Int32) (x2 : Int32) (x3 : Int32) ,  K6 x1 x2 x3 = some res → fb_V g RX0 cX0_isPath 5 (some .boolean) "isPath" (fb_room 2 40 0 0) (fb_Qm g (some (.int res)) fb_NT u 0 0) 0 0 fb_NT u 6 [(0, .ref (fb_b g + a0)), (1, .int x1), (2, .int x2), (3, .int x3)] []) (h : bX0_isPath_6 K6 a0 x1 x2 x3 u = some res) : fb_V g RX0 cX0_isPath 5 (some .boolean) "isPath" (fb_room 2 40 0 0) (fb_Qm g (some (.int res)) fb_NT u 0 0) 0 0 fb_NT u 6 [(0, .ref (fb_b g + a0)), (1, .int x1), (2, .int x2), (3, .int x3)] [] := by
  unfold bX0_isPath_6 at h
  refine fb_iload_n (pc := 6) dX0_isPath_6 3 rfl ?_
  refine fb_aload_n (pc := 7) dX0_isPath_7 0 rfl ?_
  refine fb_getI (pc := 8) dX0_isPath_8 lkX0_19 ha0.1 ha0.2 rfl ?_
  refine fb_icmp_ge (pc := 11) (tgt := 84) h dX0_isPath_11 (by decide) (fun h => ?_) (fun h => ?_)
  · refine fb_iload_n (pc := 84) dX0_isPath_84 2 rfl ?_
    refine fb_if_le (pc := 85) (tgt := 97) h dX0_isPath_85 (by decide) (fun h => ?_) (fun h => ?_)
    · refine fb_iconst (pc := 97) (v := 0) dX0_isPath_97 fb_ki_0 ?_
      exact fb_zretR (pc := 98) rfl h dX0_isPath_98
    · refine fb_iload_n (pc := 88) dX0_isPath_88 1 rfl ?_
      refine fb_iconst (pc := 89) (v := 3) dX0_isPath_89 fb_ki_3 ?_
      refine fb_icmp_gt (pc := 90) (tgt := 97) h dX0_isPath_90 (by decide) (fun h => ?_) (fun h => ?_)
      · refine fb_iconst (pc := 97) (v := 0) dX0_isPath_97 fb_ki_0 ?_
        exact fb_zretR (pc := 98) rfl h dX0_isPath_98
      · refine fb_iconst (pc := 93) (v := 1) dX0_isPath_93 fb_ki_1 ?_
        refine fb_goto (pc := 94) (tgt := 98) dX0_isPath_94 (by decide) ?_
        exact fb_zretR (pc := 98) rfl h dX0_isPath_98
  · refine fb_aload_n (pc := 14) dX0_isPath_14 0 rfl ?_
    refine fb_bnE h (fun q15 e15 h => fb_gdE h (fun s15 h => ?_))
    refine fb_getR (pc := 15) dX0_isPath_15 lkX0_9 ha0.1 ha0.2 (by decide) e15 ?_
    refine fb_iload_n (pc := 18) dX0_isPath_18 3 rfl ?_
    refine fb_gdE h (fun i19 h => ?_)
    refine fb_cald (pc := 19) dX0_isPath_19 s15.1 (fb_eta s15.2) i19 ?_
    refine fb_istore (pc := 20) (lv' := [(4, .int (fb_I u q15 x3.toNatClampNeg)), (0, .ref (fb_b g + a0)), (1, .int x1), (2, .int x2), (3, .int x3)]) dX0_isPath_20 (by decide) rfl ?_
    refine fb_iload (pc := 22) dX0_isPath_22 0 rfl ?_
    refine fb_bipush (pc := 24) (v := 46) dX0_isPath_24 fb_kb_46 ?_
    refine fb_icmp_ne (pc := 26) (tgt := 41) h dX0_isPath_26 (by decide) (fun h => ?_) (fun h => ?_)
    · exact fb_sub [1, 2, 3, 4, 0] rfl (tjX0_isPath_41 a0 x1 x2 x3 (fb_I u q15 x3.toNatClampNeg) u K6 ha0 hK6 h)
    · refine fb_iload_n (pc := 29) dX0_isPath_29 3 rfl ?_
      refine fb_if_le (pc := 30) (tgt := 41) h dX0_isPath_30 (by decide) (fun h => ?_) (fun h => ?_)
      · exact fb_sub [1, 2, 3, 4, 0] rfl (tjX0_isPath_41 a0 x1 x2 x3 (fb_I u q15 x3.toNatClampNeg) u K6 ha0 hK6 h)
      · refine fb_iinc (pc := 33) (v := 1) (lv' := [(1, .int (x1 + 1)), (4, .int (fb_I u q15 x3.toNatClampNeg)), (0, .ref (fb_b g + a0)), (2, .int x2), (3, .int x3)]) dX0_isPath_33 2 rfl fb_ki_1 (by decide) rfl ?_
        refine fb_iconst (pc := 36) (v := 0) dX0_isPath_36 fb_ki_0 ?_
        refine fb_istore_n (pc := 37) (lv' := [(2, .int 0), (1, .int (x1 + 1)), (4, .int (fb_I u q15 x3.toNatClampNeg)), (0, .ref (fb_b g + a0)), (3, .int x3)]) dX0_isPath_37 rfl (by decide) rfl ?_
        refine fb_goto (pc := 38) (tgt := 78) dX0_isPath_38 (by decide) ?_
        refine fb_iinc (pc := 78) (v := 1) (lv' := [(3, .int (x3 + 1)), (2, .int 0), (1, .int (x1 + 1)), (4, .int (fb_I u q15 x3.toNatClampNeg)), (0, .ref (fb_b g + a0))]) dX0_isPath_78 4 rfl fb_ki_1 (by decide) rfl ?_
        refine fb_goto (pc := 81) (tgt := 6) dX0_isPath_81 (by decide) ?_
        exact fb_sub [4, 2, 1, 0] rfl (hK6 (x1 + 1) 0 (x3 + 1) h)

theorem tgX0_isPath_6 {g : fb_G} {res : Int32} (a0 : Nat) (u : fb_M) (ha0 : a0 < fb_NT ∧ fb_sh a0 = (0, 2)) : ∀ (fu : Nat) (x1 : Int32) (x2 : Int32) (x3 : Int32) ,  gX0_isPath_6 a0 u fu x1 x2 x3 = some res → fb_V g RX0 cX0_isPath 5 (some .boolean) "isPath" (fb_room 2 40 0 0) (fb_Qm g (some (.int res)) fb_NT u 0 0) 0 0 fb_NT u 6 [(0, .ref (fb_b g + a0)), (1, .int x1), (2, .int x2), (3, .int x3)] [] := by
  intro fu
  induction fu with
  | zero => intro x1 x2 x3 h; exact absurd h (by simp [gX0_isPath_6])
  | succ fu ih => intro x1 x2 x3 h; exact tbX0_isPath_6 a0 x1 x2 x3 u (gX0_isPath_6 a0 u fu) ha0 ih h
def fX0_isPath (u : fb_M) (a0 : Nat) : Option Int32 :=
 (gX0_isPath_6 a0 u fb_F 1 0 0)
set_option maxRecDepth 100000 in
set_option maxHeartbeats 4000000 in
theorem mX0_isPath (g : fb_G) (u : fb_M) (a0 : Nat) (ha0 : a0 < fb_NT ∧ fb_sh a0 = (0, 2)) {res : Int32} (h : fX0_isPath u a0 = some res) : fb_Runs g 2 40 0 0 fb_NT fb_NT yX0_isPath cX0_isPath 5 (some .boolean) [.ref (fb_b g + a0)] u (some (.int res)) u := by
  unfold fX0_isPath at h
  refine fb_enter (by decide) (Nat.le_of_ble_eq_true rfl) ?_
  show fb_V g RX0 cX0_isPath 5 (some .boolean) "isPath" (fb_room 2 40 0 0) (fb_Qm g (some (.int res)) fb_NT u 0 0) 0 0 fb_NT u 0 [(0, .ref (fb_b g + a0))] []
  refine fb_iconst (pc := 0) (v := 1) dX0_isPath_0 fb_ki_1 ?_
  refine fb_istore_n (pc := 1) (lv' := [(1, .int 1), (0, .ref (fb_b g + a0))]) dX0_isPath_1 rfl (by decide) rfl ?_
  refine fb_iconst (pc := 2) (v := 0) dX0_isPath_2 fb_ki_0 ?_
  refine fb_istore_n (pc := 3) (lv' := [(2, .int 0), (1, .int 1), (0, .ref (fb_b g + a0))]) dX0_isPath_3 rfl (by decide) rfl ?_
  refine fb_iconst (pc := 4) (v := 0) dX0_isPath_4 fb_ki_0 ?_
  refine fb_istore_n (pc := 5) (lv' := [(3, .int 0), (2, .int 0), (1, .int 1), (0, .ref (fb_b g + a0))]) dX0_isPath_5 rfl (by decide) rfl ?_
  exact fb_sub [3, 2, 1, 0] rfl (tgX0_isPath_6 a0 u ha0 fb_F 1 0 0 h)

theorem dX0_length_0 : decode cX0_length 0 = .ok (.aload_n 0, 1) := by decide +kernel
theorem dX0_length_1 : decode cX0_length 1 = .ok (.getfield 19, 3) := by decide +kernel
theorem dX0_length_4 : decode cX0_length 4 = .ok (.ireturn, 1) := by decide +kernel
def fX0_length (u : fb_M) (a0 : Nat) : Option Int32 :=
 (some (fb_I u a0 1))
set_option maxRecDepth 100000 in
set_option maxHeartbeats 4000000 in
theorem mX0_length (g : fb_G) (u : fb_M) (a0 : Nat) (ha0 : a0 < fb_NT ∧ fb_sh a0 = (0, 2)) {res : Int32} (h : fX0_length u a0 = some res) : fb_Runs g 0 0 0 0 fb_NT fb_NT yX0_length cX0_length 1 (some .int) [.ref (fb_b g + a0)] u (some (.int res)) u := by
  unfold fX0_length at h
  refine fb_enter (by decide) (Nat.le_of_ble_eq_true rfl) ?_
  show fb_V g RX0 cX0_length 1 (some .int) "length" (fb_room 0 0 0 0) (fb_Qm g (some (.int res)) fb_NT u 0 0) 0 0 fb_NT u 0 [(0, .ref (fb_b g + a0))] []
  refine fb_aload_n (pc := 0) dX0_length_0 0 rfl ?_
  refine fb_getI (pc := 1) dX0_length_1 lkX0_19 ha0.1 ha0.2 rfl ?_
  exact fb_iretR (pc := 4) h dX0_length_4

theorem dX0_at_0 : decode cX0_at 0 = .ok (.iload_n 1, 1) := by decide +kernel
theorem dX0_at_1 : decode cX0_at 1 = .ok (.ifCond .lt 20, 3) := by decide +kernel
theorem dX0_at_4 : decode cX0_at 4 = .ok (.iload_n 1, 1) := by decide +kernel
theorem dX0_at_5 : decode cX0_at 5 = .ok (.aload_n 0, 1) := by decide +kernel
theorem dX0_at_6 : decode cX0_at 6 = .ok (.getfield 19, 3) := by decide +kernel
theorem dX0_at_9 : decode cX0_at 9 = .ok (.if_icmp .ge 12, 3) := by decide +kernel
theorem dX0_at_12 : decode cX0_at 12 = .ok (.aload_n 0, 1) := by decide +kernel
theorem dX0_at_13 : decode cX0_at 13 = .ok (.getfield 9, 3) := by decide +kernel
theorem dX0_at_16 : decode cX0_at 16 = .ok (.iload_n 1, 1) := by decide +kernel
theorem dX0_at_17 : decode cX0_at 17 = .ok (.caload, 1) := by decide +kernel
theorem dX0_at_18 : decode cX0_at 18 = .ok (.goto 4, 3) := by decide +kernel
theorem dX0_at_21 : decode cX0_at 21 = .ok (.iconst 0, 1) := by decide +kernel
theorem dX0_at_22 : decode cX0_at 22 = .ok (.ireturn, 1) := by decide +kernel
def fX0_at (u : fb_M) (a0 : Nat) (x1 : Int32) : Option Int32 :=
 (if x1 < 0 then (some 0)
  else (if (fb_I u a0 1) ≤ x1 then (some 0)
   else ((fb_R u a0 0).bind fun q13 => fb_gd (q13 < fb_NT ∧ (fb_sh q13).1 = 101) 
    ((fb_gd (¬ (x1 < 0 ∨ (fb_sh q13).2 ≤ x1.toNatClampNeg)) 
    (fb_gd (vp_nar .char (fb_I u q13 x1.toNatClampNeg) = fb_I u q13 x1.toNatClampNeg) 
    (some (fb_I u q13 x1.toNatClampNeg))))))))
set_option maxRecDepth 100000 in
set_option maxHeartbeats 4000000 in
theorem mX0_at (g : fb_G) (u : fb_M) (a0 : Nat) (x1 : Int32) (ha0 : a0 < fb_NT ∧ fb_sh a0 = (0, 2)) {res : Int32} (h : fX0_at u a0 x1 = some res) : fb_Runs g 0 0 0 0 fb_NT fb_NT yX0_at cX0_at 2 (some .char) [.ref (fb_b g + a0), .int x1] u (some (.int res)) u := by
  unfold fX0_at at h
  refine fb_enter (by decide) (Nat.le_of_ble_eq_true rfl) ?_
  show fb_V g RX0 cX0_at 2 (some .char) "at" (fb_room 0 0 0 0) (fb_Qm g (some (.int res)) fb_NT u 0 0) 0 0 fb_NT u 0 [(0, .ref (fb_b g + a0)), (1, .int x1)] []
  refine fb_iload_n (pc := 0) dX0_at_0 1 rfl ?_
  refine fb_if_lt (pc := 1) (tgt := 21) h dX0_at_1 (by decide) (fun h => ?_) (fun h => ?_)
  · refine fb_iconst (pc := 21) (v := 0) dX0_at_21 fb_ki_0 ?_
    exact fb_zretR (pc := 22) rfl h dX0_at_22
  · refine fb_iload_n (pc := 4) dX0_at_4 1 rfl ?_
    refine fb_aload_n (pc := 5) dX0_at_5 0 rfl ?_
    refine fb_getI (pc := 6) dX0_at_6 lkX0_19 ha0.1 ha0.2 rfl ?_
    refine fb_icmp_ge (pc := 9) (tgt := 21) h dX0_at_9 (by decide) (fun h => ?_) (fun h => ?_)
    · refine fb_iconst (pc := 21) (v := 0) dX0_at_21 fb_ki_0 ?_
      exact fb_zretR (pc := 22) rfl h dX0_at_22
    · refine fb_aload_n (pc := 12) dX0_at_12 0 rfl ?_
      refine fb_bnE h (fun q13 e13 h => fb_gdE h (fun s13 h => ?_))
      refine fb_getR (pc := 13) dX0_at_13 lkX0_9 ha0.1 ha0.2 (by decide) e13 ?_
      refine fb_iload_n (pc := 16) dX0_at_16 1 rfl ?_
      refine fb_gdE h (fun i17 h => ?_)
      refine fb_cald (pc := 17) dX0_at_17 s13.1 (fb_eta s13.2) i17 ?_
      refine fb_goto (pc := 18) (tgt := 22) dX0_at_18 (by decide) ?_
      refine fb_gdE h (fun z22 h => ?_)
      exact fb_zretR (pc := 22) (fb_nc z22) h dX0_at_22

theorem dX5_clashesWith_0 : decode cX5_clashesWith 0 = .ok (.aload_n 0, 1) := by decide +kernel
theorem dX5_clashesWith_1 : decode cX5_clashesWith 1 = .ok (.getfield 25, 3) := by decide +kernel
theorem dX5_clashesWith_4 : decode cX5_clashesWith 4 = .ok (.aload_n 1, 1) := by decide +kernel
theorem dX5_clashesWith_5 : decode cX5_clashesWith 5 = .ok (.invokevirtual 15, 3) := by decide +kernel
theorem dX5_clashesWith_8 : decode cX5_clashesWith 8 = .ok (.invokestatic 19, 3) := by decide +kernel
theorem dX5_clashesWith_11 : decode cX5_clashesWith 11 = .ok (.istore_n 2, 1) := by decide +kernel
theorem dX5_clashesWith_12 : decode cX5_clashesWith 12 = .ok (.iconst 0, 1) := by decide +kernel
theorem dX5_clashesWith_13 : decode cX5_clashesWith 13 = .ok (.istore_n 3, 1) := by decide +kernel
theorem dX5_clashesWith_14 : decode cX5_clashesWith 14 = .ok (.iload_n 3, 1) := by decide +kernel
theorem dX5_clashesWith_15 : decode cX5_clashesWith 15 = .ok (.iload_n 2, 1) := by decide +kernel
theorem dX5_clashesWith_16 : decode cX5_clashesWith 16 = .ok (.if_icmp .ge 25, 3) := by decide +kernel
theorem dX5_clashesWith_19 : decode cX5_clashesWith 19 = .ok (.aload_n 0, 1) := by decide +kernel
theorem dX5_clashesWith_20 : decode cX5_clashesWith 20 = .ok (.getfield 11, 3) := by decide +kernel
theorem dX5_clashesWith_23 : decode cX5_clashesWith 23 = .ok (.iload_n 3, 1) := by decide +kernel
theorem dX5_clashesWith_24 : decode cX5_clashesWith 24 = .ok (.caload, 1) := by decide +kernel
theorem dX5_clashesWith_25 : decode cX5_clashesWith 25 = .ok (.aload_n 1, 1) := by decide +kernel
theorem dX5_clashesWith_26 : decode cX5_clashesWith 26 = .ok (.iload_n 3, 1) := by decide +kernel
theorem dX5_clashesWith_27 : decode cX5_clashesWith 27 = .ok (.invokevirtual 28, 3) := by decide +kernel
theorem dX5_clashesWith_30 : decode cX5_clashesWith 30 = .ok (.if_icmp .eq 5, 3) := by decide +kernel
theorem dX5_clashesWith_33 : decode cX5_clashesWith 33 = .ok (.iconst 0, 1) := by decide +kernel
theorem dX5_clashesWith_34 : decode cX5_clashesWith 34 = .ok (.ireturn, 1) := by decide +kernel
theorem dX5_clashesWith_35 : decode cX5_clashesWith 35 = .ok (.iinc 3 1, 3) := by decide +kernel
theorem dX5_clashesWith_38 : decode cX5_clashesWith 38 = .ok (.goto (-24), 3) := by decide +kernel
theorem dX5_clashesWith_41 : decode cX5_clashesWith 41 = .ok (.iload_n 2, 1) := by decide +kernel
theorem dX5_clashesWith_42 : decode cX5_clashesWith 42 = .ok (.aload_n 0, 1) := by decide +kernel
theorem dX5_clashesWith_43 : decode cX5_clashesWith 43 = .ok (.getfield 25, 3) := by decide +kernel
theorem dX5_clashesWith_46 : decode cX5_clashesWith 46 = .ok (.if_icmp .eq 14, 3) := by decide +kernel
theorem dX5_clashesWith_49 : decode cX5_clashesWith 49 = .ok (.aload_n 0, 1) := by decide +kernel
theorem dX5_clashesWith_50 : decode cX5_clashesWith 50 = .ok (.getfield 11, 3) := by decide +kernel
theorem dX5_clashesWith_53 : decode cX5_clashesWith 53 = .ok (.iload_n 2, 1) := by decide +kernel
theorem dX5_clashesWith_54 : decode cX5_clashesWith 54 = .ok (.caload, 1) := by decide +kernel
theorem dX5_clashesWith_55 : decode cX5_clashesWith 55 = .ok (.bipush 46, 2) := by decide +kernel
theorem dX5_clashesWith_57 : decode cX5_clashesWith 57 = .ok (.if_icmp .ne 7, 3) := by decide +kernel
theorem dX5_clashesWith_60 : decode cX5_clashesWith 60 = .ok (.iconst 1, 1) := by decide +kernel
theorem dX5_clashesWith_61 : decode cX5_clashesWith 61 = .ok (.goto 4, 3) := by decide +kernel
theorem dX5_clashesWith_64 : decode cX5_clashesWith 64 = .ok (.iconst 0, 1) := by decide +kernel
theorem dX5_clashesWith_65 : decode cX5_clashesWith 65 = .ok (.istore_n 3, 1) := by decide +kernel
theorem dX5_clashesWith_66 : decode cX5_clashesWith 66 = .ok (.iload_n 3, 1) := by decide +kernel
theorem dX5_clashesWith_67 : decode cX5_clashesWith 67 = .ok (.ifCond .eq 25, 3) := by decide +kernel
theorem dX5_clashesWith_70 : decode cX5_clashesWith 70 = .ok (.iload_n 2, 1) := by decide +kernel
theorem dX5_clashesWith_71 : decode cX5_clashesWith 71 = .ok (.aload_n 1, 1) := by decide +kernel
theorem dX5_clashesWith_72 : decode cX5_clashesWith 72 = .ok (.invokevirtual 15, 3) := by decide +kernel
theorem dX5_clashesWith_75 : decode cX5_clashesWith 75 = .ok (.if_icmp .eq 13, 3) := by decide +kernel
theorem dX5_clashesWith_78 : decode cX5_clashesWith 78 = .ok (.aload_n 1, 1) := by decide +kernel
theorem dX5_clashesWith_79 : decode cX5_clashesWith 79 = .ok (.iload_n 2, 1) := by decide +kernel
theorem dX5_clashesWith_80 : decode cX5_clashesWith 80 = .ok (.invokevirtual 28, 3) := by decide +kernel
theorem dX5_clashesWith_83 : decode cX5_clashesWith 83 = .ok (.bipush 46, 2) := by decide +kernel
theorem dX5_clashesWith_85 : decode cX5_clashesWith 85 = .ok (.if_icmp .ne 7, 3) := by decide +kernel
theorem dX5_clashesWith_88 : decode cX5_clashesWith 88 = .ok (.iconst 1, 1) := by decide +kernel
theorem dX5_clashesWith_89 : decode cX5_clashesWith 89 = .ok (.goto 4, 3) := by decide +kernel
theorem dX5_clashesWith_92 : decode cX5_clashesWith 92 = .ok (.iconst 0, 1) := by decide +kernel
theorem dX5_clashesWith_93 : decode cX5_clashesWith 93 = .ok (.ireturn, 1) := by decide +kernel
def jX5_clashesWith_65 (a1 : Nat) (x2 : Int32) (k0 : Int32) (u : fb_M) : Option Int32 :=
 (if k0 = 0 then (some 0)
  else ((fX0_length u a1).bind fun r72 => 
   (if x2 = r72 then (some 1)
   else ((fX0_at u a1 x2).bind fun r80 => 
    (if r80 = 46 then (some 1)
    else (some 0))))))
set_option maxRecDepth 100000 in
set_option maxHeartbeats 4000000 in
theorem tjX5_clashesWith_65 {g : fb_G} {res : Int32} (a1 : Nat) (x2 : Int32) (k0 : Int32) (u : fb_M) (ha1 : a1 < fb_NT ∧ fb_sh a1 = (0, 2)) (h : jX5_clashesWith_65 a1 x2 k0 u = some res) : fb_V g RX5 cX5_clashesWith 4 (some .boolean) "clashesWith" (fb_room 1 40 0 0) (fb_Qm g (some (.int res)) fb_NT u 0 0) 0 0 fb_NT u 65 [(1, .ref (fb_b g + a1)), (2, .int x2)] [.int k0] := by
  unfold jX5_clashesWith_65 at h
  refine fb_istore_n (pc := 65) (lv' := [(3, .int k0), (1, .ref (fb_b g + a1)), (2, .int x2)]) dX5_clashesWith_65 rfl (by decide) rfl ?_
  refine fb_iload_n (pc := 66) dX5_clashesWith_66 0 rfl ?_
  refine fb_if_eq (pc := 67) (tgt := 92) h dX5_clashesWith_67 (by decide) (fun h => ?_) (fun h => ?_)
  · refine fb_iconst (pc := 92) (v := 0) dX5_clashesWith_92 fb_ki_0 ?_
    exact fb_zretR (pc := 93) rfl h dX5_clashesWith_93
  · refine fb_iload_n (pc := 70) dX5_clashesWith_70 2 rfl ?_
    refine fb_aload_n (pc := 71) dX5_clashesWith_71 1 rfl ?_
    refine fb_bnE h (fun r72 h72 h => ?_)
    refine fb_cV0v (pc := 72) [] dX5_clashesWith_72 (mX0_length g u a1 ha1 h72) ymX0_length yiX0_length ha1.1 ha1.2 ylX5_15 rfl (Nat.le_of_ble_eq_true rfl) ⟨Nat.le_of_ble_eq_true rfl, Nat.le_of_ble_eq_true rfl⟩ ⟨Nat.le_of_ble_eq_true rfl, Nat.le_of_ble_eq_true rfl⟩ ?_
    refine fb_icmp_eq (pc := 75) (tgt := 88) h dX5_clashesWith_75 (by decide) (fun h => ?_) (fun h => ?_)
    · refine fb_iconst (pc := 88) (v := 1) dX5_clashesWith_88 fb_ki_1 ?_
      refine fb_goto (pc := 89) (tgt := 93) dX5_clashesWith_89 (by decide) ?_
      exact fb_zretR (pc := 93) rfl h dX5_clashesWith_93
    · refine fb_aload_n (pc := 78) dX5_clashesWith_78 1 rfl ?_
      refine fb_iload_n (pc := 79) dX5_clashesWith_79 2 rfl ?_
      refine fb_bnE h (fun r80 h80 h => ?_)
      refine fb_cV0v (pc := 80) [.int x2] dX5_clashesWith_80 (mX0_at g u a1 x2 ha1 h80) ymX0_at yiX0_at ha1.1 ha1.2 ylX5_28 rfl (Nat.le_of_ble_eq_true rfl) ⟨Nat.le_of_ble_eq_true rfl, Nat.le_of_ble_eq_true rfl⟩ ⟨Nat.le_of_ble_eq_true rfl, Nat.le_of_ble_eq_true rfl⟩ ?_
      refine fb_bipush (pc := 83) (v := 46) dX5_clashesWith_83 fb_kb_46 ?_
      refine fb_icmp_ne (pc := 85) (tgt := 92) h dX5_clashesWith_85 (by decide) (fun h => ?_) (fun h => ?_)
      · refine fb_iconst (pc := 92) (v := 0) dX5_clashesWith_92 fb_ki_0 ?_
        exact fb_zretR (pc := 93) rfl h dX5_clashesWith_93
      · refine fb_iconst (pc := 88) (v := 1) dX5_clashesWith_88 fb_ki_1 ?_
        refine fb_goto (pc := 89) (tgt := 93) dX5_clashesWith_89 (by decide) ?_
        exact fb_zretR (pc := 93) rfl h dX5_clashesWith_93

def bX5_clashesWith_14 (K14 : Int32 → Option Int32) (a0 : Nat) (a1 : Nat) (x2 : Int32) (x3 : Int32) (u : fb_M) : Option Int32 :=
 (if x2 ≤ x3 then (if x2 = (fb_I u a0 1) then (jX5_clashesWith_65 a1 x2 1 u)
   else ((fb_R u a0 0).bind fun q50 => fb_gd (q50 < fb_NT ∧ (fb_sh q50).1 = 101) 
    ((fb_gd (¬ (x2 < 0 ∨ (fb_sh q50).2 ≤ x2.toNatClampNeg)) 
    (if (fb_I u q50 x2.toNatClampNeg) = 46 then (jX5_clashesWith_65 a1 x2 1 u)
    else (jX5_clashesWith_65 a1 x2 0 u))))))
  else ((fb_R u a0 0).bind fun q20 => fb_gd (q20 < fb_NT ∧ (fb_sh q20).1 = 101) 
   ((fb_gd (¬ (x3 < 0 ∨ (fb_sh q20).2 ≤ x3.toNatClampNeg)) 
   ((fX0_at u a1 x3).bind fun r27 => 
   (if (fb_I u q20 x3.toNatClampNeg) = r27 then (K14 (x3 + 1))
   else (some 0)))))))
def gX5_clashesWith_14 (a0 : Nat) (a1 : Nat) (x2 : Int32) (u : fb_M) : Nat → Int32 → Option Int32
 | 0 => fun _ => none
 | fu + 1 => fun x3 => bX5_clashesWith_14 (gX5_clashesWith_14 a0 a1 x2 u fu) a0 a1 x2 x3 u
set_option maxRecDepth 100000 in
set_option maxHeartbeats 4000000 in
theorem tbX5_clashesWith_14 {g : fb_G} {res : Int32} (a0 : Nat) (a1 : Nat) (x2 : Int32) (x3 : Int32) (u : fb_M) (K14 : Int32 → Option Int32) (ha0 : a0 < fb_NT ∧ fb_sh a0 = (5, 4)) (ha1 : a1 < fb_NT ∧ fb_sh a1 = (0, 2)) (hK14 : ∀ (x3 : Int32) ,  K14 x3 = some res → fb_V g RX5 cX5_clashesWith 4 (some .boolean) "clashesWith" (fb_room 1 40 0 0) (fb_Qm g (some (.int res)) fb_NT u 0 0) 0 0 fb_NT u 14 [(0, .ref (fb_b g + a0)), (1, .ref (fb_b g + a1)), (2, .int x2), (3, .int x3)] []) (h : bX5_clashesWith_14 K14 a0 a1 x2 x3 u = some res) : fb_V g RX5 cX5_clashesWith 4 (some .boolean) "clashesWith" (fb_room 1 40 0 0) (fb_Qm g (some (.int res)) fb_NT u 0 0) 0 0 fb_NT u 14 [(0, .ref (fb_b g + a0)), (1, .ref (fb_b g + a1)), (2, .int x2), (3, .int x3)] [] := by
  unfold bX5_clashesWith_14 at h
  refine fb_iload_n (pc := 14) dX5_clashesWith_14 3 rfl ?_
  refine fb_iload_n (pc := 15) dX5_clashesWith_15 2 rfl ?_
  refine fb_icmp_ge (pc := 16) (tgt := 41) h dX5_clashesWith_16 (by decide) (fun h => ?_) (fun h => ?_)
  · refine fb_iload_n (pc := 41) dX5_clashesWith_41 2 rfl ?_
    refine fb_aload_n (pc := 42) dX5_clashesWith_42 0 rfl ?_
    refine fb_getI (pc := 43) dX5_clashesWith_43 lkX5_25 ha0.1 ha0.2 rfl ?_
    refine fb_icmp_eq (pc := 46) (tgt := 60) h dX5_clashesWith_46 (by decide) (fun h => ?_) (fun h => ?_)
    · refine fb_iconst (pc := 60) (v := 1) dX5_clashesWith_60 fb_ki_1 ?_
      refine fb_goto (pc := 61) (tgt := 65) dX5_clashesWith_61 (by decide) ?_
      exact fb_sub [1, 2] rfl (tjX5_clashesWith_65 a1 x2 1 u ha1 h)
    · refine fb_aload_n (pc := 49) dX5_clashesWith_49 0 rfl ?_
      refine fb_bnE h (fun q50 e50 h => fb_gdE h (fun s50 h => ?_))
      refine fb_getR (pc := 50) dX5_clashesWith_50 lkX5_11 ha0.1 ha0.2 (by decide) e50 ?_
      refine fb_iload_n (pc := 53) dX5_clashesWith_53 2 rfl ?_
      refine fb_gdE h (fun i54 h => ?_)
      refine fb_cald (pc := 54) dX5_clashesWith_54 s50.1 (fb_eta s50.2) i54 ?_
      refine fb_bipush (pc := 55) (v := 46) dX5_clashesWith_55 fb_kb_46 ?_
      refine fb_icmp_ne (pc := 57) (tgt := 64) h dX5_clashesWith_57 (by decide) (fun h => ?_) (fun h => ?_)
      · refine fb_iconst (pc := 64) (v := 0) dX5_clashesWith_64 fb_ki_0 ?_
        exact fb_sub [1, 2] rfl (tjX5_clashesWith_65 a1 x2 0 u ha1 h)
      · refine fb_iconst (pc := 60) (v := 1) dX5_clashesWith_60 fb_ki_1 ?_
        refine fb_goto (pc := 61) (tgt := 65) dX5_clashesWith_61 (by decide) ?_
        exact fb_sub [1, 2] rfl (tjX5_clashesWith_65 a1 x2 1 u ha1 h)
  · refine fb_aload_n (pc := 19) dX5_clashesWith_19 0 rfl ?_
    refine fb_bnE h (fun q20 e20 h => fb_gdE h (fun s20 h => ?_))
    refine fb_getR (pc := 20) dX5_clashesWith_20 lkX5_11 ha0.1 ha0.2 (by decide) e20 ?_
    refine fb_iload_n (pc := 23) dX5_clashesWith_23 3 rfl ?_
    refine fb_gdE h (fun i24 h => ?_)
    refine fb_cald (pc := 24) dX5_clashesWith_24 s20.1 (fb_eta s20.2) i24 ?_
    refine fb_aload_n (pc := 25) dX5_clashesWith_25 1 rfl ?_
    refine fb_iload_n (pc := 26) dX5_clashesWith_26 3 rfl ?_
    refine fb_bnE h (fun r27 h27 h => ?_)
    refine fb_cV0v (pc := 27) [.int x3] dX5_clashesWith_27 (mX0_at g u a1 x3 ha1 h27) ymX0_at yiX0_at ha1.1 ha1.2 ylX5_28 rfl (Nat.le_of_ble_eq_true rfl) ⟨Nat.le_of_ble_eq_true rfl, Nat.le_of_ble_eq_true rfl⟩ ⟨Nat.le_of_ble_eq_true rfl, Nat.le_of_ble_eq_true rfl⟩ ?_
    refine fb_icmp_eq (pc := 30) (tgt := 35) h dX5_clashesWith_30 (by decide) (fun h => ?_) (fun h => ?_)
    · refine fb_iinc (pc := 35) (v := 1) (lv' := [(3, .int (x3 + 1)), (0, .ref (fb_b g + a0)), (1, .ref (fb_b g + a1)), (2, .int x2)]) dX5_clashesWith_35 3 rfl fb_ki_1 (by decide) rfl ?_
      refine fb_goto (pc := 38) (tgt := 14) dX5_clashesWith_38 (by decide) ?_
      exact fb_sub [1, 2, 3, 0] rfl (hK14 (x3 + 1) h)
    · refine fb_iconst (pc := 33) (v := 0) dX5_clashesWith_33 fb_ki_0 ?_
      exact fb_zretR (pc := 34) rfl h dX5_clashesWith_34

theorem tgX5_clashesWith_14 {g : fb_G} {res : Int32} (a0 : Nat) (a1 : Nat) (x2 : Int32) (u : fb_M) (ha0 : a0 < fb_NT ∧ fb_sh a0 = (5, 4)) (ha1 : a1 < fb_NT ∧ fb_sh a1 = (0, 2)) : ∀ (fu : Nat) (x3 : Int32) ,  gX5_clashesWith_14 a0 a1 x2 u fu x3 = some res → fb_V g RX5 cX5_clashesWith 4 (some .boolean) "clashesWith" (fb_room 1 40 0 0) (fb_Qm g (some (.int res)) fb_NT u 0 0) 0 0 fb_NT u 14 [(0, .ref (fb_b g + a0)), (1, .ref (fb_b g + a1)), (2, .int x2), (3, .int x3)] [] := by
  intro fu
  induction fu with
  | zero => intro x3 h; exact absurd h (by simp [gX5_clashesWith_14])
  | succ fu ih => intro x3 h; exact tbX5_clashesWith_14 a0 a1 x2 x3 u (gX5_clashesWith_14 a0 a1 x2 u fu) ha0 ha1 ih h
def fX5_clashesWith (u : fb_M) (a0 : Nat) (a1 : Nat) : Option Int32 :=
 ((fX0_length u a1).bind fun r5 => 
  (gX5_clashesWith_14 a0 a1 (if r5 < (fb_I u a0 1) then r5 else (fb_I u a0 1)) u fb_F 0))
set_option maxRecDepth 100000 in
set_option maxHeartbeats 4000000 in
theorem mX5_clashesWith (g : fb_G) (u : fb_M) (a0 : Nat) (a1 : Nat) (ha0 : a0 < fb_NT ∧ fb_sh a0 = (5, 4)) (ha1 : a1 < fb_NT ∧ fb_sh a1 = (0, 2)) {res : Int32} (h : fX5_clashesWith u a0 a1 = some res) : fb_Runs g 1 40 0 0 fb_NT fb_NT yX5_clashesWith cX5_clashesWith 4 (some .boolean) [.ref (fb_b g + a0), .ref (fb_b g + a1)] u (some (.int res)) u := by
  unfold fX5_clashesWith at h
  refine fb_enter (by decide) (Nat.le_of_ble_eq_true rfl) ?_
  show fb_V g RX5 cX5_clashesWith 4 (some .boolean) "clashesWith" (fb_room 1 40 0 0) (fb_Qm g (some (.int res)) fb_NT u 0 0) 0 0 fb_NT u 0 [(0, .ref (fb_b g + a0)), (1, .ref (fb_b g + a1))] []
  refine fb_aload_n (pc := 0) dX5_clashesWith_0 0 rfl ?_
  refine fb_getI (pc := 1) dX5_clashesWith_1 lkX5_25 ha0.1 ha0.2 rfl ?_
  refine fb_aload_n (pc := 4) dX5_clashesWith_4 1 rfl ?_
  refine fb_bnE h (fun r5 h5 h => ?_)
  refine fb_cV0v (pc := 5) [] dX5_clashesWith_5 (mX0_length g u a1 ha1 h5) ymX0_length yiX0_length ha1.1 ha1.2 ylX5_15 rfl (Nat.le_of_ble_eq_true rfl) ⟨Nat.le_of_ble_eq_true rfl, Nat.le_of_ble_eq_true rfl⟩ ⟨Nat.le_of_ble_eq_true rfl, Nat.le_of_ble_eq_true rfl⟩ ?_
  refine fb_min (pc := 8) dX5_clashesWith_8 ywX5_19 min_w1 min_w2 min_w3 (Nat.le_of_ble_eq_true rfl) ⟨Nat.le_of_ble_eq_true rfl, Nat.le_of_ble_eq_true rfl⟩ ⟨Nat.le_of_ble_eq_true rfl, Nat.le_of_ble_eq_true rfl⟩ ?_
  refine fb_istore_n (pc := 11) (lv' := [(2, .int (if r5 < (fb_I u a0 1) then r5 else (fb_I u a0 1))), (0, .ref (fb_b g + a0)), (1, .ref (fb_b g + a1))]) dX5_clashesWith_11 rfl (by decide) rfl ?_
  refine fb_iconst (pc := 12) (v := 0) dX5_clashesWith_12 fb_ki_0 ?_
  refine fb_istore_n (pc := 13) (lv' := [(3, .int 0), (2, .int (if r5 < (fb_I u a0 1) then r5 else (fb_I u a0 1))), (0, .ref (fb_b g + a0)), (1, .ref (fb_b g + a1))]) dX5_clashesWith_13 rfl (by decide) rfl ?_
  exact fb_sub [2, 3, 1, 0] rfl (tgX5_clashesWith_14 a0 a1 (if r5 < (fb_I u a0 1) then r5 else (fb_I u a0 1)) u ha0 ha1 fb_F 0 h)

theorem dX6_clashWith_0 : decode cX6_clashWith 0 = .ok (.iconst 0, 1) := by decide +kernel
theorem dX6_clashWith_1 : decode cX6_clashWith 1 = .ok (.istore_n 2, 1) := by decide +kernel
theorem dX6_clashWith_2 : decode cX6_clashWith 2 = .ok (.iload_n 2, 1) := by decide +kernel
theorem dX6_clashWith_3 : decode cX6_clashWith 3 = .ok (.aload_n 0, 1) := by decide +kernel
theorem dX6_clashWith_4 : decode cX6_clashWith 4 = .ok (.getfield 16, 3) := by decide +kernel
theorem dX6_clashWith_7 : decode cX6_clashWith 7 = .ok (.if_icmp .ge 24, 3) := by decide +kernel
theorem dX6_clashWith_10 : decode cX6_clashWith 10 = .ok (.aload_n 0, 1) := by decide +kernel
theorem dX6_clashWith_11 : decode cX6_clashWith 11 = .ok (.getfield 11, 3) := by decide +kernel
theorem dX6_clashWith_14 : decode cX6_clashWith 14 = .ok (.iload_n 2, 1) := by decide +kernel
theorem dX6_clashWith_15 : decode cX6_clashWith 15 = .ok (.aaload, 1) := by decide +kernel
theorem dX6_clashWith_16 : decode cX6_clashWith 16 = .ok (.aload_n 1, 1) := by decide +kernel
theorem dX6_clashWith_17 : decode cX6_clashWith 17 = .ok (.invokevirtual 20, 3) := by decide +kernel
theorem dX6_clashWith_20 : decode cX6_clashWith 20 = .ok (.ifCond .eq 5, 3) := by decide +kernel
theorem dX6_clashWith_23 : decode cX6_clashWith 23 = .ok (.iconst 1, 1) := by decide +kernel
theorem dX6_clashWith_24 : decode cX6_clashWith 24 = .ok (.ireturn, 1) := by decide +kernel
theorem dX6_clashWith_25 : decode cX6_clashWith 25 = .ok (.iinc 2 1, 3) := by decide +kernel
theorem dX6_clashWith_28 : decode cX6_clashWith 28 = .ok (.goto (-26), 3) := by decide +kernel
theorem dX6_clashWith_31 : decode cX6_clashWith 31 = .ok (.iconst 0, 1) := by decide +kernel
theorem dX6_clashWith_32 : decode cX6_clashWith 32 = .ok (.ireturn, 1) := by decide +kernel
def bX6_clashWith_2 (K2 : Int32 → Option Int32) (a0 : Nat) (a1 : Nat) (x2 : Int32) (u : fb_M) : Option Int32 :=
 (if (fb_I u a0 1) ≤ x2 then (some 0)
  else ((fb_R u a0 0).bind fun q11 => fb_gd (q11 < fb_NT ∧ (fb_sh q11).1 = 104) 
   ((fb_gd (¬ (x2 < 0 ∨ (fb_sh q11).2 ≤ x2.toNatClampNeg)) 
   ((fb_R u q11 x2.toNatClampNeg).bind fun q15 => fb_gd (q15 < fb_NT ∧ fb_sh q15 = (5, 4)) 
   (((fX5_clashesWith u q15 a1).bind fun r17 => 
   (if r17 = 0 then (K2 (x2 + 1))
   else (some 1)))))))))
def gX6_clashWith_2 (a0 : Nat) (a1 : Nat) (u : fb_M) : Nat → Int32 → Option Int32
 | 0 => fun _ => none
 | fu + 1 => fun x2 => bX6_clashWith_2 (gX6_clashWith_2 a0 a1 u fu) a0 a1 x2 u
set_option maxRecDepth 100000 in
set_option maxHeartbeats 4000000 in
theorem tbX6_clashWith_2 {g : fb_G} {res : Int32} (a0 : Nat) (a1 : Nat) (x2 : Int32) (u : fb_M) (K2 : Int32 → Option Int32) (ha0 : a0 < fb_NT ∧ fb_sh a0 = (6, 2)) (ha1 : a1 < fb_NT ∧ fb_sh a1 = (0, 2)) (hK2 : ∀ (x2 : Int32) ,  K2 x2 = some res → fb_V g RX6 cX6_clashWith 3 (some .boolean) "clashWith" (fb_room 2 63 0 0) (fb_Qm g (some (.int res)) fb_NT u 0 0) 0 0 fb_NT u 2 [(0, .ref (fb_b g + a0)), (1, .ref (fb_b g + a1)), (2, .int x2)] []) (h : bX6_clashWith_2 K2 a0 a1 x2 u = some res) : fb_V g RX6 cX6_clashWith 3 (some .boolean) "clashWith" (fb_room 2 63 0 0) (fb_Qm g (some (.int res)) fb_NT u 0 0) 0 0 fb_NT u 2 [(0, .ref (fb_b g + a0)), (1, .ref (fb_b g + a1)), (2, .int x2)] [] := by
  unfold bX6_clashWith_2 at h
  refine fb_iload_n (pc := 2) dX6_clashWith_2 2 rfl ?_
  refine fb_aload_n (pc := 3) dX6_clashWith_3 0 rfl ?_
  refine fb_getI (pc := 4) dX6_clashWith_4 lkX6_16 ha0.1 ha0.2 rfl ?_
  refine fb_icmp_ge (pc := 7) (tgt := 31) h dX6_clashWith_7 (by decide) (fun h => ?_) (fun h => ?_)
  · refine fb_iconst (pc := 31) (v := 0) dX6_clashWith_31 fb_ki_0 ?_
    exact fb_zretR (pc := 32) rfl h dX6_clashWith_32
  · refine fb_aload_n (pc := 10) dX6_clashWith_10 0 rfl ?_
    refine fb_bnE h (fun q11 e11 h => fb_gdE h (fun s11 h => ?_))
    refine fb_getR (pc := 11) dX6_clashWith_11 lkX6_11 ha0.1 ha0.2 (by decide) e11 ?_
    refine fb_iload_n (pc := 14) dX6_clashWith_14 2 rfl ?_
    refine fb_gdE h (fun i15 h => fb_bnE h (fun q15 e15 h => fb_gdE h (fun s15 h => ?_)))
    refine fb_aald (pc := 15) (t := 4) dX6_clashWith_15 s11.1 (fb_eta s11.2) ⟨by decide, by decide, rfl⟩ i15 e15 ?_
    refine fb_aload_n (pc := 16) dX6_clashWith_16 1 rfl ?_
    refine fb_bnE h (fun r17 h17 h => ?_)
    refine fb_cV0v (pc := 17) [.ref (fb_b g + a1)] dX6_clashWith_17 (mX5_clashesWith g u q15 a1 s15 ha1 h17) ymX5_clashesWith yiX5_clashesWith s15.1 s15.2 ylX6_20 rfl (Nat.le_of_ble_eq_true rfl) ⟨Nat.le_of_ble_eq_true rfl, Nat.le_of_ble_eq_true rfl⟩ ⟨Nat.le_of_ble_eq_true rfl, Nat.le_of_ble_eq_true rfl⟩ ?_
    refine fb_if_eq (pc := 20) (tgt := 25) h dX6_clashWith_20 (by decide) (fun h => ?_) (fun h => ?_)
    · refine fb_iinc (pc := 25) (v := 1) (lv' := [(2, .int (x2 + 1)), (0, .ref (fb_b g + a0)), (1, .ref (fb_b g + a1))]) dX6_clashWith_25 2 rfl fb_ki_1 (by decide) rfl ?_
      refine fb_goto (pc := 28) (tgt := 2) dX6_clashWith_28 (by decide) ?_
      exact fb_sub [1, 2, 0] rfl (hK2 (x2 + 1) h)
    · refine fb_iconst (pc := 23) (v := 1) dX6_clashWith_23 fb_ki_1 ?_
      exact fb_zretR (pc := 24) rfl h dX6_clashWith_24

theorem tgX6_clashWith_2 {g : fb_G} {res : Int32} (a0 : Nat) (a1 : Nat) (u : fb_M) (ha0 : a0 < fb_NT ∧ fb_sh a0 = (6, 2)) (ha1 : a1 < fb_NT ∧ fb_sh a1 = (0, 2)) : ∀ (fu : Nat) (x2 : Int32) ,  gX6_clashWith_2 a0 a1 u fu x2 = some res → fb_V g RX6 cX6_clashWith 3 (some .boolean) "clashWith" (fb_room 2 63 0 0) (fb_Qm g (some (.int res)) fb_NT u 0 0) 0 0 fb_NT u 2 [(0, .ref (fb_b g + a0)), (1, .ref (fb_b g + a1)), (2, .int x2)] [] := by
  intro fu
  induction fu with
  | zero => intro x2 h; exact absurd h (by simp [gX6_clashWith_2])
  | succ fu ih => intro x2 h; exact tbX6_clashWith_2 a0 a1 x2 u (gX6_clashWith_2 a0 a1 u fu) ha0 ha1 ih h
def fX6_clashWith (u : fb_M) (a0 : Nat) (a1 : Nat) : Option Int32 :=
 (gX6_clashWith_2 a0 a1 u fb_F 0)
set_option maxRecDepth 100000 in
set_option maxHeartbeats 4000000 in
theorem mX6_clashWith (g : fb_G) (u : fb_M) (a0 : Nat) (a1 : Nat) (ha0 : a0 < fb_NT ∧ fb_sh a0 = (6, 2)) (ha1 : a1 < fb_NT ∧ fb_sh a1 = (0, 2)) {res : Int32} (h : fX6_clashWith u a0 a1 = some res) : fb_Runs g 2 63 0 0 fb_NT fb_NT yX6_clashWith cX6_clashWith 3 (some .boolean) [.ref (fb_b g + a0), .ref (fb_b g + a1)] u (some (.int res)) u := by
  unfold fX6_clashWith at h
  refine fb_enter (by decide) (Nat.le_of_ble_eq_true rfl) ?_
  show fb_V g RX6 cX6_clashWith 3 (some .boolean) "clashWith" (fb_room 2 63 0 0) (fb_Qm g (some (.int res)) fb_NT u 0 0) 0 0 fb_NT u 0 [(0, .ref (fb_b g + a0)), (1, .ref (fb_b g + a1))] []
  refine fb_iconst (pc := 0) (v := 0) dX6_clashWith_0 fb_ki_0 ?_
  refine fb_istore_n (pc := 1) (lv' := [(2, .int 0), (0, .ref (fb_b g + a0)), (1, .ref (fb_b g + a1))]) dX6_clashWith_1 rfl (by decide) rfl ?_
  exact fb_sub [1, 2, 0] rfl (tgX6_clashWith_2 a0 a1 u ha0 ha1 fb_F 0 h)

theorem dX5_nameLength_0 : decode cX5_nameLength 0 = .ok (.iload_n 1, 1) := by decide +kernel
theorem dX5_nameLength_1 : decode cX5_nameLength 1 = .ok (.istore_n 2, 1) := by decide +kernel
theorem dX5_nameLength_2 : decode cX5_nameLength 2 = .ok (.iload_n 2, 1) := by decide +kernel
theorem dX5_nameLength_3 : decode cX5_nameLength 3 = .ok (.aload_n 0, 1) := by decide +kernel
theorem dX5_nameLength_4 : decode cX5_nameLength 4 = .ok (.getfield 25, 3) := by decide +kernel
theorem dX5_nameLength_7 : decode cX5_nameLength 7 = .ok (.if_icmp .ge 20, 3) := by decide +kernel
theorem dX5_nameLength_10 : decode cX5_nameLength 10 = .ok (.aload_n 0, 1) := by decide +kernel
theorem dX5_nameLength_11 : decode cX5_nameLength 11 = .ok (.getfield 11, 3) := by decide +kernel
theorem dX5_nameLength_14 : decode cX5_nameLength 14 = .ok (.iload_n 2, 1) := by decide +kernel
theorem dX5_nameLength_15 : decode cX5_nameLength 15 = .ok (.caload, 1) := by decide +kernel
theorem dX5_nameLength_16 : decode cX5_nameLength 16 = .ok (.bipush 46, 2) := by decide +kernel
theorem dX5_nameLength_18 : decode cX5_nameLength 18 = .ok (.if_icmp .eq 9, 3) := by decide +kernel
theorem dX5_nameLength_21 : decode cX5_nameLength 21 = .ok (.iinc 2 1, 3) := by decide +kernel
theorem dX5_nameLength_24 : decode cX5_nameLength 24 = .ok (.goto (-22), 3) := by decide +kernel
theorem dX5_nameLength_27 : decode cX5_nameLength 27 = .ok (.iload_n 2, 1) := by decide +kernel
theorem dX5_nameLength_28 : decode cX5_nameLength 28 = .ok (.iload_n 1, 1) := by decide +kernel
theorem dX5_nameLength_29 : decode cX5_nameLength 29 = .ok (.isub, 1) := by decide +kernel
theorem dX5_nameLength_30 : decode cX5_nameLength 30 = .ok (.ireturn, 1) := by decide +kernel
def bX5_nameLength_2 (K2 : Int32 → Option Int32) (a0 : Nat) (x1 : Int32) (x2 : Int32) (u : fb_M) : Option Int32 :=
 (if (fb_I u a0 1) ≤ x2 then (some (x2 - x1))
  else ((fb_R u a0 0).bind fun q11 => fb_gd (q11 < fb_NT ∧ (fb_sh q11).1 = 101) 
   ((fb_gd (¬ (x2 < 0 ∨ (fb_sh q11).2 ≤ x2.toNatClampNeg)) 
   (if (fb_I u q11 x2.toNatClampNeg) = 46 then (some (x2 - x1))
   else (K2 (x2 + 1)))))))
def gX5_nameLength_2 (a0 : Nat) (x1 : Int32) (u : fb_M) : Nat → Int32 → Option Int32
 | 0 => fun _ => none
 | fu + 1 => fun x2 => bX5_nameLength_2 (gX5_nameLength_2 a0 x1 u fu) a0 x1 x2 u
set_option maxRecDepth 100000 in
set_option maxHeartbeats 4000000 in
theorem tbX5_nameLength_2 {g : fb_G} {res : Int32} (a0 : Nat) (x1 : Int32) (x2 : Int32) (u : fb_M) (K2 : Int32 → Option Int32) (ha0 : a0 < fb_NT ∧ fb_sh a0 = (5, 4)) (hK2 : ∀ (x2 : Int32) ,  K2 x2 = some res → fb_V g RX5 cX5_nameLength 3 (some .int) "nameLength" (fb_room 0 0 0 0) (fb_Qm g (some (.int res)) fb_NT u 0 0) 0 0 fb_NT u 2 [(0, .ref (fb_b g + a0)), (1, .int x1), (2, .int x2)] []) (h : bX5_nameLength_2 K2 a0 x1 x2 u = some res) : fb_V g RX5 cX5_nameLength 3 (some .int) "nameLength" (fb_room 0 0 0 0) (fb_Qm g (some (.int res)) fb_NT u 0 0) 0 0 fb_NT u 2 [(0, .ref (fb_b g + a0)), (1, .int x1), (2, .int x2)] [] := by
  unfold bX5_nameLength_2 at h
  refine fb_iload_n (pc := 2) dX5_nameLength_2 2 rfl ?_
  refine fb_aload_n (pc := 3) dX5_nameLength_3 0 rfl ?_
  refine fb_getI (pc := 4) dX5_nameLength_4 lkX5_25 ha0.1 ha0.2 rfl ?_
  refine fb_icmp_ge (pc := 7) (tgt := 27) h dX5_nameLength_7 (by decide) (fun h => ?_) (fun h => ?_)
  · refine fb_iload_n (pc := 27) dX5_nameLength_27 2 rfl ?_
    refine fb_iload_n (pc := 28) dX5_nameLength_28 1 rfl ?_
    refine fb_isub (pc := 29) dX5_nameLength_29 ?_
    exact fb_iretR (pc := 30) h dX5_nameLength_30
  · refine fb_aload_n (pc := 10) dX5_nameLength_10 0 rfl ?_
    refine fb_bnE h (fun q11 e11 h => fb_gdE h (fun s11 h => ?_))
    refine fb_getR (pc := 11) dX5_nameLength_11 lkX5_11 ha0.1 ha0.2 (by decide) e11 ?_
    refine fb_iload_n (pc := 14) dX5_nameLength_14 2 rfl ?_
    refine fb_gdE h (fun i15 h => ?_)
    refine fb_cald (pc := 15) dX5_nameLength_15 s11.1 (fb_eta s11.2) i15 ?_
    refine fb_bipush (pc := 16) (v := 46) dX5_nameLength_16 fb_kb_46 ?_
    refine fb_icmp_eq (pc := 18) (tgt := 27) h dX5_nameLength_18 (by decide) (fun h => ?_) (fun h => ?_)
    · refine fb_iload_n (pc := 27) dX5_nameLength_27 2 rfl ?_
      refine fb_iload_n (pc := 28) dX5_nameLength_28 1 rfl ?_
      refine fb_isub (pc := 29) dX5_nameLength_29 ?_
      exact fb_iretR (pc := 30) h dX5_nameLength_30
    · refine fb_iinc (pc := 21) (v := 1) (lv' := [(2, .int (x2 + 1)), (0, .ref (fb_b g + a0)), (1, .int x1)]) dX5_nameLength_21 2 rfl fb_ki_1 (by decide) rfl ?_
      refine fb_goto (pc := 24) (tgt := 2) dX5_nameLength_24 (by decide) ?_
      exact fb_sub [1, 2, 0] rfl (hK2 (x2 + 1) h)

theorem tgX5_nameLength_2 {g : fb_G} {res : Int32} (a0 : Nat) (x1 : Int32) (u : fb_M) (ha0 : a0 < fb_NT ∧ fb_sh a0 = (5, 4)) : ∀ (fu : Nat) (x2 : Int32) ,  gX5_nameLength_2 a0 x1 u fu x2 = some res → fb_V g RX5 cX5_nameLength 3 (some .int) "nameLength" (fb_room 0 0 0 0) (fb_Qm g (some (.int res)) fb_NT u 0 0) 0 0 fb_NT u 2 [(0, .ref (fb_b g + a0)), (1, .int x1), (2, .int x2)] [] := by
  intro fu
  induction fu with
  | zero => intro x2 h; exact absurd h (by simp [gX5_nameLength_2])
  | succ fu ih => intro x2 h; exact tbX5_nameLength_2 a0 x1 x2 u (gX5_nameLength_2 a0 x1 u fu) ha0 ih h
def fX5_nameLength (u : fb_M) (a0 : Nat) (x1 : Int32) : Option Int32 :=
 (gX5_nameLength_2 a0 x1 u fb_F x1)
set_option maxRecDepth 100000 in
set_option maxHeartbeats 4000000 in
theorem mX5_nameLength (g : fb_G) (u : fb_M) (a0 : Nat) (x1 : Int32) (ha0 : a0 < fb_NT ∧ fb_sh a0 = (5, 4)) {res : Int32} (h : fX5_nameLength u a0 x1 = some res) : fb_Runs g 0 0 0 0 fb_NT fb_NT yX5_nameLength cX5_nameLength 3 (some .int) [.ref (fb_b g + a0), .int x1] u (some (.int res)) u := by
  unfold fX5_nameLength at h
  refine fb_enter (by decide) (Nat.le_of_ble_eq_true rfl) ?_
  show fb_V g RX5 cX5_nameLength 3 (some .int) "nameLength" (fb_room 0 0 0 0) (fb_Qm g (some (.int res)) fb_NT u 0 0) 0 0 fb_NT u 0 [(0, .ref (fb_b g + a0)), (1, .int x1)] []
  refine fb_iload_n (pc := 0) dX5_nameLength_0 1 rfl ?_
  refine fb_istore_n (pc := 1) (lv' := [(2, .int x1), (0, .ref (fb_b g + a0)), (1, .int x1)]) dX5_nameLength_1 rfl (by decide) rfl ?_
  exact fb_sub [1, 2, 0] rfl (tgX5_nameLength_2 a0 x1 u ha0 fb_F x1 h)

theorem dX5_setPath_0 : decode cX5_setPath 0 = .ok (.aload_n 0, 1) := by decide +kernel
theorem dX5_setPath_1 : decode cX5_setPath 1 = .ok (.aload_n 1, 1) := by decide +kernel
theorem dX5_setPath_2 : decode cX5_setPath 2 = .ok (.invokevirtual 15, 3) := by decide +kernel
theorem dX5_setPath_5 : decode cX5_setPath 5 = .ok (.bipush 38, 2) := by decide +kernel
theorem dX5_setPath_7 : decode cX5_setPath 7 = .ok (.invokestatic 19, 3) := by decide +kernel
theorem dX5_setPath_10 : decode cX5_setPath 10 = .ok (.putfield 25, 3) := by decide +kernel
theorem dX5_setPath_13 : decode cX5_setPath 13 = .ok (.iconst 0, 1) := by decide +kernel
theorem dX5_setPath_14 : decode cX5_setPath 14 = .ok (.istore_n 2, 1) := by decide +kernel
theorem dX5_setPath_15 : decode cX5_setPath 15 = .ok (.iload_n 2, 1) := by decide +kernel
theorem dX5_setPath_16 : decode cX5_setPath 16 = .ok (.aload_n 0, 1) := by decide +kernel
theorem dX5_setPath_17 : decode cX5_setPath 17 = .ok (.getfield 25, 3) := by decide +kernel
theorem dX5_setPath_20 : decode cX5_setPath 20 = .ok (.if_icmp .ge 20, 3) := by decide +kernel
theorem dX5_setPath_23 : decode cX5_setPath 23 = .ok (.aload_n 0, 1) := by decide +kernel
theorem dX5_setPath_24 : decode cX5_setPath 24 = .ok (.getfield 11, 3) := by decide +kernel
theorem dX5_setPath_27 : decode cX5_setPath 27 = .ok (.iload_n 2, 1) := by decide +kernel
theorem dX5_setPath_28 : decode cX5_setPath 28 = .ok (.aload_n 1, 1) := by decide +kernel
theorem dX5_setPath_29 : decode cX5_setPath 29 = .ok (.iload_n 2, 1) := by decide +kernel
theorem dX5_setPath_30 : decode cX5_setPath 30 = .ok (.invokevirtual 28, 3) := by decide +kernel
theorem dX5_setPath_33 : decode cX5_setPath 33 = .ok (.castore, 1) := by decide +kernel
theorem dX5_setPath_34 : decode cX5_setPath 34 = .ok (.iinc 2 1, 3) := by decide +kernel
theorem dX5_setPath_37 : decode cX5_setPath 37 = .ok (.goto (-22), 3) := by decide +kernel
theorem dX5_setPath_40 : decode cX5_setPath 40 = .ok (.aload_n 0, 1) := by decide +kernel
theorem dX5_setPath_41 : decode cX5_setPath 41 = .ok (.aload_n 0, 1) := by decide +kernel
theorem dX5_setPath_42 : decode cX5_setPath 42 = .ok (.iconst 0, 1) := by decide +kernel
theorem dX5_setPath_43 : decode cX5_setPath 43 = .ok (.invokevirtual 32, 3) := by decide +kernel
theorem dX5_setPath_46 : decode cX5_setPath 46 = .ok (.putfield 36, 3) := by decide +kernel
theorem dX5_setPath_49 : decode cX5_setPath 49 = .ok (.aload_n 0, 1) := by decide +kernel
theorem dX5_setPath_50 : decode cX5_setPath 50 = .ok (.aload_n 0, 1) := by decide +kernel
theorem dX5_setPath_51 : decode cX5_setPath 51 = .ok (.aload_n 0, 1) := by decide +kernel
theorem dX5_setPath_52 : decode cX5_setPath 52 = .ok (.getfield 36, 3) := by decide +kernel
theorem dX5_setPath_55 : decode cX5_setPath 55 = .ok (.iconst 1, 1) := by decide +kernel
theorem dX5_setPath_56 : decode cX5_setPath 56 = .ok (.iadd, 1) := by decide +kernel
theorem dX5_setPath_57 : decode cX5_setPath 57 = .ok (.invokevirtual 32, 3) := by decide +kernel
theorem dX5_setPath_60 : decode cX5_setPath 60 = .ok (.putfield 39, 3) := by decide +kernel
theorem dX5_setPath_63 : decode cX5_setPath 63 = .ok (.return_, 1) := by decide +kernel
def bX5_setPath_15 (K15 : Int32 → fb_M → Option fb_M) (a0 : Nat) (a1 : Nat) (x2 : Int32) (u : fb_M) : Option fb_M :=
 (if (fb_I u a0 1) ≤ x2 then ((fX5_nameLength u a0 0).bind fun r43 => 
   ((fX5_nameLength (fb_wI u a0 2 r43) a0 ((fb_I (fb_wI u a0 2 r43) a0 2) + 1)).bind fun r57 => 
   (some (fb_wI (fb_wI u a0 2 r43) a0 3 r57))))
  else ((fb_R u a0 0).bind fun q24 => fb_gd (q24 < fb_NT ∧ (fb_sh q24).1 = 101) 
   (((fX0_at u a1 x2).bind fun r30 => 
   (fb_gd (¬ (x2 < 0 ∨ (fb_sh q24).2 ≤ x2.toNatClampNeg)) 
   (K15 (x2 + 1) (fb_wI u q24 x2.toNatClampNeg (vp_nar .char r30))))))))
def gX5_setPath_15 (a0 : Nat) (a1 : Nat) : Nat → Int32 → fb_M → Option fb_M
 | 0 => fun _ _ => none
 | fu + 1 => fun x2 u => bX5_setPath_15 (gX5_setPath_15 a0 a1 fu) a0 a1 x2 u
set_option maxRecDepth 100000 in
set_option maxHeartbeats 4000000 in
theorem tbX5_setPath_15 {g : fb_G} {res : fb_M} (a0 : Nat) (a1 : Nat) (x2 : Int32) (u : fb_M) (K15 : Int32 → fb_M → Option fb_M) (ha0 : a0 < fb_NT ∧ fb_sh a0 = (5, 4)) (ha1 : a1 < fb_NT ∧ fb_sh a1 = (0, 2)) (hK15 : ∀ (x2 : Int32) (u : fb_M) ,  K15 x2 u = some res → fb_V g RX5 cX5_setPath 3 none "setPath" (fb_room 1 40 0 0) (fb_Qm g none fb_NT res 0 0) 0 0 fb_NT u 15 [(0, .ref (fb_b g + a0)), (1, .ref (fb_b g + a1)), (2, .int x2)] []) (h : bX5_setPath_15 K15 a0 a1 x2 u = some res) : fb_V g RX5 cX5_setPath 3 none "setPath" (fb_room 1 40 0 0) (fb_Qm g none fb_NT res 0 0) 0 0 fb_NT u 15 [(0, .ref (fb_b g + a0)), (1, .ref (fb_b g + a1)), (2, .int x2)] [] := by
  unfold bX5_setPath_15 at h
  refine fb_iload_n (pc := 15) dX5_setPath_15 2 rfl ?_
  refine fb_aload_n (pc := 16) dX5_setPath_16 0 rfl ?_
  refine fb_getI (pc := 17) dX5_setPath_17 lkX5_25 ha0.1 ha0.2 rfl ?_
  refine fb_icmp_ge (pc := 20) (tgt := 40) h dX5_setPath_20 (by decide) (fun h => ?_) (fun h => ?_)
  · refine fb_aload_n (pc := 40) dX5_setPath_40 0 rfl ?_
    refine fb_aload_n (pc := 41) dX5_setPath_41 0 rfl ?_
    refine fb_iconst (pc := 42) (v := 0) dX5_setPath_42 fb_ki_0 ?_
    refine fb_bnE h (fun r43 h43 h => ?_)
    refine fb_cV0v (pc := 43) [.int 0] dX5_setPath_43 (mX5_nameLength g u a0 0 ha0 h43) ymX5_nameLength yiX5_nameLength ha0.1 ha0.2 ylX5_32 rfl (Nat.le_of_ble_eq_true rfl) ⟨Nat.le_of_ble_eq_true rfl, Nat.le_of_ble_eq_true rfl⟩ ⟨Nat.le_of_ble_eq_true rfl, Nat.le_of_ble_eq_true rfl⟩ ?_
    refine fb_putI (pc := 46) dX5_setPath_46 lkX5_36 ly_5_2 ha0.1 ha0.2 rfl rfl rfl ?_
    refine fb_aload_n (pc := 49) dX5_setPath_49 0 rfl ?_
    refine fb_aload_n (pc := 50) dX5_setPath_50 0 rfl ?_
    refine fb_aload_n (pc := 51) dX5_setPath_51 0 rfl ?_
    refine fb_getI (pc := 52) dX5_setPath_52 lkX5_36 ha0.1 ha0.2 rfl ?_
    refine fb_iconst (pc := 55) (v := 1) dX5_setPath_55 fb_ki_1 ?_
    refine fb_iadd (pc := 56) dX5_setPath_56 ?_
    refine fb_bnE h (fun r57 h57 h => ?_)
    refine fb_cV0v (pc := 57) [.int ((fb_I (fb_wI u a0 2 r43) a0 2) + 1)] dX5_setPath_57 (mX5_nameLength g (fb_wI u a0 2 r43) a0 ((fb_I (fb_wI u a0 2 r43) a0 2) + 1) ha0 h57) ymX5_nameLength yiX5_nameLength ha0.1 ha0.2 ylX5_32 rfl (Nat.le_of_ble_eq_true rfl) ⟨Nat.le_of_ble_eq_true rfl, Nat.le_of_ble_eq_true rfl⟩ ⟨Nat.le_of_ble_eq_true rfl, Nat.le_of_ble_eq_true rfl⟩ ?_
    refine fb_putI (pc := 60) dX5_setPath_60 lkX5_39 ly_5_3 ha0.1 ha0.2 rfl rfl rfl ?_
    exact fb_vretM (pc := 63) h dX5_setPath_63
  · refine fb_aload_n (pc := 23) dX5_setPath_23 0 rfl ?_
    refine fb_bnE h (fun q24 e24 h => fb_gdE h (fun s24 h => ?_))
    refine fb_getR (pc := 24) dX5_setPath_24 lkX5_11 ha0.1 ha0.2 (by decide) e24 ?_
    refine fb_iload_n (pc := 27) dX5_setPath_27 2 rfl ?_
    refine fb_aload_n (pc := 28) dX5_setPath_28 1 rfl ?_
    refine fb_iload_n (pc := 29) dX5_setPath_29 2 rfl ?_
    refine fb_bnE h (fun r30 h30 h => ?_)
    refine fb_cV0v (pc := 30) [.int x2] dX5_setPath_30 (mX0_at g u a1 x2 ha1 h30) ymX0_at yiX0_at ha1.1 ha1.2 ylX5_28 rfl (Nat.le_of_ble_eq_true rfl) ⟨Nat.le_of_ble_eq_true rfl, Nat.le_of_ble_eq_true rfl⟩ ⟨Nat.le_of_ble_eq_true rfl, Nat.le_of_ble_eq_true rfl⟩ ?_
    refine fb_gdE h (fun i33 h => ?_)
    refine fb_cast (pc := 33) dX5_setPath_33 s24.1 (fb_eta s24.2) i33 ?_
    refine fb_iinc (pc := 34) (v := 1) (lv' := [(2, .int (x2 + 1)), (0, .ref (fb_b g + a0)), (1, .ref (fb_b g + a1))]) dX5_setPath_34 2 rfl fb_ki_1 (by decide) rfl ?_
    refine fb_goto (pc := 37) (tgt := 15) dX5_setPath_37 (by decide) ?_
    exact fb_sub [1, 2, 0] rfl (hK15 (x2 + 1) (fb_wI u q24 x2.toNatClampNeg (vp_nar .char r30)) h)

theorem tgX5_setPath_15 {g : fb_G} {res : fb_M} (a0 : Nat) (a1 : Nat) (ha0 : a0 < fb_NT ∧ fb_sh a0 = (5, 4)) (ha1 : a1 < fb_NT ∧ fb_sh a1 = (0, 2)) : ∀ (fu : Nat) (x2 : Int32) (u : fb_M) ,  gX5_setPath_15 a0 a1 fu x2 u = some res → fb_V g RX5 cX5_setPath 3 none "setPath" (fb_room 1 40 0 0) (fb_Qm g none fb_NT res 0 0) 0 0 fb_NT u 15 [(0, .ref (fb_b g + a0)), (1, .ref (fb_b g + a1)), (2, .int x2)] [] := by
  intro fu
  induction fu with
  | zero => intro x2 u h; exact absurd h (by simp [gX5_setPath_15])
  | succ fu ih => intro x2 u h; exact tbX5_setPath_15 a0 a1 x2 u (gX5_setPath_15 a0 a1 fu) ha0 ha1 ih h
def fX5_setPath (u : fb_M) (a0 : Nat) (a1 : Nat) : Option fb_M :=
 ((fX0_length u a1).bind fun r2 => 
  (gX5_setPath_15 a0 a1 fb_F 0 (fb_wI u a0 1 (if 38 < r2 then 38 else r2))))
set_option maxRecDepth 100000 in
set_option maxHeartbeats 4000000 in
theorem mX5_setPath (g : fb_G) (u : fb_M) (a0 : Nat) (a1 : Nat) (ha0 : a0 < fb_NT ∧ fb_sh a0 = (5, 4)) (ha1 : a1 < fb_NT ∧ fb_sh a1 = (0, 2)) {res : fb_M} (h : fX5_setPath u a0 a1 = some res) : fb_Runs g 1 40 0 0 fb_NT fb_NT yX5_setPath cX5_setPath 3 none [.ref (fb_b g + a0), .ref (fb_b g + a1)] u none res := by
  unfold fX5_setPath at h
  refine fb_enter (by decide) (Nat.le_of_ble_eq_true rfl) ?_
  show fb_V g RX5 cX5_setPath 3 none "setPath" (fb_room 1 40 0 0) (fb_Qm g none fb_NT res 0 0) 0 0 fb_NT u 0 [(0, .ref (fb_b g + a0)), (1, .ref (fb_b g + a1))] []
  refine fb_aload_n (pc := 0) dX5_setPath_0 0 rfl ?_
  refine fb_aload_n (pc := 1) dX5_setPath_1 1 rfl ?_
  refine fb_bnE h (fun r2 h2 h => ?_)
  refine fb_cV0v (pc := 2) [] dX5_setPath_2 (mX0_length g u a1 ha1 h2) ymX0_length yiX0_length ha1.1 ha1.2 ylX5_15 rfl (Nat.le_of_ble_eq_true rfl) ⟨Nat.le_of_ble_eq_true rfl, Nat.le_of_ble_eq_true rfl⟩ ⟨Nat.le_of_ble_eq_true rfl, Nat.le_of_ble_eq_true rfl⟩ ?_
  refine fb_bipush (pc := 5) (v := 38) dX5_setPath_5 fb_kb_38 ?_
  refine fb_min (pc := 7) dX5_setPath_7 ywX5_19 min_w1 min_w2 min_w3 (Nat.le_of_ble_eq_true rfl) ⟨Nat.le_of_ble_eq_true rfl, Nat.le_of_ble_eq_true rfl⟩ ⟨Nat.le_of_ble_eq_true rfl, Nat.le_of_ble_eq_true rfl⟩ ?_
  refine fb_putI (pc := 10) dX5_setPath_10 lkX5_25 ly_5_1 ha0.1 ha0.2 rfl rfl rfl ?_
  refine fb_iconst (pc := 13) (v := 0) dX5_setPath_13 fb_ki_0 ?_
  refine fb_istore_n (pc := 14) (lv' := [(2, .int 0), (0, .ref (fb_b g + a0)), (1, .ref (fb_b g + a1))]) dX5_setPath_14 rfl (by decide) rfl ?_
  exact fb_sub [1, 2, 0] rfl (tgX5_setPath_15 a0 a1 ha0 ha1 fb_F 0 (fb_wI u a0 1 (if 38 < r2 then 38 else r2)) h)

theorem dX6_add_0 : decode cX6_add 0 = .ok (.aload_n 0, 1) := by decide +kernel
theorem dX6_add_1 : decode cX6_add 1 = .ok (.getfield 16, 3) := by decide +kernel
theorem dX6_add_4 : decode cX6_add 4 = .ok (.bipush 8, 2) := by decide +kernel
theorem dX6_add_6 : decode cX6_add 6 = .ok (.if_icmp .lt 5, 3) := by decide +kernel
theorem dX6_add_9 : decode cX6_add 9 = .ok (.iconst (-1), 1) := by decide +kernel
theorem dX6_add_10 : decode cX6_add 10 = .ok (.ireturn, 1) := by decide +kernel
theorem dX6_add_11 : decode cX6_add 11 = .ok (.aload_n 0, 1) := by decide +kernel
theorem dX6_add_12 : decode cX6_add 12 = .ok (.getfield 11, 3) := by decide +kernel
theorem dX6_add_15 : decode cX6_add 15 = .ok (.aload_n 0, 1) := by decide +kernel
theorem dX6_add_16 : decode cX6_add 16 = .ok (.getfield 16, 3) := by decide +kernel
theorem dX6_add_19 : decode cX6_add 19 = .ok (.aaload, 1) := by decide +kernel
theorem dX6_add_20 : decode cX6_add 20 = .ok (.aload_n 1, 1) := by decide +kernel
theorem dX6_add_21 : decode cX6_add 21 = .ok (.invokevirtual 24, 3) := by decide +kernel
theorem dX6_add_24 : decode cX6_add 24 = .ok (.aload_n 0, 1) := by decide +kernel
theorem dX6_add_25 : decode cX6_add 25 = .ok (.dup, 1) := by decide +kernel
theorem dX6_add_26 : decode cX6_add 26 = .ok (.getfield 16, 3) := by decide +kernel
theorem dX6_add_29 : decode cX6_add 29 = .ok (.iconst 1, 1) := by decide +kernel
theorem dX6_add_30 : decode cX6_add 30 = .ok (.iadd, 1) := by decide +kernel
theorem dX6_add_31 : decode cX6_add 31 = .ok (.putfield 16, 3) := by decide +kernel
theorem dX6_add_34 : decode cX6_add 34 = .ok (.aload_n 0, 1) := by decide +kernel
theorem dX6_add_35 : decode cX6_add 35 = .ok (.getfield 16, 3) := by decide +kernel
theorem dX6_add_38 : decode cX6_add 38 = .ok (.iconst 1, 1) := by decide +kernel
theorem dX6_add_39 : decode cX6_add 39 = .ok (.isub, 1) := by decide +kernel
theorem dX6_add_40 : decode cX6_add 40 = .ok (.ireturn, 1) := by decide +kernel
def fX6_add (u : fb_M) (a0 : Nat) (a1 : Nat) : Option (Int32 × fb_M) :=
 (if (fb_I u a0 1) < 8 then ((fb_R u a0 0).bind fun q12 => fb_gd (q12 < fb_NT ∧ (fb_sh q12).1 = 104) 
   ((fb_gd (¬ (fb_I u a0 1 < 0 ∨ (fb_sh q12).2 ≤ (fb_I u a0 1).toNatClampNeg)) 
   ((fb_R u q12 (fb_I u a0 1).toNatClampNeg).bind fun q19 => fb_gd (q19 < fb_NT ∧ fb_sh q19 = (5, 4)) 
   (((fX5_setPath u q19 a1).bind fun r21 => 
   (some ((fb_I (fb_wI r21 a0 1 ((fb_I r21 a0 1) + 1)) a0 1) - 1, fb_wI r21 a0 1 ((fb_I r21 a0 1) + 1)))))))))
  else (some ((-1), u)))
set_option maxRecDepth 100000 in
set_option maxHeartbeats 4000000 in
theorem mX6_add (g : fb_G) (u : fb_M) (a0 : Nat) (a1 : Nat) (ha0 : a0 < fb_NT ∧ fb_sh a0 = (6, 2)) (ha1 : a1 < fb_NT ∧ fb_sh a1 = (0, 2)) {res : (Int32 × fb_M)} (h : fX6_add u a0 a1 = some res) : fb_Runs g 2 62 0 0 fb_NT fb_NT yX6_add cX6_add 2 (some .int) [.ref (fb_b g + a0), .ref (fb_b g + a1)] u (some (.int res.1)) res.2 := by
  unfold fX6_add at h
  refine fb_enter (by decide) (Nat.le_of_ble_eq_true rfl) ?_
  show fb_V g RX6 cX6_add 2 (some .int) "add" (fb_room 2 62 0 0) (fb_Qm g (some (.int res.1)) fb_NT res.2 0 0) 0 0 fb_NT u 0 [(0, .ref (fb_b g + a0)), (1, .ref (fb_b g + a1))] []
  refine fb_aload_n (pc := 0) dX6_add_0 0 rfl ?_
  refine fb_getI (pc := 1) dX6_add_1 lkX6_16 ha0.1 ha0.2 rfl ?_
  refine fb_bipush (pc := 4) (v := 8) dX6_add_4 fb_kb_8 ?_
  refine fb_icmp_lt (pc := 6) (tgt := 11) h dX6_add_6 (by decide) (fun h => ?_) (fun h => ?_)
  · refine fb_aload_n (pc := 11) dX6_add_11 0 rfl ?_
    refine fb_bnE h (fun q12 e12 h => fb_gdE h (fun s12 h => ?_))
    refine fb_getR (pc := 12) dX6_add_12 lkX6_11 ha0.1 ha0.2 (by decide) e12 ?_
    refine fb_aload_n (pc := 15) dX6_add_15 0 rfl ?_
    refine fb_getI (pc := 16) dX6_add_16 lkX6_16 ha0.1 ha0.2 rfl ?_
    refine fb_gdE h (fun i19 h => fb_bnE h (fun q19 e19 h => fb_gdE h (fun s19 h => ?_)))
    refine fb_aald (pc := 19) (t := 4) dX6_add_19 s12.1 (fb_eta s12.2) ⟨by decide, by decide, rfl⟩ i19 e19 ?_
    refine fb_aload_n (pc := 20) dX6_add_20 1 rfl ?_
    refine fb_bnE h (fun r21 h21 h => ?_)
    refine fb_cV0n (pc := 21) [.ref (fb_b g + a1)] dX6_add_21 (mX5_setPath g u q19 a1 s19 ha1 h21) ymX5_setPath yiX5_setPath s19.1 s19.2 ylX6_24 rfl (Nat.le_of_ble_eq_true rfl) ⟨Nat.le_of_ble_eq_true rfl, Nat.le_of_ble_eq_true rfl⟩ ⟨Nat.le_of_ble_eq_true rfl, Nat.le_of_ble_eq_true rfl⟩ ?_
    refine fb_aload_n (pc := 24) dX6_add_24 0 rfl ?_
    refine fb_dup (pc := 25) dX6_add_25 rfl ?_
    refine fb_getI (pc := 26) dX6_add_26 lkX6_16 ha0.1 ha0.2 rfl ?_
    refine fb_iconst (pc := 29) (v := 1) dX6_add_29 fb_ki_1 ?_
    refine fb_iadd (pc := 30) dX6_add_30 ?_
    refine fb_putI (pc := 31) dX6_add_31 lkX6_16 ly_6_1 ha0.1 ha0.2 rfl rfl rfl ?_
    refine fb_aload_n (pc := 34) dX6_add_34 0 rfl ?_
    refine fb_getI (pc := 35) dX6_add_35 lkX6_16 ha0.1 ha0.2 rfl ?_
    refine fb_iconst (pc := 38) (v := 1) dX6_add_38 fb_ki_1 ?_
    refine fb_isub (pc := 39) dX6_add_39 ?_
    exact fb_iretM (pc := 40) h dX6_add_40
  · refine fb_iconst (pc := 9) (v := (-1)) dX6_add_9 fb_ki_m1 ?_
    exact fb_iretM (pc := 10) h dX6_add_10

theorem dX8_declare_0 : decode cX8_declare 0 = .ok (.aload_n 0, 1) := by decide +kernel
theorem dX8_declare_1 : decode cX8_declare 1 = .ok (.getfield 10, 3) := by decide +kernel
theorem dX8_declare_4 : decode cX8_declare 4 = .ok (.invokevirtual 79, 3) := by decide +kernel
theorem dX8_declare_7 : decode cX8_declare 7 = .ok (.ifCond .ne 5, 3) := by decide +kernel
theorem dX8_declare_10 : decode cX8_declare 10 = .ok (.iconst (-1), 1) := by decide +kernel
theorem dX8_declare_11 : decode cX8_declare 11 = .ok (.ireturn, 1) := by decide +kernel
theorem dX8_declare_12 : decode cX8_declare 12 = .ok (.aload_n 0, 1) := by decide +kernel
theorem dX8_declare_13 : decode cX8_declare 13 = .ok (.getfield 19, 3) := by decide +kernel
theorem dX8_declare_16 : decode cX8_declare 16 = .ok (.aload_n 0, 1) := by decide +kernel
theorem dX8_declare_17 : decode cX8_declare 17 = .ok (.getfield 10, 3) := by decide +kernel
theorem dX8_declare_20 : decode cX8_declare 20 = .ok (.invokevirtual 83, 3) := by decide +kernel
theorem dX8_declare_23 : decode cX8_declare 23 = .ok (.ifCond .eq 6, 3) := by decide +kernel
theorem dX8_declare_26 : decode cX8_declare 26 = .ok (.bipush (-2), 2) := by decide +kernel
theorem dX8_declare_28 : decode cX8_declare 28 = .ok (.ireturn, 1) := by decide +kernel
theorem dX8_declare_29 : decode cX8_declare 29 = .ok (.aload_n 0, 1) := by decide +kernel
theorem dX8_declare_30 : decode cX8_declare 30 = .ok (.getfield 19, 3) := by decide +kernel
theorem dX8_declare_33 : decode cX8_declare 33 = .ok (.aload_n 0, 1) := by decide +kernel
theorem dX8_declare_34 : decode cX8_declare 34 = .ok (.getfield 10, 3) := by decide +kernel
theorem dX8_declare_37 : decode cX8_declare 37 = .ok (.invokevirtual 87, 3) := by decide +kernel
theorem dX8_declare_40 : decode cX8_declare 40 = .ok (.istore_n 1, 1) := by decide +kernel
theorem dX8_declare_41 : decode cX8_declare 41 = .ok (.iload_n 1, 1) := by decide +kernel
theorem dX8_declare_42 : decode cX8_declare 42 = .ok (.ifCond .ge 6, 3) := by decide +kernel
theorem dX8_declare_45 : decode cX8_declare 45 = .ok (.bipush (-3), 2) := by decide +kernel
theorem dX8_declare_47 : decode cX8_declare 47 = .ok (.ireturn, 1) := by decide +kernel
theorem dX8_declare_48 : decode cX8_declare 48 = .ok (.aload_n 0, 1) := by decide +kernel
theorem dX8_declare_49 : decode cX8_declare 49 = .ok (.getfield 10, 3) := by decide +kernel
theorem dX8_declare_52 : decode cX8_declare 52 = .ok (.invokevirtual 76, 3) := by decide +kernel
theorem dX8_declare_55 : decode cX8_declare 55 = .ok (.iload_n 1, 1) := by decide +kernel
theorem dX8_declare_56 : decode cX8_declare 56 = .ok (.ireturn, 1) := by decide +kernel
def fX8_declare (u : fb_M) (a0 : Nat) : Option (Int32 × fb_M) :=
 ((fb_R u a0 0).bind fun q1 => fb_gd (q1 < fb_NT ∧ fb_sh q1 = (0, 2)) 
  (((fX0_isPath u q1).bind fun r4 => 
  (if r4 = 0 then (some ((-1), u))
  else ((fb_R u a0 1).bind fun q13 => fb_gd (q13 < fb_NT ∧ fb_sh q13 = (6, 2)) 
   (((fb_R u a0 0).bind fun q17 => fb_gd (q17 < fb_NT ∧ fb_sh q17 = (0, 2)) 
   (((fX6_clashWith u q13 q17).bind fun r20 => 
   (if r20 = 0 then ((fb_R u a0 1).bind fun q30 => fb_gd (q30 < fb_NT ∧ fb_sh q30 = (6, 2)) 
    (((fb_R u a0 0).bind fun q34 => fb_gd (q34 < fb_NT ∧ fb_sh q34 = (0, 2)) 
    (((fX6_add u q30 q34).bind fun r37 => 
    (if 0 ≤ r37.1 then ((fb_R r37.2 a0 0).bind fun q49 => fb_gd (q49 < fb_NT ∧ fb_sh q49 = (0, 2)) 
     (((fX0_clear r37.2 q49).bind fun r52 => 
     (some (r37.1, r52)))))
    else (some ((-3), r37.2))))))))
   else (some ((-2), u))))))))))))
set_option maxRecDepth 100000 in
set_option maxHeartbeats 4000000 in
theorem mX8_declare (g : fb_G) (u : fb_M) (a0 : Nat) (ha0 : a0 < fb_NT ∧ fb_sh a0 = (8, 12)) {res : (Int32 × fb_M)} (h : fX8_declare u a0 = some res) : fb_Runs g 3 85 0 0 fb_NT fb_NT yX8_declare cX8_declare 2 (some .int) [.ref (fb_b g + a0)] u (some (.int res.1)) res.2 := by
  unfold fX8_declare at h
  refine fb_enter (by decide) (Nat.le_of_ble_eq_true rfl) ?_
  show fb_V g RX8 cX8_declare 2 (some .int) "declare" (fb_room 3 85 0 0) (fb_Qm g (some (.int res.1)) fb_NT res.2 0 0) 0 0 fb_NT u 0 [(0, .ref (fb_b g + a0))] []
  refine fb_aload_n (pc := 0) dX8_declare_0 0 rfl ?_
  refine fb_bnE h (fun q1 e1 h => fb_gdE h (fun s1 h => ?_))
  refine fb_getR (pc := 1) dX8_declare_1 lkX8_10 ha0.1 ha0.2 (by decide) e1 ?_
  refine fb_bnE h (fun r4 h4 h => ?_)
  refine fb_cV0v (pc := 4) [] dX8_declare_4 (mX0_isPath g u q1 s1 h4) ymX0_isPath yiX0_isPath s1.1 s1.2 ylX8_79 rfl (Nat.le_of_ble_eq_true rfl) ⟨Nat.le_of_ble_eq_true rfl, Nat.le_of_ble_eq_true rfl⟩ ⟨Nat.le_of_ble_eq_true rfl, Nat.le_of_ble_eq_true rfl⟩ ?_
  refine fb_if_ne (pc := 7) (tgt := 12) h dX8_declare_7 (by decide) (fun h => ?_) (fun h => ?_)
  · refine fb_aload_n (pc := 12) dX8_declare_12 0 rfl ?_
    refine fb_bnE h (fun q13 e13 h => fb_gdE h (fun s13 h => ?_))
    refine fb_getR (pc := 13) dX8_declare_13 lkX8_19 ha0.1 ha0.2 (by decide) e13 ?_
    refine fb_aload_n (pc := 16) dX8_declare_16 0 rfl ?_
    refine fb_bnE h (fun q17 e17 h => fb_gdE h (fun s17 h => ?_))
    refine fb_getR (pc := 17) dX8_declare_17 lkX8_10 ha0.1 ha0.2 (by decide) e17 ?_
    refine fb_bnE h (fun r20 h20 h => ?_)
    refine fb_cV0v (pc := 20) [.ref (fb_b g + q17)] dX8_declare_20 (mX6_clashWith g u q13 q17 s13 s17 h20) ymX6_clashWith yiX6_clashWith s13.1 s13.2 ylX8_83 rfl (Nat.le_of_ble_eq_true rfl) ⟨Nat.le_of_ble_eq_true rfl, Nat.le_of_ble_eq_true rfl⟩ ⟨Nat.le_of_ble_eq_true rfl, Nat.le_of_ble_eq_true rfl⟩ ?_
    refine fb_if_eq (pc := 23) (tgt := 29) h dX8_declare_23 (by decide) (fun h => ?_) (fun h => ?_)
    · refine fb_aload_n (pc := 29) dX8_declare_29 0 rfl ?_
      refine fb_bnE h (fun q30 e30 h => fb_gdE h (fun s30 h => ?_))
      refine fb_getR (pc := 30) dX8_declare_30 lkX8_19 ha0.1 ha0.2 (by decide) e30 ?_
      refine fb_aload_n (pc := 33) dX8_declare_33 0 rfl ?_
      refine fb_bnE h (fun q34 e34 h => fb_gdE h (fun s34 h => ?_))
      refine fb_getR (pc := 34) dX8_declare_34 lkX8_10 ha0.1 ha0.2 (by decide) e34 ?_
      refine fb_bnE h (fun r37 h37 h => ?_)
      refine fb_cV0v (pc := 37) [.ref (fb_b g + q34)] dX8_declare_37 (mX6_add g u q30 q34 s30 s34 h37) ymX6_add yiX6_add s30.1 s30.2 ylX8_87 rfl (Nat.le_of_ble_eq_true rfl) ⟨Nat.le_of_ble_eq_true rfl, Nat.le_of_ble_eq_true rfl⟩ ⟨Nat.le_of_ble_eq_true rfl, Nat.le_of_ble_eq_true rfl⟩ ?_
      refine fb_istore_n (pc := 40) (lv' := [(1, .int r37.1), (0, .ref (fb_b g + a0))]) dX8_declare_40 rfl (by decide) rfl ?_
      refine fb_iload_n (pc := 41) dX8_declare_41 0 rfl ?_
      refine fb_if_ge (pc := 42) (tgt := 48) h dX8_declare_42 (by decide) (fun h => ?_) (fun h => ?_)
      · refine fb_aload_n (pc := 48) dX8_declare_48 1 rfl ?_
        refine fb_bnE h (fun q49 e49 h => fb_gdE h (fun s49 h => ?_))
        refine fb_getR (pc := 49) dX8_declare_49 lkX8_10 ha0.1 ha0.2 (by decide) e49 ?_
        refine fb_bnE h (fun r52 h52 h => ?_)
        refine fb_cV0n (pc := 52) [] dX8_declare_52 (mX0_clear g r37.2 q49 s49 h52) ymX0_clear yiX0_clear s49.1 s49.2 ylX8_76 rfl (Nat.le_of_ble_eq_true rfl) ⟨Nat.le_of_ble_eq_true rfl, Nat.le_of_ble_eq_true rfl⟩ ⟨Nat.le_of_ble_eq_true rfl, Nat.le_of_ble_eq_true rfl⟩ ?_
        refine fb_iload_n (pc := 55) dX8_declare_55 0 rfl ?_
        exact fb_iretM (pc := 56) h dX8_declare_56
      · refine fb_bipush (pc := 45) (v := (-3)) dX8_declare_45 fb_kb_m3 ?_
        exact fb_iretM (pc := 47) h dX8_declare_47
    · refine fb_bipush (pc := 26) (v := (-2)) dX8_declare_26 fb_kb_m2 ?_
      exact fb_iretM (pc := 28) h dX8_declare_28
  · refine fb_iconst (pc := 10) (v := (-1)) dX8_declare_10 fb_ki_m1 ?_
    exact fb_iretM (pc := 11) h dX8_declare_11

theorem dX3_readOrders_0 : decode cX3_readOrders 0 = .ok (.iload_n 2, 1) := by decide +kernel
theorem dX3_readOrders_1 : decode cX3_readOrders 1 = .ok (.istore 4, 2) := by decide +kernel
theorem dX3_readOrders_3 : decode cX3_readOrders 3 = .ok (.iload_n 2, 1) := by decide +kernel
theorem dX3_readOrders_4 : decode cX3_readOrders 4 = .ok (.istore 5, 2) := by decide +kernel
theorem dX3_readOrders_6 : decode cX3_readOrders 6 = .ok (.iload 5, 2) := by decide +kernel
theorem dX3_readOrders_8 : decode cX3_readOrders 8 = .ok (.iload_n 3, 1) := by decide +kernel
theorem dX3_readOrders_9 : decode cX3_readOrders 9 = .ok (.if_icmp .ge 53, 3) := by decide +kernel
theorem dX3_readOrders_12 : decode cX3_readOrders 12 = .ok (.aload_n 0, 1) := by decide +kernel
theorem dX3_readOrders_13 : decode cX3_readOrders 13 = .ok (.getfield 9, 3) := by decide +kernel
theorem dX3_readOrders_16 : decode cX3_readOrders 16 = .ok (.iload 5, 2) := by decide +kernel
theorem dX3_readOrders_18 : decode cX3_readOrders 18 = .ok (.invokevirtual 90, 3) := by decide +kernel
theorem dX3_readOrders_21 : decode cX3_readOrders 21 = .ok (.invokestatic 132, 3) := by decide +kernel
theorem dX3_readOrders_24 : decode cX3_readOrders 24 = .ok (.ifCond .eq 32, 3) := by decide +kernel
theorem dX3_readOrders_27 : decode cX3_readOrders 27 = .ok (.aload_n 0, 1) := by decide +kernel
theorem dX3_readOrders_28 : decode cX3_readOrders 28 = .ok (.iload 4, 2) := by decide +kernel
theorem dX3_readOrders_30 : decode cX3_readOrders 30 = .ok (.iload 5, 2) := by decide +kernel
theorem dX3_readOrders_32 : decode cX3_readOrders 32 = .ok (.invokevirtual 135, 3) := by decide +kernel
theorem dX3_readOrders_35 : decode cX3_readOrders 35 = .ok (.ifCond .eq 21, 3) := by decide +kernel
theorem dX3_readOrders_38 : decode cX3_readOrders 38 = .ok (.aload_n 0, 1) := by decide +kernel
theorem dX3_readOrders_39 : decode cX3_readOrders 39 = .ok (.aload_n 1, 1) := by decide +kernel
theorem dX3_readOrders_40 : decode cX3_readOrders 40 = .ok (.iload 4, 2) := by decide +kernel
theorem dX3_readOrders_42 : decode cX3_readOrders 42 = .ok (.iload 5, 2) := by decide +kernel
theorem dX3_readOrders_44 : decode cX3_readOrders 44 = .ok (.invokevirtual 139, 3) := by decide +kernel
theorem dX3_readOrders_47 : decode cX3_readOrders 47 = .ok (.ifCond .ne 5, 3) := by decide +kernel
theorem dX3_readOrders_50 : decode cX3_readOrders 50 = .ok (.iconst 0, 1) := by decide +kernel
theorem dX3_readOrders_51 : decode cX3_readOrders 51 = .ok (.ireturn, 1) := by decide +kernel
theorem dX3_readOrders_52 : decode cX3_readOrders 52 = .ok (.iload 5, 2) := by decide +kernel
theorem dX3_readOrders_54 : decode cX3_readOrders 54 = .ok (.istore 4, 2) := by decide +kernel
theorem dX3_readOrders_56 : decode cX3_readOrders 56 = .ok (.iinc 5 1, 3) := by decide +kernel
theorem dX3_readOrders_59 : decode cX3_readOrders 59 = .ok (.goto (-53), 3) := by decide +kernel
theorem dX3_readOrders_62 : decode cX3_readOrders 62 = .ok (.aload_n 0, 1) := by decide +kernel
theorem dX3_readOrders_63 : decode cX3_readOrders 63 = .ok (.aload_n 1, 1) := by decide +kernel
theorem dX3_readOrders_64 : decode cX3_readOrders 64 = .ok (.iload 4, 2) := by decide +kernel
theorem dX3_readOrders_66 : decode cX3_readOrders 66 = .ok (.iload_n 3, 1) := by decide +kernel
theorem dX3_readOrders_67 : decode cX3_readOrders 67 = .ok (.invokevirtual 139, 3) := by decide +kernel
theorem dX3_readOrders_70 : decode cX3_readOrders 70 = .ok (.ireturn, 1) := by decide +kernel
def bX3_readOrders_6 (K6 : Int32 → Int32 → fb_M → Option (Int32 × fb_M)) (a0 : Nat) (a1 : Nat) (x3 : Int32) (x4 : Int32) (x5 : Int32) (u : fb_M) : Option (Int32 × fb_M) :=
 (if x3 ≤ x5 then ((fX3_readOrder u a0 a1 x4 x3).bind fun r67 => 
   (fb_gd (r67.1 = 0 ∨ r67.1 = 1) 
   (some (r67.1, r67.2))))
  else ((fb_R u a0 0).bind fun q13 => fb_gd (q13 < fb_NT ∧ fb_sh q13 = (0, 2)) 
   (((fX0_at u q13 x5).bind fun r18 => 
   ((fX8_isCapital u r18).bind fun r21 => 
   (if r21 = 0 then (K6 x4 (x5 + 1) u)
   else ((fX3_endsWithDirection u a0 x4 x5).bind fun r32 => 
    (if r32 = 0 then (K6 x4 (x5 + 1) u)
    else ((fX3_readOrder u a0 a1 x4 x5).bind fun r44 => 
     (if r44.1 = 0 then (some (0, r44.2))
     else (K6 x5 (x5 + 1) r44.2)))))))))))
def gX3_readOrders_6 (a0 : Nat) (a1 : Nat) (x3 : Int32) : Nat → Int32 → Int32 → fb_M → Option (Int32 × fb_M)
 | 0 => fun _ _ _ => none
 | fu + 1 => fun x4 x5 u => bX3_readOrders_6 (gX3_readOrders_6 a0 a1 x3 fu) a0 a1 x3 x4 x5 u
set_option maxRecDepth 100000 in
set_option maxHeartbeats 4000000 in
theorem tbX3_readOrders_6 {g : fb_G} {res : (Int32 × fb_M)} (a0 : Nat) (a1 : Nat) (x3 : Int32) (x4 : Int32) (x5 : Int32) (u : fb_M) (K6 : Int32 → Int32 → fb_M → Option (Int32 × fb_M)) (ha0 : a0 < fb_NT ∧ fb_sh a0 = (3, 3)) (ha1 : a1 < fb_NT ∧ fb_sh a1 = (2, 12)) (hK6 : ∀ (x4 : Int32) (x5 : Int32) (u : fb_M) ,  K6 x4 x5 u = some res → fb_V g RX3 cX3_readOrders 6 (some .boolean) "readOrders" (fb_room 7 159 0 0) (fb_Qm g (some (.int res.1)) fb_NT res.2 0 0) 0 0 fb_NT u 6 [(0, .ref (fb_b g + a0)), (1, .ref (fb_b g + a1)), (3, .int x3), (4, .int x4), (5, .int x5)] []) (h : bX3_readOrders_6 K6 a0 a1 x3 x4 x5 u = some res) : fb_V g RX3 cX3_readOrders 6 (some .boolean) "readOrders" (fb_room 7 159 0 0) (fb_Qm g (some (.int res.1)) fb_NT res.2 0 0) 0 0 fb_NT u 6 [(0, .ref (fb_b g + a0)), (1, .ref (fb_b g + a1)), (3, .int x3), (4, .int x4), (5, .int x5)] [] := by
  unfold bX3_readOrders_6 at h
  refine fb_iload (pc := 6) dX3_readOrders_6 4 rfl ?_
  refine fb_iload_n (pc := 8) dX3_readOrders_8 2 rfl ?_
  refine fb_icmp_ge (pc := 9) (tgt := 62) h dX3_readOrders_9 (by decide) (fun h => ?_) (fun h => ?_)
  · refine fb_aload_n (pc := 62) dX3_readOrders_62 0 rfl ?_
    refine fb_aload_n (pc := 63) dX3_readOrders_63 1 rfl ?_
    refine fb_iload (pc := 64) dX3_readOrders_64 3 rfl ?_
    refine fb_iload_n (pc := 66) dX3_readOrders_66 2 rfl ?_
    refine fb_bnE h (fun r67 h67 h => ?_)
    refine fb_cV0v (pc := 67) [.ref (fb_b g + a1), .int x4, .int x3] dX3_readOrders_67 (mX3_readOrder g u a0 a1 x4 x3 ha0 ha1 h67) ymX3_readOrder yiX3_readOrder ha0.1 ha0.2 ylX3_139 rfl (Nat.le_of_ble_eq_true rfl) ⟨Nat.le_of_ble_eq_true rfl, Nat.le_of_ble_eq_true rfl⟩ ⟨Nat.le_of_ble_eq_true rfl, Nat.le_of_ble_eq_true rfl⟩ ?_
    refine fb_gdE h (fun z70 h => ?_)
    exact fb_zretM (pc := 70) (fb_nz z70) h dX3_readOrders_70
  · refine fb_aload_n (pc := 12) dX3_readOrders_12 0 rfl ?_
    refine fb_bnE h (fun q13 e13 h => fb_gdE h (fun s13 h => ?_))
    refine fb_getR (pc := 13) dX3_readOrders_13 lkX3_9 ha0.1 ha0.2 (by decide) e13 ?_
    refine fb_iload (pc := 16) dX3_readOrders_16 4 rfl ?_
    refine fb_bnE h (fun r18 h18 h => ?_)
    refine fb_cV0v (pc := 18) [.int x5] dX3_readOrders_18 (mX0_at g u q13 x5 s13 h18) ymX0_at yiX0_at s13.1 s13.2 ylX3_90 rfl (Nat.le_of_ble_eq_true rfl) ⟨Nat.le_of_ble_eq_true rfl, Nat.le_of_ble_eq_true rfl⟩ ⟨Nat.le_of_ble_eq_true rfl, Nat.le_of_ble_eq_true rfl⟩ ?_
    refine fb_bnE h (fun r21 h21 h => ?_)
    refine fb_cS0v (pc := 21) [.int r18] dX3_readOrders_21 (mX8_isCapital g u r18 h21) ymX8_isCapital ysX8_isCapital ylX3_132 rfl (Nat.le_of_ble_eq_true rfl) ⟨Nat.le_of_ble_eq_true rfl, Nat.le_of_ble_eq_true rfl⟩ ⟨Nat.le_of_ble_eq_true rfl, Nat.le_of_ble_eq_true rfl⟩ ?_
    refine fb_if_eq (pc := 24) (tgt := 56) h dX3_readOrders_24 (by decide) (fun h => ?_) (fun h => ?_)
    · refine fb_iinc (pc := 56) (v := 1) (lv' := [(5, .int (x5 + 1)), (0, .ref (fb_b g + a0)), (1, .ref (fb_b g + a1)), (3, .int x3), (4, .int x4)]) dX3_readOrders_56 4 rfl fb_ki_1 (by decide) rfl ?_
      refine fb_goto (pc := 59) (tgt := 6) dX3_readOrders_59 (by decide) ?_
      exact fb_sub [1, 2, 3, 4, 0] rfl (hK6 x4 (x5 + 1) u h)
    · refine fb_aload_n (pc := 27) dX3_readOrders_27 0 rfl ?_
      refine fb_iload (pc := 28) dX3_readOrders_28 3 rfl ?_
      refine fb_iload (pc := 30) dX3_readOrders_30 4 rfl ?_
      refine fb_bnE h (fun r32 h32 h => ?_)
      refine fb_cV0v (pc := 32) [.int x4, .int x5] dX3_readOrders_32 (mX3_endsWithDirection g u a0 x4 x5 ha0 h32) ymX3_endsWithDirection yiX3_endsWithDirection ha0.1 ha0.2 ylX3_135 rfl (Nat.le_of_ble_eq_true rfl) ⟨Nat.le_of_ble_eq_true rfl, Nat.le_of_ble_eq_true rfl⟩ ⟨Nat.le_of_ble_eq_true rfl, Nat.le_of_ble_eq_true rfl⟩ ?_
      refine fb_if_eq (pc := 35) (tgt := 56) h dX3_readOrders_35 (by decide) (fun h => ?_) (fun h => ?_)
      · refine fb_iinc (pc := 56) (v := 1) (lv' := [(5, .int (x5 + 1)), (0, .ref (fb_b g + a0)), (1, .ref (fb_b g + a1)), (3, .int x3), (4, .int x4)]) dX3_readOrders_56 4 rfl fb_ki_1 (by decide) rfl ?_
        refine fb_goto (pc := 59) (tgt := 6) dX3_readOrders_59 (by decide) ?_
        exact fb_sub [1, 2, 3, 4, 0] rfl (hK6 x4 (x5 + 1) u h)
      · refine fb_aload_n (pc := 38) dX3_readOrders_38 0 rfl ?_
        refine fb_aload_n (pc := 39) dX3_readOrders_39 1 rfl ?_
        refine fb_iload (pc := 40) dX3_readOrders_40 3 rfl ?_
        refine fb_iload (pc := 42) dX3_readOrders_42 4 rfl ?_
        refine fb_bnE h (fun r44 h44 h => ?_)
        refine fb_cV0v (pc := 44) [.ref (fb_b g + a1), .int x4, .int x5] dX3_readOrders_44 (mX3_readOrder g u a0 a1 x4 x5 ha0 ha1 h44) ymX3_readOrder yiX3_readOrder ha0.1 ha0.2 ylX3_139 rfl (Nat.le_of_ble_eq_true rfl) ⟨Nat.le_of_ble_eq_true rfl, Nat.le_of_ble_eq_true rfl⟩ ⟨Nat.le_of_ble_eq_true rfl, Nat.le_of_ble_eq_true rfl⟩ ?_
        refine fb_if_ne (pc := 47) (tgt := 52) h dX3_readOrders_47 (by decide) (fun h => ?_) (fun h => ?_)
        · refine fb_iload (pc := 52) dX3_readOrders_52 4 rfl ?_
          refine fb_istore (pc := 54) (lv' := [(4, .int x5), (0, .ref (fb_b g + a0)), (1, .ref (fb_b g + a1)), (3, .int x3), (5, .int x5)]) dX3_readOrders_54 (by decide) rfl ?_
          refine fb_iinc (pc := 56) (v := 1) (lv' := [(5, .int (x5 + 1)), (4, .int x5), (0, .ref (fb_b g + a0)), (1, .ref (fb_b g + a1)), (3, .int x3)]) dX3_readOrders_56 4 rfl fb_ki_1 (by decide) rfl ?_
          refine fb_goto (pc := 59) (tgt := 6) dX3_readOrders_59 (by decide) ?_
          exact fb_sub [2, 3, 4, 1, 0] rfl (hK6 x5 (x5 + 1) r44.2 h)
        · refine fb_iconst (pc := 50) (v := 0) dX3_readOrders_50 fb_ki_0 ?_
          exact fb_zretM (pc := 51) rfl h dX3_readOrders_51

theorem tgX3_readOrders_6 {g : fb_G} {res : (Int32 × fb_M)} (a0 : Nat) (a1 : Nat) (x3 : Int32) (ha0 : a0 < fb_NT ∧ fb_sh a0 = (3, 3)) (ha1 : a1 < fb_NT ∧ fb_sh a1 = (2, 12)) : ∀ (fu : Nat) (x4 : Int32) (x5 : Int32) (u : fb_M) ,  gX3_readOrders_6 a0 a1 x3 fu x4 x5 u = some res → fb_V g RX3 cX3_readOrders 6 (some .boolean) "readOrders" (fb_room 7 159 0 0) (fb_Qm g (some (.int res.1)) fb_NT res.2 0 0) 0 0 fb_NT u 6 [(0, .ref (fb_b g + a0)), (1, .ref (fb_b g + a1)), (3, .int x3), (4, .int x4), (5, .int x5)] [] := by
  intro fu
  induction fu with
  | zero => intro x4 x5 u h; exact absurd h (by simp [gX3_readOrders_6])
  | succ fu ih => intro x4 x5 u h; exact tbX3_readOrders_6 a0 a1 x3 x4 x5 u (gX3_readOrders_6 a0 a1 x3 fu) ha0 ha1 ih h
def fX3_readOrders (u : fb_M) (a0 : Nat) (a1 : Nat) (x2 : Int32) (x3 : Int32) : Option (Int32 × fb_M) :=
 (gX3_readOrders_6 a0 a1 x3 fb_F x2 x2 u)
set_option maxRecDepth 100000 in
set_option maxHeartbeats 4000000 in
theorem mX3_readOrders (g : fb_G) (u : fb_M) (a0 : Nat) (a1 : Nat) (x2 : Int32) (x3 : Int32) (ha0 : a0 < fb_NT ∧ fb_sh a0 = (3, 3)) (ha1 : a1 < fb_NT ∧ fb_sh a1 = (2, 12)) {res : (Int32 × fb_M)} (h : fX3_readOrders u a0 a1 x2 x3 = some res) : fb_Runs g 7 159 0 0 fb_NT fb_NT yX3_readOrders cX3_readOrders 6 (some .boolean) [.ref (fb_b g + a0), .ref (fb_b g + a1), .int x2, .int x3] u (some (.int res.1)) res.2 := by
  unfold fX3_readOrders at h
  refine fb_enter (by decide) (Nat.le_of_ble_eq_true rfl) ?_
  show fb_V g RX3 cX3_readOrders 6 (some .boolean) "readOrders" (fb_room 7 159 0 0) (fb_Qm g (some (.int res.1)) fb_NT res.2 0 0) 0 0 fb_NT u 0 [(0, .ref (fb_b g + a0)), (1, .ref (fb_b g + a1)), (2, .int x2), (3, .int x3)] []
  refine fb_iload_n (pc := 0) dX3_readOrders_0 2 rfl ?_
  refine fb_istore (pc := 1) (lv' := [(4, .int x2), (0, .ref (fb_b g + a0)), (1, .ref (fb_b g + a1)), (2, .int x2), (3, .int x3)]) dX3_readOrders_1 (by decide) rfl ?_
  refine fb_iload_n (pc := 3) dX3_readOrders_3 3 rfl ?_
  refine fb_istore (pc := 4) (lv' := [(5, .int x2), (4, .int x2), (0, .ref (fb_b g + a0)), (1, .ref (fb_b g + a1)), (2, .int x2), (3, .int x3)]) dX3_readOrders_4 (by decide) rfl ?_
  exact fb_sub [2, 3, 5, 1, 0] rfl (tgX3_readOrders_6 a0 a1 x3 ha0 ha1 fb_F x2 x2 u h)

theorem dX2_isTooLong_0 : decode cX2_isTooLong 0 = .ok (.aload_n 0, 1) := by decide +kernel
theorem dX2_isTooLong_1 : decode cX2_isTooLong 1 = .ok (.getfield 42, 3) := by decide +kernel
theorem dX2_isTooLong_4 : decode cX2_isTooLong 4 = .ok (.bipush 6, 2) := by decide +kernel
theorem dX2_isTooLong_6 : decode cX2_isTooLong 6 = .ok (.if_icmp .gt 11, 3) := by decide +kernel
theorem dX2_isTooLong_9 : decode cX2_isTooLong 9 = .ok (.aload_n 0, 1) := by decide +kernel
theorem dX2_isTooLong_10 : decode cX2_isTooLong 10 = .ok (.getfield 48, 3) := by decide +kernel
theorem dX2_isTooLong_13 : decode cX2_isTooLong 13 = .ok (.iconst 3, 1) := by decide +kernel
theorem dX2_isTooLong_14 : decode cX2_isTooLong 14 = .ok (.if_icmp .le 7, 3) := by decide +kernel
theorem dX2_isTooLong_17 : decode cX2_isTooLong 17 = .ok (.iconst 1, 1) := by decide +kernel
theorem dX2_isTooLong_18 : decode cX2_isTooLong 18 = .ok (.goto 4, 3) := by decide +kernel
theorem dX2_isTooLong_21 : decode cX2_isTooLong 21 = .ok (.iconst 0, 1) := by decide +kernel
theorem dX2_isTooLong_22 : decode cX2_isTooLong 22 = .ok (.ireturn, 1) := by decide +kernel
def fX2_isTooLong (u : fb_M) (a0 : Nat) : Option Int32 :=
 (if 6 < (fb_I u a0 4) then (some 1)
  else (if (fb_I u a0 6) ≤ 3 then (some 0)
   else (some 1)))
set_option maxRecDepth 100000 in
set_option maxHeartbeats 4000000 in
theorem mX2_isTooLong (g : fb_G) (u : fb_M) (a0 : Nat) (ha0 : a0 < fb_NT ∧ fb_sh a0 = (2, 12)) {res : Int32} (h : fX2_isTooLong u a0 = some res) : fb_Runs g 0 0 0 0 fb_NT fb_NT yX2_isTooLong cX2_isTooLong 1 (some .boolean) [.ref (fb_b g + a0)] u (some (.int res)) u := by
  unfold fX2_isTooLong at h
  refine fb_enter (by decide) (Nat.le_of_ble_eq_true rfl) ?_
  show fb_V g RX2 cX2_isTooLong 1 (some .boolean) "isTooLong" (fb_room 0 0 0 0) (fb_Qm g (some (.int res)) fb_NT u 0 0) 0 0 fb_NT u 0 [(0, .ref (fb_b g + a0))] []
  refine fb_aload_n (pc := 0) dX2_isTooLong_0 0 rfl ?_
  refine fb_getI (pc := 1) dX2_isTooLong_1 lkX2_42 ha0.1 ha0.2 rfl ?_
  refine fb_bipush (pc := 4) (v := 6) dX2_isTooLong_4 fb_kb_6 ?_
  refine fb_icmp_gt (pc := 6) (tgt := 17) h dX2_isTooLong_6 (by decide) (fun h => ?_) (fun h => ?_)
  · refine fb_iconst (pc := 17) (v := 1) dX2_isTooLong_17 fb_ki_1 ?_
    refine fb_goto (pc := 18) (tgt := 22) dX2_isTooLong_18 (by decide) ?_
    exact fb_zretR (pc := 22) rfl h dX2_isTooLong_22
  · refine fb_aload_n (pc := 9) dX2_isTooLong_9 0 rfl ?_
    refine fb_getI (pc := 10) dX2_isTooLong_10 lkX2_48 ha0.1 ha0.2 rfl ?_
    refine fb_iconst (pc := 13) (v := 3) dX2_isTooLong_13 fb_ki_3 ?_
    refine fb_icmp_le (pc := 14) (tgt := 21) h dX2_isTooLong_14 (by decide) (fun h => ?_) (fun h => ?_)
    · refine fb_iconst (pc := 21) (v := 0) dX2_isTooLong_21 fb_ki_0 ?_
      exact fb_zretR (pc := 22) rfl h dX2_isTooLong_22
    · refine fb_iconst (pc := 17) (v := 1) dX2_isTooLong_17 fb_ki_1 ?_
      refine fb_goto (pc := 18) (tgt := 22) dX2_isTooLong_18 (by decide) ?_
      exact fb_zretR (pc := 22) rfl h dX2_isTooLong_22

theorem dX3_read_0 : decode cX3_read 0 = .ok (.aload_n 1, 1) := by decide +kernel
theorem dX3_read_1 : decode cX3_read 1 = .ok (.invokevirtual 19, 3) := by decide +kernel
theorem dX3_read_4 : decode cX3_read 4 = .ok (.aload_n 0, 1) := by decide +kernel
theorem dX3_read_5 : decode cX3_read 5 = .ok (.iconst 0, 1) := by decide +kernel
theorem dX3_read_6 : decode cX3_read 6 = .ok (.putfield 24, 3) := by decide +kernel
theorem dX3_read_9 : decode cX3_read 9 = .ok (.aload_n 0, 1) := by decide +kernel
theorem dX3_read_10 : decode cX3_read 10 = .ok (.aload_n 1, 1) := by decide +kernel
theorem dX3_read_11 : decode cX3_read 11 = .ok (.invokevirtual 28, 3) := by decide +kernel
theorem dX3_read_14 : decode cX3_read 14 = .ok (.ifCond .ne 5, 3) := by decide +kernel
theorem dX3_read_17 : decode cX3_read 17 = .ok (.iconst (-1), 1) := by decide +kernel
theorem dX3_read_18 : decode cX3_read 18 = .ok (.ireturn, 1) := by decide +kernel
theorem dX3_read_19 : decode cX3_read 19 = .ok (.aload_n 0, 1) := by decide +kernel
theorem dX3_read_20 : decode cX3_read 20 = .ok (.aload_n 1, 1) := by decide +kernel
theorem dX3_read_21 : decode cX3_read 21 = .ok (.invokevirtual 32, 3) := by decide +kernel
theorem dX3_read_24 : decode cX3_read 24 = .ok (.istore_n 2, 1) := by decide +kernel
theorem dX3_read_25 : decode cX3_read 25 = .ok (.aload_n 0, 1) := by decide +kernel
theorem dX3_read_26 : decode cX3_read 26 = .ok (.ldc 35, 2) := by decide +kernel
theorem dX3_read_28 : decode cX3_read 28 = .ok (.invokevirtual 37, 3) := by decide +kernel
theorem dX3_read_31 : decode cX3_read 31 = .ok (.ifCond .ne 5, 3) := by decide +kernel
theorem dX3_read_34 : decode cX3_read 34 = .ok (.iconst (-1), 1) := by decide +kernel
theorem dX3_read_35 : decode cX3_read 35 = .ok (.ireturn, 1) := by decide +kernel
theorem dX3_read_36 : decode cX3_read 36 = .ok (.iload_n 2, 1) := by decide +kernel
theorem dX3_read_37 : decode cX3_read 37 = .ok (.ifCond .ne 6, 3) := by decide +kernel
theorem dX3_read_40 : decode cX3_read 40 = .ok (.bipush (-2), 2) := by decide +kernel
theorem dX3_read_42 : decode cX3_read 42 = .ok (.ireturn, 1) := by decide +kernel
theorem dX3_read_43 : decode cX3_read 43 = .ok (.aload_n 0, 1) := by decide +kernel
theorem dX3_read_44 : decode cX3_read 44 = .ok (.getfield 9, 3) := by decide +kernel
theorem dX3_read_47 : decode cX3_read 47 = .ok (.invokevirtual 41, 3) := by decide +kernel
theorem dX3_read_50 : decode cX3_read 50 = .ok (.istore_n 3, 1) := by decide +kernel
theorem dX3_read_51 : decode cX3_read 51 = .ok (.aload_n 0, 1) := by decide +kernel
theorem dX3_read_52 : decode cX3_read 52 = .ok (.getfield 9, 3) := by decide +kernel
theorem dX3_read_55 : decode cX3_read 55 = .ok (.ldc 47, 2) := by decide +kernel
theorem dX3_read_57 : decode cX3_read 57 = .ok (.aload_n 0, 1) := by decide +kernel
theorem dX3_read_58 : decode cX3_read 58 = .ok (.getfield 24, 3) := by decide +kernel
theorem dX3_read_61 : decode cX3_read 61 = .ok (.iload_n 3, 1) := by decide +kernel
theorem dX3_read_62 : decode cX3_read 62 = .ok (.invokevirtual 49, 3) := by decide +kernel
theorem dX3_read_65 : decode cX3_read 65 = .ok (.istore 4, 2) := by decide +kernel
theorem dX3_read_67 : decode cX3_read 67 = .ok (.aload_n 0, 1) := by decide +kernel
theorem dX3_read_68 : decode cX3_read 68 = .ok (.aload_n 1, 1) := by decide +kernel
theorem dX3_read_69 : decode cX3_read 69 = .ok (.aload_n 0, 1) := by decide +kernel
theorem dX3_read_70 : decode cX3_read 70 = .ok (.getfield 24, 3) := by decide +kernel
theorem dX3_read_73 : decode cX3_read 73 = .ok (.iload 4, 2) := by decide +kernel
theorem dX3_read_75 : decode cX3_read 75 = .ok (.invokevirtual 53, 3) := by decide +kernel
theorem dX3_read_78 : decode cX3_read 78 = .ok (.ifCond .ne 6, 3) := by decide +kernel
theorem dX3_read_81 : decode cX3_read 81 = .ok (.bipush (-3), 2) := by decide +kernel
theorem dX3_read_83 : decode cX3_read 83 = .ok (.ireturn, 1) := by decide +kernel
theorem dX3_read_84 : decode cX3_read 84 = .ok (.iload 4, 2) := by decide +kernel
theorem dX3_read_86 : decode cX3_read 86 = .ok (.iload_n 3, 1) := by decide +kernel
theorem dX3_read_87 : decode cX3_read 87 = .ok (.if_icmp .ge 23, 3) := by decide +kernel
theorem dX3_read_90 : decode cX3_read 90 = .ok (.aload_n 0, 1) := by decide +kernel
theorem dX3_read_91 : decode cX3_read 91 = .ok (.aload_n 1, 1) := by decide +kernel
theorem dX3_read_92 : decode cX3_read 92 = .ok (.iload 4, 2) := by decide +kernel
theorem dX3_read_94 : decode cX3_read 94 = .ok (.ldc 47, 2) := by decide +kernel
theorem dX3_read_96 : decode cX3_read 96 = .ok (.invokevirtual 57, 3) := by decide +kernel
theorem dX3_read_99 : decode cX3_read 99 = .ok (.iadd, 1) := by decide +kernel
theorem dX3_read_100 : decode cX3_read 100 = .ok (.iload_n 3, 1) := by decide +kernel
theorem dX3_read_101 : decode cX3_read 101 = .ok (.invokevirtual 60, 3) := by decide +kernel
theorem dX3_read_104 : decode cX3_read 104 = .ok (.ifCond .ne 6, 3) := by decide +kernel
theorem dX3_read_107 : decode cX3_read 107 = .ok (.bipush (-4), 2) := by decide +kernel
theorem dX3_read_109 : decode cX3_read 109 = .ok (.ireturn, 1) := by decide +kernel
theorem dX3_read_110 : decode cX3_read 110 = .ok (.aload_n 1, 1) := by decide +kernel
theorem dX3_read_111 : decode cX3_read 111 = .ok (.invokevirtual 63, 3) := by decide +kernel
theorem dX3_read_114 : decode cX3_read 114 = .ok (.ifCond .eq 8, 3) := by decide +kernel
theorem dX3_read_117 : decode cX3_read 117 = .ok (.bipush (-5), 2) := by decide +kernel
theorem dX3_read_119 : decode cX3_read 119 = .ok (.goto 4, 3) := by decide +kernel
theorem dX3_read_122 : decode cX3_read 122 = .ok (.iconst 0, 1) := by decide +kernel
theorem dX3_read_123 : decode cX3_read 123 = .ok (.ireturn, 1) := by decide +kernel
def jX3_read_110 (a1 : Nat) (u : fb_M) : Option (Int32 × fb_M) :=
 ((fX2_isTooLong u a1).bind fun r111 => 
  (if r111 = 0 then (some (0, u))
  else (some ((-5), u))))
set_option maxRecDepth 100000 in
set_option maxHeartbeats 4000000 in
theorem tjX3_read_110 {g : fb_G} {res : (Int32 × fb_M)} (a1 : Nat) (u : fb_M) (ha1 : a1 < fb_NT ∧ fb_sh a1 = (2, 12)) (h : jX3_read_110 a1 u = some res) : fb_V g RX3 cX3_read 5 (some .int) "read" (fb_room 9 210 0 0) (fb_Qm g (some (.int res.1)) fb_NT res.2 0 0) 0 0 fb_NT u 110 [(1, .ref (fb_b g + a1))] [] := by
  unfold jX3_read_110 at h
  refine fb_aload_n (pc := 110) dX3_read_110 0 rfl ?_
  refine fb_bnE h (fun r111 h111 h => ?_)
  refine fb_cV0v (pc := 111) [] dX3_read_111 (mX2_isTooLong g u a1 ha1 h111) ymX2_isTooLong yiX2_isTooLong ha1.1 ha1.2 ylX3_63 rfl (Nat.le_of_ble_eq_true rfl) ⟨Nat.le_of_ble_eq_true rfl, Nat.le_of_ble_eq_true rfl⟩ ⟨Nat.le_of_ble_eq_true rfl, Nat.le_of_ble_eq_true rfl⟩ ?_
  refine fb_if_eq (pc := 114) (tgt := 122) h dX3_read_114 (by decide) (fun h => ?_) (fun h => ?_)
  · refine fb_iconst (pc := 122) (v := 0) dX3_read_122 fb_ki_0 ?_
    exact fb_iretM (pc := 123) h dX3_read_123
  · refine fb_bipush (pc := 117) (v := (-5)) dX3_read_117 fb_kb_m5 ?_
    refine fb_goto (pc := 119) (tgt := 123) dX3_read_119 (by decide) ?_
    exact fb_iretM (pc := 123) h dX3_read_123

def fX3_read (u : fb_M) (a0 : Nat) (a1 : Nat) : Option (Int32 × fb_M) :=
 ((fX2_clear u a1).bind fun r1 => 
  ((fX3_readSubject (fb_wI r1 a0 2 0) a0 a1).bind fun r11 => 
  (if r11.1 = 0 then (some ((-1), r11.2))
  else ((fX3_readLimit r11.2 a0 a1).bind fun r21 => 
   ((fX3_skip r21.2 a0 6).bind fun r28 => 
   (if r28.1 = 0 then (some ((-1), r28.2))
   else (if r21.1 = 0 then (some ((-2), r28.2))
    else ((fb_R r28.2 a0 0).bind fun q44 => fb_gd (q44 < fb_NT ∧ fb_sh q44 = (0, 2)) 
     (((fX0_length r28.2 q44).bind fun r47 => 
     ((fb_R r28.2 a0 0).bind fun q52 => fb_gd (q52 < fb_NT ∧ fb_sh q52 = (0, 2)) 
     (((fX0_placeOf r28.2 q52 7 (fb_I r28.2 a0 2) r47).bind fun r62 => 
     ((fX3_readCondition r28.2 a0 a1 (fb_I r28.2 a0 2) r62).bind fun r75 => 
     (if r75.1 = 0 then (some ((-3), r75.2))
     else (if r47 ≤ r62 then (jX3_read_110 a1 r75.2)
      else ((fX3_readOrders r75.2 a0 a1 (r62 + (Int32.ofNat (fb_len.getD 7 0))) r47).bind fun r101 => 
       (if r101.1 = 0 then (some ((-4), r101.2))
       else (jX3_read_110 a1 r101.2)))))))))))))))))))
set_option maxRecDepth 100000 in
set_option maxHeartbeats 4000000 in
theorem mX3_read (g : fb_G) (u : fb_M) (a0 : Nat) (a1 : Nat) (ha0 : a0 < fb_NT ∧ fb_sh a0 = (3, 3)) (ha1 : a1 < fb_NT ∧ fb_sh a1 = (2, 12)) {res : (Int32 × fb_M)} (h : fX3_read u a0 a1 = some res) : fb_Runs g 9 210 0 0 fb_NT fb_NT yX3_read cX3_read 5 (some .int) [.ref (fb_b g + a0), .ref (fb_b g + a1)] u (some (.int res.1)) res.2 := by
  unfold fX3_read at h
  refine fb_enter (by decide) (Nat.le_of_ble_eq_true rfl) ?_
  show fb_V g RX3 cX3_read 5 (some .int) "read" (fb_room 9 210 0 0) (fb_Qm g (some (.int res.1)) fb_NT res.2 0 0) 0 0 fb_NT u 0 [(0, .ref (fb_b g + a0)), (1, .ref (fb_b g + a1))] []
  refine fb_aload_n (pc := 0) dX3_read_0 1 rfl ?_
  refine fb_bnE h (fun r1 h1 h => ?_)
  refine fb_cV0n (pc := 1) [] dX3_read_1 (mX2_clear g u a1 ha1 h1) ymX2_clear yiX2_clear ha1.1 ha1.2 ylX3_19 rfl (Nat.le_of_ble_eq_true rfl) ⟨Nat.le_of_ble_eq_true rfl, Nat.le_of_ble_eq_true rfl⟩ ⟨Nat.le_of_ble_eq_true rfl, Nat.le_of_ble_eq_true rfl⟩ ?_
  refine fb_aload_n (pc := 4) dX3_read_4 0 rfl ?_
  refine fb_iconst (pc := 5) (v := 0) dX3_read_5 fb_ki_0 ?_
  refine fb_putI (pc := 6) dX3_read_6 lkX3_24 ly_3_2 ha0.1 ha0.2 rfl rfl rfl ?_
  refine fb_aload_n (pc := 9) dX3_read_9 0 rfl ?_
  refine fb_aload_n (pc := 10) dX3_read_10 1 rfl ?_
  refine fb_bnE h (fun r11 h11 h => ?_)
  refine fb_cV0v (pc := 11) [.ref (fb_b g + a1)] dX3_read_11 (mX3_readSubject g (fb_wI r1 a0 2 0) a0 a1 ha0 ha1 h11) ymX3_readSubject yiX3_readSubject ha0.1 ha0.2 ylX3_28 rfl (Nat.le_of_ble_eq_true rfl) ⟨Nat.le_of_ble_eq_true rfl, Nat.le_of_ble_eq_true rfl⟩ ⟨Nat.le_of_ble_eq_true rfl, Nat.le_of_ble_eq_true rfl⟩ ?_
  refine fb_if_ne (pc := 14) (tgt := 19) h dX3_read_14 (by decide) (fun h => ?_) (fun h => ?_)
  · refine fb_aload_n (pc := 19) dX3_read_19 0 rfl ?_
    refine fb_aload_n (pc := 20) dX3_read_20 1 rfl ?_
    refine fb_bnE h (fun r21 h21 h => ?_)
    refine fb_cV0v (pc := 21) [.ref (fb_b g + a1)] dX3_read_21 (mX3_readLimit g r11.2 a0 a1 ha0 ha1 h21) ymX3_readLimit yiX3_readLimit ha0.1 ha0.2 ylX3_32 rfl (Nat.le_of_ble_eq_true rfl) ⟨Nat.le_of_ble_eq_true rfl, Nat.le_of_ble_eq_true rfl⟩ ⟨Nat.le_of_ble_eq_true rfl, Nat.le_of_ble_eq_true rfl⟩ ?_
    refine fb_istore_n (pc := 24) (lv' := [(2, .int r21.1), (0, .ref (fb_b g + a0)), (1, .ref (fb_b g + a1))]) dX3_read_24 rfl (by decide) rfl ?_
    refine fb_aload_n (pc := 25) dX3_read_25 1 rfl ?_
    refine fb_ldcS (pc := 26) (i := 6) (tx := "By") dX3_read_26 srX3_35 ?_
    refine fb_bnE h (fun r28 h28 h => ?_)
    refine fb_cV0v (pc := 28) [.ref (fb_K g 6)] dX3_read_28 (mX3_skip g r21.2 a0 6 ha0 (by decide : 6 < fb_nS) h28) ymX3_skip yiX3_skip ha0.1 ha0.2 ylX3_37 rfl (Nat.le_of_ble_eq_true rfl) ⟨Nat.le_of_ble_eq_true rfl, Nat.le_of_ble_eq_true rfl⟩ ⟨Nat.le_of_ble_eq_true rfl, Nat.le_of_ble_eq_true rfl⟩ ?_
    refine fb_if_ne (pc := 31) (tgt := 36) h dX3_read_31 (by decide) (fun h => ?_) (fun h => ?_)
    · refine fb_iload_n (pc := 36) dX3_read_36 0 rfl ?_
      refine fb_if_ne (pc := 37) (tgt := 43) h dX3_read_37 (by decide) (fun h => ?_) (fun h => ?_)
      · refine fb_aload_n (pc := 43) dX3_read_43 1 rfl ?_
        refine fb_bnE h (fun q44 e44 h => fb_gdE h (fun s44 h => ?_))
        refine fb_getR (pc := 44) dX3_read_44 lkX3_9 ha0.1 ha0.2 (by decide) e44 ?_
        refine fb_bnE h (fun r47 h47 h => ?_)
        refine fb_cV0v (pc := 47) [] dX3_read_47 (mX0_length g r28.2 q44 s44 h47) ymX0_length yiX0_length s44.1 s44.2 ylX3_41 rfl (Nat.le_of_ble_eq_true rfl) ⟨Nat.le_of_ble_eq_true rfl, Nat.le_of_ble_eq_true rfl⟩ ⟨Nat.le_of_ble_eq_true rfl, Nat.le_of_ble_eq_true rfl⟩ ?_
        refine fb_istore_n (pc := 50) (lv' := [(3, .int r47), (2, .int r21.1), (0, .ref (fb_b g + a0)), (1, .ref (fb_b g + a1))]) dX3_read_50 rfl (by decide) rfl ?_
        refine fb_aload_n (pc := 51) dX3_read_51 2 rfl ?_
        refine fb_bnE h (fun q52 e52 h => fb_gdE h (fun s52 h => ?_))
        refine fb_getR (pc := 52) dX3_read_52 lkX3_9 ha0.1 ha0.2 (by decide) e52 ?_
        refine fb_ldcS (pc := 55) (i := 7) (tx := "OrderBy") dX3_read_55 srX3_47 ?_
        refine fb_aload_n (pc := 57) dX3_read_57 2 rfl ?_
        refine fb_getI (pc := 58) dX3_read_58 lkX3_24 ha0.1 ha0.2 rfl ?_
        refine fb_iload_n (pc := 61) dX3_read_61 0 rfl ?_
        refine fb_bnE h (fun r62 h62 h => ?_)
        refine fb_cV0v (pc := 62) [.ref (fb_K g 7), .int (fb_I r28.2 a0 2), .int r47] dX3_read_62 (mX0_placeOf g r28.2 q52 7 (fb_I r28.2 a0 2) r47 s52 (by decide : 7 < fb_nS) h62) ymX0_placeOf yiX0_placeOf s52.1 s52.2 ylX3_49 rfl (Nat.le_of_ble_eq_true rfl) ⟨Nat.le_of_ble_eq_true rfl, Nat.le_of_ble_eq_true rfl⟩ ⟨Nat.le_of_ble_eq_true rfl, Nat.le_of_ble_eq_true rfl⟩ ?_
        refine fb_istore (pc := 65) (lv' := [(4, .int r62), (3, .int r47), (2, .int r21.1), (0, .ref (fb_b g + a0)), (1, .ref (fb_b g + a1))]) dX3_read_65 (by decide) rfl ?_
        refine fb_aload_n (pc := 67) dX3_read_67 3 rfl ?_
        refine fb_aload_n (pc := 68) dX3_read_68 4 rfl ?_
        refine fb_aload_n (pc := 69) dX3_read_69 3 rfl ?_
        refine fb_getI (pc := 70) dX3_read_70 lkX3_24 ha0.1 ha0.2 rfl ?_
        refine fb_iload (pc := 73) dX3_read_73 0 rfl ?_
        refine fb_bnE h (fun r75 h75 h => ?_)
        refine fb_cV0v (pc := 75) [.ref (fb_b g + a1), .int (fb_I r28.2 a0 2), .int r62] dX3_read_75 (mX3_readCondition g r28.2 a0 a1 (fb_I r28.2 a0 2) r62 ha0 ha1 h75) ymX3_readCondition yiX3_readCondition ha0.1 ha0.2 ylX3_53 rfl (Nat.le_of_ble_eq_true rfl) ⟨Nat.le_of_ble_eq_true rfl, Nat.le_of_ble_eq_true rfl⟩ ⟨Nat.le_of_ble_eq_true rfl, Nat.le_of_ble_eq_true rfl⟩ ?_
        refine fb_if_ne (pc := 78) (tgt := 84) h dX3_read_78 (by decide) (fun h => ?_) (fun h => ?_)
        · refine fb_iload (pc := 84) dX3_read_84 0 rfl ?_
          refine fb_iload_n (pc := 86) dX3_read_86 1 rfl ?_
          refine fb_icmp_ge (pc := 87) (tgt := 110) h dX3_read_87 (by decide) (fun h => ?_) (fun h => ?_)
          · exact fb_sub [4] rfl (tjX3_read_110 a1 r75.2 ha1 h)
          · refine fb_aload_n (pc := 90) dX3_read_90 3 rfl ?_
            refine fb_aload_n (pc := 91) dX3_read_91 4 rfl ?_
            refine fb_iload (pc := 92) dX3_read_92 0 rfl ?_
            refine fb_ldcS (pc := 94) (i := 7) (tx := "OrderBy") dX3_read_94 srX3_47 ?_
            refine fb_cT0v (pc := 96) [] dX3_read_96 (m_strlen g 7 (by decide : 7 < fb_nS) r75.2) ymJ_length yiJ_length (by decide : 7 < fb_nS) ylX3_57 rfl (Nat.le_of_ble_eq_true rfl) ⟨Nat.le_of_ble_eq_true rfl, Nat.le_of_ble_eq_true rfl⟩ ⟨Nat.le_of_ble_eq_true rfl, Nat.le_of_ble_eq_true rfl⟩ ?_
            refine fb_iadd (pc := 99) dX3_read_99 ?_
            refine fb_iload_n (pc := 100) dX3_read_100 1 rfl ?_
            refine fb_bnE h (fun r101 h101 h => ?_)
            refine fb_cV0v (pc := 101) [.ref (fb_b g + a1), .int (r62 + (Int32.ofNat (fb_len.getD 7 0))), .int r47] dX3_read_101 (mX3_readOrders g r75.2 a0 a1 (r62 + (Int32.ofNat (fb_len.getD 7 0))) r47 ha0 ha1 h101) ymX3_readOrders yiX3_readOrders ha0.1 ha0.2 ylX3_60 rfl (Nat.le_of_ble_eq_true rfl) ⟨Nat.le_of_ble_eq_true rfl, Nat.le_of_ble_eq_true rfl⟩ ⟨Nat.le_of_ble_eq_true rfl, Nat.le_of_ble_eq_true rfl⟩ ?_
            refine fb_if_ne (pc := 104) (tgt := 110) h dX3_read_104 (by decide) (fun h => ?_) (fun h => ?_)
            · exact fb_sub [4] rfl (tjX3_read_110 a1 r101.2 ha1 h)
            · refine fb_bipush (pc := 107) (v := (-4)) dX3_read_107 fb_kb_m4 ?_
              exact fb_iretM (pc := 109) h dX3_read_109
        · refine fb_bipush (pc := 81) (v := (-3)) dX3_read_81 fb_kb_m3 ?_
          exact fb_iretM (pc := 83) h dX3_read_83
      · refine fb_bipush (pc := 40) (v := (-2)) dX3_read_40 fb_kb_m2 ?_
        exact fb_iretM (pc := 42) h dX3_read_42
    · refine fb_iconst (pc := 34) (v := (-1)) dX3_read_34 fb_ki_m1 ?_
      exact fb_iretM (pc := 35) h dX3_read_35
  · refine fb_iconst (pc := 17) (v := (-1)) dX3_read_17 fb_ki_m1 ?_
    exact fb_iretM (pc := 18) h dX3_read_18

theorem dX8_define_0 : decode cX8_define 0 = .ok (.aload_n 0, 1) := by decide +kernel
theorem dX8_define_1 : decode cX8_define 1 = .ok (.getfield 34, 3) := by decide +kernel
theorem dX8_define_4 : decode cX8_define 4 = .ok (.aload_n 0, 1) := by decide +kernel
theorem dX8_define_5 : decode cX8_define 5 = .ok (.getfield 99, 3) := by decide +kernel
theorem dX8_define_8 : decode cX8_define 8 = .ok (.aaload, 1) := by decide +kernel
theorem dX8_define_9 : decode cX8_define 9 = .ok (.astore_n 2, 1) := by decide +kernel
theorem dX8_define_10 : decode cX8_define 10 = .ok (.aload_n 0, 1) := by decide +kernel
theorem dX8_define_11 : decode cX8_define 11 = .ok (.getfield 28, 3) := by decide +kernel
theorem dX8_define_14 : decode cX8_define 14 = .ok (.aload_n 2, 1) := by decide +kernel
theorem dX8_define_15 : decode cX8_define 15 = .ok (.invokevirtual 103, 3) := by decide +kernel
theorem dX8_define_18 : decode cX8_define 18 = .ok (.istore_n 3, 1) := by decide +kernel
theorem dX8_define_19 : decode cX8_define 19 = .ok (.iload_n 3, 1) := by decide +kernel
theorem dX8_define_20 : decode cX8_define 20 = .ok (.ifCond .ge 5, 3) := by decide +kernel
theorem dX8_define_23 : decode cX8_define 23 = .ok (.iload_n 3, 1) := by decide +kernel
theorem dX8_define_24 : decode cX8_define 24 = .ok (.ireturn, 1) := by decide +kernel
theorem dX8_define_25 : decode cX8_define 25 = .ok (.iload_n 1, 1) := by decide +kernel
theorem dX8_define_26 : decode cX8_define 26 = .ok (.ifCond .eq 13, 3) := by decide +kernel
theorem dX8_define_29 : decode cX8_define 29 = .ok (.aload_n 2, 1) := by decide +kernel
theorem dX8_define_30 : decode cX8_define 30 = .ok (.getfield 107, 3) := by decide +kernel
theorem dX8_define_33 : decode cX8_define 33 = .ok (.ifCond .eq 6, 3) := by decide +kernel
theorem dX8_define_36 : decode cX8_define 36 = .ok (.bipush (-6), 2) := by decide +kernel
theorem dX8_define_38 : decode cX8_define 38 = .ok (.ireturn, 1) := by decide +kernel
theorem dX8_define_39 : decode cX8_define 39 = .ok (.aload_n 0, 1) := by decide +kernel
theorem dX8_define_40 : decode cX8_define 40 = .ok (.getfield 99, 3) := by decide +kernel
theorem dX8_define_43 : decode cX8_define 43 = .ok (.bipush 8, 2) := by decide +kernel
theorem dX8_define_45 : decode cX8_define 45 = .ok (.if_icmp .lt 6, 3) := by decide +kernel
theorem dX8_define_48 : decode cX8_define 48 = .ok (.bipush (-7), 2) := by decide +kernel
theorem dX8_define_50 : decode cX8_define 50 = .ok (.ireturn, 1) := by decide +kernel
theorem dX8_define_51 : decode cX8_define 51 = .ok (.aload_n 2, 1) := by decide +kernel
theorem dX8_define_52 : decode cX8_define 52 = .ok (.iload_n 1, 1) := by decide +kernel
theorem dX8_define_53 : decode cX8_define 53 = .ok (.putfield 110, 3) := by decide +kernel
theorem dX8_define_56 : decode cX8_define 56 = .ok (.aload_n 0, 1) := by decide +kernel
theorem dX8_define_57 : decode cX8_define 57 = .ok (.getfield 10, 3) := by decide +kernel
theorem dX8_define_60 : decode cX8_define 60 = .ok (.invokevirtual 76, 3) := by decide +kernel
theorem dX8_define_63 : decode cX8_define 63 = .ok (.aload_n 0, 1) := by decide +kernel
theorem dX8_define_64 : decode cX8_define 64 = .ok (.dup, 1) := by decide +kernel
theorem dX8_define_65 : decode cX8_define 65 = .ok (.getfield 99, 3) := by decide +kernel
theorem dX8_define_68 : decode cX8_define 68 = .ok (.iconst 1, 1) := by decide +kernel
theorem dX8_define_69 : decode cX8_define 69 = .ok (.iadd, 1) := by decide +kernel
theorem dX8_define_70 : decode cX8_define 70 = .ok (.putfield 99, 3) := by decide +kernel
theorem dX8_define_73 : decode cX8_define 73 = .ok (.aload_n 0, 1) := by decide +kernel
theorem dX8_define_74 : decode cX8_define 74 = .ok (.getfield 99, 3) := by decide +kernel
theorem dX8_define_77 : decode cX8_define 77 = .ok (.iconst 1, 1) := by decide +kernel
theorem dX8_define_78 : decode cX8_define 78 = .ok (.isub, 1) := by decide +kernel
theorem dX8_define_79 : decode cX8_define 79 = .ok (.ireturn, 1) := by decide +kernel
def jX8_define_39 (a0 : Nat) (x1 : Int32) (a2 : Nat) (u : fb_M) : Option (Int32 × fb_M) :=
 (if (fb_I u a0 4) < 8 then (fb_gd (x1 = 0 ∨ x1 = 1) 
   ((fb_R (fb_wI u a2 2 x1) a0 0).bind fun q57 => fb_gd (q57 < fb_NT ∧ fb_sh q57 = (0, 2)) 
   (((fX0_clear (fb_wI u a2 2 x1) q57).bind fun r60 => 
   (some ((fb_I (fb_wI r60 a0 4 ((fb_I r60 a0 4) + 1)) a0 4) - 1, fb_wI r60 a0 4 ((fb_I r60 a0 4) + 1)))))))
  else (some ((-7), u)))
set_option maxRecDepth 100000 in
set_option maxHeartbeats 4000000 in
theorem tjX8_define_39 {g : fb_G} {res : (Int32 × fb_M)} (a0 : Nat) (x1 : Int32) (a2 : Nat) (u : fb_M) (ha0 : a0 < fb_NT ∧ fb_sh a0 = (8, 12)) (ha2 : a2 < fb_NT ∧ fb_sh a2 = (2, 12)) (h : jX8_define_39 a0 x1 a2 u = some res) : fb_V g RX8 cX8_define 4 (some .int) "define" (fb_room 10 234 0 0) (fb_Qm g (some (.int res.1)) fb_NT res.2 0 0) 0 0 fb_NT u 39 [(0, .ref (fb_b g + a0)), (1, .int x1), (2, .ref (fb_b g + a2))] [] := by
  unfold jX8_define_39 at h
  refine fb_aload_n (pc := 39) dX8_define_39 0 rfl ?_
  refine fb_getI (pc := 40) dX8_define_40 lkX8_99 ha0.1 ha0.2 rfl ?_
  refine fb_bipush (pc := 43) (v := 8) dX8_define_43 fb_kb_8 ?_
  refine fb_icmp_lt (pc := 45) (tgt := 51) h dX8_define_45 (by decide) (fun h => ?_) (fun h => ?_)
  · refine fb_aload_n (pc := 51) dX8_define_51 2 rfl ?_
    refine fb_iload_n (pc := 52) dX8_define_52 1 rfl ?_
    refine fb_gdE h (fun z53 h => ?_)
    refine fb_putI (pc := 53) dX8_define_53 lkX8_110 ly_2_2 ha2.1 ha2.2 rfl (fb_nz z53) (fb_fz z53) ?_
    refine fb_aload_n (pc := 56) dX8_define_56 0 rfl ?_
    refine fb_bnE h (fun q57 e57 h => fb_gdE h (fun s57 h => ?_))
    refine fb_getR (pc := 57) dX8_define_57 lkX8_10 ha0.1 ha0.2 (by decide) e57 ?_
    refine fb_bnE h (fun r60 h60 h => ?_)
    refine fb_cV0n (pc := 60) [] dX8_define_60 (mX0_clear g (fb_wI u a2 2 x1) q57 s57 h60) ymX0_clear yiX0_clear s57.1 s57.2 ylX8_76 rfl (Nat.le_of_ble_eq_true rfl) ⟨Nat.le_of_ble_eq_true rfl, Nat.le_of_ble_eq_true rfl⟩ ⟨Nat.le_of_ble_eq_true rfl, Nat.le_of_ble_eq_true rfl⟩ ?_
    refine fb_aload_n (pc := 63) dX8_define_63 0 rfl ?_
    refine fb_dup (pc := 64) dX8_define_64 rfl ?_
    refine fb_getI (pc := 65) dX8_define_65 lkX8_99 ha0.1 ha0.2 rfl ?_
    refine fb_iconst (pc := 68) (v := 1) dX8_define_68 fb_ki_1 ?_
    refine fb_iadd (pc := 69) dX8_define_69 ?_
    refine fb_putI (pc := 70) dX8_define_70 lkX8_99 ly_8_4 ha0.1 ha0.2 rfl rfl rfl ?_
    refine fb_aload_n (pc := 73) dX8_define_73 0 rfl ?_
    refine fb_getI (pc := 74) dX8_define_74 lkX8_99 ha0.1 ha0.2 rfl ?_
    refine fb_iconst (pc := 77) (v := 1) dX8_define_77 fb_ki_1 ?_
    refine fb_isub (pc := 78) dX8_define_78 ?_
    exact fb_iretM (pc := 79) h dX8_define_79
  · refine fb_bipush (pc := 48) (v := (-7)) dX8_define_48 fb_kb_m7 ?_
    exact fb_iretM (pc := 50) h dX8_define_50

def fX8_define (u : fb_M) (a0 : Nat) (x1 : Int32) : Option (Int32 × fb_M) :=
 ((fb_R u a0 3).bind fun q1 => fb_gd (q1 < fb_NT ∧ (fb_sh q1).1 = 105) 
  ((fb_gd (¬ (fb_I u a0 4 < 0 ∨ (fb_sh q1).2 ≤ (fb_I u a0 4).toNatClampNeg)) 
  ((fb_R u q1 (fb_I u a0 4).toNatClampNeg).bind fun q8 => fb_gd (q8 < fb_NT ∧ fb_sh q8 = (2, 12)) 
  (((fb_R u a0 2).bind fun q11 => fb_gd (q11 < fb_NT ∧ fb_sh q11 = (3, 3)) 
  (((fX3_read u q11 q8).bind fun r15 => 
  (if 0 ≤ r15.1 then (if x1 = 0 then (jX8_define_39 a0 x1 q8 r15.2)
   else (if (fb_I r15.2 q8 0) = 0 then (jX8_define_39 a0 x1 q8 r15.2)
    else (some ((-6), r15.2))))
  else (some (r15.1, r15.2)))))))))))
set_option maxRecDepth 100000 in
set_option maxHeartbeats 4000000 in
theorem mX8_define (g : fb_G) (u : fb_M) (a0 : Nat) (x1 : Int32) (ha0 : a0 < fb_NT ∧ fb_sh a0 = (8, 12)) {res : (Int32 × fb_M)} (h : fX8_define u a0 x1 = some res) : fb_Runs g 10 234 0 0 fb_NT fb_NT yX8_define cX8_define 4 (some .int) [.ref (fb_b g + a0), .int x1] u (some (.int res.1)) res.2 := by
  unfold fX8_define at h
  refine fb_enter (by decide) (Nat.le_of_ble_eq_true rfl) ?_
  show fb_V g RX8 cX8_define 4 (some .int) "define" (fb_room 10 234 0 0) (fb_Qm g (some (.int res.1)) fb_NT res.2 0 0) 0 0 fb_NT u 0 [(0, .ref (fb_b g + a0)), (1, .int x1)] []
  refine fb_aload_n (pc := 0) dX8_define_0 0 rfl ?_
  refine fb_bnE h (fun q1 e1 h => fb_gdE h (fun s1 h => ?_))
  refine fb_getR (pc := 1) dX8_define_1 lkX8_34 ha0.1 ha0.2 (by decide) e1 ?_
  refine fb_aload_n (pc := 4) dX8_define_4 0 rfl ?_
  refine fb_getI (pc := 5) dX8_define_5 lkX8_99 ha0.1 ha0.2 rfl ?_
  refine fb_gdE h (fun i8 h => fb_bnE h (fun q8 e8 h => fb_gdE h (fun s8 h => ?_)))
  refine fb_aald (pc := 8) (t := 5) dX8_define_8 s1.1 (fb_eta s1.2) ⟨by decide, by decide, rfl⟩ i8 e8 ?_
  refine fb_astore_n (pc := 9) (lv' := [(2, .ref (fb_b g + q8)), (0, .ref (fb_b g + a0)), (1, .int x1)]) dX8_define_9 rfl (by decide) rfl ?_
  refine fb_aload_n (pc := 10) dX8_define_10 1 rfl ?_
  refine fb_bnE h (fun q11 e11 h => fb_gdE h (fun s11 h => ?_))
  refine fb_getR (pc := 11) dX8_define_11 lkX8_28 ha0.1 ha0.2 (by decide) e11 ?_
  refine fb_aload_n (pc := 14) dX8_define_14 0 rfl ?_
  refine fb_bnE h (fun r15 h15 h => ?_)
  refine fb_cV0v (pc := 15) [.ref (fb_b g + q8)] dX8_define_15 (mX3_read g u q11 q8 s11 s8 h15) ymX3_read yiX3_read s11.1 s11.2 ylX8_103 rfl (Nat.le_of_ble_eq_true rfl) ⟨Nat.le_of_ble_eq_true rfl, Nat.le_of_ble_eq_true rfl⟩ ⟨Nat.le_of_ble_eq_true rfl, Nat.le_of_ble_eq_true rfl⟩ ?_
  refine fb_istore_n (pc := 18) (lv' := [(3, .int r15.1), (2, .ref (fb_b g + q8)), (0, .ref (fb_b g + a0)), (1, .int x1)]) dX8_define_18 rfl (by decide) rfl ?_
  refine fb_iload_n (pc := 19) dX8_define_19 0 rfl ?_
  refine fb_if_ge (pc := 20) (tgt := 25) h dX8_define_20 (by decide) (fun h => ?_) (fun h => ?_)
  · refine fb_iload_n (pc := 25) dX8_define_25 3 rfl ?_
    refine fb_if_eq (pc := 26) (tgt := 39) h dX8_define_26 (by decide) (fun h => ?_) (fun h => ?_)
    · exact fb_sub [2, 3, 1] rfl (tjX8_define_39 a0 x1 q8 r15.2 ha0 s8 h)
    · refine fb_aload_n (pc := 29) dX8_define_29 1 rfl ?_
      refine fb_getI (pc := 30) dX8_define_30 lkX8_107 s8.1 s8.2 rfl ?_
      refine fb_if_eq (pc := 33) (tgt := 39) h dX8_define_33 (by decide) (fun h => ?_) (fun h => ?_)
      · exact fb_sub [2, 3, 1] rfl (tjX8_define_39 a0 x1 q8 r15.2 ha0 s8 h)
      · refine fb_bipush (pc := 36) (v := (-6)) dX8_define_36 fb_kb_m6 ?_
        exact fb_iretM (pc := 38) h dX8_define_38
  · refine fb_iload_n (pc := 23) dX8_define_23 0 rfl ?_
    exact fb_iretM (pc := 24) h dX8_define_24

theorem dX8_isFinder_0 : decode cX8_isFinder 0 = .ok (.iload_n 1, 1) := by decide +kernel
theorem dX8_isFinder_1 : decode cX8_isFinder 1 = .ok (.ifCond .lt 15, 3) := by decide +kernel
theorem dX8_isFinder_4 : decode cX8_isFinder 4 = .ok (.iload_n 1, 1) := by decide +kernel
theorem dX8_isFinder_5 : decode cX8_isFinder 5 = .ok (.aload_n 0, 1) := by decide +kernel
theorem dX8_isFinder_6 : decode cX8_isFinder 6 = .ok (.getfield 99, 3) := by decide +kernel
theorem dX8_isFinder_9 : decode cX8_isFinder 9 = .ok (.if_icmp .ge 7, 3) := by decide +kernel
theorem dX8_isFinder_12 : decode cX8_isFinder 12 = .ok (.iconst 1, 1) := by decide +kernel
theorem dX8_isFinder_13 : decode cX8_isFinder 13 = .ok (.goto 4, 3) := by decide +kernel
theorem dX8_isFinder_16 : decode cX8_isFinder 16 = .ok (.iconst 0, 1) := by decide +kernel
theorem dX8_isFinder_17 : decode cX8_isFinder 17 = .ok (.ireturn, 1) := by decide +kernel
def fX8_isFinder (u : fb_M) (a0 : Nat) (x1 : Int32) : Option Int32 :=
 (if x1 < 0 then (some 0)
  else (if (fb_I u a0 4) ≤ x1 then (some 0)
   else (some 1)))
set_option maxRecDepth 100000 in
set_option maxHeartbeats 4000000 in
theorem mX8_isFinder (g : fb_G) (u : fb_M) (a0 : Nat) (x1 : Int32) (ha0 : a0 < fb_NT ∧ fb_sh a0 = (8, 12)) {res : Int32} (h : fX8_isFinder u a0 x1 = some res) : fb_Runs g 0 0 0 0 fb_NT fb_NT yX8_isFinder cX8_isFinder 2 (some .boolean) [.ref (fb_b g + a0), .int x1] u (some (.int res)) u := by
  unfold fX8_isFinder at h
  refine fb_enter (by decide) (Nat.le_of_ble_eq_true rfl) ?_
  show fb_V g RX8 cX8_isFinder 2 (some .boolean) "isFinder" (fb_room 0 0 0 0) (fb_Qm g (some (.int res)) fb_NT u 0 0) 0 0 fb_NT u 0 [(0, .ref (fb_b g + a0)), (1, .int x1)] []
  refine fb_iload_n (pc := 0) dX8_isFinder_0 1 rfl ?_
  refine fb_if_lt (pc := 1) (tgt := 16) h dX8_isFinder_1 (by decide) (fun h => ?_) (fun h => ?_)
  · refine fb_iconst (pc := 16) (v := 0) dX8_isFinder_16 fb_ki_0 ?_
    exact fb_zretR (pc := 17) rfl h dX8_isFinder_17
  · refine fb_iload_n (pc := 4) dX8_isFinder_4 1 rfl ?_
    refine fb_aload_n (pc := 5) dX8_isFinder_5 0 rfl ?_
    refine fb_getI (pc := 6) dX8_isFinder_6 lkX8_99 ha0.1 ha0.2 rfl ?_
    refine fb_icmp_ge (pc := 9) (tgt := 16) h dX8_isFinder_9 (by decide) (fun h => ?_) (fun h => ?_)
    · refine fb_iconst (pc := 16) (v := 0) dX8_isFinder_16 fb_ki_0 ?_
      exact fb_zretR (pc := 17) rfl h dX8_isFinder_17
    · refine fb_iconst (pc := 12) (v := 1) dX8_isFinder_12 fb_ki_1 ?_
      refine fb_goto (pc := 13) (tgt := 17) dX8_isFinder_13 (by decide) ?_
      exact fb_zretR (pc := 17) rfl h dX8_isFinder_17

theorem dX2_measure_0 : decode cX2_measure 0 = .ok (.iload_n 1, 1) := by decide +kernel
theorem dX2_measure_1 : decode cX2_measure 1 = .ok (.tableswitch 69 0 5 #[39, 44, 49, 54, 59, 64], 39) := by decide +kernel
theorem dX2_measure_40 : decode cX2_measure 40 = .ok (.aload_n 0, 1) := by decide +kernel
theorem dX2_measure_41 : decode cX2_measure 41 = .ok (.getfield 28, 3) := by decide +kernel
theorem dX2_measure_44 : decode cX2_measure 44 = .ok (.ireturn, 1) := by decide +kernel
theorem dX2_measure_45 : decode cX2_measure 45 = .ok (.aload_n 0, 1) := by decide +kernel
theorem dX2_measure_46 : decode cX2_measure 46 = .ok (.getfield 32, 3) := by decide +kernel
theorem dX2_measure_49 : decode cX2_measure 49 = .ok (.ireturn, 1) := by decide +kernel
theorem dX2_measure_50 : decode cX2_measure 50 = .ok (.aload_n 0, 1) := by decide +kernel
theorem dX2_measure_51 : decode cX2_measure 51 = .ok (.getfield 39, 3) := by decide +kernel
theorem dX2_measure_54 : decode cX2_measure 54 = .ok (.ireturn, 1) := by decide +kernel
theorem dX2_measure_55 : decode cX2_measure 55 = .ok (.aload_n 0, 1) := by decide +kernel
theorem dX2_measure_56 : decode cX2_measure 56 = .ok (.getfield 42, 3) := by decide +kernel
theorem dX2_measure_59 : decode cX2_measure 59 = .ok (.ireturn, 1) := by decide +kernel
theorem dX2_measure_60 : decode cX2_measure 60 = .ok (.aload_n 0, 1) := by decide +kernel
theorem dX2_measure_61 : decode cX2_measure 61 = .ok (.getfield 45, 3) := by decide +kernel
theorem dX2_measure_64 : decode cX2_measure 64 = .ok (.ireturn, 1) := by decide +kernel
theorem dX2_measure_65 : decode cX2_measure 65 = .ok (.aload_n 0, 1) := by decide +kernel
theorem dX2_measure_66 : decode cX2_measure 66 = .ok (.getfield 48, 3) := by decide +kernel
theorem dX2_measure_69 : decode cX2_measure 69 = .ok (.ireturn, 1) := by decide +kernel
theorem dX2_measure_70 : decode cX2_measure 70 = .ok (.iconst (-1), 1) := by decide +kernel
theorem dX2_measure_71 : decode cX2_measure 71 = .ok (.ireturn, 1) := by decide +kernel
def fX2_measure (u : fb_M) (a0 : Nat) (x1 : Int32) : Option Int32 :=
 (if x1 = 0 then (some (fb_I u a0 0))
  else (if x1 = 1 then (some (fb_I u a0 1))
  else (if x1 = 2 then (some (fb_I u a0 3))
  else (if x1 = 3 then (some (fb_I u a0 4))
  else (if x1 = 4 then (some (fb_I u a0 5))
  else (if x1 = 5 then (some (fb_I u a0 6))
  else (some ((-1)))))))))
set_option maxRecDepth 100000 in
set_option maxHeartbeats 4000000 in
theorem mX2_measure (g : fb_G) (u : fb_M) (a0 : Nat) (x1 : Int32) (ha0 : a0 < fb_NT ∧ fb_sh a0 = (2, 12)) {res : Int32} (h : fX2_measure u a0 x1 = some res) : fb_Runs g 0 0 0 0 fb_NT fb_NT yX2_measure cX2_measure 2 (some .int) [.ref (fb_b g + a0), .int x1] u (some (.int res)) u := by
  unfold fX2_measure at h
  refine fb_enter (by decide) (Nat.le_of_ble_eq_true rfl) ?_
  show fb_V g RX2 cX2_measure 2 (some .int) "measure" (fb_room 0 0 0 0) (fb_Qm g (some (.int res)) fb_NT u 0 0) 0 0 fb_NT u 0 [(0, .ref (fb_b g + a0)), (1, .int x1)] []
  refine fb_iload_n (pc := 0) dX2_measure_0 1 rfl ?_
  refine fb_ifE h (fun c1_0 h => ?_) (fun c1_0 h => ?_)
  · refine fb_tabIn (pc := 1) (v := 0) (tgt := 40) c1_0 dX2_measure_1 (by decide) (by decide) rfl (by decide) ?_
    refine fb_aload_n (pc := 40) dX2_measure_40 0 rfl ?_
    refine fb_getI (pc := 41) dX2_measure_41 lkX2_28 ha0.1 ha0.2 rfl ?_
    exact fb_iretR (pc := 44) h dX2_measure_44
  refine fb_ifE h (fun c1_1 h => ?_) (fun c1_1 h => ?_)
  · refine fb_tabIn (pc := 1) (v := 1) (tgt := 45) c1_1 dX2_measure_1 (by decide) (by decide) rfl (by decide) ?_
    refine fb_aload_n (pc := 45) dX2_measure_45 0 rfl ?_
    refine fb_getI (pc := 46) dX2_measure_46 lkX2_32 ha0.1 ha0.2 rfl ?_
    exact fb_iretR (pc := 49) h dX2_measure_49
  refine fb_ifE h (fun c1_2 h => ?_) (fun c1_2 h => ?_)
  · refine fb_tabIn (pc := 1) (v := 2) (tgt := 50) c1_2 dX2_measure_1 (by decide) (by decide) rfl (by decide) ?_
    refine fb_aload_n (pc := 50) dX2_measure_50 0 rfl ?_
    refine fb_getI (pc := 51) dX2_measure_51 lkX2_39 ha0.1 ha0.2 rfl ?_
    exact fb_iretR (pc := 54) h dX2_measure_54
  refine fb_ifE h (fun c1_3 h => ?_) (fun c1_3 h => ?_)
  · refine fb_tabIn (pc := 1) (v := 3) (tgt := 55) c1_3 dX2_measure_1 (by decide) (by decide) rfl (by decide) ?_
    refine fb_aload_n (pc := 55) dX2_measure_55 0 rfl ?_
    refine fb_getI (pc := 56) dX2_measure_56 lkX2_42 ha0.1 ha0.2 rfl ?_
    exact fb_iretR (pc := 59) h dX2_measure_59
  refine fb_ifE h (fun c1_4 h => ?_) (fun c1_4 h => ?_)
  · refine fb_tabIn (pc := 1) (v := 4) (tgt := 60) c1_4 dX2_measure_1 (by decide) (by decide) rfl (by decide) ?_
    refine fb_aload_n (pc := 60) dX2_measure_60 0 rfl ?_
    refine fb_getI (pc := 61) dX2_measure_61 lkX2_45 ha0.1 ha0.2 rfl ?_
    exact fb_iretR (pc := 64) h dX2_measure_64
  refine fb_ifE h (fun c1_5 h => ?_) (fun c1_5 h => ?_)
  · refine fb_tabIn (pc := 1) (v := 5) (tgt := 65) c1_5 dX2_measure_1 (by decide) (by decide) rfl (by decide) ?_
    refine fb_aload_n (pc := 65) dX2_measure_65 0 rfl ?_
    refine fb_getI (pc := 66) dX2_measure_66 lkX2_48 ha0.1 ha0.2 rfl ?_
    exact fb_iretR (pc := 69) h dX2_measure_69
  refine fb_tabOut (pc := 1) (tgt := 70) (by have a0 := lv_neT c1_0 (a := 0) (by decide); have a1 := lv_neT c1_1 (a := 1) (by decide); have a2 := lv_neT c1_2 (a := 2) (by decide); have a3 := lv_neT c1_3 (a := 3) (by decide); have a4 := lv_neT c1_4 (a := 4) (by decide); have a5 := lv_neT c1_5 (a := 5) (by decide); omega) dX2_measure_1 (by decide) ?_
  refine fb_iconst (pc := 70) (v := (-1)) dX2_measure_70 fb_ki_m1 ?_
  exact fb_iretR (pc := 71) h dX2_measure_71

theorem dX8_shape_0 : decode cX8_shape 0 = .ok (.aload_n 0, 1) := by decide +kernel
theorem dX8_shape_1 : decode cX8_shape 1 = .ok (.iload_n 1, 1) := by decide +kernel
theorem dX8_shape_2 : decode cX8_shape 2 = .ok (.invokevirtual 114, 3) := by decide +kernel
theorem dX8_shape_5 : decode cX8_shape 5 = .ok (.ifCond .eq 16, 3) := by decide +kernel
theorem dX8_shape_8 : decode cX8_shape 8 = .ok (.aload_n 0, 1) := by decide +kernel
theorem dX8_shape_9 : decode cX8_shape 9 = .ok (.getfield 34, 3) := by decide +kernel
theorem dX8_shape_12 : decode cX8_shape 12 = .ok (.iload_n 1, 1) := by decide +kernel
theorem dX8_shape_13 : decode cX8_shape 13 = .ok (.aaload, 1) := by decide +kernel
theorem dX8_shape_14 : decode cX8_shape 14 = .ok (.iload_n 2, 1) := by decide +kernel
theorem dX8_shape_15 : decode cX8_shape 15 = .ok (.invokevirtual 118, 3) := by decide +kernel
theorem dX8_shape_18 : decode cX8_shape 18 = .ok (.goto 4, 3) := by decide +kernel
theorem dX8_shape_21 : decode cX8_shape 21 = .ok (.iconst (-1), 1) := by decide +kernel
theorem dX8_shape_22 : decode cX8_shape 22 = .ok (.ireturn, 1) := by decide +kernel
def fX8_shape (u : fb_M) (a0 : Nat) (x1 : Int32) (x2 : Int32) : Option Int32 :=
 ((fX8_isFinder u a0 x1).bind fun r2 => 
  (if r2 = 0 then (some ((-1)))
  else ((fb_R u a0 3).bind fun q9 => fb_gd (q9 < fb_NT ∧ (fb_sh q9).1 = 105) 
   ((fb_gd (¬ (x1 < 0 ∨ (fb_sh q9).2 ≤ x1.toNatClampNeg)) 
   ((fb_R u q9 x1.toNatClampNeg).bind fun q13 => fb_gd (q13 < fb_NT ∧ fb_sh q13 = (2, 12)) 
   (((fX2_measure u q13 x2).bind fun r15 => 
   (some r15)))))))))
set_option maxRecDepth 100000 in
set_option maxHeartbeats 4000000 in
theorem mX8_shape (g : fb_G) (u : fb_M) (a0 : Nat) (x1 : Int32) (x2 : Int32) (ha0 : a0 < fb_NT ∧ fb_sh a0 = (8, 12)) {res : Int32} (h : fX8_shape u a0 x1 x2 = some res) : fb_Runs g 1 21 0 0 fb_NT fb_NT yX8_shape cX8_shape 3 (some .int) [.ref (fb_b g + a0), .int x1, .int x2] u (some (.int res)) u := by
  unfold fX8_shape at h
  refine fb_enter (by decide) (Nat.le_of_ble_eq_true rfl) ?_
  show fb_V g RX8 cX8_shape 3 (some .int) "shape" (fb_room 1 21 0 0) (fb_Qm g (some (.int res)) fb_NT u 0 0) 0 0 fb_NT u 0 [(0, .ref (fb_b g + a0)), (1, .int x1), (2, .int x2)] []
  refine fb_aload_n (pc := 0) dX8_shape_0 0 rfl ?_
  refine fb_iload_n (pc := 1) dX8_shape_1 1 rfl ?_
  refine fb_bnE h (fun r2 h2 h => ?_)
  refine fb_cV0v (pc := 2) [.int x1] dX8_shape_2 (mX8_isFinder g u a0 x1 ha0 h2) ymX8_isFinder yiX8_isFinder ha0.1 ha0.2 ylX8_114 rfl (Nat.le_of_ble_eq_true rfl) ⟨Nat.le_of_ble_eq_true rfl, Nat.le_of_ble_eq_true rfl⟩ ⟨Nat.le_of_ble_eq_true rfl, Nat.le_of_ble_eq_true rfl⟩ ?_
  refine fb_if_eq (pc := 5) (tgt := 21) h dX8_shape_5 (by decide) (fun h => ?_) (fun h => ?_)
  · refine fb_iconst (pc := 21) (v := (-1)) dX8_shape_21 fb_ki_m1 ?_
    exact fb_iretR (pc := 22) h dX8_shape_22
  · refine fb_aload_n (pc := 8) dX8_shape_8 0 rfl ?_
    refine fb_bnE h (fun q9 e9 h => fb_gdE h (fun s9 h => ?_))
    refine fb_getR (pc := 9) dX8_shape_9 lkX8_34 ha0.1 ha0.2 (by decide) e9 ?_
    refine fb_iload_n (pc := 12) dX8_shape_12 1 rfl ?_
    refine fb_gdE h (fun i13 h => fb_bnE h (fun q13 e13 h => fb_gdE h (fun s13 h => ?_)))
    refine fb_aald (pc := 13) (t := 5) dX8_shape_13 s9.1 (fb_eta s9.2) ⟨by decide, by decide, rfl⟩ i13 e13 ?_
    refine fb_iload_n (pc := 14) dX8_shape_14 2 rfl ?_
    refine fb_bnE h (fun r15 h15 h => ?_)
    refine fb_cV0v (pc := 15) [.int x2] dX8_shape_15 (mX2_measure g u q13 x2 s13 h15) ymX2_measure yiX2_measure s13.1 s13.2 ylX8_118 rfl (Nat.le_of_ble_eq_true rfl) ⟨Nat.le_of_ble_eq_true rfl, Nat.le_of_ble_eq_true rfl⟩ ⟨Nat.le_of_ble_eq_true rfl, Nat.le_of_ble_eq_true rfl⟩ ?_
    refine fb_goto (pc := 18) (tgt := 22) dX8_shape_18 (by decide) ?_
    exact fb_iretR (pc := 22) h dX8_shape_22

theorem dX2_partCode_0 : decode cX2_partCode 0 = .ok (.iload_n 1, 1) := by decide +kernel
theorem dX2_partCode_1 : decode cX2_partCode 1 = .ok (.ifCond .lt 36, 3) := by decide +kernel
theorem dX2_partCode_4 : decode cX2_partCode 4 = .ok (.iload_n 1, 1) := by decide +kernel
theorem dX2_partCode_5 : decode cX2_partCode 5 = .ok (.aload_n 0, 1) := by decide +kernel
theorem dX2_partCode_6 : decode cX2_partCode 6 = .ok (.getfield 42, 3) := by decide +kernel
theorem dX2_partCode_9 : decode cX2_partCode 9 = .ok (.if_icmp .ge 28, 3) := by decide +kernel
theorem dX2_partCode_12 : decode cX2_partCode 12 = .ok (.iload_n 1, 1) := by decide +kernel
theorem dX2_partCode_13 : decode cX2_partCode 13 = .ok (.bipush 6, 2) := by decide +kernel
theorem dX2_partCode_15 : decode cX2_partCode 15 = .ok (.if_icmp .ge 22, 3) := by decide +kernel
theorem dX2_partCode_18 : decode cX2_partCode 18 = .ok (.bipush 16, 2) := by decide +kernel
theorem dX2_partCode_20 : decode cX2_partCode 20 = .ok (.aload_n 0, 1) := by decide +kernel
theorem dX2_partCode_21 : decode cX2_partCode 21 = .ok (.getfield 11, 3) := by decide +kernel
theorem dX2_partCode_24 : decode cX2_partCode 24 = .ok (.iload_n 1, 1) := by decide +kernel
theorem dX2_partCode_25 : decode cX2_partCode 25 = .ok (.iaload, 1) := by decide +kernel
theorem dX2_partCode_26 : decode cX2_partCode 26 = .ok (.imul, 1) := by decide +kernel
theorem dX2_partCode_27 : decode cX2_partCode 27 = .ok (.aload_n 0, 1) := by decide +kernel
theorem dX2_partCode_28 : decode cX2_partCode 28 = .ok (.getfield 15, 3) := by decide +kernel
theorem dX2_partCode_31 : decode cX2_partCode 31 = .ok (.iload_n 1, 1) := by decide +kernel
theorem dX2_partCode_32 : decode cX2_partCode 32 = .ok (.iaload, 1) := by decide +kernel
theorem dX2_partCode_33 : decode cX2_partCode 33 = .ok (.iadd, 1) := by decide +kernel
theorem dX2_partCode_34 : decode cX2_partCode 34 = .ok (.goto 4, 3) := by decide +kernel
theorem dX2_partCode_37 : decode cX2_partCode 37 = .ok (.iconst (-1), 1) := by decide +kernel
theorem dX2_partCode_38 : decode cX2_partCode 38 = .ok (.ireturn, 1) := by decide +kernel
def fX2_partCode (u : fb_M) (a0 : Nat) (x1 : Int32) : Option Int32 :=
 (if x1 < 0 then (some ((-1)))
  else (if (fb_I u a0 4) ≤ x1 then (some ((-1)))
   else (if 6 ≤ x1 then (some ((-1)))
    else ((fb_R u a0 7).bind fun q21 => fb_gd (q21 < fb_NT ∧ (fb_sh q21).1 = 100) 
     ((fb_gd (¬ (x1 < 0 ∨ (fb_sh q21).2 ≤ x1.toNatClampNeg)) 
     ((fb_R u a0 8).bind fun q28 => fb_gd (q28 < fb_NT ∧ (fb_sh q28).1 = 100) 
     ((fb_gd (¬ (x1 < 0 ∨ (fb_sh q28).2 ≤ x1.toNatClampNeg)) 
     (some ((16 * (fb_I u q21 x1.toNatClampNeg)) + (fb_I u q28 x1.toNatClampNeg))))))))))))
set_option maxRecDepth 100000 in
set_option maxHeartbeats 4000000 in
theorem mX2_partCode (g : fb_G) (u : fb_M) (a0 : Nat) (x1 : Int32) (ha0 : a0 < fb_NT ∧ fb_sh a0 = (2, 12)) {res : Int32} (h : fX2_partCode u a0 x1 = some res) : fb_Runs g 0 0 0 0 fb_NT fb_NT yX2_partCode cX2_partCode 2 (some .int) [.ref (fb_b g + a0), .int x1] u (some (.int res)) u := by
  unfold fX2_partCode at h
  refine fb_enter (by decide) (Nat.le_of_ble_eq_true rfl) ?_
  show fb_V g RX2 cX2_partCode 2 (some .int) "partCode" (fb_room 0 0 0 0) (fb_Qm g (some (.int res)) fb_NT u 0 0) 0 0 fb_NT u 0 [(0, .ref (fb_b g + a0)), (1, .int x1)] []
  refine fb_iload_n (pc := 0) dX2_partCode_0 1 rfl ?_
  refine fb_if_lt (pc := 1) (tgt := 37) h dX2_partCode_1 (by decide) (fun h => ?_) (fun h => ?_)
  · refine fb_iconst (pc := 37) (v := (-1)) dX2_partCode_37 fb_ki_m1 ?_
    exact fb_iretR (pc := 38) h dX2_partCode_38
  · refine fb_iload_n (pc := 4) dX2_partCode_4 1 rfl ?_
    refine fb_aload_n (pc := 5) dX2_partCode_5 0 rfl ?_
    refine fb_getI (pc := 6) dX2_partCode_6 lkX2_42 ha0.1 ha0.2 rfl ?_
    refine fb_icmp_ge (pc := 9) (tgt := 37) h dX2_partCode_9 (by decide) (fun h => ?_) (fun h => ?_)
    · refine fb_iconst (pc := 37) (v := (-1)) dX2_partCode_37 fb_ki_m1 ?_
      exact fb_iretR (pc := 38) h dX2_partCode_38
    · refine fb_iload_n (pc := 12) dX2_partCode_12 1 rfl ?_
      refine fb_bipush (pc := 13) (v := 6) dX2_partCode_13 fb_kb_6 ?_
      refine fb_icmp_ge (pc := 15) (tgt := 37) h dX2_partCode_15 (by decide) (fun h => ?_) (fun h => ?_)
      · refine fb_iconst (pc := 37) (v := (-1)) dX2_partCode_37 fb_ki_m1 ?_
        exact fb_iretR (pc := 38) h dX2_partCode_38
      · refine fb_bipush (pc := 18) (v := 16) dX2_partCode_18 fb_kb_16 ?_
        refine fb_aload_n (pc := 20) dX2_partCode_20 0 rfl ?_
        refine fb_bnE h (fun q21 e21 h => fb_gdE h (fun s21 h => ?_))
        refine fb_getR (pc := 21) dX2_partCode_21 lkX2_11 ha0.1 ha0.2 (by decide) e21 ?_
        refine fb_iload_n (pc := 24) dX2_partCode_24 1 rfl ?_
        refine fb_gdE h (fun i25 h => ?_)
        refine fb_iald (pc := 25) dX2_partCode_25 s21.1 (fb_eta s21.2) i25 ?_
        refine fb_imul (pc := 26) dX2_partCode_26 ?_
        refine fb_aload_n (pc := 27) dX2_partCode_27 0 rfl ?_
        refine fb_bnE h (fun q28 e28 h => fb_gdE h (fun s28 h => ?_))
        refine fb_getR (pc := 28) dX2_partCode_28 lkX2_15 ha0.1 ha0.2 (by decide) e28 ?_
        refine fb_iload_n (pc := 31) dX2_partCode_31 1 rfl ?_
        refine fb_gdE h (fun i32 h => ?_)
        refine fb_iald (pc := 32) dX2_partCode_32 s28.1 (fb_eta s28.2) i32 ?_
        refine fb_iadd (pc := 33) dX2_partCode_33 ?_
        refine fb_goto (pc := 34) (tgt := 38) dX2_partCode_34 (by decide) ?_
        exact fb_iretR (pc := 38) h dX2_partCode_38

theorem dX8_part_0 : decode cX8_part 0 = .ok (.aload_n 0, 1) := by decide +kernel
theorem dX8_part_1 : decode cX8_part 1 = .ok (.iload_n 1, 1) := by decide +kernel
theorem dX8_part_2 : decode cX8_part 2 = .ok (.invokevirtual 114, 3) := by decide +kernel
theorem dX8_part_5 : decode cX8_part 5 = .ok (.ifCond .eq 16, 3) := by decide +kernel
theorem dX8_part_8 : decode cX8_part 8 = .ok (.aload_n 0, 1) := by decide +kernel
theorem dX8_part_9 : decode cX8_part 9 = .ok (.getfield 34, 3) := by decide +kernel
theorem dX8_part_12 : decode cX8_part 12 = .ok (.iload_n 1, 1) := by decide +kernel
theorem dX8_part_13 : decode cX8_part 13 = .ok (.aaload, 1) := by decide +kernel
theorem dX8_part_14 : decode cX8_part 14 = .ok (.iload_n 2, 1) := by decide +kernel
theorem dX8_part_15 : decode cX8_part 15 = .ok (.invokevirtual 122, 3) := by decide +kernel
theorem dX8_part_18 : decode cX8_part 18 = .ok (.goto 4, 3) := by decide +kernel
theorem dX8_part_21 : decode cX8_part 21 = .ok (.iconst (-1), 1) := by decide +kernel
theorem dX8_part_22 : decode cX8_part 22 = .ok (.ireturn, 1) := by decide +kernel
def fX8_part (u : fb_M) (a0 : Nat) (x1 : Int32) (x2 : Int32) : Option Int32 :=
 ((fX8_isFinder u a0 x1).bind fun r2 => 
  (if r2 = 0 then (some ((-1)))
  else ((fb_R u a0 3).bind fun q9 => fb_gd (q9 < fb_NT ∧ (fb_sh q9).1 = 105) 
   ((fb_gd (¬ (x1 < 0 ∨ (fb_sh q9).2 ≤ x1.toNatClampNeg)) 
   ((fb_R u q9 x1.toNatClampNeg).bind fun q13 => fb_gd (q13 < fb_NT ∧ fb_sh q13 = (2, 12)) 
   (((fX2_partCode u q13 x2).bind fun r15 => 
   (some r15)))))))))
set_option maxRecDepth 100000 in
set_option maxHeartbeats 4000000 in
theorem mX8_part (g : fb_G) (u : fb_M) (a0 : Nat) (x1 : Int32) (x2 : Int32) (ha0 : a0 < fb_NT ∧ fb_sh a0 = (8, 12)) {res : Int32} (h : fX8_part u a0 x1 x2 = some res) : fb_Runs g 1 21 0 0 fb_NT fb_NT yX8_part cX8_part 3 (some .int) [.ref (fb_b g + a0), .int x1, .int x2] u (some (.int res)) u := by
  unfold fX8_part at h
  refine fb_enter (by decide) (Nat.le_of_ble_eq_true rfl) ?_
  show fb_V g RX8 cX8_part 3 (some .int) "part" (fb_room 1 21 0 0) (fb_Qm g (some (.int res)) fb_NT u 0 0) 0 0 fb_NT u 0 [(0, .ref (fb_b g + a0)), (1, .int x1), (2, .int x2)] []
  refine fb_aload_n (pc := 0) dX8_part_0 0 rfl ?_
  refine fb_iload_n (pc := 1) dX8_part_1 1 rfl ?_
  refine fb_bnE h (fun r2 h2 h => ?_)
  refine fb_cV0v (pc := 2) [.int x1] dX8_part_2 (mX8_isFinder g u a0 x1 ha0 h2) ymX8_isFinder yiX8_isFinder ha0.1 ha0.2 ylX8_114 rfl (Nat.le_of_ble_eq_true rfl) ⟨Nat.le_of_ble_eq_true rfl, Nat.le_of_ble_eq_true rfl⟩ ⟨Nat.le_of_ble_eq_true rfl, Nat.le_of_ble_eq_true rfl⟩ ?_
  refine fb_if_eq (pc := 5) (tgt := 21) h dX8_part_5 (by decide) (fun h => ?_) (fun h => ?_)
  · refine fb_iconst (pc := 21) (v := (-1)) dX8_part_21 fb_ki_m1 ?_
    exact fb_iretR (pc := 22) h dX8_part_22
  · refine fb_aload_n (pc := 8) dX8_part_8 0 rfl ?_
    refine fb_bnE h (fun q9 e9 h => fb_gdE h (fun s9 h => ?_))
    refine fb_getR (pc := 9) dX8_part_9 lkX8_34 ha0.1 ha0.2 (by decide) e9 ?_
    refine fb_iload_n (pc := 12) dX8_part_12 1 rfl ?_
    refine fb_gdE h (fun i13 h => fb_bnE h (fun q13 e13 h => fb_gdE h (fun s13 h => ?_)))
    refine fb_aald (pc := 13) (t := 5) dX8_part_13 s9.1 (fb_eta s9.2) ⟨by decide, by decide, rfl⟩ i13 e13 ?_
    refine fb_iload_n (pc := 14) dX8_part_14 2 rfl ?_
    refine fb_bnE h (fun r15 h15 h => ?_)
    refine fb_cV0v (pc := 15) [.int x2] dX8_part_15 (mX2_partCode g u q13 x2 s13 h15) ymX2_partCode yiX2_partCode s13.1 s13.2 ylX8_122 rfl (Nat.le_of_ble_eq_true rfl) ⟨Nat.le_of_ble_eq_true rfl, Nat.le_of_ble_eq_true rfl⟩ ⟨Nat.le_of_ble_eq_true rfl, Nat.le_of_ble_eq_true rfl⟩ ?_
    refine fb_goto (pc := 18) (tgt := 22) dX8_part_18 (by decide) ?_
    exact fb_iretR (pc := 22) h dX8_part_22

theorem dX6_has_0 : decode cX6_has 0 = .ok (.iload_n 1, 1) := by decide +kernel
theorem dX6_has_1 : decode cX6_has 1 = .ok (.ifCond .lt 15, 3) := by decide +kernel
theorem dX6_has_4 : decode cX6_has 4 = .ok (.iload_n 1, 1) := by decide +kernel
theorem dX6_has_5 : decode cX6_has 5 = .ok (.aload_n 0, 1) := by decide +kernel
theorem dX6_has_6 : decode cX6_has 6 = .ok (.getfield 16, 3) := by decide +kernel
theorem dX6_has_9 : decode cX6_has 9 = .ok (.if_icmp .ge 7, 3) := by decide +kernel
theorem dX6_has_12 : decode cX6_has 12 = .ok (.iconst 1, 1) := by decide +kernel
theorem dX6_has_13 : decode cX6_has 13 = .ok (.goto 4, 3) := by decide +kernel
theorem dX6_has_16 : decode cX6_has 16 = .ok (.iconst 0, 1) := by decide +kernel
theorem dX6_has_17 : decode cX6_has 17 = .ok (.ireturn, 1) := by decide +kernel
def fX6_has (u : fb_M) (a0 : Nat) (x1 : Int32) : Option Int32 :=
 (if x1 < 0 then (some 0)
  else (if (fb_I u a0 1) ≤ x1 then (some 0)
   else (some 1)))
set_option maxRecDepth 100000 in
set_option maxHeartbeats 4000000 in
theorem mX6_has (g : fb_G) (u : fb_M) (a0 : Nat) (x1 : Int32) (ha0 : a0 < fb_NT ∧ fb_sh a0 = (6, 2)) {res : Int32} (h : fX6_has u a0 x1 = some res) : fb_Runs g 0 0 0 0 fb_NT fb_NT yX6_has cX6_has 2 (some .boolean) [.ref (fb_b g + a0), .int x1] u (some (.int res)) u := by
  unfold fX6_has at h
  refine fb_enter (by decide) (Nat.le_of_ble_eq_true rfl) ?_
  show fb_V g RX6 cX6_has 2 (some .boolean) "has" (fb_room 0 0 0 0) (fb_Qm g (some (.int res)) fb_NT u 0 0) 0 0 fb_NT u 0 [(0, .ref (fb_b g + a0)), (1, .int x1)] []
  refine fb_iload_n (pc := 0) dX6_has_0 1 rfl ?_
  refine fb_if_lt (pc := 1) (tgt := 16) h dX6_has_1 (by decide) (fun h => ?_) (fun h => ?_)
  · refine fb_iconst (pc := 16) (v := 0) dX6_has_16 fb_ki_0 ?_
    exact fb_zretR (pc := 17) rfl h dX6_has_17
  · refine fb_iload_n (pc := 4) dX6_has_4 1 rfl ?_
    refine fb_aload_n (pc := 5) dX6_has_5 0 rfl ?_
    refine fb_getI (pc := 6) dX6_has_6 lkX6_16 ha0.1 ha0.2 rfl ?_
    refine fb_icmp_ge (pc := 9) (tgt := 16) h dX6_has_9 (by decide) (fun h => ?_) (fun h => ?_)
    · refine fb_iconst (pc := 16) (v := 0) dX6_has_16 fb_ki_0 ?_
      exact fb_zretR (pc := 17) rfl h dX6_has_17
    · refine fb_iconst (pc := 12) (v := 1) dX6_has_12 fb_ki_1 ?_
      refine fb_goto (pc := 13) (tgt := 17) dX6_has_13 (by decide) ?_
      exact fb_zretR (pc := 17) rfl h dX6_has_17

theorem dX8_enter_0 : decode cX8_enter 0 = .ok (.aload_n 0, 1) := by decide +kernel
theorem dX8_enter_1 : decode cX8_enter 1 = .ok (.getfield 19, 3) := by decide +kernel
theorem dX8_enter_4 : decode cX8_enter 4 = .ok (.iload_n 1, 1) := by decide +kernel
theorem dX8_enter_5 : decode cX8_enter 5 = .ok (.invokevirtual 162, 3) := by decide +kernel
theorem dX8_enter_8 : decode cX8_enter 8 = .ok (.ifCond .ne 5, 3) := by decide +kernel
theorem dX8_enter_11 : decode cX8_enter 11 = .ok (.iconst 0, 1) := by decide +kernel
theorem dX8_enter_12 : decode cX8_enter 12 = .ok (.ireturn, 1) := by decide +kernel
theorem dX8_enter_13 : decode cX8_enter 13 = .ok (.aload_n 0, 1) := by decide +kernel
theorem dX8_enter_14 : decode cX8_enter 14 = .ok (.getfield 46, 3) := by decide +kernel
theorem dX8_enter_17 : decode cX8_enter 17 = .ok (.iload_n 1, 1) := by decide +kernel
theorem dX8_enter_18 : decode cX8_enter 18 = .ok (.lload_n 2, 1) := by decide +kernel
theorem dX8_enter_19 : decode cX8_enter 19 = .ok (.lastore, 1) := by decide +kernel
theorem dX8_enter_20 : decode cX8_enter 20 = .ok (.iconst 1, 1) := by decide +kernel
theorem dX8_enter_21 : decode cX8_enter 21 = .ok (.ireturn, 1) := by decide +kernel
def fX8_enter (u : fb_M) (a0 : Nat) (x1 : Int32) (y2 : Int64) : Option (Int32 × fb_M) :=
 ((fb_R u a0 1).bind fun q1 => fb_gd (q1 < fb_NT ∧ fb_sh q1 = (6, 2)) 
  (((fX6_has u q1 x1).bind fun r5 => 
  (if r5 = 0 then (some (0, u))
  else ((fb_R u a0 6).bind fun q14 => fb_gd (q14 < fb_NT ∧ (fb_sh q14).1 = 103) 
   ((fb_gd (¬ (x1 < 0 ∨ (fb_sh q14).2 ≤ x1.toNatClampNeg)) 
   (some (1, fb_wL u q14 x1.toNatClampNeg y2)))))))))
set_option maxRecDepth 100000 in
set_option maxHeartbeats 4000000 in
theorem mX8_enter (g : fb_G) (u : fb_M) (a0 : Nat) (x1 : Int32) (y2 : Int64) (ha0 : a0 < fb_NT ∧ fb_sh a0 = (8, 12)) {res : (Int32 × fb_M)} (h : fX8_enter u a0 x1 y2 = some res) : fb_Runs g 1 21 0 0 fb_NT fb_NT yX8_enter cX8_enter 4 (some .boolean) [.ref (fb_b g + a0), .int x1, .long y2] u (some (.int res.1)) res.2 := by
  unfold fX8_enter at h
  refine fb_enter (by decide) (Nat.le_of_ble_eq_true rfl) ?_
  show fb_V g RX8 cX8_enter 4 (some .boolean) "enter" (fb_room 1 21 0 0) (fb_Qm g (some (.int res.1)) fb_NT res.2 0 0) 0 0 fb_NT u 0 [(0, .ref (fb_b g + a0)), (1, .int x1), (2, .long y2)] []
  refine fb_aload_n (pc := 0) dX8_enter_0 0 rfl ?_
  refine fb_bnE h (fun q1 e1 h => fb_gdE h (fun s1 h => ?_))
  refine fb_getR (pc := 1) dX8_enter_1 lkX8_19 ha0.1 ha0.2 (by decide) e1 ?_
  refine fb_iload_n (pc := 4) dX8_enter_4 1 rfl ?_
  refine fb_bnE h (fun r5 h5 h => ?_)
  refine fb_cV0v (pc := 5) [.int x1] dX8_enter_5 (mX6_has g u q1 x1 s1 h5) ymX6_has yiX6_has s1.1 s1.2 ylX8_162 rfl (Nat.le_of_ble_eq_true rfl) ⟨Nat.le_of_ble_eq_true rfl, Nat.le_of_ble_eq_true rfl⟩ ⟨Nat.le_of_ble_eq_true rfl, Nat.le_of_ble_eq_true rfl⟩ ?_
  refine fb_if_ne (pc := 8) (tgt := 13) h dX8_enter_8 (by decide) (fun h => ?_) (fun h => ?_)
  · refine fb_aload_n (pc := 13) dX8_enter_13 0 rfl ?_
    refine fb_bnE h (fun q14 e14 h => fb_gdE h (fun s14 h => ?_))
    refine fb_getR (pc := 14) dX8_enter_14 lkX8_46 ha0.1 ha0.2 (by decide) e14 ?_
    refine fb_iload_n (pc := 17) dX8_enter_17 1 rfl ?_
    refine fb_lload_n (pc := 18) dX8_enter_18 2 rfl ?_
    refine fb_gdE h (fun i19 h => ?_)
    refine fb_last (pc := 19) dX8_enter_19 s14.1 (fb_eta s14.2) i19 ?_
    refine fb_iconst (pc := 20) (v := 1) dX8_enter_20 fb_ki_1 ?_
    exact fb_zretM (pc := 21) rfl h dX8_enter_21
  · refine fb_iconst (pc := 11) (v := 0) dX8_enter_11 fb_ki_0 ?_
    exact fb_zretM (pc := 12) rfl h dX8_enter_12

theorem dX8_fill_0 : decode cX8_fill 0 = .ok (.aload_n 0, 1) := by decide +kernel
theorem dX8_fill_1 : decode cX8_fill 1 = .ok (.iload_n 1, 1) := by decide +kernel
theorem dX8_fill_2 : decode cX8_fill 2 = .ok (.iload_n 2, 1) := by decide +kernel
theorem dX8_fill_3 : decode cX8_fill 3 = .ok (.i2l, 1) := by decide +kernel
theorem dX8_fill_4 : decode cX8_fill 4 = .ok (.invokevirtual 125, 3) := by decide +kernel
theorem dX8_fill_7 : decode cX8_fill 7 = .ok (.ireturn, 1) := by decide +kernel
def fX8_fill (u : fb_M) (a0 : Nat) (x1 : Int32) (x2 : Int32) : Option (Int32 × fb_M) :=
 ((fX8_enter u a0 x1 ((x2).toInt64)).bind fun r4 => 
  (fb_gd (r4.1 = 0 ∨ r4.1 = 1) 
  (some (r4.1, r4.2))))
set_option maxRecDepth 100000 in
set_option maxHeartbeats 4000000 in
theorem mX8_fill (g : fb_G) (u : fb_M) (a0 : Nat) (x1 : Int32) (x2 : Int32) (ha0 : a0 < fb_NT ∧ fb_sh a0 = (8, 12)) {res : (Int32 × fb_M)} (h : fX8_fill u a0 x1 x2 = some res) : fb_Runs g 2 44 0 0 fb_NT fb_NT yX8_fill cX8_fill 3 (some .boolean) [.ref (fb_b g + a0), .int x1, .int x2] u (some (.int res.1)) res.2 := by
  unfold fX8_fill at h
  refine fb_enter (by decide) (Nat.le_of_ble_eq_true rfl) ?_
  show fb_V g RX8 cX8_fill 3 (some .boolean) "fill" (fb_room 2 44 0 0) (fb_Qm g (some (.int res.1)) fb_NT res.2 0 0) 0 0 fb_NT u 0 [(0, .ref (fb_b g + a0)), (1, .int x1), (2, .int x2)] []
  refine fb_aload_n (pc := 0) dX8_fill_0 0 rfl ?_
  refine fb_iload_n (pc := 1) dX8_fill_1 1 rfl ?_
  refine fb_iload_n (pc := 2) dX8_fill_2 2 rfl ?_
  refine fb_i2l (pc := 3) dX8_fill_3 ?_
  refine fb_bnE h (fun r4 h4 h => ?_)
  refine fb_cV0v (pc := 4) [.int x1, .long ((x2).toInt64)] dX8_fill_4 (mX8_enter g u a0 x1 ((x2).toInt64) ha0 h4) ymX8_enter yiX8_enter ha0.1 ha0.2 ylX8_125 rfl (Nat.le_of_ble_eq_true rfl) ⟨Nat.le_of_ble_eq_true rfl, Nat.le_of_ble_eq_true rfl⟩ ⟨Nat.le_of_ble_eq_true rfl, Nat.le_of_ble_eq_true rfl⟩ ?_
  refine fb_gdE h (fun z7 h => ?_)
  exact fb_zretM (pc := 7) (fb_nz z7) h dX8_fill_7

theorem dX8_blank_0 : decode cX8_blank 0 = .ok (.aload_n 0, 1) := by decide +kernel
theorem dX8_blank_1 : decode cX8_blank 1 = .ok (.iload_n 1, 1) := by decide +kernel
theorem dX8_blank_2 : decode cX8_blank 2 = .ok (.ldc2_w 50, 3) := by decide +kernel
theorem dX8_blank_5 : decode cX8_blank 5 = .ok (.invokevirtual 125, 3) := by decide +kernel
theorem dX8_blank_8 : decode cX8_blank 8 = .ok (.ireturn, 1) := by decide +kernel
def fX8_blank (u : fb_M) (a0 : Nat) (x1 : Int32) : Option (Int32 × fb_M) :=
 ((fX8_enter u a0 x1 3000000000).bind fun r5 => 
  (fb_gd (r5.1 = 0 ∨ r5.1 = 1) 
  (some (r5.1, r5.2))))
set_option maxRecDepth 100000 in
set_option maxHeartbeats 4000000 in
theorem mX8_blank (g : fb_G) (u : fb_M) (a0 : Nat) (x1 : Int32) (ha0 : a0 < fb_NT ∧ fb_sh a0 = (8, 12)) {res : (Int32 × fb_M)} (h : fX8_blank u a0 x1 = some res) : fb_Runs g 2 44 0 0 fb_NT fb_NT yX8_blank cX8_blank 2 (some .boolean) [.ref (fb_b g + a0), .int x1] u (some (.int res.1)) res.2 := by
  unfold fX8_blank at h
  refine fb_enter (by decide) (Nat.le_of_ble_eq_true rfl) ?_
  show fb_V g RX8 cX8_blank 2 (some .boolean) "blank" (fb_room 2 44 0 0) (fb_Qm g (some (.int res.1)) fb_NT res.2 0 0) 0 0 fb_NT u 0 [(0, .ref (fb_b g + a0)), (1, .int x1)] []
  refine fb_aload_n (pc := 0) dX8_blank_0 0 rfl ?_
  refine fb_iload_n (pc := 1) dX8_blank_1 1 rfl ?_
  refine fb_ldc2 (pc := 2) (v := 3000000000) dX8_blank_2 lwX8_50 ?_
  refine fb_bnE h (fun r5 h5 h => ?_)
  refine fb_cV0v (pc := 5) [.int x1, .long 3000000000] dX8_blank_5 (mX8_enter g u a0 x1 3000000000 ha0 h5) ymX8_enter yiX8_enter ha0.1 ha0.2 ylX8_125 rfl (Nat.le_of_ble_eq_true rfl) ⟨Nat.le_of_ble_eq_true rfl, Nat.le_of_ble_eq_true rfl⟩ ⟨Nat.le_of_ble_eq_true rfl, Nat.le_of_ble_eq_true rfl⟩ ?_
  refine fb_gdE h (fun z8 h => ?_)
  exact fb_zretM (pc := 8) (fb_nz z8) h dX8_blank_8

theorem dX7_placeOf_0 : decode cX7_placeOf 0 = .ok (.iconst 0, 1) := by decide +kernel
theorem dX7_placeOf_1 : decode cX7_placeOf 1 = .ok (.istore_n 2, 1) := by decide +kernel
theorem dX7_placeOf_2 : decode cX7_placeOf 2 = .ok (.iload_n 2, 1) := by decide +kernel
theorem dX7_placeOf_3 : decode cX7_placeOf 3 = .ok (.aload_n 0, 1) := by decide +kernel
theorem dX7_placeOf_4 : decode cX7_placeOf 4 = .ok (.getfield 16, 3) := by decide +kernel
theorem dX7_placeOf_7 : decode cX7_placeOf 7 = .ok (.if_icmp .ge 24, 3) := by decide +kernel
theorem dX7_placeOf_10 : decode cX7_placeOf 10 = .ok (.aload_n 0, 1) := by decide +kernel
theorem dX7_placeOf_11 : decode cX7_placeOf 11 = .ok (.getfield 11, 3) := by decide +kernel
theorem dX7_placeOf_14 : decode cX7_placeOf 14 = .ok (.iload_n 2, 1) := by decide +kernel
theorem dX7_placeOf_15 : decode cX7_placeOf 15 = .ok (.aaload, 1) := by decide +kernel
theorem dX7_placeOf_16 : decode cX7_placeOf 16 = .ok (.getfield 20, 3) := by decide +kernel
theorem dX7_placeOf_19 : decode cX7_placeOf 19 = .ok (.iload_n 1, 1) := by decide +kernel
theorem dX7_placeOf_20 : decode cX7_placeOf 20 = .ok (.if_icmp .ne 5, 3) := by decide +kernel
theorem dX7_placeOf_23 : decode cX7_placeOf 23 = .ok (.iload_n 2, 1) := by decide +kernel
theorem dX7_placeOf_24 : decode cX7_placeOf 24 = .ok (.ireturn, 1) := by decide +kernel
theorem dX7_placeOf_25 : decode cX7_placeOf 25 = .ok (.iinc 2 1, 3) := by decide +kernel
theorem dX7_placeOf_28 : decode cX7_placeOf 28 = .ok (.goto (-26), 3) := by decide +kernel
theorem dX7_placeOf_31 : decode cX7_placeOf 31 = .ok (.iconst (-1), 1) := by decide +kernel
theorem dX7_placeOf_32 : decode cX7_placeOf 32 = .ok (.ireturn, 1) := by decide +kernel
def bX7_placeOf_2 (K2 : Int32 → Option Int32) (a0 : Nat) (x1 : Int32) (x2 : Int32) (u : fb_M) : Option Int32 :=
 (if (fb_I u a0 1) ≤ x2 then (some ((-1)))
  else ((fb_R u a0 0).bind fun q11 => fb_gd (q11 < fb_NT ∧ (fb_sh q11).1 = 106) 
   ((fb_gd (¬ (x2 < 0 ∨ (fb_sh q11).2 ≤ x2.toNatClampNeg)) 
   ((fb_R u q11 x2.toNatClampNeg).bind fun q15 => fb_gd (q15 < fb_NT ∧ fb_sh q15 = (1, 2)) 
   ((if (fb_I u q15 0) = x1 then (some x2)
   else (K2 (x2 + 1)))))))))
def gX7_placeOf_2 (a0 : Nat) (x1 : Int32) (u : fb_M) : Nat → Int32 → Option Int32
 | 0 => fun _ => none
 | fu + 1 => fun x2 => bX7_placeOf_2 (gX7_placeOf_2 a0 x1 u fu) a0 x1 x2 u
set_option maxRecDepth 100000 in
set_option maxHeartbeats 4000000 in
theorem tbX7_placeOf_2 {g : fb_G} {res : Int32} (a0 : Nat) (x1 : Int32) (x2 : Int32) (u : fb_M) (K2 : Int32 → Option Int32) (ha0 : a0 < fb_NT ∧ fb_sh a0 = (7, 2)) (hK2 : ∀ (x2 : Int32) ,  K2 x2 = some res → fb_V g RX7 cX7_placeOf 3 (some .int) "placeOf" (fb_room 0 0 0 0) (fb_Qm g (some (.int res)) fb_NT u 0 0) 0 0 fb_NT u 2 [(0, .ref (fb_b g + a0)), (1, .int x1), (2, .int x2)] []) (h : bX7_placeOf_2 K2 a0 x1 x2 u = some res) : fb_V g RX7 cX7_placeOf 3 (some .int) "placeOf" (fb_room 0 0 0 0) (fb_Qm g (some (.int res)) fb_NT u 0 0) 0 0 fb_NT u 2 [(0, .ref (fb_b g + a0)), (1, .int x1), (2, .int x2)] [] := by
  unfold bX7_placeOf_2 at h
  refine fb_iload_n (pc := 2) dX7_placeOf_2 2 rfl ?_
  refine fb_aload_n (pc := 3) dX7_placeOf_3 0 rfl ?_
  refine fb_getI (pc := 4) dX7_placeOf_4 lkX7_16 ha0.1 ha0.2 rfl ?_
  refine fb_icmp_ge (pc := 7) (tgt := 31) h dX7_placeOf_7 (by decide) (fun h => ?_) (fun h => ?_)
  · refine fb_iconst (pc := 31) (v := (-1)) dX7_placeOf_31 fb_ki_m1 ?_
    exact fb_iretR (pc := 32) h dX7_placeOf_32
  · refine fb_aload_n (pc := 10) dX7_placeOf_10 0 rfl ?_
    refine fb_bnE h (fun q11 e11 h => fb_gdE h (fun s11 h => ?_))
    refine fb_getR (pc := 11) dX7_placeOf_11 lkX7_11 ha0.1 ha0.2 (by decide) e11 ?_
    refine fb_iload_n (pc := 14) dX7_placeOf_14 2 rfl ?_
    refine fb_gdE h (fun i15 h => fb_bnE h (fun q15 e15 h => fb_gdE h (fun s15 h => ?_)))
    refine fb_aald (pc := 15) (t := 6) dX7_placeOf_15 s11.1 (fb_eta s11.2) ⟨by decide, by decide, rfl⟩ i15 e15 ?_
    refine fb_getI (pc := 16) dX7_placeOf_16 lkX7_20 s15.1 s15.2 rfl ?_
    refine fb_iload_n (pc := 19) dX7_placeOf_19 1 rfl ?_
    refine fb_icmp_ne (pc := 20) (tgt := 25) h dX7_placeOf_20 (by decide) (fun h => ?_) (fun h => ?_)
    · refine fb_iinc (pc := 25) (v := 1) (lv' := [(2, .int (x2 + 1)), (0, .ref (fb_b g + a0)), (1, .int x1)]) dX7_placeOf_25 2 rfl fb_ki_1 (by decide) rfl ?_
      refine fb_goto (pc := 28) (tgt := 2) dX7_placeOf_28 (by decide) ?_
      exact fb_sub [1, 2, 0] rfl (hK2 (x2 + 1) h)
    · refine fb_iload_n (pc := 23) dX7_placeOf_23 2 rfl ?_
      exact fb_iretR (pc := 24) h dX7_placeOf_24

theorem tgX7_placeOf_2 {g : fb_G} {res : Int32} (a0 : Nat) (x1 : Int32) (u : fb_M) (ha0 : a0 < fb_NT ∧ fb_sh a0 = (7, 2)) : ∀ (fu : Nat) (x2 : Int32) ,  gX7_placeOf_2 a0 x1 u fu x2 = some res → fb_V g RX7 cX7_placeOf 3 (some .int) "placeOf" (fb_room 0 0 0 0) (fb_Qm g (some (.int res)) fb_NT u 0 0) 0 0 fb_NT u 2 [(0, .ref (fb_b g + a0)), (1, .int x1), (2, .int x2)] [] := by
  intro fu
  induction fu with
  | zero => intro x2 h; exact absurd h (by simp [gX7_placeOf_2])
  | succ fu ih => intro x2 h; exact tbX7_placeOf_2 a0 x1 x2 u (gX7_placeOf_2 a0 x1 u fu) ha0 ih h
def fX7_placeOf (u : fb_M) (a0 : Nat) (x1 : Int32) : Option Int32 :=
 (gX7_placeOf_2 a0 x1 u fb_F 0)
set_option maxRecDepth 100000 in
set_option maxHeartbeats 4000000 in
theorem mX7_placeOf (g : fb_G) (u : fb_M) (a0 : Nat) (x1 : Int32) (ha0 : a0 < fb_NT ∧ fb_sh a0 = (7, 2)) {res : Int32} (h : fX7_placeOf u a0 x1 = some res) : fb_Runs g 0 0 0 0 fb_NT fb_NT yX7_placeOf cX7_placeOf 3 (some .int) [.ref (fb_b g + a0), .int x1] u (some (.int res)) u := by
  unfold fX7_placeOf at h
  refine fb_enter (by decide) (Nat.le_of_ble_eq_true rfl) ?_
  show fb_V g RX7 cX7_placeOf 3 (some .int) "placeOf" (fb_room 0 0 0 0) (fb_Qm g (some (.int res)) fb_NT u 0 0) 0 0 fb_NT u 0 [(0, .ref (fb_b g + a0)), (1, .int x1)] []
  refine fb_iconst (pc := 0) (v := 0) dX7_placeOf_0 fb_ki_0 ?_
  refine fb_istore_n (pc := 1) (lv' := [(2, .int 0), (0, .ref (fb_b g + a0)), (1, .int x1)]) dX7_placeOf_1 rfl (by decide) rfl ?_
  exact fb_sub [1, 2, 0] rfl (tgX7_placeOf_2 a0 x1 u ha0 fb_F 0 h)

theorem dX7_put_0 : decode cX7_put 0 = .ok (.iload_n 1, 1) := by decide +kernel
theorem dX7_put_1 : decode cX7_put 1 = .ok (.iconst 1, 1) := by decide +kernel
theorem dX7_put_2 : decode cX7_put 2 = .ok (.if_icmp .lt 10, 3) := by decide +kernel
theorem dX7_put_5 : decode cX7_put 5 = .ok (.iload_n 1, 1) := by decide +kernel
theorem dX7_put_6 : decode cX7_put 6 = .ok (.sipush 9999, 3) := by decide +kernel
theorem dX7_put_9 : decode cX7_put 9 = .ok (.if_icmp .le 5, 3) := by decide +kernel
theorem dX7_put_12 : decode cX7_put 12 = .ok (.iconst 0, 1) := by decide +kernel
theorem dX7_put_13 : decode cX7_put 13 = .ok (.ireturn, 1) := by decide +kernel
theorem dX7_put_14 : decode cX7_put 14 = .ok (.aload_n 0, 1) := by decide +kernel
theorem dX7_put_15 : decode cX7_put 15 = .ok (.iload_n 1, 1) := by decide +kernel
theorem dX7_put_16 : decode cX7_put 16 = .ok (.invokevirtual 23, 3) := by decide +kernel
theorem dX7_put_19 : decode cX7_put 19 = .ok (.istore_n 3, 1) := by decide +kernel
theorem dX7_put_20 : decode cX7_put 20 = .ok (.iload_n 3, 1) := by decide +kernel
theorem dX7_put_21 : decode cX7_put 21 = .ok (.ifCond .ge 29, 3) := by decide +kernel
theorem dX7_put_24 : decode cX7_put 24 = .ok (.aload_n 0, 1) := by decide +kernel
theorem dX7_put_25 : decode cX7_put 25 = .ok (.getfield 16, 3) := by decide +kernel
theorem dX7_put_28 : decode cX7_put 28 = .ok (.bipush 10, 2) := by decide +kernel
theorem dX7_put_30 : decode cX7_put 30 = .ok (.if_icmp .lt 5, 3) := by decide +kernel
theorem dX7_put_33 : decode cX7_put 33 = .ok (.iconst 0, 1) := by decide +kernel
theorem dX7_put_34 : decode cX7_put 34 = .ok (.ireturn, 1) := by decide +kernel
theorem dX7_put_35 : decode cX7_put 35 = .ok (.aload_n 0, 1) := by decide +kernel
theorem dX7_put_36 : decode cX7_put 36 = .ok (.getfield 16, 3) := by decide +kernel
theorem dX7_put_39 : decode cX7_put 39 = .ok (.istore_n 3, 1) := by decide +kernel
theorem dX7_put_40 : decode cX7_put 40 = .ok (.aload_n 0, 1) := by decide +kernel
theorem dX7_put_41 : decode cX7_put 41 = .ok (.dup, 1) := by decide +kernel
theorem dX7_put_42 : decode cX7_put 42 = .ok (.getfield 16, 3) := by decide +kernel
theorem dX7_put_45 : decode cX7_put 45 = .ok (.iconst 1, 1) := by decide +kernel
theorem dX7_put_46 : decode cX7_put 46 = .ok (.iadd, 1) := by decide +kernel
theorem dX7_put_47 : decode cX7_put 47 = .ok (.putfield 16, 3) := by decide +kernel
theorem dX7_put_50 : decode cX7_put 50 = .ok (.aload_n 0, 1) := by decide +kernel
theorem dX7_put_51 : decode cX7_put 51 = .ok (.getfield 11, 3) := by decide +kernel
theorem dX7_put_54 : decode cX7_put 54 = .ok (.iload_n 3, 1) := by decide +kernel
theorem dX7_put_55 : decode cX7_put 55 = .ok (.aaload, 1) := by decide +kernel
theorem dX7_put_56 : decode cX7_put 56 = .ok (.iload_n 1, 1) := by decide +kernel
theorem dX7_put_57 : decode cX7_put 57 = .ok (.putfield 20, 3) := by decide +kernel
theorem dX7_put_60 : decode cX7_put 60 = .ok (.aload_n 2, 1) := by decide +kernel
theorem dX7_put_61 : decode cX7_put 61 = .ok (.iconst 0, 1) := by decide +kernel
theorem dX7_put_62 : decode cX7_put 62 = .ok (.aload_n 0, 1) := by decide +kernel
theorem dX7_put_63 : decode cX7_put 63 = .ok (.getfield 11, 3) := by decide +kernel
theorem dX7_put_66 : decode cX7_put 66 = .ok (.iload_n 3, 1) := by decide +kernel
theorem dX7_put_67 : decode cX7_put 67 = .ok (.aaload, 1) := by decide +kernel
theorem dX7_put_68 : decode cX7_put 68 = .ok (.getfield 27, 3) := by decide +kernel
theorem dX7_put_71 : decode cX7_put 71 = .ok (.iconst 0, 1) := by decide +kernel
theorem dX7_put_72 : decode cX7_put 72 = .ok (.aload_n 2, 1) := by decide +kernel
theorem dX7_put_73 : decode cX7_put 73 = .ok (.arraylength, 1) := by decide +kernel
theorem dX7_put_74 : decode cX7_put 74 = .ok (.invokestatic 31, 3) := by decide +kernel
theorem dX7_put_77 : decode cX7_put 77 = .ok (.iconst 1, 1) := by decide +kernel
theorem dX7_put_78 : decode cX7_put 78 = .ok (.ireturn, 1) := by decide +kernel
def jX7_put_50 (a0 : Nat) (x1 : Int32) (a2 : Nat) (x3 : Int32) (u : fb_M) : Option (Int32 × fb_M) :=
 ((fb_R u a0 0).bind fun q51 => fb_gd (q51 < fb_NT ∧ (fb_sh q51).1 = 106) 
  ((fb_gd (¬ (x3 < 0 ∨ (fb_sh q51).2 ≤ x3.toNatClampNeg)) 
  ((fb_R u q51 x3.toNatClampNeg).bind fun q55 => fb_gd (q55 < fb_NT ∧ fb_sh q55 = (1, 2)) 
  (((fb_R (fb_wI u q55 0 x1) a0 0).bind fun q63 => fb_gd (q63 < fb_NT ∧ (fb_sh q63).1 = 106) 
  ((fb_gd (¬ (x3 < 0 ∨ (fb_sh q63).2 ≤ x3.toNatClampNeg)) 
  ((fb_R (fb_wI u q55 0 x1) q63 x3.toNatClampNeg).bind fun q67 => fb_gd (q67 < fb_NT ∧ fb_sh q67 = (1, 2)) 
  (((fb_R (fb_wI u q55 0 x1) q67 1).bind fun q68 => fb_gd (q68 < fb_NT ∧ (fb_sh q68).1 = 103) 
  ((fb_gd ((¬ (0 : Int32) < 0 ∧ ¬ (0 : Int32) < 0 ∧ ¬ (Int32.ofNat (fb_sh a2).2) < 0) ∧ (0 : Int32).toNatClampNeg + (Int32.ofNat (fb_sh a2).2).toNatClampNeg ≤ (fb_sh a2).2 ∧ (0 : Int32).toNatClampNeg + (Int32.ofNat (fb_sh a2).2).toNatClampNeg ≤ (fb_sh q68).2) 
  (some (1, fb_cpL (fb_wI u q55 0 x1) a2 q68 (0 : Int32).toNatClampNeg (0 : Int32).toNatClampNeg (Int32.ofNat (fb_sh a2).2).toNatClampNeg)))))))))))))))
set_option maxRecDepth 100000 in
set_option maxHeartbeats 4000000 in
theorem tjX7_put_50 {g : fb_G} {res : (Int32 × fb_M)} (a0 : Nat) (x1 : Int32) (a2 : Nat) (x3 : Int32) (u : fb_M) (ha0 : a0 < fb_NT ∧ fb_sh a0 = (7, 2)) (ha2 : a2 < fb_NT ∧ (fb_sh a2).1 = 103) (h : jX7_put_50 a0 x1 a2 x3 u = some res) : fb_V g RX7 cX7_put 4 (some .boolean) "put" (fb_room 1 80 0 0) (fb_Qm g (some (.int res.1)) fb_NT res.2 0 0) 0 0 fb_NT u 50 [(0, .ref (fb_b g + a0)), (1, .int x1), (2, .ref (fb_b g + a2)), (3, .int x3)] [] := by
  unfold jX7_put_50 at h
  refine fb_aload_n (pc := 50) dX7_put_50 0 rfl ?_
  refine fb_bnE h (fun q51 e51 h => fb_gdE h (fun s51 h => ?_))
  refine fb_getR (pc := 51) dX7_put_51 lkX7_11 ha0.1 ha0.2 (by decide) e51 ?_
  refine fb_iload_n (pc := 54) dX7_put_54 3 rfl ?_
  refine fb_gdE h (fun i55 h => fb_bnE h (fun q55 e55 h => fb_gdE h (fun s55 h => ?_)))
  refine fb_aald (pc := 55) (t := 6) dX7_put_55 s51.1 (fb_eta s51.2) ⟨by decide, by decide, rfl⟩ i55 e55 ?_
  refine fb_iload_n (pc := 56) dX7_put_56 1 rfl ?_
  refine fb_putI (pc := 57) dX7_put_57 lkX7_20 ly_1_0 s55.1 s55.2 rfl rfl rfl ?_
  refine fb_aload_n (pc := 60) dX7_put_60 2 rfl ?_
  refine fb_iconst (pc := 61) (v := 0) dX7_put_61 fb_ki_0 ?_
  refine fb_aload_n (pc := 62) dX7_put_62 0 rfl ?_
  refine fb_bnE h (fun q63 e63 h => fb_gdE h (fun s63 h => ?_))
  refine fb_getR (pc := 63) dX7_put_63 lkX7_11 ha0.1 ha0.2 (by decide) e63 ?_
  refine fb_iload_n (pc := 66) dX7_put_66 3 rfl ?_
  refine fb_gdE h (fun i67 h => fb_bnE h (fun q67 e67 h => fb_gdE h (fun s67 h => ?_)))
  refine fb_aald (pc := 67) (t := 6) dX7_put_67 s63.1 (fb_eta s63.2) ⟨by decide, by decide, rfl⟩ i67 e67 ?_
  refine fb_bnE h (fun q68 e68 h => fb_gdE h (fun s68 h => ?_))
  refine fb_getR (pc := 68) dX7_put_68 lkX7_27 s67.1 s67.2 (by decide) e68 ?_
  refine fb_iconst (pc := 71) (v := 0) dX7_put_71 fb_ki_0 ?_
  refine fb_aload_n (pc := 72) dX7_put_72 2 rfl ?_
  refine fb_alen (pc := 73) (t := 3) dX7_put_73 ha2.1 (fb_eta ha2.2) (by decide) ?_
  refine fb_gdE h (fun c74 h => ?_)
  refine fb_copyL (pc := 74) dX7_put_74 ywX7_31 copy_w1 copy_w2 copy_w3 ha2.1 (fb_eta ha2.2) s68.1 (fb_eta s68.2) (Nat.lt_irrefl _) c74.1 c74.2 (Nat.le_of_ble_eq_true rfl) ⟨Nat.le_of_ble_eq_true rfl, Nat.le_of_ble_eq_true rfl⟩ ⟨Nat.le_of_ble_eq_true rfl, Nat.le_of_ble_eq_true rfl⟩ ?_
  refine fb_iconst (pc := 77) (v := 1) dX7_put_77 fb_ki_1 ?_
  exact fb_zretM (pc := 78) rfl h dX7_put_78

def fX7_put (u : fb_M) (a0 : Nat) (x1 : Int32) (a2 : Nat) : Option (Int32 × fb_M) :=
 (if x1 < 1 then (some (0, u))
  else (if x1 ≤ 9999 then ((fX7_placeOf u a0 x1).bind fun r16 => 
    (if 0 ≤ r16 then (jX7_put_50 a0 x1 a2 r16 u)
    else (if (fb_I u a0 1) < 10 then (jX7_put_50 a0 x1 a2 (fb_I u a0 1) (fb_wI u a0 1 ((fb_I u a0 1) + 1)))
     else (some (0, u)))))
   else (some (0, u))))
set_option maxRecDepth 100000 in
set_option maxHeartbeats 4000000 in
theorem mX7_put (g : fb_G) (u : fb_M) (a0 : Nat) (x1 : Int32) (a2 : Nat) (ha0 : a0 < fb_NT ∧ fb_sh a0 = (7, 2)) (ha2 : a2 < fb_NT ∧ (fb_sh a2).1 = 103) {res : (Int32 × fb_M)} (h : fX7_put u a0 x1 a2 = some res) : fb_Runs g 1 80 0 0 fb_NT fb_NT yX7_put cX7_put 4 (some .boolean) [.ref (fb_b g + a0), .int x1, .ref (fb_b g + a2)] u (some (.int res.1)) res.2 := by
  unfold fX7_put at h
  refine fb_enter (by decide) (Nat.le_of_ble_eq_true rfl) ?_
  show fb_V g RX7 cX7_put 4 (some .boolean) "put" (fb_room 1 80 0 0) (fb_Qm g (some (.int res.1)) fb_NT res.2 0 0) 0 0 fb_NT u 0 [(0, .ref (fb_b g + a0)), (1, .int x1), (2, .ref (fb_b g + a2))] []
  refine fb_iload_n (pc := 0) dX7_put_0 1 rfl ?_
  refine fb_iconst (pc := 1) (v := 1) dX7_put_1 fb_ki_1 ?_
  refine fb_icmp_lt (pc := 2) (tgt := 12) h dX7_put_2 (by decide) (fun h => ?_) (fun h => ?_)
  · refine fb_iconst (pc := 12) (v := 0) dX7_put_12 fb_ki_0 ?_
    exact fb_zretM (pc := 13) rfl h dX7_put_13
  · refine fb_iload_n (pc := 5) dX7_put_5 1 rfl ?_
    refine fb_sipush (pc := 6) (v := 9999) dX7_put_6 fb_ks_9999 ?_
    refine fb_icmp_le (pc := 9) (tgt := 14) h dX7_put_9 (by decide) (fun h => ?_) (fun h => ?_)
    · refine fb_aload_n (pc := 14) dX7_put_14 0 rfl ?_
      refine fb_iload_n (pc := 15) dX7_put_15 1 rfl ?_
      refine fb_bnE h (fun r16 h16 h => ?_)
      refine fb_cV0v (pc := 16) [.int x1] dX7_put_16 (mX7_placeOf g u a0 x1 ha0 h16) ymX7_placeOf yiX7_placeOf ha0.1 ha0.2 ylX7_23 rfl (Nat.le_of_ble_eq_true rfl) ⟨Nat.le_of_ble_eq_true rfl, Nat.le_of_ble_eq_true rfl⟩ ⟨Nat.le_of_ble_eq_true rfl, Nat.le_of_ble_eq_true rfl⟩ ?_
      refine fb_istore_n (pc := 19) (lv' := [(3, .int r16), (0, .ref (fb_b g + a0)), (1, .int x1), (2, .ref (fb_b g + a2))]) dX7_put_19 rfl (by decide) rfl ?_
      refine fb_iload_n (pc := 20) dX7_put_20 0 rfl ?_
      refine fb_if_ge (pc := 21) (tgt := 50) h dX7_put_21 (by decide) (fun h => ?_) (fun h => ?_)
      · exact fb_sub [1, 2, 3, 0] rfl (tjX7_put_50 a0 x1 a2 r16 u ha0 ha2 h)
      · refine fb_aload_n (pc := 24) dX7_put_24 1 rfl ?_
        refine fb_getI (pc := 25) dX7_put_25 lkX7_16 ha0.1 ha0.2 rfl ?_
        refine fb_bipush (pc := 28) (v := 10) dX7_put_28 fb_kb_10 ?_
        refine fb_icmp_lt (pc := 30) (tgt := 35) h dX7_put_30 (by decide) (fun h => ?_) (fun h => ?_)
        · refine fb_aload_n (pc := 35) dX7_put_35 1 rfl ?_
          refine fb_getI (pc := 36) dX7_put_36 lkX7_16 ha0.1 ha0.2 rfl ?_
          refine fb_istore_n (pc := 39) (lv' := [(3, .int (fb_I u a0 1)), (0, .ref (fb_b g + a0)), (1, .int x1), (2, .ref (fb_b g + a2))]) dX7_put_39 rfl (by decide) rfl ?_
          refine fb_aload_n (pc := 40) dX7_put_40 1 rfl ?_
          refine fb_dup (pc := 41) dX7_put_41 rfl ?_
          refine fb_getI (pc := 42) dX7_put_42 lkX7_16 ha0.1 ha0.2 rfl ?_
          refine fb_iconst (pc := 45) (v := 1) dX7_put_45 fb_ki_1 ?_
          refine fb_iadd (pc := 46) dX7_put_46 ?_
          refine fb_putI (pc := 47) dX7_put_47 lkX7_16 ly_7_1 ha0.1 ha0.2 rfl rfl rfl ?_
          exact fb_sub [1, 2, 3, 0] rfl (tjX7_put_50 a0 x1 a2 (fb_I u a0 1) (fb_wI u a0 1 ((fb_I u a0 1) + 1)) ha0 ha2 h)
        · refine fb_iconst (pc := 33) (v := 0) dX7_put_33 fb_ki_0 ?_
          exact fb_zretM (pc := 34) rfl h dX7_put_34
    · refine fb_iconst (pc := 12) (v := 0) dX7_put_12 fb_ki_0 ?_
      exact fb_zretM (pc := 13) rfl h dX7_put_13

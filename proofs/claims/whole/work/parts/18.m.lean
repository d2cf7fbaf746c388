theorem dX9_takeCondition_0 : decode cX9_takeCondition 0 = .ok (.iload_n 1, 1) := by decide +kernel
theorem dX9_takeCondition_1 : decode cX9_takeCondition 1 = .ok (.istore_n 3, 1) := by decide +kernel
theorem dX9_takeCondition_2 : decode cX9_takeCondition 2 = .ok (.iload_n 1, 1) := by decide +kernel
theorem dX9_takeCondition_3 : decode cX9_takeCondition 3 = .ok (.istore 4, 2) := by decide +kernel
theorem dX9_takeCondition_5 : decode cX9_takeCondition 5 = .ok (.iload 4, 2) := by decide +kernel
theorem dX9_takeCondition_7 : decode cX9_takeCondition 7 = .ok (.iload_n 2, 1) := by decide +kernel
theorem dX9_takeCondition_8 : decode cX9_takeCondition 8 = .ok (.if_icmp .ge 56, 3) := by decide +kernel
theorem dX9_takeCondition_11 : decode cX9_takeCondition 11 = .ok (.aload_n 0, 1) := by decide +kernel
theorem dX9_takeCondition_12 : decode cX9_takeCondition 12 = .ok (.iload 4, 2) := by decide +kernel
theorem dX9_takeCondition_14 : decode cX9_takeCondition 14 = .ok (.iload_n 2, 1) := by decide +kernel
theorem dX9_takeCondition_15 : decode cX9_takeCondition 15 = .ok (.ldc2_w 196, 3) := by decide +kernel
theorem dX9_takeCondition_18 : decode cX9_takeCondition 18 = .ok (.invokevirtual 188, 3) := by decide +kernel
theorem dX9_takeCondition_21 : decode cX9_takeCondition 21 = .ok (.ifCond .eq 37, 3) := by decide +kernel
theorem dX9_takeCondition_24 : decode cX9_takeCondition 24 = .ok (.iload 4, 2) := by decide +kernel
theorem dX9_takeCondition_26 : decode cX9_takeCondition 26 = .ok (.iconst 2, 1) := by decide +kernel
theorem dX9_takeCondition_27 : decode cX9_takeCondition 27 = .ok (.iadd, 1) := by decide +kernel
theorem dX9_takeCondition_28 : decode cX9_takeCondition 28 = .ok (.iload_n 2, 1) := by decide +kernel
theorem dX9_takeCondition_29 : decode cX9_takeCondition 29 = .ok (.if_icmp .ge 29, 3) := by decide +kernel
theorem dX9_takeCondition_32 : decode cX9_takeCondition 32 = .ok (.aload_n 0, 1) := by decide +kernel
theorem dX9_takeCondition_33 : decode cX9_takeCondition 33 = .ok (.iload 4, 2) := by decide +kernel
theorem dX9_takeCondition_35 : decode cX9_takeCondition 35 = .ok (.iconst 2, 1) := by decide +kernel
theorem dX9_takeCondition_36 : decode cX9_takeCondition 36 = .ok (.iadd, 1) := by decide +kernel
theorem dX9_takeCondition_37 : decode cX9_takeCondition 37 = .ok (.invokevirtual 99, 3) := by decide +kernel
theorem dX9_takeCondition_40 : decode cX9_takeCondition 40 = .ok (.invokestatic 113, 3) := by decide +kernel
theorem dX9_takeCondition_43 : decode cX9_takeCondition 43 = .ok (.ifCond .eq 15, 3) := by decide +kernel
theorem dX9_takeCondition_46 : decode cX9_takeCondition 46 = .ok (.aload_n 0, 1) := by decide +kernel
theorem dX9_takeCondition_47 : decode cX9_takeCondition 47 = .ok (.iload_n 3, 1) := by decide +kernel
theorem dX9_takeCondition_48 : decode cX9_takeCondition 48 = .ok (.iload 4, 2) := by decide +kernel
theorem dX9_takeCondition_50 : decode cX9_takeCondition 50 = .ok (.invokevirtual 198, 3) := by decide +kernel
theorem dX9_takeCondition_53 : decode cX9_takeCondition 53 = .ok (.iload 4, 2) := by decide +kernel
theorem dX9_takeCondition_55 : decode cX9_takeCondition 55 = .ok (.iconst 2, 1) := by decide +kernel
theorem dX9_takeCondition_56 : decode cX9_takeCondition 56 = .ok (.iadd, 1) := by decide +kernel
theorem dX9_takeCondition_57 : decode cX9_takeCondition 57 = .ok (.istore_n 3, 1) := by decide +kernel
theorem dX9_takeCondition_58 : decode cX9_takeCondition 58 = .ok (.iinc 4 1, 3) := by decide +kernel
theorem dX9_takeCondition_61 : decode cX9_takeCondition 61 = .ok (.goto (-56), 3) := by decide +kernel
theorem dX9_takeCondition_64 : decode cX9_takeCondition 64 = .ok (.aload_n 0, 1) := by decide +kernel
theorem dX9_takeCondition_65 : decode cX9_takeCondition 65 = .ok (.iload_n 3, 1) := by decide +kernel
theorem dX9_takeCondition_66 : decode cX9_takeCondition 66 = .ok (.iload_n 2, 1) := by decide +kernel
theorem dX9_takeCondition_67 : decode cX9_takeCondition 67 = .ok (.invokevirtual 198, 3) := by decide +kernel
theorem dX9_takeCondition_70 : decode cX9_takeCondition 70 = .ok (.return_, 1) := by decide +kernel
def bX9_takeCondition_5 (K5 : Int32 → Int32 → fb_M → Option fb_M) (a0 : Nat) (x2 : Int32) (x3 : Int32) (x4 : Int32) (u : fb_M) : Option fb_M :=
 (if x2 ≤ x4 then ((fX9_takeAlternative u a0 x3 x2).bind fun r67 => 
   (some r67))
  else ((fX9_stands u a0 x4 x2 20338).bind fun r18 => 
   (if r18 = 0 then (K5 x3 (x4 + 1) u)
   else (if x2 ≤ (x4 + 2) then (K5 x3 (x4 + 1) u)
    else ((fX9_at u a0 (x4 + 2)).bind fun r37 => 
     ((fX9_capital u r37).bind fun r40 => 
     (if r40 = 0 then (K5 x3 (x4 + 1) u)
     else ((fX9_takeAlternative u a0 x3 x4).bind fun r50 => 
      (K5 (x4 + 2) (x4 + 1) r50)))))))))
def gX9_takeCondition_5 (a0 : Nat) (x2 : Int32) : Nat → Int32 → Int32 → fb_M → Option fb_M
 | 0 => fun _ _ _ => none
 | fu + 1 => fun x3 x4 u => bX9_takeCondition_5 (gX9_takeCondition_5 a0 x2 fu) a0 x2 x3 x4 u
set_option maxRecDepth 100000 in
set_option maxHeartbeats 4000000 in
theorem tbX9_takeCondition_5 {g : fb_G} {res : fb_M} (a0 : Nat) (x2 : Int32) (x3 : Int32) (x4 : Int32) (u : fb_M) (K5 : Int32 → Int32 → fb_M → Option fb_M) (ha0 : a0 < fb_NT ∧ fb_sh a0 = (9, 40)) (hK5 : ∀ (x3 : Int32) (x4 : Int32) (u : fb_M) ,  K5 x3 x4 u = some res → fb_V g RX9 cX9_takeCondition 5 none "takeCondition" (fb_room 6 150 0 0) (fb_Qm g none fb_NT res 0 0) 0 0 fb_NT u 5 [(0, .ref (fb_b g + a0)), (2, .int x2), (3, .int x3), (4, .int x4)] []) (h : bX9_takeCondition_5 K5 a0 x2 x3 x4 u = some res) : fb_V g RX9 cX9_takeCondition 5 none "takeCondition" (fb_room 6 150 0 0) (fb_Qm g none fb_NT res 0 0) 0 0 fb_NT u 5 [(0, .ref (fb_b g + a0)), (2, .int x2), (3, .int x3), (4, .int x4)] [] := by
  unfold bX9_takeCondition_5 at h
  refine fb_iload (pc := 5) dX9_takeCondition_5 3 rfl ?_
  refine fb_iload_n (pc := 7) dX9_takeCondition_7 1 rfl ?_
  refine fb_icmp_ge (pc := 8) (tgt := 64) h dX9_takeCondition_8 (by decide) (fun h => ?_) (fun h => ?_)
  · refine fb_aload_n (pc := 64) dX9_takeCondition_64 0 rfl ?_
    refine fb_iload_n (pc := 65) dX9_takeCondition_65 2 rfl ?_
    refine fb_iload_n (pc := 66) dX9_takeCondition_66 1 rfl ?_
    refine fb_bnE h (fun r67 h67 h => ?_)
    refine fb_cV0n (pc := 67) [.int x3, .int x2] dX9_takeCondition_67 (mX9_takeAlternative g u a0 x3 x2 ha0 h67) ymX9_takeAlternative yiX9_takeAlternative ha0.1 ha0.2 ylX9_198 rfl (Nat.le_of_ble_eq_true rfl) ⟨Nat.le_of_ble_eq_true rfl, Nat.le_of_ble_eq_true rfl⟩ ⟨Nat.le_of_ble_eq_true rfl, Nat.le_of_ble_eq_true rfl⟩ ?_
    exact fb_vretM (pc := 70) h dX9_takeCondition_70
  · refine fb_aload_n (pc := 11) dX9_takeCondition_11 0 rfl ?_
    refine fb_iload (pc := 12) dX9_takeCondition_12 3 rfl ?_
    refine fb_iload_n (pc := 14) dX9_takeCondition_14 1 rfl ?_
    refine fb_ldc2 (pc := 15) (v := 20338) dX9_takeCondition_15 lwX9_196 ?_
    refine fb_bnE h (fun r18 h18 h => ?_)
    refine fb_cV0v (pc := 18) [.int x4, .int x2, .long 20338] dX9_takeCondition_18 (mX9_stands g u a0 x4 x2 20338 ha0 h18) ymX9_stands yiX9_stands ha0.1 ha0.2 ylX9_188 rfl (Nat.le_of_ble_eq_true rfl) ⟨Nat.le_of_ble_eq_true rfl, Nat.le_of_ble_eq_true rfl⟩ ⟨Nat.le_of_ble_eq_true rfl, Nat.le_of_ble_eq_true rfl⟩ ?_
    refine fb_if_eq (pc := 21) (tgt := 58) h dX9_takeCondition_21 (by decide) (fun h => ?_) (fun h => ?_)
    · refine fb_iinc (pc := 58) (v := 1) (lv' := [(4, .int (x4 + 1)), (0, .ref (fb_b g + a0)), (2, .int x2), (3, .int x3)]) dX9_takeCondition_58 3 rfl fb_ki_1 (by decide) rfl ?_
      refine fb_goto (pc := 61) (tgt := 5) dX9_takeCondition_61 (by decide) ?_
      exact fb_sub [1, 2, 3, 0] rfl (hK5 x3 (x4 + 1) u h)
    · refine fb_iload (pc := 24) dX9_takeCondition_24 3 rfl ?_
      refine fb_iconst (pc := 26) (v := 2) dX9_takeCondition_26 fb_ki_2 ?_
      refine fb_iadd (pc := 27) dX9_takeCondition_27 ?_
      refine fb_iload_n (pc := 28) dX9_takeCondition_28 1 rfl ?_
      refine fb_icmp_ge (pc := 29) (tgt := 58) h dX9_takeCondition_29 (by decide) (fun h => ?_) (fun h => ?_)
      · refine fb_iinc (pc := 58) (v := 1) (lv' := [(4, .int (x4 + 1)), (0, .ref (fb_b g + a0)), (2, .int x2), (3, .int x3)]) dX9_takeCondition_58 3 rfl fb_ki_1 (by decide) rfl ?_
        refine fb_goto (pc := 61) (tgt := 5) dX9_takeCondition_61 (by decide) ?_
        exact fb_sub [1, 2, 3, 0] rfl (hK5 x3 (x4 + 1) u h)
      · refine fb_aload_n (pc := 32) dX9_takeCondition_32 0 rfl ?_
        refine fb_iload (pc := 33) dX9_takeCondition_33 3 rfl ?_
        refine fb_iconst (pc := 35) (v := 2) dX9_takeCondition_35 fb_ki_2 ?_
        refine fb_iadd (pc := 36) dX9_takeCondition_36 ?_
        refine fb_bnE h (fun r37 h37 h => ?_)
        refine fb_cV0v (pc := 37) [.int (x4 + 2)] dX9_takeCondition_37 (mX9_at g u a0 (x4 + 2) ha0 h37) ymX9_at yiX9_at ha0.1 ha0.2 ylX9_99 rfl (Nat.le_of_ble_eq_true rfl) ⟨Nat.le_of_ble_eq_true rfl, Nat.le_of_ble_eq_true rfl⟩ ⟨Nat.le_of_ble_eq_true rfl, Nat.le_of_ble_eq_true rfl⟩ ?_
        refine fb_bnE h (fun r40 h40 h => ?_)
        refine fb_cS0v (pc := 40) [.int r37] dX9_takeCondition_40 (mX9_capital g u r37 h40) ymX9_capital ysX9_capital ylX9_113 rfl (Nat.le_of_ble_eq_true rfl) ⟨Nat.le_of_ble_eq_true rfl, Nat.le_of_ble_eq_true rfl⟩ ⟨Nat.le_of_ble_eq_true rfl, Nat.le_of_ble_eq_true rfl⟩ ?_
        refine fb_if_eq (pc := 43) (tgt := 58) h dX9_takeCondition_43 (by decide) (fun h => ?_) (fun h => ?_)
        · refine fb_iinc (pc := 58) (v := 1) (lv' := [(4, .int (x4 + 1)), (0, .ref (fb_b g + a0)), (2, .int x2), (3, .int x3)]) dX9_takeCondition_58 3 rfl fb_ki_1 (by decide) rfl ?_
          refine fb_goto (pc := 61) (tgt := 5) dX9_takeCondition_61 (by decide) ?_
          exact fb_sub [1, 2, 3, 0] rfl (hK5 x3 (x4 + 1) u h)
        · refine fb_aload_n (pc := 46) dX9_takeCondition_46 0 rfl ?_
          refine fb_iload_n (pc := 47) dX9_takeCondition_47 2 rfl ?_
          refine fb_iload (pc := 48) dX9_takeCondition_48 3 rfl ?_
          refine fb_bnE h (fun r50 h50 h => ?_)
          refine fb_cV0n (pc := 50) [.int x3, .int x4] dX9_takeCondition_50 (mX9_takeAlternative g u a0 x3 x4 ha0 h50) ymX9_takeAlternative yiX9_takeAlternative ha0.1 ha0.2 ylX9_198 rfl (Nat.le_of_ble_eq_true rfl) ⟨Nat.le_of_ble_eq_true rfl, Nat.le_of_ble_eq_true rfl⟩ ⟨Nat.le_of_ble_eq_true rfl, Nat.le_of_ble_eq_true rfl⟩ ?_
          refine fb_iload (pc := 53) dX9_takeCondition_53 3 rfl ?_
          refine fb_iconst (pc := 55) (v := 2) dX9_takeCondition_55 fb_ki_2 ?_
          refine fb_iadd (pc := 56) dX9_takeCondition_56 ?_
          refine fb_istore_n (pc := 57) (lv' := [(3, .int (x4 + 2)), (0, .ref (fb_b g + a0)), (2, .int x2), (4, .int x4)]) dX9_takeCondition_57 rfl (by decide) rfl ?_
          refine fb_iinc (pc := 58) (v := 1) (lv' := [(4, .int (x4 + 1)), (3, .int (x4 + 2)), (0, .ref (fb_b g + a0)), (2, .int x2)]) dX9_takeCondition_58 3 rfl fb_ki_1 (by decide) rfl ?_
          refine fb_goto (pc := 61) (tgt := 5) dX9_takeCondition_61 (by decide) ?_
          exact fb_sub [2, 3, 1, 0] rfl (hK5 (x4 + 2) (x4 + 1) r50 h)

theorem tgX9_takeCondition_5 {g : fb_G} {res : fb_M} (a0 : Nat) (x2 : Int32) (ha0 : a0 < fb_NT ∧ fb_sh a0 = (9, 40)) : ∀ (fu : Nat) (x3 : Int32) (x4 : Int32) (u : fb_M) ,  gX9_takeCondition_5 a0 x2 fu x3 x4 u = some res → fb_V g RX9 cX9_takeCondition 5 none "takeCondition" (fb_room 6 150 0 0) (fb_Qm g none fb_NT res 0 0) 0 0 fb_NT u 5 [(0, .ref (fb_b g + a0)), (2, .int x2), (3, .int x3), (4, .int x4)] [] := by
  intro fu
  induction fu with
  | zero => intro x3 x4 u h; exact absurd h (by simp [gX9_takeCondition_5])
  | succ fu ih => intro x3 x4 u h; exact tbX9_takeCondition_5 a0 x2 x3 x4 u (gX9_takeCondition_5 a0 x2 fu) ha0 ih h
def fX9_takeCondition (u : fb_M) (a0 : Nat) (x1 : Int32) (x2 : Int32) : Option fb_M :=
 (gX9_takeCondition_5 a0 x2 fb_F x1 x1 u)
set_option maxRecDepth 100000 in
set_option maxHeartbeats 4000000 in
theorem mX9_takeCondition (g : fb_G) (u : fb_M) (a0 : Nat) (x1 : Int32) (x2 : Int32) (ha0 : a0 < fb_NT ∧ fb_sh a0 = (9, 40)) {res : fb_M} (h : fX9_takeCondition u a0 x1 x2 = some res) : fb_Runs g 6 150 0 0 fb_NT fb_NT yX9_takeCondition cX9_takeCondition 5 none [.ref (fb_b g + a0), .int x1, .int x2] u none res := by
  unfold fX9_takeCondition at h
  refine fb_enter (by decide) (Nat.le_of_ble_eq_true rfl) ?_
  show fb_V g RX9 cX9_takeCondition 5 none "takeCondition" (fb_room 6 150 0 0) (fb_Qm g none fb_NT res 0 0) 0 0 fb_NT u 0 [(0, .ref (fb_b g + a0)), (1, .int x1), (2, .int x2)] []
  refine fb_iload_n (pc := 0) dX9_takeCondition_0 1 rfl ?_
  refine fb_istore_n (pc := 1) (lv' := [(3, .int x1), (0, .ref (fb_b g + a0)), (1, .int x1), (2, .int x2)]) dX9_takeCondition_1 rfl (by decide) rfl ?_
  refine fb_iload_n (pc := 2) dX9_takeCondition_2 2 rfl ?_
  refine fb_istore (pc := 3) (lv' := [(4, .int x1), (3, .int x1), (0, .ref (fb_b g + a0)), (1, .int x1), (2, .int x2)]) dX9_takeCondition_3 (by decide) rfl ?_
  exact fb_sub [2, 4, 1, 0] rfl (tgX9_takeCondition_5 a0 x2 ha0 fb_F x1 x1 u h)

theorem dX9_takeOrder_0 : decode cX9_takeOrder 0 = .ok (.aload_n 0, 1) := by decide +kernel
theorem dX9_takeOrder_1 : decode cX9_takeOrder 1 = .ok (.iload_n 1, 1) := by decide +kernel
theorem dX9_takeOrder_2 : decode cX9_takeOrder 2 = .ok (.iload_n 2, 1) := by decide +kernel
theorem dX9_takeOrder_3 : decode cX9_takeOrder 3 = .ok (.ldc2_w 201, 3) := by decide +kernel
theorem dX9_takeOrder_6 : decode cX9_takeOrder 6 = .ok (.invokevirtual 109, 3) := by decide +kernel
theorem dX9_takeOrder_9 : decode cX9_takeOrder 9 = .ok (.istore_n 3, 1) := by decide +kernel
theorem dX9_takeOrder_10 : decode cX9_takeOrder 10 = .ok (.aload_n 0, 1) := by decide +kernel
theorem dX9_takeOrder_11 : decode cX9_takeOrder 11 = .ok (.iload_n 1, 1) := by decide +kernel
theorem dX9_takeOrder_12 : decode cX9_takeOrder 12 = .ok (.iload_n 2, 1) := by decide +kernel
theorem dX9_takeOrder_13 : decode cX9_takeOrder 13 = .ok (.ldc2_w 203, 3) := by decide +kernel
theorem dX9_takeOrder_16 : decode cX9_takeOrder 16 = .ok (.invokevirtual 109, 3) := by decide +kernel
theorem dX9_takeOrder_19 : decode cX9_takeOrder 19 = .ok (.istore 4, 2) := by decide +kernel
theorem dX9_takeOrder_21 : decode cX9_takeOrder 21 = .ok (.aload_n 0, 1) := by decide +kernel
theorem dX9_takeOrder_22 : decode cX9_takeOrder 22 = .ok (.iload_n 1, 1) := by decide +kernel
theorem dX9_takeOrder_23 : decode cX9_takeOrder 23 = .ok (.iload_n 3, 1) := by decide +kernel
theorem dX9_takeOrder_24 : decode cX9_takeOrder 24 = .ok (.ifCond .lt 7, 3) := by decide +kernel
theorem dX9_takeOrder_27 : decode cX9_takeOrder 27 = .ok (.iload_n 3, 1) := by decide +kernel
theorem dX9_takeOrder_28 : decode cX9_takeOrder 28 = .ok (.goto 14, 3) := by decide +kernel
theorem dX9_takeOrder_31 : decode cX9_takeOrder 31 = .ok (.iload 4, 2) := by decide +kernel
theorem dX9_takeOrder_33 : decode cX9_takeOrder 33 = .ok (.ifCond .lt 8, 3) := by decide +kernel
theorem dX9_takeOrder_36 : decode cX9_takeOrder 36 = .ok (.iload 4, 2) := by decide +kernel
theorem dX9_takeOrder_38 : decode cX9_takeOrder 38 = .ok (.goto 4, 3) := by decide +kernel
theorem dX9_takeOrder_41 : decode cX9_takeOrder 41 = .ok (.iload_n 2, 1) := by decide +kernel
theorem dX9_takeOrder_42 : decode cX9_takeOrder 42 = .ok (.invokevirtual 141, 3) := by decide +kernel
theorem dX9_takeOrder_45 : decode cX9_takeOrder 45 = .ok (.istore 5, 2) := by decide +kernel
theorem dX9_takeOrder_47 : decode cX9_takeOrder 47 = .ok (.aload_n 0, 1) := by decide +kernel
theorem dX9_takeOrder_48 : decode cX9_takeOrder 48 = .ok (.aload_n 0, 1) := by decide +kernel
theorem dX9_takeOrder_49 : decode cX9_takeOrder 49 = .ok (.getfield 205, 3) := by decide +kernel
theorem dX9_takeOrder_52 : decode cX9_takeOrder 52 = .ok (.ifCond .ne 8, 3) := by decide +kernel
theorem dX9_takeOrder_55 : decode cX9_takeOrder 55 = .ok (.iload 5, 2) := by decide +kernel
theorem dX9_takeOrder_57 : decode cX9_takeOrder 57 = .ok (.ifCond .ge 7, 3) := by decide +kernel
theorem dX9_takeOrder_60 : decode cX9_takeOrder 60 = .ok (.iconst 1, 1) := by decide +kernel
theorem dX9_takeOrder_61 : decode cX9_takeOrder 61 = .ok (.goto 4, 3) := by decide +kernel
theorem dX9_takeOrder_64 : decode cX9_takeOrder 64 = .ok (.iconst 0, 1) := by decide +kernel
theorem dX9_takeOrder_65 : decode cX9_takeOrder 65 = .ok (.putfield 205, 3) := by decide +kernel
theorem dX9_takeOrder_68 : decode cX9_takeOrder 68 = .ok (.aload_n 0, 1) := by decide +kernel
theorem dX9_takeOrder_69 : decode cX9_takeOrder 69 = .ok (.getfield 208, 3) := by decide +kernel
theorem dX9_takeOrder_72 : decode cX9_takeOrder 72 = .ok (.iconst 3, 1) := by decide +kernel
theorem dX9_takeOrder_73 : decode cX9_takeOrder 73 = .ok (.if_icmp .ge 33, 3) := by decide +kernel
theorem dX9_takeOrder_76 : decode cX9_takeOrder 76 = .ok (.aload_n 0, 1) := by decide +kernel
theorem dX9_takeOrder_77 : decode cX9_takeOrder 77 = .ok (.getfield 62, 3) := by decide +kernel
theorem dX9_takeOrder_80 : decode cX9_takeOrder 80 = .ok (.aload_n 0, 1) := by decide +kernel
theorem dX9_takeOrder_81 : decode cX9_takeOrder 81 = .ok (.getfield 208, 3) := by decide +kernel
theorem dX9_takeOrder_84 : decode cX9_takeOrder 84 = .ok (.iload 5, 2) := by decide +kernel
theorem dX9_takeOrder_86 : decode cX9_takeOrder 86 = .ok (.iastore, 1) := by decide +kernel
theorem dX9_takeOrder_87 : decode cX9_takeOrder 87 = .ok (.aload_n 0, 1) := by decide +kernel
theorem dX9_takeOrder_88 : decode cX9_takeOrder 88 = .ok (.getfield 65, 3) := by decide +kernel
theorem dX9_takeOrder_91 : decode cX9_takeOrder 91 = .ok (.aload_n 0, 1) := by decide +kernel
theorem dX9_takeOrder_92 : decode cX9_takeOrder 92 = .ok (.getfield 208, 3) := by decide +kernel
theorem dX9_takeOrder_95 : decode cX9_takeOrder 95 = .ok (.iload 4, 2) := by decide +kernel
theorem dX9_takeOrder_97 : decode cX9_takeOrder 97 = .ok (.ifCond .lt 7, 3) := by decide +kernel
theorem dX9_takeOrder_100 : decode cX9_takeOrder 100 = .ok (.iconst 1, 1) := by decide +kernel
theorem dX9_takeOrder_101 : decode cX9_takeOrder 101 = .ok (.goto 4, 3) := by decide +kernel
theorem dX9_takeOrder_104 : decode cX9_takeOrder 104 = .ok (.iconst 0, 1) := by decide +kernel
theorem dX9_takeOrder_105 : decode cX9_takeOrder 105 = .ok (.bastore, 1) := by decide +kernel
theorem dX9_takeOrder_106 : decode cX9_takeOrder 106 = .ok (.aload_n 0, 1) := by decide +kernel
theorem dX9_takeOrder_107 : decode cX9_takeOrder 107 = .ok (.dup, 1) := by decide +kernel
theorem dX9_takeOrder_108 : decode cX9_takeOrder 108 = .ok (.getfield 208, 3) := by decide +kernel
theorem dX9_takeOrder_111 : decode cX9_takeOrder 111 = .ok (.iconst 1, 1) := by decide +kernel
theorem dX9_takeOrder_112 : decode cX9_takeOrder 112 = .ok (.iadd, 1) := by decide +kernel
theorem dX9_takeOrder_113 : decode cX9_takeOrder 113 = .ok (.putfield 208, 3) := by decide +kernel
theorem dX9_takeOrder_116 : decode cX9_takeOrder 116 = .ok (.return_, 1) := by decide +kernel
def jX9_takeOrder_65 (a0 : Nat) (x4 : Int32) (x5 : Int32) (b0 : Nat) (k1 : Int32) (u : fb_M) : Option fb_M :=
 (fb_gd (k1 = 0 ∨ k1 = 1) 
  (if 3 ≤ (fb_I (fb_wI u b0 21 k1) a0 19) then (some (fb_wI (fb_wI u b0 21 k1) a0 19 ((fb_I (fb_wI u b0 21 k1) a0 19) + 1)))
  else ((fb_R (fb_wI u b0 21 k1) a0 25).bind fun q77 => fb_gd (q77 < fb_NT ∧ (fb_sh q77).1 = 100) 
   ((fb_gd (¬ (fb_I (fb_wI u b0 21 k1) a0 19 < 0 ∨ (fb_sh q77).2 ≤ (fb_I (fb_wI u b0 21 k1) a0 19).toNatClampNeg)) 
   ((fb_R (fb_wI (fb_wI u b0 21 k1) q77 (fb_I (fb_wI u b0 21 k1) a0 19).toNatClampNeg x5) a0 26).bind fun q88 => fb_gd (q88 < fb_NT ∧ (fb_sh q88).1 = 102) 
   ((if x4 < 0 then (fb_gd (¬ (fb_I (fb_wI (fb_wI u b0 21 k1) q77 (fb_I (fb_wI u b0 21 k1) a0 19).toNatClampNeg x5) a0 19 < 0 ∨ (fb_sh q88).2 ≤ (fb_I (fb_wI (fb_wI u b0 21 k1) q77 (fb_I (fb_wI u b0 21 k1) a0 19).toNatClampNeg x5) a0 19).toNatClampNeg)) 
    (some (fb_wI (fb_wI (fb_wI (fb_wI u b0 21 k1) q77 (fb_I (fb_wI u b0 21 k1) a0 19).toNatClampNeg x5) q88 (fb_I (fb_wI (fb_wI u b0 21 k1) q77 (fb_I (fb_wI u b0 21 k1) a0 19).toNatClampNeg x5) a0 19).toNatClampNeg (vp_nar .boolean 0)) a0 19 ((fb_I (fb_wI (fb_wI (fb_wI u b0 21 k1) q77 (fb_I (fb_wI u b0 21 k1) a0 19).toNatClampNeg x5) q88 (fb_I (fb_wI (fb_wI u b0 21 k1) q77 (fb_I (fb_wI u b0 21 k1) a0 19).toNatClampNeg x5) a0 19).toNatClampNeg (vp_nar .boolean 0)) a0 19) + 1))))
   else (fb_gd (¬ (fb_I (fb_wI (fb_wI u b0 21 k1) q77 (fb_I (fb_wI u b0 21 k1) a0 19).toNatClampNeg x5) a0 19 < 0 ∨ (fb_sh q88).2 ≤ (fb_I (fb_wI (fb_wI u b0 21 k1) q77 (fb_I (fb_wI u b0 21 k1) a0 19).toNatClampNeg x5) a0 19).toNatClampNeg)) 
    (some (fb_wI (fb_wI (fb_wI (fb_wI u b0 21 k1) q77 (fb_I (fb_wI u b0 21 k1) a0 19).toNatClampNeg x5) q88 (fb_I (fb_wI (fb_wI u b0 21 k1) q77 (fb_I (fb_wI u b0 21 k1) a0 19).toNatClampNeg x5) a0 19).toNatClampNeg (vp_nar .boolean 1)) a0 19 ((fb_I (fb_wI (fb_wI (fb_wI u b0 21 k1) q77 (fb_I (fb_wI u b0 21 k1) a0 19).toNatClampNeg x5) q88 (fb_I (fb_wI (fb_wI u b0 21 k1) q77 (fb_I (fb_wI u b0 21 k1) a0 19).toNatClampNeg x5) a0 19).toNatClampNeg (vp_nar .boolean 1)) a0 19) + 1))))))))))))
set_option maxRecDepth 100000 in
set_option maxHeartbeats 4000000 in
theorem tjX9_takeOrder_65 {g : fb_G} {res : fb_M} (a0 : Nat) (x4 : Int32) (x5 : Int32) (b0 : Nat) (k1 : Int32) (u : fb_M) (ha0 : a0 < fb_NT ∧ fb_sh a0 = (9, 40)) (hb0 : b0 < fb_NT ∧ fb_sh b0 = (9, 40)) (h : jX9_takeOrder_65 a0 x4 x5 b0 k1 u = some res) : fb_V g RX9 cX9_takeOrder 6 none "takeOrder" (fb_room 3 74 0 0) (fb_Qm g none fb_NT res 0 0) 0 0 fb_NT u 65 [(0, .ref (fb_b g + a0)), (4, .int x4), (5, .int x5)] [.int k1, .ref (fb_b g + b0)] := by
  unfold jX9_takeOrder_65 at h
  refine fb_gdE h (fun z65 h => ?_)
  refine fb_putI (pc := 65) dX9_takeOrder_65 lkX9_205 ly_9_21 hb0.1 hb0.2 rfl (fb_nz z65) (fb_fz z65) ?_
  refine fb_aload_n (pc := 68) dX9_takeOrder_68 0 rfl ?_
  refine fb_getI (pc := 69) dX9_takeOrder_69 lkX9_208 ha0.1 ha0.2 rfl ?_
  refine fb_iconst (pc := 72) (v := 3) dX9_takeOrder_72 fb_ki_3 ?_
  refine fb_icmp_ge (pc := 73) (tgt := 106) h dX9_takeOrder_73 (by decide) (fun h => ?_) (fun h => ?_)
  · refine fb_aload_n (pc := 106) dX9_takeOrder_106 0 rfl ?_
    refine fb_dup (pc := 107) dX9_takeOrder_107 rfl ?_
    refine fb_getI (pc := 108) dX9_takeOrder_108 lkX9_208 ha0.1 ha0.2 rfl ?_
    refine fb_iconst (pc := 111) (v := 1) dX9_takeOrder_111 fb_ki_1 ?_
    refine fb_iadd (pc := 112) dX9_takeOrder_112 ?_
    refine fb_putI (pc := 113) dX9_takeOrder_113 lkX9_208 ly_9_19 ha0.1 ha0.2 rfl rfl rfl ?_
    exact fb_vretM (pc := 116) h dX9_takeOrder_116
  · refine fb_aload_n (pc := 76) dX9_takeOrder_76 0 rfl ?_
    refine fb_bnE h (fun q77 e77 h => fb_gdE h (fun s77 h => ?_))
    refine fb_getR (pc := 77) dX9_takeOrder_77 lkX9_62 ha0.1 ha0.2 (by decide) e77 ?_
    refine fb_aload_n (pc := 80) dX9_takeOrder_80 0 rfl ?_
    refine fb_getI (pc := 81) dX9_takeOrder_81 lkX9_208 ha0.1 ha0.2 rfl ?_
    refine fb_iload (pc := 84) dX9_takeOrder_84 2 rfl ?_
    refine fb_gdE h (fun i86 h => ?_)
    refine fb_iast (pc := 86) dX9_takeOrder_86 s77.1 (fb_eta s77.2) i86 ?_
    refine fb_aload_n (pc := 87) dX9_takeOrder_87 0 rfl ?_
    refine fb_bnE h (fun q88 e88 h => fb_gdE h (fun s88 h => ?_))
    refine fb_getR (pc := 88) dX9_takeOrder_88 lkX9_65 ha0.1 ha0.2 (by decide) e88 ?_
    refine fb_aload_n (pc := 91) dX9_takeOrder_91 0 rfl ?_
    refine fb_getI (pc := 92) dX9_takeOrder_92 lkX9_208 ha0.1 ha0.2 rfl ?_
    refine fb_iload (pc := 95) dX9_takeOrder_95 1 rfl ?_
    refine fb_if_lt (pc := 97) (tgt := 104) h dX9_takeOrder_97 (by decide) (fun h => ?_) (fun h => ?_)
    · refine fb_iconst (pc := 104) (v := 0) dX9_takeOrder_104 fb_ki_0 ?_
      refine fb_gdE h (fun i105 h => ?_)
      refine fb_zast (pc := 105) dX9_takeOrder_105 s88.1 (fb_eta s88.2) i105 ?_
      refine fb_aload_n (pc := 106) dX9_takeOrder_106 0 rfl ?_
      refine fb_dup (pc := 107) dX9_takeOrder_107 rfl ?_
      refine fb_getI (pc := 108) dX9_takeOrder_108 lkX9_208 ha0.1 ha0.2 rfl ?_
      refine fb_iconst (pc := 111) (v := 1) dX9_takeOrder_111 fb_ki_1 ?_
      refine fb_iadd (pc := 112) dX9_takeOrder_112 ?_
      refine fb_putI (pc := 113) dX9_takeOrder_113 lkX9_208 ly_9_19 ha0.1 ha0.2 rfl rfl rfl ?_
      exact fb_vretM (pc := 116) h dX9_takeOrder_116
    · refine fb_iconst (pc := 100) (v := 1) dX9_takeOrder_100 fb_ki_1 ?_
      refine fb_goto (pc := 101) (tgt := 105) dX9_takeOrder_101 (by decide) ?_
      refine fb_gdE h (fun i105 h => ?_)
      refine fb_zast (pc := 105) dX9_takeOrder_105 s88.1 (fb_eta s88.2) i105 ?_
      refine fb_aload_n (pc := 106) dX9_takeOrder_106 0 rfl ?_
      refine fb_dup (pc := 107) dX9_takeOrder_107 rfl ?_
      refine fb_getI (pc := 108) dX9_takeOrder_108 lkX9_208 ha0.1 ha0.2 rfl ?_
      refine fb_iconst (pc := 111) (v := 1) dX9_takeOrder_111 fb_ki_1 ?_
      refine fb_iadd (pc := 112) dX9_takeOrder_112 ?_
      refine fb_putI (pc := 113) dX9_takeOrder_113 lkX9_208 ly_9_19 ha0.1 ha0.2 rfl rfl rfl ?_
      exact fb_vretM (pc := 116) h dX9_takeOrder_116

def jX9_takeOrder_42 (a0 : Nat) (x4 : Int32) (b0 : Nat) (k1 : Int32) (k2 : Int32) (u : fb_M) : Option fb_M :=
 ((fX9_leafOf u b0 k1 k2).bind fun r42 => 
  (if (fb_I u a0 21) = 0 then (if 0 ≤ r42 then (jX9_takeOrder_65 a0 x4 r42 a0 0 u)
   else (jX9_takeOrder_65 a0 x4 r42 a0 1 u))
  else (jX9_takeOrder_65 a0 x4 r42 a0 1 u)))
set_option maxRecDepth 100000 in
set_option maxHeartbeats 4000000 in
theorem tjX9_takeOrder_42 {g : fb_G} {res : fb_M} (a0 : Nat) (x4 : Int32) (b0 : Nat) (k1 : Int32) (k2 : Int32) (u : fb_M) (ha0 : a0 < fb_NT ∧ fb_sh a0 = (9, 40)) (hb0 : b0 < fb_NT ∧ fb_sh b0 = (9, 40)) (h : jX9_takeOrder_42 a0 x4 b0 k1 k2 u = some res) : fb_V g RX9 cX9_takeOrder 6 none "takeOrder" (fb_room 3 74 0 0) (fb_Qm g none fb_NT res 0 0) 0 0 fb_NT u 42 [(0, .ref (fb_b g + a0)), (4, .int x4)] [.int k2, .int k1, .ref (fb_b g + b0)] := by
  unfold jX9_takeOrder_42 at h
  refine fb_bnE h (fun r42 h42 h => ?_)
  refine fb_cV0v (pc := 42) [.int k1, .int k2] dX9_takeOrder_42 (mX9_leafOf g u b0 k1 k2 hb0 h42) ymX9_leafOf yiX9_leafOf hb0.1 hb0.2 ylX9_141 rfl (Nat.le_of_ble_eq_true rfl) ⟨Nat.le_of_ble_eq_true rfl, Nat.le_of_ble_eq_true rfl⟩ ⟨Nat.le_of_ble_eq_true rfl, Nat.le_of_ble_eq_true rfl⟩ ?_
  refine fb_istore (pc := 45) (lv' := [(5, .int r42), (0, .ref (fb_b g + a0)), (4, .int x4)]) dX9_takeOrder_45 (by decide) rfl ?_
  refine fb_aload_n (pc := 47) dX9_takeOrder_47 1 rfl ?_
  refine fb_aload_n (pc := 48) dX9_takeOrder_48 1 rfl ?_
  refine fb_getI (pc := 49) dX9_takeOrder_49 lkX9_205 ha0.1 ha0.2 rfl ?_
  refine fb_if_ne (pc := 52) (tgt := 60) h dX9_takeOrder_52 (by decide) (fun h => ?_) (fun h => ?_)
  · refine fb_iconst (pc := 60) (v := 1) dX9_takeOrder_60 fb_ki_1 ?_
    refine fb_goto (pc := 61) (tgt := 65) dX9_takeOrder_61 (by decide) ?_
    exact fb_sub [1, 2, 0] rfl (tjX9_takeOrder_65 a0 x4 r42 a0 1 u ha0 ha0 h)
  · refine fb_iload (pc := 55) dX9_takeOrder_55 0 rfl ?_
    refine fb_if_ge (pc := 57) (tgt := 64) h dX9_takeOrder_57 (by decide) (fun h => ?_) (fun h => ?_)
    · refine fb_iconst (pc := 64) (v := 0) dX9_takeOrder_64 fb_ki_0 ?_
      exact fb_sub [1, 2, 0] rfl (tjX9_takeOrder_65 a0 x4 r42 a0 0 u ha0 ha0 h)
    · refine fb_iconst (pc := 60) (v := 1) dX9_takeOrder_60 fb_ki_1 ?_
      refine fb_goto (pc := 61) (tgt := 65) dX9_takeOrder_61 (by decide) ?_
      exact fb_sub [1, 2, 0] rfl (tjX9_takeOrder_65 a0 x4 r42 a0 1 u ha0 ha0 h)

def fX9_takeOrder (u : fb_M) (a0 : Nat) (x1 : Int32) (x2 : Int32) : Option fb_M :=
 ((fX9_before u a0 x1 x2 4289379).bind fun r6 => 
  ((fX9_before u a0 x1 x2 1147499363).bind fun r16 => 
  (if r6 < 0 then (if r16 < 0 then (jX9_takeOrder_42 a0 r16 a0 x1 x2 u)
   else (jX9_takeOrder_42 a0 r16 a0 x1 r16 u))
  else (jX9_takeOrder_42 a0 r16 a0 x1 r6 u))))
set_option maxRecDepth 100000 in
set_option maxHeartbeats 4000000 in
theorem mX9_takeOrder (g : fb_G) (u : fb_M) (a0 : Nat) (x1 : Int32) (x2 : Int32) (ha0 : a0 < fb_NT ∧ fb_sh a0 = (9, 40)) {res : fb_M} (h : fX9_takeOrder u a0 x1 x2 = some res) : fb_Runs g 3 74 0 0 fb_NT fb_NT yX9_takeOrder cX9_takeOrder 6 none [.ref (fb_b g + a0), .int x1, .int x2] u none res := by
  unfold fX9_takeOrder at h
  refine fb_enter (by decide) (Nat.le_of_ble_eq_true rfl) ?_
  show fb_V g RX9 cX9_takeOrder 6 none "takeOrder" (fb_room 3 74 0 0) (fb_Qm g none fb_NT res 0 0) 0 0 fb_NT u 0 [(0, .ref (fb_b g + a0)), (1, .int x1), (2, .int x2)] []
  refine fb_aload_n (pc := 0) dX9_takeOrder_0 0 rfl ?_
  refine fb_iload_n (pc := 1) dX9_takeOrder_1 1 rfl ?_
  refine fb_iload_n (pc := 2) dX9_takeOrder_2 2 rfl ?_
  refine fb_ldc2 (pc := 3) (v := 4289379) dX9_takeOrder_3 lwX9_201 ?_
  refine fb_bnE h (fun r6 h6 h => ?_)
  refine fb_cV0v (pc := 6) [.int x1, .int x2, .long 4289379] dX9_takeOrder_6 (mX9_before g u a0 x1 x2 4289379 ha0 h6) ymX9_before yiX9_before ha0.1 ha0.2 ylX9_109 rfl (Nat.le_of_ble_eq_true rfl) ⟨Nat.le_of_ble_eq_true rfl, Nat.le_of_ble_eq_true rfl⟩ ⟨Nat.le_of_ble_eq_true rfl, Nat.le_of_ble_eq_true rfl⟩ ?_
  refine fb_istore_n (pc := 9) (lv' := [(3, .int r6), (0, .ref (fb_b g + a0)), (1, .int x1), (2, .int x2)]) dX9_takeOrder_9 rfl (by decide) rfl ?_
  refine fb_aload_n (pc := 10) dX9_takeOrder_10 1 rfl ?_
  refine fb_iload_n (pc := 11) dX9_takeOrder_11 2 rfl ?_
  refine fb_iload_n (pc := 12) dX9_takeOrder_12 3 rfl ?_
  refine fb_ldc2 (pc := 13) (v := 1147499363) dX9_takeOrder_13 lwX9_203 ?_
  refine fb_bnE h (fun r16 h16 h => ?_)
  refine fb_cV0v (pc := 16) [.int x1, .int x2, .long 1147499363] dX9_takeOrder_16 (mX9_before g u a0 x1 x2 1147499363 ha0 h16) ymX9_before yiX9_before ha0.1 ha0.2 ylX9_109 rfl (Nat.le_of_ble_eq_true rfl) ⟨Nat.le_of_ble_eq_true rfl, Nat.le_of_ble_eq_true rfl⟩ ⟨Nat.le_of_ble_eq_true rfl, Nat.le_of_ble_eq_true rfl⟩ ?_
  refine fb_istore (pc := 19) (lv' := [(4, .int r16), (3, .int r6), (0, .ref (fb_b g + a0)), (1, .int x1), (2, .int x2)]) dX9_takeOrder_19 (by decide) rfl ?_
  refine fb_aload_n (pc := 21) dX9_takeOrder_21 2 rfl ?_
  refine fb_iload_n (pc := 22) dX9_takeOrder_22 3 rfl ?_
  refine fb_iload_n (pc := 23) dX9_takeOrder_23 1 rfl ?_
  refine fb_if_lt (pc := 24) (tgt := 31) h dX9_takeOrder_24 (by decide) (fun h => ?_) (fun h => ?_)
  · refine fb_iload (pc := 31) dX9_takeOrder_31 0 rfl ?_
    refine fb_if_lt (pc := 33) (tgt := 41) h dX9_takeOrder_33 (by decide) (fun h => ?_) (fun h => ?_)
    · refine fb_iload_n (pc := 41) dX9_takeOrder_41 4 rfl ?_
      exact fb_sub [2, 0] rfl (tjX9_takeOrder_42 a0 r16 a0 x1 x2 u ha0 ha0 h)
    · refine fb_iload (pc := 36) dX9_takeOrder_36 0 rfl ?_
      refine fb_goto (pc := 38) (tgt := 42) dX9_takeOrder_38 (by decide) ?_
      exact fb_sub [2, 0] rfl (tjX9_takeOrder_42 a0 r16 a0 x1 r16 u ha0 ha0 h)
  · refine fb_iload_n (pc := 27) dX9_takeOrder_27 1 rfl ?_
    refine fb_goto (pc := 28) (tgt := 42) dX9_takeOrder_28 (by decide) ?_
    exact fb_sub [2, 0] rfl (tjX9_takeOrder_42 a0 r16 a0 x1 r6 u ha0 ha0 h)

theorem dX9_takeOrders_0 : decode cX9_takeOrders 0 = .ok (.iload_n 1, 1) := by decide +kernel
theorem dX9_takeOrders_1 : decode cX9_takeOrders 1 = .ok (.istore_n 3, 1) := by decide +kernel
theorem dX9_takeOrders_2 : decode cX9_takeOrders 2 = .ok (.iload_n 1, 1) := by decide +kernel
theorem dX9_takeOrders_3 : decode cX9_takeOrders 3 = .ok (.iconst 1, 1) := by decide +kernel
theorem dX9_takeOrders_4 : decode cX9_takeOrders 4 = .ok (.iadd, 1) := by decide +kernel
theorem dX9_takeOrders_5 : decode cX9_takeOrders 5 = .ok (.istore 4, 2) := by decide +kernel
theorem dX9_takeOrders_7 : decode cX9_takeOrders 7 = .ok (.iload 4, 2) := by decide +kernel
theorem dX9_takeOrders_9 : decode cX9_takeOrders 9 = .ok (.iload_n 2, 1) := by decide +kernel
theorem dX9_takeOrders_10 : decode cX9_takeOrders 10 = .ok (.if_icmp .ge 69, 3) := by decide +kernel
theorem dX9_takeOrders_13 : decode cX9_takeOrders 13 = .ok (.aload_n 0, 1) := by decide +kernel
theorem dX9_takeOrders_14 : decode cX9_takeOrders 14 = .ok (.iload_n 3, 1) := by decide +kernel
theorem dX9_takeOrders_15 : decode cX9_takeOrders 15 = .ok (.iload 4, 2) := by decide +kernel
theorem dX9_takeOrders_17 : decode cX9_takeOrders 17 = .ok (.ldc2_w 201, 3) := by decide +kernel
theorem dX9_takeOrders_20 : decode cX9_takeOrders 20 = .ok (.invokevirtual 109, 3) := by decide +kernel
theorem dX9_takeOrders_23 : decode cX9_takeOrders 23 = .ok (.ifCond .ge 16, 3) := by decide +kernel
theorem dX9_takeOrders_26 : decode cX9_takeOrders 26 = .ok (.aload_n 0, 1) := by decide +kernel
theorem dX9_takeOrders_27 : decode cX9_takeOrders 27 = .ok (.iload_n 3, 1) := by decide +kernel
theorem dX9_takeOrders_28 : decode cX9_takeOrders 28 = .ok (.iload 4, 2) := by decide +kernel
theorem dX9_takeOrders_30 : decode cX9_takeOrders 30 = .ok (.ldc2_w 203, 3) := by decide +kernel
theorem dX9_takeOrders_33 : decode cX9_takeOrders 33 = .ok (.invokevirtual 109, 3) := by decide +kernel
theorem dX9_takeOrders_36 : decode cX9_takeOrders 36 = .ok (.ifCond .lt 7, 3) := by decide +kernel
theorem dX9_takeOrders_39 : decode cX9_takeOrders 39 = .ok (.iconst 1, 1) := by decide +kernel
theorem dX9_takeOrders_40 : decode cX9_takeOrders 40 = .ok (.goto 4, 3) := by decide +kernel
theorem dX9_takeOrders_43 : decode cX9_takeOrders 43 = .ok (.iconst 0, 1) := by decide +kernel
theorem dX9_takeOrders_44 : decode cX9_takeOrders 44 = .ok (.istore 5, 2) := by decide +kernel
theorem dX9_takeOrders_46 : decode cX9_takeOrders 46 = .ok (.iload 5, 2) := by decide +kernel
theorem dX9_takeOrders_48 : decode cX9_takeOrders 48 = .ok (.ifCond .eq 25, 3) := by decide +kernel
theorem dX9_takeOrders_51 : decode cX9_takeOrders 51 = .ok (.aload_n 0, 1) := by decide +kernel
theorem dX9_takeOrders_52 : decode cX9_takeOrders 52 = .ok (.iload 4, 2) := by decide +kernel
theorem dX9_takeOrders_54 : decode cX9_takeOrders 54 = .ok (.invokevirtual 99, 3) := by decide +kernel
theorem dX9_takeOrders_57 : decode cX9_takeOrders 57 = .ok (.invokestatic 113, 3) := by decide +kernel
theorem dX9_takeOrders_60 : decode cX9_takeOrders 60 = .ok (.ifCond .eq 13, 3) := by decide +kernel
theorem dX9_takeOrders_63 : decode cX9_takeOrders 63 = .ok (.aload_n 0, 1) := by decide +kernel
theorem dX9_takeOrders_64 : decode cX9_takeOrders 64 = .ok (.iload_n 3, 1) := by decide +kernel
theorem dX9_takeOrders_65 : decode cX9_takeOrders 65 = .ok (.iload 4, 2) := by decide +kernel
theorem dX9_takeOrders_67 : decode cX9_takeOrders 67 = .ok (.invokevirtual 211, 3) := by decide +kernel
theorem dX9_takeOrders_70 : decode cX9_takeOrders 70 = .ok (.iload 4, 2) := by decide +kernel
theorem dX9_takeOrders_72 : decode cX9_takeOrders 72 = .ok (.istore_n 3, 1) := by decide +kernel
theorem dX9_takeOrders_73 : decode cX9_takeOrders 73 = .ok (.iinc 4 1, 3) := by decide +kernel
theorem dX9_takeOrders_76 : decode cX9_takeOrders 76 = .ok (.goto (-69), 3) := by decide +kernel
theorem dX9_takeOrders_79 : decode cX9_takeOrders 79 = .ok (.aload_n 0, 1) := by decide +kernel
theorem dX9_takeOrders_80 : decode cX9_takeOrders 80 = .ok (.iload_n 3, 1) := by decide +kernel
theorem dX9_takeOrders_81 : decode cX9_takeOrders 81 = .ok (.iload_n 2, 1) := by decide +kernel
theorem dX9_takeOrders_82 : decode cX9_takeOrders 82 = .ok (.invokevirtual 211, 3) := by decide +kernel
theorem dX9_takeOrders_85 : decode cX9_takeOrders 85 = .ok (.return_, 1) := by decide +kernel
def jX9_takeOrders_44 (K7 : Int32 → Int32 → fb_M → Option fb_M) (a0 : Nat) (x2 : Int32) (x3 : Int32) (x4 : Int32) (k0 : Int32) (u : fb_M) : Option fb_M :=
 (if k0 = 0 then (K7 x3 (x4 + 1) u)
  else ((fX9_at u a0 x4).bind fun r54 => 
   ((fX9_capital u r54).bind fun r57 => 
   (if r57 = 0 then (K7 x3 (x4 + 1) u)
   else ((fX9_takeOrder u a0 x3 x4).bind fun r67 => 
    (K7 x4 (x4 + 1) r67))))))
set_option maxRecDepth 100000 in
set_option maxHeartbeats 4000000 in
theorem tjX9_takeOrders_44 {g : fb_G} {res : fb_M} (a0 : Nat) (x2 : Int32) (x3 : Int32) (x4 : Int32) (k0 : Int32) (u : fb_M) (K7 : Int32 → Int32 → fb_M → Option fb_M) (ha0 : a0 < fb_NT ∧ fb_sh a0 = (9, 40)) (hK7 : ∀ (x3 : Int32) (x4 : Int32) (u : fb_M) ,  K7 x3 x4 u = some res → fb_V g RX9 cX9_takeOrders 6 none "takeOrders" (fb_room 4 99 0 0) (fb_Qm g none fb_NT res 0 0) 0 0 fb_NT u 7 [(0, .ref (fb_b g + a0)), (2, .int x2), (3, .int x3), (4, .int x4)] []) (h : jX9_takeOrders_44 K7 a0 x2 x3 x4 k0 u = some res) : fb_V g RX9 cX9_takeOrders 6 none "takeOrders" (fb_room 4 99 0 0) (fb_Qm g none fb_NT res 0 0) 0 0 fb_NT u 44 [(0, .ref (fb_b g + a0)), (2, .int x2), (3, .int x3), (4, .int x4)] [.int k0] := by
  unfold jX9_takeOrders_44 at h
  refine fb_istore (pc := 44) (lv' := [(5, .int k0), (0, .ref (fb_b g + a0)), (2, .int x2), (3, .int x3), (4, .int x4)]) dX9_takeOrders_44 (by decide) rfl ?_
  refine fb_iload (pc := 46) dX9_takeOrders_46 0 rfl ?_
  refine fb_if_eq (pc := 48) (tgt := 73) h dX9_takeOrders_48 (by decide) (fun h => ?_) (fun h => ?_)
  · refine fb_iinc (pc := 73) (v := 1) (lv' := [(4, .int (x4 + 1)), (5, .int k0), (0, .ref (fb_b g + a0)), (2, .int x2), (3, .int x3)]) dX9_takeOrders_73 4 rfl fb_ki_1 (by decide) rfl ?_
    refine fb_goto (pc := 76) (tgt := 7) dX9_takeOrders_76 (by decide) ?_
    exact fb_sub [2, 3, 4, 0] rfl (hK7 x3 (x4 + 1) u h)
  · refine fb_aload_n (pc := 51) dX9_takeOrders_51 1 rfl ?_
    refine fb_iload (pc := 52) dX9_takeOrders_52 4 rfl ?_
    refine fb_bnE h (fun r54 h54 h => ?_)
    refine fb_cV0v (pc := 54) [.int x4] dX9_takeOrders_54 (mX9_at g u a0 x4 ha0 h54) ymX9_at yiX9_at ha0.1 ha0.2 ylX9_99 rfl (Nat.le_of_ble_eq_true rfl) ⟨Nat.le_of_ble_eq_true rfl, Nat.le_of_ble_eq_true rfl⟩ ⟨Nat.le_of_ble_eq_true rfl, Nat.le_of_ble_eq_true rfl⟩ ?_
    refine fb_bnE h (fun r57 h57 h => ?_)
    refine fb_cS0v (pc := 57) [.int r54] dX9_takeOrders_57 (mX9_capital g u r54 h57) ymX9_capital ysX9_capital ylX9_113 rfl (Nat.le_of_ble_eq_true rfl) ⟨Nat.le_of_ble_eq_true rfl, Nat.le_of_ble_eq_true rfl⟩ ⟨Nat.le_of_ble_eq_true rfl, Nat.le_of_ble_eq_true rfl⟩ ?_
    refine fb_if_eq (pc := 60) (tgt := 73) h dX9_takeOrders_60 (by decide) (fun h => ?_) (fun h => ?_)
    · refine fb_iinc (pc := 73) (v := 1) (lv' := [(4, .int (x4 + 1)), (5, .int k0), (0, .ref (fb_b g + a0)), (2, .int x2), (3, .int x3)]) dX9_takeOrders_73 4 rfl fb_ki_1 (by decide) rfl ?_
      refine fb_goto (pc := 76) (tgt := 7) dX9_takeOrders_76 (by decide) ?_
      exact fb_sub [2, 3, 4, 0] rfl (hK7 x3 (x4 + 1) u h)
    · refine fb_aload_n (pc := 63) dX9_takeOrders_63 1 rfl ?_
      refine fb_iload_n (pc := 64) dX9_takeOrders_64 3 rfl ?_
      refine fb_iload (pc := 65) dX9_takeOrders_65 4 rfl ?_
      refine fb_bnE h (fun r67 h67 h => ?_)
      refine fb_cV0n (pc := 67) [.int x3, .int x4] dX9_takeOrders_67 (mX9_takeOrder g u a0 x3 x4 ha0 h67) ymX9_takeOrder yiX9_takeOrder ha0.1 ha0.2 ylX9_211 rfl (Nat.le_of_ble_eq_true rfl) ⟨Nat.le_of_ble_eq_true rfl, Nat.le_of_ble_eq_true rfl⟩ ⟨Nat.le_of_ble_eq_true rfl, Nat.le_of_ble_eq_true rfl⟩ ?_
      refine fb_iload (pc := 70) dX9_takeOrders_70 4 rfl ?_
      refine fb_istore_n (pc := 72) (lv' := [(3, .int x4), (5, .int k0), (0, .ref (fb_b g + a0)), (2, .int x2), (4, .int x4)]) dX9_takeOrders_72 rfl (by decide) rfl ?_
      refine fb_iinc (pc := 73) (v := 1) (lv' := [(4, .int (x4 + 1)), (3, .int x4), (5, .int k0), (0, .ref (fb_b g + a0)), (2, .int x2)]) dX9_takeOrders_73 4 rfl fb_ki_1 (by decide) rfl ?_
      refine fb_goto (pc := 76) (tgt := 7) dX9_takeOrders_76 (by decide) ?_
      exact fb_sub [3, 4, 1, 0] rfl (hK7 x4 (x4 + 1) r67 h)

def bX9_takeOrders_7 (K7 : Int32 → Int32 → fb_M → Option fb_M) (a0 : Nat) (x2 : Int32) (x3 : Int32) (x4 : Int32) (u : fb_M) : Option fb_M :=
 (if x2 ≤ x4 then ((fX9_takeOrder u a0 x3 x2).bind fun r82 => 
   (some r82))
  else ((fX9_before u a0 x3 x4 4289379).bind fun r20 => 
   (if 0 ≤ r20 then (jX9_takeOrders_44 K7 a0 x2 x3 x4 1 u)
   else ((fX9_before u a0 x3 x4 1147499363).bind fun r33 => 
    (if r33 < 0 then (jX9_takeOrders_44 K7 a0 x2 x3 x4 0 u)
    else (jX9_takeOrders_44 K7 a0 x2 x3 x4 1 u))))))
def gX9_takeOrders_7 (a0 : Nat) (x2 : Int32) : Nat → Int32 → Int32 → fb_M → Option fb_M
 | 0 => fun _ _ _ => none
 | fu + 1 => fun x3 x4 u => bX9_takeOrders_7 (gX9_takeOrders_7 a0 x2 fu) a0 x2 x3 x4 u
set_option maxRecDepth 100000 in
set_option maxHeartbeats 4000000 in
theorem tbX9_takeOrders_7 {g : fb_G} {res : fb_M} (a0 : Nat) (x2 : Int32) (x3 : Int32) (x4 : Int32) (u : fb_M) (K7 : Int32 → Int32 → fb_M → Option fb_M) (ha0 : a0 < fb_NT ∧ fb_sh a0 = (9, 40)) (hK7 : ∀ (x3 : Int32) (x4 : Int32) (u : fb_M) ,  K7 x3 x4 u = some res → fb_V g RX9 cX9_takeOrders 6 none "takeOrders" (fb_room 4 99 0 0) (fb_Qm g none fb_NT res 0 0) 0 0 fb_NT u 7 [(0, .ref (fb_b g + a0)), (2, .int x2), (3, .int x3), (4, .int x4)] []) (h : bX9_takeOrders_7 K7 a0 x2 x3 x4 u = some res) : fb_V g RX9 cX9_takeOrders 6 none "takeOrders" (fb_room 4 99 0 0) (fb_Qm g none fb_NT res 0 0) 0 0 fb_NT u 7 [(0, .ref (fb_b g + a0)), (2, .int x2), (3, .int x3), (4, .int x4)] [] := by
  unfold bX9_takeOrders_7 at h
  refine fb_iload (pc := 7) dX9_takeOrders_7 3 rfl ?_
  refine fb_iload_n (pc := 9) dX9_takeOrders_9 1 rfl ?_
  refine fb_icmp_ge (pc := 10) (tgt := 79) h dX9_takeOrders_10 (by decide) (fun h => ?_) (fun h => ?_)
  · refine fb_aload_n (pc := 79) dX9_takeOrders_79 0 rfl ?_
    refine fb_iload_n (pc := 80) dX9_takeOrders_80 2 rfl ?_
    refine fb_iload_n (pc := 81) dX9_takeOrders_81 1 rfl ?_
    refine fb_bnE h (fun r82 h82 h => ?_)
    refine fb_cV0n (pc := 82) [.int x3, .int x2] dX9_takeOrders_82 (mX9_takeOrder g u a0 x3 x2 ha0 h82) ymX9_takeOrder yiX9_takeOrder ha0.1 ha0.2 ylX9_211 rfl (Nat.le_of_ble_eq_true rfl) ⟨Nat.le_of_ble_eq_true rfl, Nat.le_of_ble_eq_true rfl⟩ ⟨Nat.le_of_ble_eq_true rfl, Nat.le_of_ble_eq_true rfl⟩ ?_
    exact fb_vretM (pc := 85) h dX9_takeOrders_85
  · refine fb_aload_n (pc := 13) dX9_takeOrders_13 0 rfl ?_
    refine fb_iload_n (pc := 14) dX9_takeOrders_14 2 rfl ?_
    refine fb_iload (pc := 15) dX9_takeOrders_15 3 rfl ?_
    refine fb_ldc2 (pc := 17) (v := 4289379) dX9_takeOrders_17 lwX9_201 ?_
    refine fb_bnE h (fun r20 h20 h => ?_)
    refine fb_cV0v (pc := 20) [.int x3, .int x4, .long 4289379] dX9_takeOrders_20 (mX9_before g u a0 x3 x4 4289379 ha0 h20) ymX9_before yiX9_before ha0.1 ha0.2 ylX9_109 rfl (Nat.le_of_ble_eq_true rfl) ⟨Nat.le_of_ble_eq_true rfl, Nat.le_of_ble_eq_true rfl⟩ ⟨Nat.le_of_ble_eq_true rfl, Nat.le_of_ble_eq_true rfl⟩ ?_
    refine fb_if_ge (pc := 23) (tgt := 39) h dX9_takeOrders_23 (by decide) (fun h => ?_) (fun h => ?_)
    · refine fb_iconst (pc := 39) (v := 1) dX9_takeOrders_39 fb_ki_1 ?_
      refine fb_goto (pc := 40) (tgt := 44) dX9_takeOrders_40 (by decide) ?_
      exact fb_sub [0, 1, 2, 3] rfl (tjX9_takeOrders_44 a0 x2 x3 x4 1 u K7 ha0 hK7 h)
    · refine fb_aload_n (pc := 26) dX9_takeOrders_26 0 rfl ?_
      refine fb_iload_n (pc := 27) dX9_takeOrders_27 2 rfl ?_
      refine fb_iload (pc := 28) dX9_takeOrders_28 3 rfl ?_
      refine fb_ldc2 (pc := 30) (v := 1147499363) dX9_takeOrders_30 lwX9_203 ?_
      refine fb_bnE h (fun r33 h33 h => ?_)
      refine fb_cV0v (pc := 33) [.int x3, .int x4, .long 1147499363] dX9_takeOrders_33 (mX9_before g u a0 x3 x4 1147499363 ha0 h33) ymX9_before yiX9_before ha0.1 ha0.2 ylX9_109 rfl (Nat.le_of_ble_eq_true rfl) ⟨Nat.le_of_ble_eq_true rfl, Nat.le_of_ble_eq_true rfl⟩ ⟨Nat.le_of_ble_eq_true rfl, Nat.le_of_ble_eq_true rfl⟩ ?_
      refine fb_if_lt (pc := 36) (tgt := 43) h dX9_takeOrders_36 (by decide) (fun h => ?_) (fun h => ?_)
      · refine fb_iconst (pc := 43) (v := 0) dX9_takeOrders_43 fb_ki_0 ?_
        exact fb_sub [0, 1, 2, 3] rfl (tjX9_takeOrders_44 a0 x2 x3 x4 0 u K7 ha0 hK7 h)
      · refine fb_iconst (pc := 39) (v := 1) dX9_takeOrders_39 fb_ki_1 ?_
        refine fb_goto (pc := 40) (tgt := 44) dX9_takeOrders_40 (by decide) ?_
        exact fb_sub [0, 1, 2, 3] rfl (tjX9_takeOrders_44 a0 x2 x3 x4 1 u K7 ha0 hK7 h)

theorem tgX9_takeOrders_7 {g : fb_G} {res : fb_M} (a0 : Nat) (x2 : Int32) (ha0 : a0 < fb_NT ∧ fb_sh a0 = (9, 40)) : ∀ (fu : Nat) (x3 : Int32) (x4 : Int32) (u : fb_M) ,  gX9_takeOrders_7 a0 x2 fu x3 x4 u = some res → fb_V g RX9 cX9_takeOrders 6 none "takeOrders" (fb_room 4 99 0 0) (fb_Qm g none fb_NT res 0 0) 0 0 fb_NT u 7 [(0, .ref (fb_b g + a0)), (2, .int x2), (3, .int x3), (4, .int x4)] [] := by
  intro fu
  induction fu with
  | zero => intro x3 x4 u h; exact absurd h (by simp [gX9_takeOrders_7])
  | succ fu ih => intro x3 x4 u h; exact tbX9_takeOrders_7 a0 x2 x3 x4 u (gX9_takeOrders_7 a0 x2 fu) ha0 ih h
def fX9_takeOrders (u : fb_M) (a0 : Nat) (x1 : Int32) (x2 : Int32) : Option fb_M :=
 (gX9_takeOrders_7 a0 x2 fb_F x1 (x1 + 1) u)
set_option maxRecDepth 100000 in
set_option maxHeartbeats 4000000 in
theorem mX9_takeOrders (g : fb_G) (u : fb_M) (a0 : Nat) (x1 : Int32) (x2 : Int32) (ha0 : a0 < fb_NT ∧ fb_sh a0 = (9, 40)) {res : fb_M} (h : fX9_takeOrders u a0 x1 x2 = some res) : fb_Runs g 4 99 0 0 fb_NT fb_NT yX9_takeOrders cX9_takeOrders 6 none [.ref (fb_b g + a0), .int x1, .int x2] u none res := by
  unfold fX9_takeOrders at h
  refine fb_enter (by decide) (Nat.le_of_ble_eq_true rfl) ?_
  show fb_V g RX9 cX9_takeOrders 6 none "takeOrders" (fb_room 4 99 0 0) (fb_Qm g none fb_NT res 0 0) 0 0 fb_NT u 0 [(0, .ref (fb_b g + a0)), (1, .int x1), (2, .int x2)] []
  refine fb_iload_n (pc := 0) dX9_takeOrders_0 1 rfl ?_
  refine fb_istore_n (pc := 1) (lv' := [(3, .int x1), (0, .ref (fb_b g + a0)), (1, .int x1), (2, .int x2)]) dX9_takeOrders_1 rfl (by decide) rfl ?_
  refine fb_iload_n (pc := 2) dX9_takeOrders_2 2 rfl ?_
  refine fb_iconst (pc := 3) (v := 1) dX9_takeOrders_3 fb_ki_1 ?_
  refine fb_iadd (pc := 4) dX9_takeOrders_4 ?_
  refine fb_istore (pc := 5) (lv' := [(4, .int (x1 + 1)), (3, .int x1), (0, .ref (fb_b g + a0)), (1, .int x1), (2, .int x2)]) dX9_takeOrders_5 (by decide) rfl ?_
  exact fb_sub [2, 4, 1, 0] rfl (tgX9_takeOrders_7 a0 x2 ha0 fb_F x1 (x1 + 1) u h)

theorem dX9_subjectOf_0 : decode cX9_subjectOf 0 = .ok (.aload_n 0, 1) := by decide +kernel
theorem dX9_subjectOf_1 : decode cX9_subjectOf 1 = .ok (.iconst 0, 1) := by decide +kernel
theorem dX9_subjectOf_2 : decode cX9_subjectOf 2 = .ok (.aload_n 0, 1) := by decide +kernel
theorem dX9_subjectOf_3 : decode cX9_subjectOf 3 = .ok (.getfield 95, 3) := by decide +kernel
theorem dX9_subjectOf_6 : decode cX9_subjectOf 6 = .ok (.ldc2_w 214, 3) := by decide +kernel
theorem dX9_subjectOf_9 : decode cX9_subjectOf 9 = .ok (.invokevirtual 188, 3) := by decide +kernel
theorem dX9_subjectOf_12 : decode cX9_subjectOf 12 = .ok (.ifCond .eq 7, 3) := by decide +kernel
theorem dX9_subjectOf_15 : decode cX9_subjectOf 15 = .ok (.iconst 0, 1) := by decide +kernel
theorem dX9_subjectOf_16 : decode cX9_subjectOf 16 = .ok (.goto 61, 3) := by decide +kernel
theorem dX9_subjectOf_19 : decode cX9_subjectOf 19 = .ok (.aload_n 0, 1) := by decide +kernel
theorem dX9_subjectOf_20 : decode cX9_subjectOf 20 = .ok (.iconst 0, 1) := by decide +kernel
theorem dX9_subjectOf_21 : decode cX9_subjectOf 21 = .ok (.aload_n 0, 1) := by decide +kernel
theorem dX9_subjectOf_22 : decode cX9_subjectOf 22 = .ok (.getfield 95, 3) := by decide +kernel
theorem dX9_subjectOf_25 : decode cX9_subjectOf 25 = .ok (.ldc2_w 216, 3) := by decide +kernel
theorem dX9_subjectOf_28 : decode cX9_subjectOf 28 = .ok (.invokevirtual 188, 3) := by decide +kernel
theorem dX9_subjectOf_31 : decode cX9_subjectOf 31 = .ok (.ifCond .eq 7, 3) := by decide +kernel
theorem dX9_subjectOf_34 : decode cX9_subjectOf 34 = .ok (.iconst 1, 1) := by decide +kernel
theorem dX9_subjectOf_35 : decode cX9_subjectOf 35 = .ok (.goto 42, 3) := by decide +kernel
theorem dX9_subjectOf_38 : decode cX9_subjectOf 38 = .ok (.aload_n 0, 1) := by decide +kernel
theorem dX9_subjectOf_39 : decode cX9_subjectOf 39 = .ok (.iconst 0, 1) := by decide +kernel
theorem dX9_subjectOf_40 : decode cX9_subjectOf 40 = .ok (.aload_n 0, 1) := by decide +kernel
theorem dX9_subjectOf_41 : decode cX9_subjectOf 41 = .ok (.getfield 95, 3) := by decide +kernel
theorem dX9_subjectOf_44 : decode cX9_subjectOf 44 = .ok (.ldc2_w 218, 3) := by decide +kernel
theorem dX9_subjectOf_47 : decode cX9_subjectOf 47 = .ok (.invokevirtual 188, 3) := by decide +kernel
theorem dX9_subjectOf_50 : decode cX9_subjectOf 50 = .ok (.ifCond .eq 7, 3) := by decide +kernel
theorem dX9_subjectOf_53 : decode cX9_subjectOf 53 = .ok (.iconst 2, 1) := by decide +kernel
theorem dX9_subjectOf_54 : decode cX9_subjectOf 54 = .ok (.goto 23, 3) := by decide +kernel
theorem dX9_subjectOf_57 : decode cX9_subjectOf 57 = .ok (.aload_n 0, 1) := by decide +kernel
theorem dX9_subjectOf_58 : decode cX9_subjectOf 58 = .ok (.iconst 0, 1) := by decide +kernel
theorem dX9_subjectOf_59 : decode cX9_subjectOf 59 = .ok (.aload_n 0, 1) := by decide +kernel
theorem dX9_subjectOf_60 : decode cX9_subjectOf 60 = .ok (.getfield 95, 3) := by decide +kernel
theorem dX9_subjectOf_63 : decode cX9_subjectOf 63 = .ok (.ldc2_w 220, 3) := by decide +kernel
theorem dX9_subjectOf_66 : decode cX9_subjectOf 66 = .ok (.invokevirtual 188, 3) := by decide +kernel
theorem dX9_subjectOf_69 : decode cX9_subjectOf 69 = .ok (.ifCond .eq 7, 3) := by decide +kernel
theorem dX9_subjectOf_72 : decode cX9_subjectOf 72 = .ok (.iconst 3, 1) := by decide +kernel
theorem dX9_subjectOf_73 : decode cX9_subjectOf 73 = .ok (.goto 4, 3) := by decide +kernel
theorem dX9_subjectOf_76 : decode cX9_subjectOf 76 = .ok (.iconst (-1), 1) := by decide +kernel
theorem dX9_subjectOf_77 : decode cX9_subjectOf 77 = .ok (.ireturn, 1) := by decide +kernel
def fX9_subjectOf (u : fb_M) (a0 : Nat) : Option Int32 :=
 ((fX9_stands u a0 0 (fb_I u a0 1) 1718185572).bind fun r9 => 
  (if r9 = 0 then ((fX9_stands u a0 0 (fb_I u a0 1) 427071729268).bind fun r28 => 
   (if r28 = 0 then ((fX9_stands u a0 0 (fb_I u a0 1) 111567839655027).bind fun r47 => 
    (if r47 = 0 then ((fX9_stands u a0 0 (fb_I u a0 1) 110386773062757).bind fun r66 => 
     (if r66 = 0 then (some ((-1)))
     else (some 3)))
    else (some 2)))
   else (some 1)))
  else (some 0)))
set_option maxRecDepth 100000 in
set_option maxHeartbeats 4000000 in
theorem mX9_subjectOf (g : fb_G) (u : fb_M) (a0 : Nat) (ha0 : a0 < fb_NT ∧ fb_sh a0 = (9, 40)) {res : Int32} (h : fX9_subjectOf u a0 = some res) : fb_Runs g 3 73 0 0 fb_NT fb_NT yX9_subjectOf cX9_subjectOf 1 (some .int) [.ref (fb_b g + a0)] u (some (.int res)) u := by
  unfold fX9_subjectOf at h
  refine fb_enter (by decide) (Nat.le_of_ble_eq_true rfl) ?_
  show fb_V g RX9 cX9_subjectOf 1 (some .int) "subjectOf" (fb_room 3 73 0 0) (fb_Qm g (some (.int res)) fb_NT u 0 0) 0 0 fb_NT u 0 [(0, .ref (fb_b g + a0))] []
  refine fb_aload_n (pc := 0) dX9_subjectOf_0 0 rfl ?_
  refine fb_iconst (pc := 1) (v := 0) dX9_subjectOf_1 fb_ki_0 ?_
  refine fb_aload_n (pc := 2) dX9_subjectOf_2 0 rfl ?_
  refine fb_getI (pc := 3) dX9_subjectOf_3 lkX9_95 ha0.1 ha0.2 rfl ?_
  refine fb_ldc2 (pc := 6) (v := 1718185572) dX9_subjectOf_6 lwX9_214 ?_
  refine fb_bnE h (fun r9 h9 h => ?_)
  refine fb_cV0v (pc := 9) [.int 0, .int (fb_I u a0 1), .long 1718185572] dX9_subjectOf_9 (mX9_stands g u a0 0 (fb_I u a0 1) 1718185572 ha0 h9) ymX9_stands yiX9_stands ha0.1 ha0.2 ylX9_188 rfl (Nat.le_of_ble_eq_true rfl) ⟨Nat.le_of_ble_eq_true rfl, Nat.le_of_ble_eq_true rfl⟩ ⟨Nat.le_of_ble_eq_true rfl, Nat.le_of_ble_eq_true rfl⟩ ?_
  refine fb_if_eq (pc := 12) (tgt := 19) h dX9_subjectOf_12 (by decide) (fun h => ?_) (fun h => ?_)
  · refine fb_aload_n (pc := 19) dX9_subjectOf_19 0 rfl ?_
    refine fb_iconst (pc := 20) (v := 0) dX9_subjectOf_20 fb_ki_0 ?_
    refine fb_aload_n (pc := 21) dX9_subjectOf_21 0 rfl ?_
    refine fb_getI (pc := 22) dX9_subjectOf_22 lkX9_95 ha0.1 ha0.2 rfl ?_
    refine fb_ldc2 (pc := 25) (v := 427071729268) dX9_subjectOf_25 lwX9_216 ?_
    refine fb_bnE h (fun r28 h28 h => ?_)
    refine fb_cV0v (pc := 28) [.int 0, .int (fb_I u a0 1), .long 427071729268] dX9_subjectOf_28 (mX9_stands g u a0 0 (fb_I u a0 1) 427071729268 ha0 h28) ymX9_stands yiX9_stands ha0.1 ha0.2 ylX9_188 rfl (Nat.le_of_ble_eq_true rfl) ⟨Nat.le_of_ble_eq_true rfl, Nat.le_of_ble_eq_true rfl⟩ ⟨Nat.le_of_ble_eq_true rfl, Nat.le_of_ble_eq_true rfl⟩ ?_
    refine fb_if_eq (pc := 31) (tgt := 38) h dX9_subjectOf_31 (by decide) (fun h => ?_) (fun h => ?_)
    · refine fb_aload_n (pc := 38) dX9_subjectOf_38 0 rfl ?_
      refine fb_iconst (pc := 39) (v := 0) dX9_subjectOf_39 fb_ki_0 ?_
      refine fb_aload_n (pc := 40) dX9_subjectOf_40 0 rfl ?_
      refine fb_getI (pc := 41) dX9_subjectOf_41 lkX9_95 ha0.1 ha0.2 rfl ?_
      refine fb_ldc2 (pc := 44) (v := 111567839655027) dX9_subjectOf_44 lwX9_218 ?_
      refine fb_bnE h (fun r47 h47 h => ?_)
      refine fb_cV0v (pc := 47) [.int 0, .int (fb_I u a0 1), .long 111567839655027] dX9_subjectOf_47 (mX9_stands g u a0 0 (fb_I u a0 1) 111567839655027 ha0 h47) ymX9_stands yiX9_stands ha0.1 ha0.2 ylX9_188 rfl (Nat.le_of_ble_eq_true rfl) ⟨Nat.le_of_ble_eq_true rfl, Nat.le_of_ble_eq_true rfl⟩ ⟨Nat.le_of_ble_eq_true rfl, Nat.le_of_ble_eq_true rfl⟩ ?_
      refine fb_if_eq (pc := 50) (tgt := 57) h dX9_subjectOf_50 (by decide) (fun h => ?_) (fun h => ?_)
      · refine fb_aload_n (pc := 57) dX9_subjectOf_57 0 rfl ?_
        refine fb_iconst (pc := 58) (v := 0) dX9_subjectOf_58 fb_ki_0 ?_
        refine fb_aload_n (pc := 59) dX9_subjectOf_59 0 rfl ?_
        refine fb_getI (pc := 60) dX9_subjectOf_60 lkX9_95 ha0.1 ha0.2 rfl ?_
        refine fb_ldc2 (pc := 63) (v := 110386773062757) dX9_subjectOf_63 lwX9_220 ?_
        refine fb_bnE h (fun r66 h66 h => ?_)
        refine fb_cV0v (pc := 66) [.int 0, .int (fb_I u a0 1), .long 110386773062757] dX9_subjectOf_66 (mX9_stands g u a0 0 (fb_I u a0 1) 110386773062757 ha0 h66) ymX9_stands yiX9_stands ha0.1 ha0.2 ylX9_188 rfl (Nat.le_of_ble_eq_true rfl) ⟨Nat.le_of_ble_eq_true rfl, Nat.le_of_ble_eq_true rfl⟩ ⟨Nat.le_of_ble_eq_true rfl, Nat.le_of_ble_eq_true rfl⟩ ?_
        refine fb_if_eq (pc := 69) (tgt := 76) h dX9_subjectOf_69 (by decide) (fun h => ?_) (fun h => ?_)
        · refine fb_iconst (pc := 76) (v := (-1)) dX9_subjectOf_76 fb_ki_m1 ?_
          exact fb_iretR (pc := 77) h dX9_subjectOf_77
        · refine fb_iconst (pc := 72) (v := 3) dX9_subjectOf_72 fb_ki_3 ?_
          refine fb_goto (pc := 73) (tgt := 77) dX9_subjectOf_73 (by decide) ?_
          exact fb_iretR (pc := 77) h dX9_subjectOf_77
      · refine fb_iconst (pc := 53) (v := 2) dX9_subjectOf_53 fb_ki_2 ?_
        refine fb_goto (pc := 54) (tgt := 77) dX9_subjectOf_54 (by decide) ?_
        exact fb_iretR (pc := 77) h dX9_subjectOf_77
    · refine fb_iconst (pc := 34) (v := 1) dX9_subjectOf_34 fb_ki_1 ?_
      refine fb_goto (pc := 35) (tgt := 77) dX9_subjectOf_35 (by decide) ?_
      exact fb_iretR (pc := 77) h dX9_subjectOf_77
  · refine fb_iconst (pc := 15) (v := 0) dX9_subjectOf_15 fb_ki_0 ?_
    refine fb_goto (pc := 16) (tgt := 77) dX9_subjectOf_16 (by decide) ?_
    exact fb_iretR (pc := 77) h dX9_subjectOf_77

theorem dX9_readRest_0 : decode cX9_readRest 0 = .ok (.aload_n 0, 1) := by decide +kernel
theorem dX9_readRest_1 : decode cX9_readRest 1 = .ok (.iconst 0, 1) := by decide +kernel
theorem dX9_readRest_2 : decode cX9_readRest 2 = .ok (.putfield 183, 3) := by decide +kernel
theorem dX9_readRest_5 : decode cX9_readRest 5 = .ok (.aload_n 0, 1) := by decide +kernel
theorem dX9_readRest_6 : decode cX9_readRest 6 = .ok (.iconst 0, 1) := by decide +kernel
theorem dX9_readRest_7 : decode cX9_readRest 7 = .ok (.putfield 180, 3) := by decide +kernel
theorem dX9_readRest_10 : decode cX9_readRest 10 = .ok (.aload_n 0, 1) := by decide +kernel
theorem dX9_readRest_11 : decode cX9_readRest 11 = .ok (.iconst 0, 1) := by decide +kernel
theorem dX9_readRest_12 : decode cX9_readRest 12 = .ok (.putfield 208, 3) := by decide +kernel
theorem dX9_readRest_15 : decode cX9_readRest 15 = .ok (.aload_n 0, 1) := by decide +kernel
theorem dX9_readRest_16 : decode cX9_readRest 16 = .ok (.iconst 0, 1) := by decide +kernel
theorem dX9_readRest_17 : decode cX9_readRest 17 = .ok (.putfield 176, 3) := by decide +kernel
theorem dX9_readRest_20 : decode cX9_readRest 20 = .ok (.aload_n 0, 1) := by decide +kernel
theorem dX9_readRest_21 : decode cX9_readRest 21 = .ok (.iconst 0, 1) := by decide +kernel
theorem dX9_readRest_22 : decode cX9_readRest 22 = .ok (.putfield 205, 3) := by decide +kernel
theorem dX9_readRest_25 : decode cX9_readRest 25 = .ok (.iload_n 1, 1) := by decide +kernel
theorem dX9_readRest_26 : decode cX9_readRest 26 = .ok (.istore_n 2, 1) := by decide +kernel
theorem dX9_readRest_27 : decode cX9_readRest 27 = .ok (.iload_n 2, 1) := by decide +kernel
theorem dX9_readRest_28 : decode cX9_readRest 28 = .ok (.aload_n 0, 1) := by decide +kernel
theorem dX9_readRest_29 : decode cX9_readRest 29 = .ok (.getfield 95, 3) := by decide +kernel
theorem dX9_readRest_32 : decode cX9_readRest 32 = .ok (.if_icmp .ge 24, 3) := by decide +kernel
theorem dX9_readRest_35 : decode cX9_readRest 35 = .ok (.aload_n 0, 1) := by decide +kernel
theorem dX9_readRest_36 : decode cX9_readRest 36 = .ok (.iload_n 2, 1) := by decide +kernel
theorem dX9_readRest_37 : decode cX9_readRest 37 = .ok (.aload_n 0, 1) := by decide +kernel
theorem dX9_readRest_38 : decode cX9_readRest 38 = .ok (.getfield 95, 3) := by decide +kernel
theorem dX9_readRest_41 : decode cX9_readRest 41 = .ok (.ldc2_w 222, 3) := by decide +kernel
theorem dX9_readRest_44 : decode cX9_readRest 44 = .ok (.invokevirtual 188, 3) := by decide +kernel
theorem dX9_readRest_47 : decode cX9_readRest 47 = .ok (.ifCond .ne 9, 3) := by decide +kernel
theorem dX9_readRest_50 : decode cX9_readRest 50 = .ok (.iinc 2 1, 3) := by decide +kernel
theorem dX9_readRest_53 : decode cX9_readRest 53 = .ok (.goto (-26), 3) := by decide +kernel
theorem dX9_readRest_56 : decode cX9_readRest 56 = .ok (.iload_n 2, 1) := by decide +kernel
theorem dX9_readRest_57 : decode cX9_readRest 57 = .ok (.iload_n 1, 1) := by decide +kernel
theorem dX9_readRest_58 : decode cX9_readRest 58 = .ok (.if_icmp .le 9, 3) := by decide +kernel
theorem dX9_readRest_61 : decode cX9_readRest 61 = .ok (.aload_n 0, 1) := by decide +kernel
theorem dX9_readRest_62 : decode cX9_readRest 62 = .ok (.iload_n 1, 1) := by decide +kernel
theorem dX9_readRest_63 : decode cX9_readRest 63 = .ok (.iload_n 2, 1) := by decide +kernel
theorem dX9_readRest_64 : decode cX9_readRest 64 = .ok (.invokevirtual 224, 3) := by decide +kernel
theorem dX9_readRest_67 : decode cX9_readRest 67 = .ok (.iload_n 2, 1) := by decide +kernel
theorem dX9_readRest_68 : decode cX9_readRest 68 = .ok (.aload_n 0, 1) := by decide +kernel
theorem dX9_readRest_69 : decode cX9_readRest 69 = .ok (.getfield 95, 3) := by decide +kernel
theorem dX9_readRest_72 : decode cX9_readRest 72 = .ok (.if_icmp .ge 15, 3) := by decide +kernel
theorem dX9_readRest_75 : decode cX9_readRest 75 = .ok (.aload_n 0, 1) := by decide +kernel
theorem dX9_readRest_76 : decode cX9_readRest 76 = .ok (.iload_n 2, 1) := by decide +kernel
theorem dX9_readRest_77 : decode cX9_readRest 77 = .ok (.bipush 7, 2) := by decide +kernel
theorem dX9_readRest_79 : decode cX9_readRest 79 = .ok (.iadd, 1) := by decide +kernel
theorem dX9_readRest_80 : decode cX9_readRest 80 = .ok (.aload_n 0, 1) := by decide +kernel
theorem dX9_readRest_81 : decode cX9_readRest 81 = .ok (.getfield 95, 3) := by decide +kernel
theorem dX9_readRest_84 : decode cX9_readRest 84 = .ok (.invokevirtual 227, 3) := by decide +kernel
theorem dX9_readRest_87 : decode cX9_readRest 87 = .ok (.return_, 1) := by decide +kernel
def jX9_readRest_67 (a0 : Nat) (x2 : Int32) (u : fb_M) : Option fb_M :=
 (if (fb_I u a0 1) ≤ x2 then (some u)
  else ((fX9_takeOrders u a0 (x2 + 7) (fb_I u a0 1)).bind fun r84 => 
   (some r84)))
set_option maxRecDepth 100000 in
set_option maxHeartbeats 4000000 in
theorem tjX9_readRest_67 {g : fb_G} {res : fb_M} (a0 : Nat) (x2 : Int32) (u : fb_M) (ha0 : a0 < fb_NT ∧ fb_sh a0 = (9, 40)) (h : jX9_readRest_67 a0 x2 u = some res) : fb_V g RX9 cX9_readRest 3 none "readRest" (fb_room 7 174 0 0) (fb_Qm g none fb_NT res 0 0) 0 0 fb_NT u 67 [(0, .ref (fb_b g + a0)), (2, .int x2)] [] := by
  unfold jX9_readRest_67 at h
  refine fb_iload_n (pc := 67) dX9_readRest_67 1 rfl ?_
  refine fb_aload_n (pc := 68) dX9_readRest_68 0 rfl ?_
  refine fb_getI (pc := 69) dX9_readRest_69 lkX9_95 ha0.1 ha0.2 rfl ?_
  refine fb_icmp_ge (pc := 72) (tgt := 87) h dX9_readRest_72 (by decide) (fun h => ?_) (fun h => ?_)
  · exact fb_vretM (pc := 87) h dX9_readRest_87
  · refine fb_aload_n (pc := 75) dX9_readRest_75 0 rfl ?_
    refine fb_iload_n (pc := 76) dX9_readRest_76 1 rfl ?_
    refine fb_bipush (pc := 77) (v := 7) dX9_readRest_77 fb_kb_7 ?_
    refine fb_iadd (pc := 79) dX9_readRest_79 ?_
    refine fb_aload_n (pc := 80) dX9_readRest_80 0 rfl ?_
    refine fb_getI (pc := 81) dX9_readRest_81 lkX9_95 ha0.1 ha0.2 rfl ?_
    refine fb_bnE h (fun r84 h84 h => ?_)
    refine fb_cV0n (pc := 84) [.int (x2 + 7), .int (fb_I u a0 1)] dX9_readRest_84 (mX9_takeOrders g u a0 (x2 + 7) (fb_I u a0 1) ha0 h84) ymX9_takeOrders yiX9_takeOrders ha0.1 ha0.2 ylX9_227 rfl (Nat.le_of_ble_eq_true rfl) ⟨Nat.le_of_ble_eq_true rfl, Nat.le_of_ble_eq_true rfl⟩ ⟨Nat.le_of_ble_eq_true rfl, Nat.le_of_ble_eq_true rfl⟩ ?_
    exact fb_vretM (pc := 87) h dX9_readRest_87

def jX9_readRest_56 (a0 : Nat) (x1 : Int32) (x2 : Int32) (u : fb_M) : Option fb_M :=
 (if x2 ≤ x1 then (jX9_readRest_67 a0 x2 u)
  else ((fX9_takeCondition u a0 x1 x2).bind fun r64 => 
   (jX9_readRest_67 a0 x2 r64)))
set_option maxRecDepth 100000 in
set_option maxHeartbeats 4000000 in
theorem tjX9_readRest_56 {g : fb_G} {res : fb_M} (a0 : Nat) (x1 : Int32) (x2 : Int32) (u : fb_M) (ha0 : a0 < fb_NT ∧ fb_sh a0 = (9, 40)) (h : jX9_readRest_56 a0 x1 x2 u = some res) : fb_V g RX9 cX9_readRest 3 none "readRest" (fb_room 7 174 0 0) (fb_Qm g none fb_NT res 0 0) 0 0 fb_NT u 56 [(0, .ref (fb_b g + a0)), (1, .int x1), (2, .int x2)] [] := by
  unfold jX9_readRest_56 at h
  refine fb_iload_n (pc := 56) dX9_readRest_56 2 rfl ?_
  refine fb_iload_n (pc := 57) dX9_readRest_57 1 rfl ?_
  refine fb_icmp_le (pc := 58) (tgt := 67) h dX9_readRest_58 (by decide) (fun h => ?_) (fun h => ?_)
  · exact fb_sub [0, 2] rfl (tjX9_readRest_67 a0 x2 u ha0 h)
  · refine fb_aload_n (pc := 61) dX9_readRest_61 0 rfl ?_
    refine fb_iload_n (pc := 62) dX9_readRest_62 1 rfl ?_
    refine fb_iload_n (pc := 63) dX9_readRest_63 2 rfl ?_
    refine fb_bnE h (fun r64 h64 h => ?_)
    refine fb_cV0n (pc := 64) [.int x1, .int x2] dX9_readRest_64 (mX9_takeCondition g u a0 x1 x2 ha0 h64) ymX9_takeCondition yiX9_takeCondition ha0.1 ha0.2 ylX9_224 rfl (Nat.le_of_ble_eq_true rfl) ⟨Nat.le_of_ble_eq_true rfl, Nat.le_of_ble_eq_true rfl⟩ ⟨Nat.le_of_ble_eq_true rfl, Nat.le_of_ble_eq_true rfl⟩ ?_
    exact fb_sub [0, 2] rfl (tjX9_readRest_67 a0 x2 r64 ha0 h)

def bX9_readRest_27 (K27 : Int32 → Option fb_M) (a0 : Nat) (x1 : Int32) (x2 : Int32) (u : fb_M) : Option fb_M :=
 (if (fb_I u a0 1) ≤ x2 then (jX9_readRest_56 a0 x1 x2 u)
  else ((fX9_stands u a0 x2 (fb_I u a0 1) 22362298684424825).bind fun r44 => 
   (if r44 = 0 then (K27 (x2 + 1))
   else (jX9_readRest_56 a0 x1 x2 u))))
def gX9_readRest_27 (a0 : Nat) (x1 : Int32) (u : fb_M) : Nat → Int32 → Option fb_M
 | 0 => fun _ => none
 | fu + 1 => fun x2 => bX9_readRest_27 (gX9_readRest_27 a0 x1 u fu) a0 x1 x2 u
set_option maxRecDepth 100000 in
set_option maxHeartbeats 4000000 in
theorem tbX9_readRest_27 {g : fb_G} {res : fb_M} (a0 : Nat) (x1 : Int32) (x2 : Int32) (u : fb_M) (K27 : Int32 → Option fb_M) (ha0 : a0 < fb_NT ∧ fb_sh a0 = (9, 40)) (hK27 : ∀ (x2 : Int32) ,  K27 x2 = some res → fb_V g RX9 cX9_readRest 3 none "readRest" (fb_room 7 174 0 0) (fb_Qm g none fb_NT res 0 0) 0 0 fb_NT u 27 [(0, .ref (fb_b g + a0)), (1, .int x1), (2, .int x2)] []) (h : bX9_readRest_27 K27 a0 x1 x2 u = some res) : fb_V g RX9 cX9_readRest 3 none "readRest" (fb_room 7 174 0 0) (fb_Qm g none fb_NT res 0 0) 0 0 fb_NT u 27 [(0, .ref (fb_b g + a0)), (1, .int x1), (2, .int x2)] [] := by
  unfold bX9_readRest_27 at h
  refine fb_iload_n (pc := 27) dX9_readRest_27 2 rfl ?_
  refine fb_aload_n (pc := 28) dX9_readRest_28 0 rfl ?_
  refine fb_getI (pc := 29) dX9_readRest_29 lkX9_95 ha0.1 ha0.2 rfl ?_
  refine fb_icmp_ge (pc := 32) (tgt := 56) h dX9_readRest_32 (by decide) (fun h => ?_) (fun h => ?_)
  · exact fb_sub [0, 1, 2] rfl (tjX9_readRest_56 a0 x1 x2 u ha0 h)
  · refine fb_aload_n (pc := 35) dX9_readRest_35 0 rfl ?_
    refine fb_iload_n (pc := 36) dX9_readRest_36 2 rfl ?_
    refine fb_aload_n (pc := 37) dX9_readRest_37 0 rfl ?_
    refine fb_getI (pc := 38) dX9_readRest_38 lkX9_95 ha0.1 ha0.2 rfl ?_
    refine fb_ldc2 (pc := 41) (v := 22362298684424825) dX9_readRest_41 lwX9_222 ?_
    refine fb_bnE h (fun r44 h44 h => ?_)
    refine fb_cV0v (pc := 44) [.int x2, .int (fb_I u a0 1), .long 22362298684424825] dX9_readRest_44 (mX9_stands g u a0 x2 (fb_I u a0 1) 22362298684424825 ha0 h44) ymX9_stands yiX9_stands ha0.1 ha0.2 ylX9_188 rfl (Nat.le_of_ble_eq_true rfl) ⟨Nat.le_of_ble_eq_true rfl, Nat.le_of_ble_eq_true rfl⟩ ⟨Nat.le_of_ble_eq_true rfl, Nat.le_of_ble_eq_true rfl⟩ ?_
    refine fb_if_ne (pc := 47) (tgt := 56) h dX9_readRest_47 (by decide) (fun h => ?_) (fun h => ?_)
    · exact fb_sub [0, 1, 2] rfl (tjX9_readRest_56 a0 x1 x2 u ha0 h)
    · refine fb_iinc (pc := 50) (v := 1) (lv' := [(2, .int (x2 + 1)), (0, .ref (fb_b g + a0)), (1, .int x1)]) dX9_readRest_50 2 rfl fb_ki_1 (by decide) rfl ?_
      refine fb_goto (pc := 53) (tgt := 27) dX9_readRest_53 (by decide) ?_
      exact fb_sub [1, 2, 0] rfl (hK27 (x2 + 1) h)

theorem tgX9_readRest_27 {g : fb_G} {res : fb_M} (a0 : Nat) (x1 : Int32) (u : fb_M) (ha0 : a0 < fb_NT ∧ fb_sh a0 = (9, 40)) : ∀ (fu : Nat) (x2 : Int32) ,  gX9_readRest_27 a0 x1 u fu x2 = some res → fb_V g RX9 cX9_readRest 3 none "readRest" (fb_room 7 174 0 0) (fb_Qm g none fb_NT res 0 0) 0 0 fb_NT u 27 [(0, .ref (fb_b g + a0)), (1, .int x1), (2, .int x2)] [] := by
  intro fu
  induction fu with
  | zero => intro x2 h; exact absurd h (by simp [gX9_readRest_27])
  | succ fu ih => intro x2 h; exact tbX9_readRest_27 a0 x1 x2 u (gX9_readRest_27 a0 x1 u fu) ha0 ih h
def fX9_readRest (u : fb_M) (a0 : Nat) (x1 : Int32) : Option fb_M :=
 (gX9_readRest_27 a0 x1 (fb_wI (fb_wI (fb_wI (fb_wI (fb_wI u a0 17 0) a0 18 0) a0 19 0) a0 20 0) a0 21 0) fb_F x1)
set_option maxRecDepth 100000 in
set_option maxHeartbeats 4000000 in
theorem mX9_readRest (g : fb_G) (u : fb_M) (a0 : Nat) (x1 : Int32) (ha0 : a0 < fb_NT ∧ fb_sh a0 = (9, 40)) {res : fb_M} (h : fX9_readRest u a0 x1 = some res) : fb_Runs g 7 174 0 0 fb_NT fb_NT yX9_readRest cX9_readRest 3 none [.ref (fb_b g + a0), .int x1] u none res := by
  unfold fX9_readRest at h
  refine fb_enter (by decide) (Nat.le_of_ble_eq_true rfl) ?_
  show fb_V g RX9 cX9_readRest 3 none "readRest" (fb_room 7 174 0 0) (fb_Qm g none fb_NT res 0 0) 0 0 fb_NT u 0 [(0, .ref (fb_b g + a0)), (1, .int x1)] []
  refine fb_aload_n (pc := 0) dX9_readRest_0 0 rfl ?_
  refine fb_iconst (pc := 1) (v := 0) dX9_readRest_1 fb_ki_0 ?_
  refine fb_putI (pc := 2) dX9_readRest_2 lkX9_183 ly_9_17 ha0.1 ha0.2 rfl rfl rfl ?_
  refine fb_aload_n (pc := 5) dX9_readRest_5 0 rfl ?_
  refine fb_iconst (pc := 6) (v := 0) dX9_readRest_6 fb_ki_0 ?_
  refine fb_putI (pc := 7) dX9_readRest_7 lkX9_180 ly_9_18 ha0.1 ha0.2 rfl rfl rfl ?_
  refine fb_aload_n (pc := 10) dX9_readRest_10 0 rfl ?_
  refine fb_iconst (pc := 11) (v := 0) dX9_readRest_11 fb_ki_0 ?_
  refine fb_putI (pc := 12) dX9_readRest_12 lkX9_208 ly_9_19 ha0.1 ha0.2 rfl rfl rfl ?_
  refine fb_aload_n (pc := 15) dX9_readRest_15 0 rfl ?_
  refine fb_iconst (pc := 16) (v := 0) dX9_readRest_16 fb_ki_0 ?_
  refine fb_putI (pc := 17) dX9_readRest_17 lkX9_176 ly_9_20 ha0.1 ha0.2 rfl rfl rfl ?_
  refine fb_aload_n (pc := 20) dX9_readRest_20 0 rfl ?_
  refine fb_iconst (pc := 21) (v := 0) dX9_readRest_21 fb_ki_0 ?_
  refine fb_putI (pc := 22) dX9_readRest_22 lkX9_205 ly_9_21 ha0.1 ha0.2 rfl rfl rfl ?_
  refine fb_iload_n (pc := 25) dX9_readRest_25 1 rfl ?_
  refine fb_istore_n (pc := 26) (lv' := [(2, .int x1), (0, .ref (fb_b g + a0)), (1, .int x1)]) dX9_readRest_26 rfl (by decide) rfl ?_
  exact fb_sub [1, 2, 0] rfl (tgX9_readRest_27 a0 x1 (fb_wI (fb_wI (fb_wI (fb_wI (fb_wI u a0 17 0) a0 18 0) a0 19 0) a0 20 0) a0 21 0) ha0 fb_F x1 h)

theorem dX9_keepFinder_0 : decode cX9_keepFinder 0 = .ok (.aload_n 0, 1) := by decide +kernel
theorem dX9_keepFinder_1 : decode cX9_keepFinder 1 = .ok (.getfield 19, 3) := by decide +kernel
theorem dX9_keepFinder_4 : decode cX9_keepFinder 4 = .ok (.aload_n 0, 1) := by decide +kernel
theorem dX9_keepFinder_5 : decode cX9_keepFinder 5 = .ok (.getfield 244, 3) := by decide +kernel
theorem dX9_keepFinder_8 : decode cX9_keepFinder 8 = .ok (.iload_n 1, 1) := by decide +kernel
theorem dX9_keepFinder_9 : decode cX9_keepFinder 9 = .ok (.iastore, 1) := by decide +kernel
theorem dX9_keepFinder_10 : decode cX9_keepFinder 10 = .ok (.aload_n 0, 1) := by decide +kernel
theorem dX9_keepFinder_11 : decode cX9_keepFinder 11 = .ok (.getfield 22, 3) := by decide +kernel
theorem dX9_keepFinder_14 : decode cX9_keepFinder 14 = .ok (.aload_n 0, 1) := by decide +kernel
theorem dX9_keepFinder_15 : decode cX9_keepFinder 15 = .ok (.getfield 244, 3) := by decide +kernel
theorem dX9_keepFinder_18 : decode cX9_keepFinder 18 = .ok (.iload_n 2, 1) := by decide +kernel
theorem dX9_keepFinder_19 : decode cX9_keepFinder 19 = .ok (.iastore, 1) := by decide +kernel
theorem dX9_keepFinder_20 : decode cX9_keepFinder 20 = .ok (.aload_n 0, 1) := by decide +kernel
theorem dX9_keepFinder_21 : decode cX9_keepFinder 21 = .ok (.getfield 25, 3) := by decide +kernel
theorem dX9_keepFinder_24 : decode cX9_keepFinder 24 = .ok (.aload_n 0, 1) := by decide +kernel
theorem dX9_keepFinder_25 : decode cX9_keepFinder 25 = .ok (.getfield 244, 3) := by decide +kernel
theorem dX9_keepFinder_28 : decode cX9_keepFinder 28 = .ok (.iload_n 3, 1) := by decide +kernel
theorem dX9_keepFinder_29 : decode cX9_keepFinder 29 = .ok (.bastore, 1) := by decide +kernel
theorem dX9_keepFinder_30 : decode cX9_keepFinder 30 = .ok (.aload_n 0, 1) := by decide +kernel
theorem dX9_keepFinder_31 : decode cX9_keepFinder 31 = .ok (.getfield 29, 3) := by decide +kernel
theorem dX9_keepFinder_34 : decode cX9_keepFinder 34 = .ok (.aload_n 0, 1) := by decide +kernel
theorem dX9_keepFinder_35 : decode cX9_keepFinder 35 = .ok (.getfield 244, 3) := by decide +kernel
theorem dX9_keepFinder_38 : decode cX9_keepFinder 38 = .ok (.aload_n 0, 1) := by decide +kernel
theorem dX9_keepFinder_39 : decode cX9_keepFinder 39 = .ok (.getfield 183, 3) := by decide +kernel
theorem dX9_keepFinder_42 : decode cX9_keepFinder 42 = .ok (.iastore, 1) := by decide +kernel
theorem dX9_keepFinder_43 : decode cX9_keepFinder 43 = .ok (.aload_n 0, 1) := by decide +kernel
theorem dX9_keepFinder_44 : decode cX9_keepFinder 44 = .ok (.getfield 32, 3) := by decide +kernel
theorem dX9_keepFinder_47 : decode cX9_keepFinder 47 = .ok (.aload_n 0, 1) := by decide +kernel
theorem dX9_keepFinder_48 : decode cX9_keepFinder 48 = .ok (.getfield 244, 3) := by decide +kernel
theorem dX9_keepFinder_51 : decode cX9_keepFinder 51 = .ok (.aload_n 0, 1) := by decide +kernel
theorem dX9_keepFinder_52 : decode cX9_keepFinder 52 = .ok (.getfield 180, 3) := by decide +kernel
theorem dX9_keepFinder_55 : decode cX9_keepFinder 55 = .ok (.iastore, 1) := by decide +kernel
theorem dX9_keepFinder_56 : decode cX9_keepFinder 56 = .ok (.aload_n 0, 1) := by decide +kernel
theorem dX9_keepFinder_57 : decode cX9_keepFinder 57 = .ok (.getfield 35, 3) := by decide +kernel
theorem dX9_keepFinder_60 : decode cX9_keepFinder 60 = .ok (.aload_n 0, 1) := by decide +kernel
theorem dX9_keepFinder_61 : decode cX9_keepFinder 61 = .ok (.getfield 244, 3) := by decide +kernel
theorem dX9_keepFinder_64 : decode cX9_keepFinder 64 = .ok (.aload_n 0, 1) := by decide +kernel
theorem dX9_keepFinder_65 : decode cX9_keepFinder 65 = .ok (.getfield 208, 3) := by decide +kernel
theorem dX9_keepFinder_68 : decode cX9_keepFinder 68 = .ok (.iastore, 1) := by decide +kernel
theorem dX9_keepFinder_69 : decode cX9_keepFinder 69 = .ok (.iconst 0, 1) := by decide +kernel
theorem dX9_keepFinder_70 : decode cX9_keepFinder 70 = .ok (.istore 4, 2) := by decide +kernel
theorem dX9_keepFinder_72 : decode cX9_keepFinder 72 = .ok (.iload 4, 2) := by decide +kernel
theorem dX9_keepFinder_74 : decode cX9_keepFinder 74 = .ok (.aload_n 0, 1) := by decide +kernel
theorem dX9_keepFinder_75 : decode cX9_keepFinder 75 = .ok (.getfield 180, 3) := by decide +kernel
theorem dX9_keepFinder_78 : decode cX9_keepFinder 78 = .ok (.if_icmp .ge 75, 3) := by decide +kernel
theorem dX9_keepFinder_81 : decode cX9_keepFinder 81 = .ok (.aload_n 0, 1) := by decide +kernel
theorem dX9_keepFinder_82 : decode cX9_keepFinder 82 = .ok (.getfield 38, 3) := by decide +kernel
theorem dX9_keepFinder_85 : decode cX9_keepFinder 85 = .ok (.bipush 6, 2) := by decide +kernel
theorem dX9_keepFinder_87 : decode cX9_keepFinder 87 = .ok (.aload_n 0, 1) := by decide +kernel
theorem dX9_keepFinder_88 : decode cX9_keepFinder 88 = .ok (.getfield 244, 3) := by decide +kernel
theorem dX9_keepFinder_91 : decode cX9_keepFinder 91 = .ok (.imul, 1) := by decide +kernel
theorem dX9_keepFinder_92 : decode cX9_keepFinder 92 = .ok (.iload 4, 2) := by decide +kernel
theorem dX9_keepFinder_94 : decode cX9_keepFinder 94 = .ok (.iadd, 1) := by decide +kernel
theorem dX9_keepFinder_95 : decode cX9_keepFinder 95 = .ok (.aload_n 0, 1) := by decide +kernel
theorem dX9_keepFinder_96 : decode cX9_keepFinder 96 = .ok (.getfield 53, 3) := by decide +kernel
theorem dX9_keepFinder_99 : decode cX9_keepFinder 99 = .ok (.iload 4, 2) := by decide +kernel
theorem dX9_keepFinder_101 : decode cX9_keepFinder 101 = .ok (.iaload, 1) := by decide +kernel
theorem dX9_keepFinder_102 : decode cX9_keepFinder 102 = .ok (.iastore, 1) := by decide +kernel
theorem dX9_keepFinder_103 : decode cX9_keepFinder 103 = .ok (.aload_n 0, 1) := by decide +kernel
theorem dX9_keepFinder_104 : decode cX9_keepFinder 104 = .ok (.getfield 41, 3) := by decide +kernel
theorem dX9_keepFinder_107 : decode cX9_keepFinder 107 = .ok (.bipush 6, 2) := by decide +kernel
theorem dX9_keepFinder_109 : decode cX9_keepFinder 109 = .ok (.aload_n 0, 1) := by decide +kernel
theorem dX9_keepFinder_110 : decode cX9_keepFinder 110 = .ok (.getfield 244, 3) := by decide +kernel
theorem dX9_keepFinder_113 : decode cX9_keepFinder 113 = .ok (.imul, 1) := by decide +kernel
theorem dX9_keepFinder_114 : decode cX9_keepFinder 114 = .ok (.iload 4, 2) := by decide +kernel
theorem dX9_keepFinder_116 : decode cX9_keepFinder 116 = .ok (.iadd, 1) := by decide +kernel
theorem dX9_keepFinder_117 : decode cX9_keepFinder 117 = .ok (.aload_n 0, 1) := by decide +kernel
theorem dX9_keepFinder_118 : decode cX9_keepFinder 118 = .ok (.getfield 56, 3) := by decide +kernel
theorem dX9_keepFinder_121 : decode cX9_keepFinder 121 = .ok (.iload 4, 2) := by decide +kernel
theorem dX9_keepFinder_123 : decode cX9_keepFinder 123 = .ok (.iaload, 1) := by decide +kernel
theorem dX9_keepFinder_124 : decode cX9_keepFinder 124 = .ok (.iastore, 1) := by decide +kernel
theorem dX9_keepFinder_125 : decode cX9_keepFinder 125 = .ok (.aload_n 0, 1) := by decide +kernel
theorem dX9_keepFinder_126 : decode cX9_keepFinder 126 = .ok (.getfield 44, 3) := by decide +kernel
theorem dX9_keepFinder_129 : decode cX9_keepFinder 129 = .ok (.bipush 6, 2) := by decide +kernel
theorem dX9_keepFinder_131 : decode cX9_keepFinder 131 = .ok (.aload_n 0, 1) := by decide +kernel
theorem dX9_keepFinder_132 : decode cX9_keepFinder 132 = .ok (.getfield 244, 3) := by decide +kernel
theorem dX9_keepFinder_135 : decode cX9_keepFinder 135 = .ok (.imul, 1) := by decide +kernel
theorem dX9_keepFinder_136 : decode cX9_keepFinder 136 = .ok (.iload 4, 2) := by decide +kernel
theorem dX9_keepFinder_138 : decode cX9_keepFinder 138 = .ok (.iadd, 1) := by decide +kernel
theorem dX9_keepFinder_139 : decode cX9_keepFinder 139 = .ok (.aload_n 0, 1) := by decide +kernel
theorem dX9_keepFinder_140 : decode cX9_keepFinder 140 = .ok (.getfield 59, 3) := by decide +kernel
theorem dX9_keepFinder_143 : decode cX9_keepFinder 143 = .ok (.iload 4, 2) := by decide +kernel
theorem dX9_keepFinder_145 : decode cX9_keepFinder 145 = .ok (.iaload, 1) := by decide +kernel
theorem dX9_keepFinder_146 : decode cX9_keepFinder 146 = .ok (.iastore, 1) := by decide +kernel
theorem dX9_keepFinder_147 : decode cX9_keepFinder 147 = .ok (.iinc 4 1, 3) := by decide +kernel
theorem dX9_keepFinder_150 : decode cX9_keepFinder 150 = .ok (.goto (-78), 3) := by decide +kernel
theorem dX9_keepFinder_153 : decode cX9_keepFinder 153 = .ok (.iconst 0, 1) := by decide +kernel
theorem dX9_keepFinder_154 : decode cX9_keepFinder 154 = .ok (.istore 4, 2) := by decide +kernel
theorem dX9_keepFinder_156 : decode cX9_keepFinder 156 = .ok (.iload 4, 2) := by decide +kernel
theorem dX9_keepFinder_158 : decode cX9_keepFinder 158 = .ok (.aload_n 0, 1) := by decide +kernel
theorem dX9_keepFinder_159 : decode cX9_keepFinder 159 = .ok (.getfield 208, 3) := by decide +kernel
theorem dX9_keepFinder_162 : decode cX9_keepFinder 162 = .ok (.if_icmp .ge 51, 3) := by decide +kernel
theorem dX9_keepFinder_165 : decode cX9_keepFinder 165 = .ok (.aload_n 0, 1) := by decide +kernel
theorem dX9_keepFinder_166 : decode cX9_keepFinder 166 = .ok (.getfield 47, 3) := by decide +kernel
theorem dX9_keepFinder_169 : decode cX9_keepFinder 169 = .ok (.iconst 3, 1) := by decide +kernel
theorem dX9_keepFinder_170 : decode cX9_keepFinder 170 = .ok (.aload_n 0, 1) := by decide +kernel
theorem dX9_keepFinder_171 : decode cX9_keepFinder 171 = .ok (.getfield 244, 3) := by decide +kernel
theorem dX9_keepFinder_174 : decode cX9_keepFinder 174 = .ok (.imul, 1) := by decide +kernel
theorem dX9_keepFinder_175 : decode cX9_keepFinder 175 = .ok (.iload 4, 2) := by decide +kernel
theorem dX9_keepFinder_177 : decode cX9_keepFinder 177 = .ok (.iadd, 1) := by decide +kernel
theorem dX9_keepFinder_178 : decode cX9_keepFinder 178 = .ok (.aload_n 0, 1) := by decide +kernel
theorem dX9_keepFinder_179 : decode cX9_keepFinder 179 = .ok (.getfield 62, 3) := by decide +kernel
theorem dX9_keepFinder_182 : decode cX9_keepFinder 182 = .ok (.iload 4, 2) := by decide +kernel
theorem dX9_keepFinder_184 : decode cX9_keepFinder 184 = .ok (.iaload, 1) := by decide +kernel
theorem dX9_keepFinder_185 : decode cX9_keepFinder 185 = .ok (.iastore, 1) := by decide +kernel
theorem dX9_keepFinder_186 : decode cX9_keepFinder 186 = .ok (.aload_n 0, 1) := by decide +kernel
theorem dX9_keepFinder_187 : decode cX9_keepFinder 187 = .ok (.getfield 50, 3) := by decide +kernel
theorem dX9_keepFinder_190 : decode cX9_keepFinder 190 = .ok (.iconst 3, 1) := by decide +kernel
theorem dX9_keepFinder_191 : decode cX9_keepFinder 191 = .ok (.aload_n 0, 1) := by decide +kernel
theorem dX9_keepFinder_192 : decode cX9_keepFinder 192 = .ok (.getfield 244, 3) := by decide +kernel
theorem dX9_keepFinder_195 : decode cX9_keepFinder 195 = .ok (.imul, 1) := by decide +kernel
theorem dX9_keepFinder_196 : decode cX9_keepFinder 196 = .ok (.iload 4, 2) := by decide +kernel
theorem dX9_keepFinder_198 : decode cX9_keepFinder 198 = .ok (.iadd, 1) := by decide +kernel
theorem dX9_keepFinder_199 : decode cX9_keepFinder 199 = .ok (.aload_n 0, 1) := by decide +kernel
theorem dX9_keepFinder_200 : decode cX9_keepFinder 200 = .ok (.getfield 65, 3) := by decide +kernel
theorem dX9_keepFinder_203 : decode cX9_keepFinder 203 = .ok (.iload 4, 2) := by decide +kernel
theorem dX9_keepFinder_205 : decode cX9_keepFinder 205 = .ok (.baload, 1) := by decide +kernel
theorem dX9_keepFinder_206 : decode cX9_keepFinder 206 = .ok (.bastore, 1) := by decide +kernel
theorem dX9_keepFinder_207 : decode cX9_keepFinder 207 = .ok (.iinc 4 1, 3) := by decide +kernel
theorem dX9_keepFinder_210 : decode cX9_keepFinder 210 = .ok (.goto (-54), 3) := by decide +kernel
theorem dX9_keepFinder_213 : decode cX9_keepFinder 213 = .ok (.return_, 1) := by decide +kernel
def bX9_keepFinder_156 (K156 : Int32 → fb_M → Option fb_M) (a0 : Nat) (x4 : Int32) (u : fb_M) : Option fb_M :=
 (if (fb_I u a0 19) ≤ x4 then (some u)
  else ((fb_R u a0 15).bind fun q166 => fb_gd (q166 < fb_NT ∧ (fb_sh q166).1 = 100) 
   (((fb_R u a0 25).bind fun q179 => fb_gd (q179 < fb_NT ∧ (fb_sh q179).1 = 100) 
   ((fb_gd (¬ (x4 < 0 ∨ (fb_sh q179).2 ≤ x4.toNatClampNeg)) 
   (fb_gd (¬ ((3 * (fb_I u a0 5)) + x4 < 0 ∨ (fb_sh q166).2 ≤ ((3 * (fb_I u a0 5)) + x4).toNatClampNeg)) 
   ((fb_R (fb_wI u q166 ((3 * (fb_I u a0 5)) + x4).toNatClampNeg (fb_I u q179 x4.toNatClampNeg)) a0 16).bind fun q187 => fb_gd (q187 < fb_NT ∧ (fb_sh q187).1 = 102) 
   (((fb_R (fb_wI u q166 ((3 * (fb_I u a0 5)) + x4).toNatClampNeg (fb_I u q179 x4.toNatClampNeg)) a0 26).bind fun q200 => fb_gd (q200 < fb_NT ∧ (fb_sh q200).1 = 102) 
   ((fb_gd (¬ (x4 < 0 ∨ (fb_sh q200).2 ≤ x4.toNatClampNeg)) 
   (fb_gd (¬ ((3 * (fb_I (fb_wI u q166 ((3 * (fb_I u a0 5)) + x4).toNatClampNeg (fb_I u q179 x4.toNatClampNeg)) a0 5)) + x4 < 0 ∨ (fb_sh q187).2 ≤ ((3 * (fb_I (fb_wI u q166 ((3 * (fb_I u a0 5)) + x4).toNatClampNeg (fb_I u q179 x4.toNatClampNeg)) a0 5)) + x4).toNatClampNeg)) 
   (K156 (x4 + 1) (fb_wI (fb_wI u q166 ((3 * (fb_I u a0 5)) + x4).toNatClampNeg (fb_I u q179 x4.toNatClampNeg)) q187 ((3 * (fb_I (fb_wI u q166 ((3 * (fb_I u a0 5)) + x4).toNatClampNeg (fb_I u q179 x4.toNatClampNeg)) a0 5)) + x4).toNatClampNeg (vp_nar .boolean (fb_I (fb_wI u q166 ((3 * (fb_I u a0 5)) + x4).toNatClampNeg (fb_I u q179 x4.toNatClampNeg)) q200 x4.toNatClampNeg)))))))))))))))))
def gX9_keepFinder_156 (a0 : Nat) : Nat → Int32 → fb_M → Option fb_M
 | 0 => fun _ _ => none
 | fu + 1 => fun x4 u => bX9_keepFinder_156 (gX9_keepFinder_156 a0 fu) a0 x4 u
set_option maxRecDepth 100000 in
set_option maxHeartbeats 4000000 in
theorem tbX9_keepFinder_156 {g : fb_G} {res : fb_M} (a0 : Nat) (x4 : Int32) (u : fb_M) (K156 : Int32 → fb_M → Option fb_M) (ha0 : a0 < fb_NT ∧ fb_sh a0 = (9, 40)) (hK156 : ∀ (x4 : Int32) (u : fb_M) ,  K156 x4 u = some res → fb_V g RX9 cX9_keepFinder 5 none "keepFinder" (fb_room 0 0 0 0) (fb_Qm g none fb_NT res 0 0) 0 0 fb_NT u 156 [(0, .ref (fb_b g + a0)), (4, .int x4)] []) (h : bX9_keepFinder_156 K156 a0 x4 u = some res) : fb_V g RX9 cX9_keepFinder 5 none "keepFinder" (fb_room 0 0 0 0) (fb_Qm g none fb_NT res 0 0) 0 0 fb_NT u 156 [(0, .ref (fb_b g + a0)), (4, .int x4)] [] := by
  unfold bX9_keepFinder_156 at h
  refine fb_iload (pc := 156) dX9_keepFinder_156 1 rfl ?_
  refine fb_aload_n (pc := 158) dX9_keepFinder_158 0 rfl ?_
  refine fb_getI (pc := 159) dX9_keepFinder_159 lkX9_208 ha0.1 ha0.2 rfl ?_
  refine fb_icmp_ge (pc := 162) (tgt := 213) h dX9_keepFinder_162 (by decide) (fun h => ?_) (fun h => ?_)
  · exact fb_vretM (pc := 213) h dX9_keepFinder_213
  · refine fb_aload_n (pc := 165) dX9_keepFinder_165 0 rfl ?_
    refine fb_bnE h (fun q166 e166 h => fb_gdE h (fun s166 h => ?_))
    refine fb_getR (pc := 166) dX9_keepFinder_166 lkX9_47 ha0.1 ha0.2 (by decide) e166 ?_
    refine fb_iconst (pc := 169) (v := 3) dX9_keepFinder_169 fb_ki_3 ?_
    refine fb_aload_n (pc := 170) dX9_keepFinder_170 0 rfl ?_
    refine fb_getI (pc := 171) dX9_keepFinder_171 lkX9_244 ha0.1 ha0.2 rfl ?_
    refine fb_imul (pc := 174) dX9_keepFinder_174 ?_
    refine fb_iload (pc := 175) dX9_keepFinder_175 1 rfl ?_
    refine fb_iadd (pc := 177) dX9_keepFinder_177 ?_
    refine fb_aload_n (pc := 178) dX9_keepFinder_178 0 rfl ?_
    refine fb_bnE h (fun q179 e179 h => fb_gdE h (fun s179 h => ?_))
    refine fb_getR (pc := 179) dX9_keepFinder_179 lkX9_62 ha0.1 ha0.2 (by decide) e179 ?_
    refine fb_iload (pc := 182) dX9_keepFinder_182 1 rfl ?_
    refine fb_gdE h (fun i184 h => ?_)
    refine fb_iald (pc := 184) dX9_keepFinder_184 s179.1 (fb_eta s179.2) i184 ?_
    refine fb_gdE h (fun i185 h => ?_)
    refine fb_iast (pc := 185) dX9_keepFinder_185 s166.1 (fb_eta s166.2) i185 ?_
    refine fb_aload_n (pc := 186) dX9_keepFinder_186 0 rfl ?_
    refine fb_bnE h (fun q187 e187 h => fb_gdE h (fun s187 h => ?_))
    refine fb_getR (pc := 187) dX9_keepFinder_187 lkX9_50 ha0.1 ha0.2 (by decide) e187 ?_
    refine fb_iconst (pc := 190) (v := 3) dX9_keepFinder_190 fb_ki_3 ?_
    refine fb_aload_n (pc := 191) dX9_keepFinder_191 0 rfl ?_
    refine fb_getI (pc := 192) dX9_keepFinder_192 lkX9_244 ha0.1 ha0.2 rfl ?_
    refine fb_imul (pc := 195) dX9_keepFinder_195 ?_
    refine fb_iload (pc := 196) dX9_keepFinder_196 1 rfl ?_
    refine fb_iadd (pc := 198) dX9_keepFinder_198 ?_
    refine fb_aload_n (pc := 199) dX9_keepFinder_199 0 rfl ?_
    refine fb_bnE h (fun q200 e200 h => fb_gdE h (fun s200 h => ?_))
    refine fb_getR (pc := 200) dX9_keepFinder_200 lkX9_65 ha0.1 ha0.2 (by decide) e200 ?_
    refine fb_iload (pc := 203) dX9_keepFinder_203 1 rfl ?_
    refine fb_gdE h (fun i205 h => ?_)
    refine fb_zald (pc := 205) dX9_keepFinder_205 s200.1 (fb_eta s200.2) i205 ?_
    refine fb_gdE h (fun i206 h => ?_)
    refine fb_zast (pc := 206) dX9_keepFinder_206 s187.1 (fb_eta s187.2) i206 ?_
    refine fb_iinc (pc := 207) (v := 1) (lv' := [(4, .int (x4 + 1)), (0, .ref (fb_b g + a0))]) dX9_keepFinder_207 1 rfl fb_ki_1 (by decide) rfl ?_
    refine fb_goto (pc := 210) (tgt := 156) dX9_keepFinder_210 (by decide) ?_
    exact fb_sub [1, 0] rfl (hK156 (x4 + 1) (fb_wI (fb_wI u q166 ((3 * (fb_I u a0 5)) + x4).toNatClampNeg (fb_I u q179 x4.toNatClampNeg)) q187 ((3 * (fb_I (fb_wI u q166 ((3 * (fb_I u a0 5)) + x4).toNatClampNeg (fb_I u q179 x4.toNatClampNeg)) a0 5)) + x4).toNatClampNeg (vp_nar .boolean (fb_I (fb_wI u q166 ((3 * (fb_I u a0 5)) + x4).toNatClampNeg (fb_I u q179 x4.toNatClampNeg)) q200 x4.toNatClampNeg))) h)

theorem tgX9_keepFinder_156 {g : fb_G} {res : fb_M} (a0 : Nat) (ha0 : a0 < fb_NT ∧ fb_sh a0 = (9, 40)) : ∀ (fu : Nat) (x4 : Int32) (u : fb_M) ,  gX9_keepFinder_156 a0 fu x4 u = some res → fb_V g RX9 cX9_keepFinder 5 none "keepFinder" (fb_room 0 0 0 0) (fb_Qm g none fb_NT res 0 0) 0 0 fb_NT u 156 [(0, .ref (fb_b g + a0)), (4, .int x4)] [] := by
  intro fu
  induction fu with
  | zero => intro x4 u h; exact absurd h (by simp [gX9_keepFinder_156])
  | succ fu ih => intro x4 u h; exact tbX9_keepFinder_156 a0 x4 u (gX9_keepFinder_156 a0 fu) ha0 ih h
def bX9_keepFinder_72 (K72 : Int32 → fb_M → Option fb_M) (a0 : Nat) (x4 : Int32) (u : fb_M) : Option fb_M :=
 (if (fb_I u a0 18) ≤ x4 then (gX9_keepFinder_156 a0 fb_F 0 u)
  else ((fb_R u a0 12).bind fun q82 => fb_gd (q82 < fb_NT ∧ (fb_sh q82).1 = 100) 
   (((fb_R u a0 22).bind fun q96 => fb_gd (q96 < fb_NT ∧ (fb_sh q96).1 = 100) 
   ((fb_gd (¬ (x4 < 0 ∨ (fb_sh q96).2 ≤ x4.toNatClampNeg)) 
   (fb_gd (¬ ((6 * (fb_I u a0 5)) + x4 < 0 ∨ (fb_sh q82).2 ≤ ((6 * (fb_I u a0 5)) + x4).toNatClampNeg)) 
   ((fb_R (fb_wI u q82 ((6 * (fb_I u a0 5)) + x4).toNatClampNeg (fb_I u q96 x4.toNatClampNeg)) a0 13).bind fun q104 => fb_gd (q104 < fb_NT ∧ (fb_sh q104).1 = 100) 
   (((fb_R (fb_wI u q82 ((6 * (fb_I u a0 5)) + x4).toNatClampNeg (fb_I u q96 x4.toNatClampNeg)) a0 23).bind fun q118 => fb_gd (q118 < fb_NT ∧ (fb_sh q118).1 = 100) 
   ((fb_gd (¬ (x4 < 0 ∨ (fb_sh q118).2 ≤ x4.toNatClampNeg)) 
   (fb_gd (¬ ((6 * (fb_I (fb_wI u q82 ((6 * (fb_I u a0 5)) + x4).toNatClampNeg (fb_I u q96 x4.toNatClampNeg)) a0 5)) + x4 < 0 ∨ (fb_sh q104).2 ≤ ((6 * (fb_I (fb_wI u q82 ((6 * (fb_I u a0 5)) + x4).toNatClampNeg (fb_I u q96 x4.toNatClampNeg)) a0 5)) + x4).toNatClampNeg)) 
   ((fb_R (fb_wI (fb_wI u q82 ((6 * (fb_I u a0 5)) + x4).toNatClampNeg (fb_I u q96 x4.toNatClampNeg)) q104 ((6 * (fb_I (fb_wI u q82 ((6 * (fb_I u a0 5)) + x4).toNatClampNeg (fb_I u q96 x4.toNatClampNeg)) a0 5)) + x4).toNatClampNeg (fb_I (fb_wI u q82 ((6 * (fb_I u a0 5)) + x4).toNatClampNeg (fb_I u q96 x4.toNatClampNeg)) q118 x4.toNatClampNeg)) a0 14).bind fun q126 => fb_gd (q126 < fb_NT ∧ (fb_sh q126).1 = 100) 
   (((fb_R (fb_wI (fb_wI u q82 ((6 * (fb_I u a0 5)) + x4).toNatClampNeg (fb_I u q96 x4.toNatClampNeg)) q104 ((6 * (fb_I (fb_wI u q82 ((6 * (fb_I u a0 5)) + x4).toNatClampNeg (fb_I u q96 x4.toNatClampNeg)) a0 5)) + x4).toNatClampNeg (fb_I (fb_wI u q82 ((6 * (fb_I u a0 5)) + x4).toNatClampNeg (fb_I u q96 x4.toNatClampNeg)) q118 x4.toNatClampNeg)) a0 24).bind fun q140 => fb_gd (q140 < fb_NT ∧ (fb_sh q140).1 = 100) 
   ((fb_gd (¬ (x4 < 0 ∨ (fb_sh q140).2 ≤ x4.toNatClampNeg)) 
   (fb_gd (¬ ((6 * (fb_I (fb_wI (fb_wI u q82 ((6 * (fb_I u a0 5)) + x4).toNatClampNeg (fb_I u q96 x4.toNatClampNeg)) q104 ((6 * (fb_I (fb_wI u q82 ((6 * (fb_I u a0 5)) + x4).toNatClampNeg (fb_I u q96 x4.toNatClampNeg)) a0 5)) + x4).toNatClampNeg (fb_I (fb_wI u q82 ((6 * (fb_I u a0 5)) + x4).toNatClampNeg (fb_I u q96 x4.toNatClampNeg)) q118 x4.toNatClampNeg)) a0 5)) + x4 < 0 ∨ (fb_sh q126).2 ≤ ((6 * (fb_I (fb_wI (fb_wI u q82 ((6 * (fb_I u a0 5)) + x4).toNatClampNeg (fb_I u q96 x4.toNatClampNeg)) q104 ((6 * (fb_I (fb_wI u q82 ((6 * (fb_I u a0 5)) + x4).toNatClampNeg (fb_I u q96 x4.toNatClampNeg)) a0 5)) + x4).toNatClampNeg (fb_I (fb_wI u q82 ((6 * (fb_I u a0 5)) + x4).toNatClampNeg (fb_I u q96 x4.toNatClampNeg)) q118 x4.toNatClampNeg)) a0 5)) + x4).toNatClampNeg)) 
   (K72 (x4 + 1) (fb_wI (fb_wI (fb_wI u q82 ((6 * (fb_I u a0 5)) + x4).toNatClampNeg (fb_I u q96 x4.toNatClampNeg)) q104 ((6 * (fb_I (fb_wI u q82 ((6 * (fb_I u a0 5)) + x4).toNatClampNeg (fb_I u q96 x4.toNatClampNeg)) a0 5)) + x4).toNatClampNeg (fb_I (fb_wI u q82 ((6 * (fb_I u a0 5)) + x4).toNatClampNeg (fb_I u q96 x4.toNatClampNeg)) q118 x4.toNatClampNeg)) q126 ((6 * (fb_I (fb_wI (fb_wI u q82 ((6 * (fb_I u a0 5)) + x4).toNatClampNeg (fb_I u q96 x4.toNatClampNeg)) q104 ((6 * (fb_I (fb_wI u q82 ((6 * (fb_I u a0 5)) + x4).toNatClampNeg (fb_I u q96 x4.toNatClampNeg)) a0 5)) + x4).toNatClampNeg (fb_I (fb_wI u q82 ((6 * (fb_I u a0 5)) + x4).toNatClampNeg (fb_I u q96 x4.toNatClampNeg)) q118 x4.toNatClampNeg)) a0 5)) + x4).toNatClampNeg (fb_I (fb_wI (fb_wI u q82 ((6 * (fb_I u a0 5)) + x4).toNatClampNeg (fb_I u q96 x4.toNatClampNeg)) q104 ((6 * (fb_I (fb_wI u q82 ((6 * (fb_I u a0 5)) + x4).toNatClampNeg (fb_I u q96 x4.toNatClampNeg)) a0 5)) + x4).toNatClampNeg (fb_I (fb_wI u q82 ((6 * (fb_I u a0 5)) + x4).toNatClampNeg (fb_I u q96 x4.toNatClampNeg)) q118 x4.toNatClampNeg)) q140 x4.toNatClampNeg))))))))))))))))))))))
def gX9_keepFinder_72 (a0 : Nat) : Nat → Int32 → fb_M → Option fb_M
 | 0 => fun _ _ => none
 | fu + 1 => fun x4 u => bX9_keepFinder_72 (gX9_keepFinder_72 a0 fu) a0 x4 u
set_option maxRecDepth 100000 in
set_option maxHeartbeats 4000000 in
theorem tbX9_keepFinder_72 {g : fb_G} {res : fb_M} (a0 : Nat) (x4 : Int32) (u : fb_M) (K72 : Int32 → fb_M → Option fb_M) (ha0 : a0 < fb_NT ∧ fb_sh a0 = (9, 40)) (hK72 : ∀ (x4 : Int32) (u : fb_M) ,  K72 x4 u = some res → fb_V g RX9 cX9_keepFinder 5 none "keepFinder" (fb_room 0 0 0 0) (fb_Qm g none fb_NT res 0 0) 0 0 fb_NT u 72 [(0, .ref (fb_b g + a0)), (4, .int x4)] []) (h : bX9_keepFinder_72 K72 a0 x4 u = some res) : fb_V g RX9 cX9_keepFinder 5 none "keepFinder" (fb_room 0 0 0 0) (fb_Qm g none fb_NT res 0 0) 0 0 fb_NT u 72 [(0, .ref (fb_b g + a0)), (4, .int x4)] [] := by
  unfold bX9_keepFinder_72 at h
  refine fb_iload (pc := 72) dX9_keepFinder_72 1 rfl ?_
  refine fb_aload_n (pc := 74) dX9_keepFinder_74 0 rfl ?_
  refine fb_getI (pc := 75) dX9_keepFinder_75 lkX9_180 ha0.1 ha0.2 rfl ?_
  refine fb_icmp_ge (pc := 78) (tgt := 153) h dX9_keepFinder_78 (by decide) (fun h => ?_) (fun h => ?_)
  · refine fb_iconst (pc := 153) (v := 0) dX9_keepFinder_153 fb_ki_0 ?_
    refine fb_istore (pc := 154) (lv' := [(4, .int 0), (0, .ref (fb_b g + a0))]) dX9_keepFinder_154 (by decide) rfl ?_
    exact fb_sub [1, 0] rfl (tgX9_keepFinder_156 a0 ha0 fb_F 0 u h)
  · refine fb_aload_n (pc := 81) dX9_keepFinder_81 0 rfl ?_
    refine fb_bnE h (fun q82 e82 h => fb_gdE h (fun s82 h => ?_))
    refine fb_getR (pc := 82) dX9_keepFinder_82 lkX9_38 ha0.1 ha0.2 (by decide) e82 ?_
    refine fb_bipush (pc := 85) (v := 6) dX9_keepFinder_85 fb_kb_6 ?_
    refine fb_aload_n (pc := 87) dX9_keepFinder_87 0 rfl ?_
    refine fb_getI (pc := 88) dX9_keepFinder_88 lkX9_244 ha0.1 ha0.2 rfl ?_
    refine fb_imul (pc := 91) dX9_keepFinder_91 ?_
    refine fb_iload (pc := 92) dX9_keepFinder_92 1 rfl ?_
    refine fb_iadd (pc := 94) dX9_keepFinder_94 ?_
    refine fb_aload_n (pc := 95) dX9_keepFinder_95 0 rfl ?_
    refine fb_bnE h (fun q96 e96 h => fb_gdE h (fun s96 h => ?_))
    refine fb_getR (pc := 96) dX9_keepFinder_96 lkX9_53 ha0.1 ha0.2 (by decide) e96 ?_
    refine fb_iload (pc := 99) dX9_keepFinder_99 1 rfl ?_
    refine fb_gdE h (fun i101 h => ?_)
    refine fb_iald (pc := 101) dX9_keepFinder_101 s96.1 (fb_eta s96.2) i101 ?_
    refine fb_gdE h (fun i102 h => ?_)
    refine fb_iast (pc := 102) dX9_keepFinder_102 s82.1 (fb_eta s82.2) i102 ?_
    refine fb_aload_n (pc := 103) dX9_keepFinder_103 0 rfl ?_
    refine fb_bnE h (fun q104 e104 h => fb_gdE h (fun s104 h => ?_))
    refine fb_getR (pc := 104) dX9_keepFinder_104 lkX9_41 ha0.1 ha0.2 (by decide) e104 ?_
    refine fb_bipush (pc := 107) (v := 6) dX9_keepFinder_107 fb_kb_6 ?_
    refine fb_aload_n (pc := 109) dX9_keepFinder_109 0 rfl ?_
    refine fb_getI (pc := 110) dX9_keepFinder_110 lkX9_244 ha0.1 ha0.2 rfl ?_
    refine fb_imul (pc := 113) dX9_keepFinder_113 ?_
    refine fb_iload (pc := 114) dX9_keepFinder_114 1 rfl ?_
    refine fb_iadd (pc := 116) dX9_keepFinder_116 ?_
    refine fb_aload_n (pc := 117) dX9_keepFinder_117 0 rfl ?_
    refine fb_bnE h (fun q118 e118 h => fb_gdE h (fun s118 h => ?_))
    refine fb_getR (pc := 118) dX9_keepFinder_118 lkX9_56 ha0.1 ha0.2 (by decide) e118 ?_
    refine fb_iload (pc := 121) dX9_keepFinder_121 1 rfl ?_
    refine fb_gdE h (fun i123 h => ?_)
    refine fb_iald (pc := 123) dX9_keepFinder_123 s118.1 (fb_eta s118.2) i123 ?_
    refine fb_gdE h (fun i124 h => ?_)
    refine fb_iast (pc := 124) dX9_keepFinder_124 s104.1 (fb_eta s104.2) i124 ?_
    refine fb_aload_n (pc := 125) dX9_keepFinder_125 0 rfl ?_
    refine fb_bnE h (fun q126 e126 h => fb_gdE h (fun s126 h => ?_))
    refine fb_getR (pc := 126) dX9_keepFinder_126 lkX9_44 ha0.1 ha0.2 (by decide) e126 ?_
    refine fb_bipush (pc := 129) (v := 6) dX9_keepFinder_129 fb_kb_6 ?_
    refine fb_aload_n (pc := 131) dX9_keepFinder_131 0 rfl ?_
    refine fb_getI (pc := 132) dX9_keepFinder_132 lkX9_244 ha0.1 ha0.2 rfl ?_
    refine fb_imul (pc := 135) dX9_keepFinder_135 ?_
    refine fb_iload (pc := 136) dX9_keepFinder_136 1 rfl ?_
    refine fb_iadd (pc := 138) dX9_keepFinder_138 ?_
    refine fb_aload_n (pc := 139) dX9_keepFinder_139 0 rfl ?_
    refine fb_bnE h (fun q140 e140 h => fb_gdE h (fun s140 h => ?_))
    refine fb_getR (pc := 140) dX9_keepFinder_140 lkX9_59 ha0.1 ha0.2 (by decide) e140 ?_
    refine fb_iload (pc := 143) dX9_keepFinder_143 1 rfl ?_
    refine fb_gdE h (fun i145 h => ?_)
    refine fb_iald (pc := 145) dX9_keepFinder_145 s140.1 (fb_eta s140.2) i145 ?_
    refine fb_gdE h (fun i146 h => ?_)
    refine fb_iast (pc := 146) dX9_keepFinder_146 s126.1 (fb_eta s126.2) i146 ?_
    refine fb_iinc (pc := 147) (v := 1) (lv' := [(4, .int (x4 + 1)), (0, .ref (fb_b g + a0))]) dX9_keepFinder_147 1 rfl fb_ki_1 (by decide) rfl ?_
    refine fb_goto (pc := 150) (tgt := 72) dX9_keepFinder_150 (by decide) ?_
    exact fb_sub [1, 0] rfl (hK72 (x4 + 1) (fb_wI (fb_wI (fb_wI u q82 ((6 * (fb_I u a0 5)) + x4).toNatClampNeg (fb_I u q96 x4.toNatClampNeg)) q104 ((6 * (fb_I (fb_wI u q82 ((6 * (fb_I u a0 5)) + x4).toNatClampNeg (fb_I u q96 x4.toNatClampNeg)) a0 5)) + x4).toNatClampNeg (fb_I (fb_wI u q82 ((6 * (fb_I u a0 5)) + x4).toNatClampNeg (fb_I u q96 x4.toNatClampNeg)) q118 x4.toNatClampNeg)) q126 ((6 * (fb_I (fb_wI (fb_wI u q82 ((6 * (fb_I u a0 5)) + x4).toNatClampNeg (fb_I u q96 x4.toNatClampNeg)) q104 ((6 * (fb_I (fb_wI u q82 ((6 * (fb_I u a0 5)) + x4).toNatClampNeg (fb_I u q96 x4.toNatClampNeg)) a0 5)) + x4).toNatClampNeg (fb_I (fb_wI u q82 ((6 * (fb_I u a0 5)) + x4).toNatClampNeg (fb_I u q96 x4.toNatClampNeg)) q118 x4.toNatClampNeg)) a0 5)) + x4).toNatClampNeg (fb_I (fb_wI (fb_wI u q82 ((6 * (fb_I u a0 5)) + x4).toNatClampNeg (fb_I u q96 x4.toNatClampNeg)) q104 ((6 * (fb_I (fb_wI u q82 ((6 * (fb_I u a0 5)) + x4).toNatClampNeg (fb_I u q96 x4.toNatClampNeg)) a0 5)) + x4).toNatClampNeg (fb_I (fb_wI u q82 ((6 * (fb_I u a0 5)) + x4).toNatClampNeg (fb_I u q96 x4.toNatClampNeg)) q118 x4.toNatClampNeg)) q140 x4.toNatClampNeg)) h)

theorem tgX9_keepFinder_72 {g : fb_G} {res : fb_M} (a0 : Nat) (ha0 : a0 < fb_NT ∧ fb_sh a0 = (9, 40)) : ∀ (fu : Nat) (x4 : Int32) (u : fb_M) ,  gX9_keepFinder_72 a0 fu x4 u = some res → fb_V g RX9 cX9_keepFinder 5 none "keepFinder" (fb_room 0 0 0 0) (fb_Qm g none fb_NT res 0 0) 0 0 fb_NT u 72 [(0, .ref (fb_b g + a0)), (4, .int x4)] [] := by
  intro fu
  induction fu with
  | zero => intro x4 u h; exact absurd h (by simp [gX9_keepFinder_72])
  | succ fu ih => intro x4 u h; exact tbX9_keepFinder_72 a0 x4 u (gX9_keepFinder_72 a0 fu) ha0 ih h
def fX9_keepFinder (u : fb_M) (a0 : Nat) (x1 : Int32) (x2 : Int32) (x3 : Int32) : Option fb_M :=
 ((fb_R u a0 6).bind fun q1 => fb_gd (q1 < fb_NT ∧ (fb_sh q1).1 = 100) 
  ((fb_gd (¬ (fb_I u a0 5 < 0 ∨ (fb_sh q1).2 ≤ (fb_I u a0 5).toNatClampNeg)) 
  ((fb_R (fb_wI u q1 (fb_I u a0 5).toNatClampNeg x1) a0 7).bind fun q11 => fb_gd (q11 < fb_NT ∧ (fb_sh q11).1 = 100) 
  ((fb_gd (¬ (fb_I (fb_wI u q1 (fb_I u a0 5).toNatClampNeg x1) a0 5 < 0 ∨ (fb_sh q11).2 ≤ (fb_I (fb_wI u q1 (fb_I u a0 5).toNatClampNeg x1) a0 5).toNatClampNeg)) 
  ((fb_R (fb_wI (fb_wI u q1 (fb_I u a0 5).toNatClampNeg x1) q11 (fb_I (fb_wI u q1 (fb_I u a0 5).toNatClampNeg x1) a0 5).toNatClampNeg x2) a0 8).bind fun q21 => fb_gd (q21 < fb_NT ∧ (fb_sh q21).1 = 102) 
  ((fb_gd (¬ (fb_I (fb_wI (fb_wI u q1 (fb_I u a0 5).toNatClampNeg x1) q11 (fb_I (fb_wI u q1 (fb_I u a0 5).toNatClampNeg x1) a0 5).toNatClampNeg x2) a0 5 < 0 ∨ (fb_sh q21).2 ≤ (fb_I (fb_wI (fb_wI u q1 (fb_I u a0 5).toNatClampNeg x1) q11 (fb_I (fb_wI u q1 (fb_I u a0 5).toNatClampNeg x1) a0 5).toNatClampNeg x2) a0 5).toNatClampNeg)) 
  ((fb_R (fb_wI (fb_wI (fb_wI u q1 (fb_I u a0 5).toNatClampNeg x1) q11 (fb_I (fb_wI u q1 (fb_I u a0 5).toNatClampNeg x1) a0 5).toNatClampNeg x2) q21 (fb_I (fb_wI (fb_wI u q1 (fb_I u a0 5).toNatClampNeg x1) q11 (fb_I (fb_wI u q1 (fb_I u a0 5).toNatClampNeg x1) a0 5).toNatClampNeg x2) a0 5).toNatClampNeg (vp_nar .boolean x3)) a0 9).bind fun q31 => fb_gd (q31 < fb_NT ∧ (fb_sh q31).1 = 100) 
  ((fb_gd (¬ (fb_I (fb_wI (fb_wI (fb_wI u q1 (fb_I u a0 5).toNatClampNeg x1) q11 (fb_I (fb_wI u q1 (fb_I u a0 5).toNatClampNeg x1) a0 5).toNatClampNeg x2) q21 (fb_I (fb_wI (fb_wI u q1 (fb_I u a0 5).toNatClampNeg x1) q11 (fb_I (fb_wI u q1 (fb_I u a0 5).toNatClampNeg x1) a0 5).toNatClampNeg x2) a0 5).toNatClampNeg (vp_nar .boolean x3)) a0 5 < 0 ∨ (fb_sh q31).2 ≤ (fb_I (fb_wI (fb_wI (fb_wI u q1 (fb_I u a0 5).toNatClampNeg x1) q11 (fb_I (fb_wI u q1 (fb_I u a0 5).toNatClampNeg x1) a0 5).toNatClampNeg x2) q21 (fb_I (fb_wI (fb_wI u q1 (fb_I u a0 5).toNatClampNeg x1) q11 (fb_I (fb_wI u q1 (fb_I u a0 5).toNatClampNeg x1) a0 5).toNatClampNeg x2) a0 5).toNatClampNeg (vp_nar .boolean x3)) a0 5).toNatClampNeg)) 
  ((fb_R (fb_wI (fb_wI (fb_wI (fb_wI u q1 (fb_I u a0 5).toNatClampNeg x1) q11 (fb_I (fb_wI u q1 (fb_I u a0 5).toNatClampNeg x1) a0 5).toNatClampNeg x2) q21 (fb_I (fb_wI (fb_wI u q1 (fb_I u a0 5).toNatClampNeg x1) q11 (fb_I (fb_wI u q1 (fb_I u a0 5).toNatClampNeg x1) a0 5).toNatClampNeg x2) a0 5).toNatClampNeg (vp_nar .boolean x3)) q31 (fb_I (fb_wI (fb_wI (fb_wI u q1 (fb_I u a0 5).toNatClampNeg x1) q11 (fb_I (fb_wI u q1 (fb_I u a0 5).toNatClampNeg x1) a0 5).toNatClampNeg x2) q21 (fb_I (fb_wI (fb_wI u q1 (fb_I u a0 5).toNatClampNeg x1) q11 (fb_I (fb_wI u q1 (fb_I u a0 5).toNatClampNeg x1) a0 5).toNatClampNeg x2) a0 5).toNatClampNeg (vp_nar .boolean x3)) a0 5).toNatClampNeg (fb_I (fb_wI (fb_wI (fb_wI u q1 (fb_I u a0 5).toNatClampNeg x1) q11 (fb_I (fb_wI u q1 (fb_I u a0 5).toNatClampNeg x1) a0 5).toNatClampNeg x2) q21 (fb_I (fb_wI (fb_wI u q1 (fb_I u a0 5).toNatClampNeg x1) q11 (fb_I (fb_wI u q1 (fb_I u a0 5).toNatClampNeg x1) a0 5).toNatClampNeg x2) a0 5).toNatClampNeg (vp_nar .boolean x3)) a0 17)) a0 10).bind fun q44 => fb_gd (q44 < fb_NT ∧ (fb_sh q44).1 = 100) 
  ((fb_gd (¬ (fb_I (fb_wI (fb_wI (fb_wI (fb_wI u q1 (fb_I u a0 5).toNatClampNeg x1) q11 (fb_I (fb_wI u q1 (fb_I u a0 5).toNatClampNeg x1) a0 5).toNatClampNeg x2) q21 (fb_I (fb_wI (fb_wI u q1 (fb_I u a0 5).toNatClampNeg x1) q11 (fb_I (fb_wI u q1 (fb_I u a0 5).toNatClampNeg x1) a0 5).toNatClampNeg x2) a0 5).toNatClampNeg (vp_nar .boolean x3)) q31 (fb_I (fb_wI (fb_wI (fb_wI u q1 (fb_I u a0 5).toNatClampNeg x1) q11 (fb_I (fb_wI u q1 (fb_I u a0 5).toNatClampNeg x1) a0 5).toNatClampNeg x2) q21 (fb_I (fb_wI (fb_wI u q1 (fb_I u a0 5).toNatClampNeg x1) q11 (fb_I (fb_wI u q1 (fb_I u a0 5).toNatClampNeg x1) a0 5).toNatClampNeg x2) a0 5).toNatClampNeg (vp_nar .boolean x3)) a0 5).toNatClampNeg (fb_I (fb_wI (fb_wI (fb_wI u q1 (fb_I u a0 5).toNatClampNeg x1) q11 (fb_I (fb_wI u q1 (fb_I u a0 5).toNatClampNeg x1) a0 5).toNatClampNeg x2) q21 (fb_I (fb_wI (fb_wI u q1 (fb_I u a0 5).toNatClampNeg x1) q11 (fb_I (fb_wI u q1 (fb_I u a0 5).toNatClampNeg x1) a0 5).toNatClampNeg x2) a0 5).toNatClampNeg (vp_nar .boolean x3)) a0 17)) a0 5 < 0 ∨ (fb_sh q44).2 ≤ (fb_I (fb_wI (fb_wI (fb_wI (fb_wI u q1 (fb_I u a0 5).toNatClampNeg x1) q11 (fb_I (fb_wI u q1 (fb_I u a0 5).toNatClampNeg x1) a0 5).toNatClampNeg x2) q21 (fb_I (fb_wI (fb_wI u q1 (fb_I u a0 5).toNatClampNeg x1) q11 (fb_I (fb_wI u q1 (fb_I u a0 5).toNatClampNeg x1) a0 5).toNatClampNeg x2) a0 5).toNatClampNeg (vp_nar .boolean x3)) q31 (fb_I (fb_wI (fb_wI (fb_wI u q1 (fb_I u a0 5).toNatClampNeg x1) q11 (fb_I (fb_wI u q1 (fb_I u a0 5).toNatClampNeg x1) a0 5).toNatClampNeg x2) q21 (fb_I (fb_wI (fb_wI u q1 (fb_I u a0 5).toNatClampNeg x1) q11 (fb_I (fb_wI u q1 (fb_I u a0 5).toNatClampNeg x1) a0 5).toNatClampNeg x2) a0 5).toNatClampNeg (vp_nar .boolean x3)) a0 5).toNatClampNeg (fb_I (fb_wI (fb_wI (fb_wI u q1 (fb_I u a0 5).toNatClampNeg x1) q11 (fb_I (fb_wI u q1 (fb_I u a0 5).toNatClampNeg x1) a0 5).toNatClampNeg x2) q21 (fb_I (fb_wI (fb_wI u q1 (fb_I u a0 5).toNatClampNeg x1) q11 (fb_I (fb_wI u q1 (fb_I u a0 5).toNatClampNeg x1) a0 5).toNatClampNeg x2) a0 5).toNatClampNeg (vp_nar .boolean x3)) a0 17)) a0 5).toNatClampNeg)) 
  ((fb_R (fb_wI (fb_wI (fb_wI (fb_wI (fb_wI u q1 (fb_I u a0 5).toNatClampNeg x1) q11 (fb_I (fb_wI u q1 (fb_I u a0 5).toNatClampNeg x1) a0 5).toNatClampNeg x2) q21 (fb_I (fb_wI (fb_wI u q1 (fb_I u a0 5).toNatClampNeg x1) q11 (fb_I (fb_wI u q1 (fb_I u a0 5).toNatClampNeg x1) a0 5).toNatClampNeg x2) a0 5).toNatClampNeg (vp_nar .boolean x3)) q31 (fb_I (fb_wI (fb_wI (fb_wI u q1 (fb_I u a0 5).toNatClampNeg x1) q11 (fb_I (fb_wI u q1 (fb_I u a0 5).toNatClampNeg x1) a0 5).toNatClampNeg x2) q21 (fb_I (fb_wI (fb_wI u q1 (fb_I u a0 5).toNatClampNeg x1) q11 (fb_I (fb_wI u q1 (fb_I u a0 5).toNatClampNeg x1) a0 5).toNatClampNeg x2) a0 5).toNatClampNeg (vp_nar .boolean x3)) a0 5).toNatClampNeg (fb_I (fb_wI (fb_wI (fb_wI u q1 (fb_I u a0 5).toNatClampNeg x1) q11 (fb_I (fb_wI u q1 (fb_I u a0 5).toNatClampNeg x1) a0 5).toNatClampNeg x2) q21 (fb_I (fb_wI (fb_wI u q1 (fb_I u a0 5).toNatClampNeg x1) q11 (fb_I (fb_wI u q1 (fb_I u a0 5).toNatClampNeg x1) a0 5).toNatClampNeg x2) a0 5).toNatClampNeg (vp_nar .boolean x3)) a0 17)) q44 (fb_I (fb_wI (fb_wI (fb_wI (fb_wI u q1 (fb_I u a0 5).toNatClampNeg x1) q11 (fb_I (fb_wI u q1 (fb_I u a0 5).toNatClampNeg x1) a0 5).toNatClampNeg x2) q21 (fb_I (fb_wI (fb_wI u q1 (fb_I u a0 5).toNatClampNeg x1) q11 (fb_I (fb_wI u q1 (fb_I u a0 5).toNatClampNeg x1) a0 5).toNatClampNeg x2) a0 5).toNatClampNeg (vp_nar .boolean x3)) q31 (fb_I (fb_wI (fb_wI (fb_wI u q1 (fb_I u a0 5).toNatClampNeg x1) q11 (fb_I (fb_wI u q1 (fb_I u a0 5).toNatClampNeg x1) a0 5).toNatClampNeg x2) q21 (fb_I (fb_wI (fb_wI u q1 (fb_I u a0 5).toNatClampNeg x1) q11 (fb_I (fb_wI u q1 (fb_I u a0 5).toNatClampNeg x1) a0 5).toNatClampNeg x2) a0 5).toNatClampNeg (vp_nar .boolean x3)) a0 5).toNatClampNeg (fb_I (fb_wI (fb_wI (fb_wI u q1 (fb_I u a0 5).toNatClampNeg x1) q11 (fb_I (fb_wI u q1 (fb_I u a0 5).toNatClampNeg x1) a0 5).toNatClampNeg x2) q21 (fb_I (fb_wI (fb_wI u q1 (fb_I u a0 5).toNatClampNeg x1) q11 (fb_I (fb_wI u q1 (fb_I u a0 5).toNatClampNeg x1) a0 5).toNatClampNeg x2) a0 5).toNatClampNeg (vp_nar .boolean x3)) a0 17)) a0 5).toNatClampNeg (fb_I (fb_wI (fb_wI (fb_wI (fb_wI u q1 (fb_I u a0 5).toNatClampNeg x1) q11 (fb_I (fb_wI u q1 (fb_I u a0 5).toNatClampNeg x1) a0 5).toNatClampNeg x2) q21 (fb_I (fb_wI (fb_wI u q1 (fb_I u a0 5).toNatClampNeg x1) q11 (fb_I (fb_wI u q1 (fb_I u a0 5).toNatClampNeg x1) a0 5).toNatClampNeg x2) a0 5).toNatClampNeg (vp_nar .boolean x3)) q31 (fb_I (fb_wI (fb_wI (fb_wI u q1 (fb_I u a0 5).toNatClampNeg x1) q11 (fb_I (fb_wI u q1 (fb_I u a0 5).toNatClampNeg x1) a0 5).toNatClampNeg x2) q21 (fb_I (fb_wI (fb_wI u q1 (fb_I u a0 5).toNatClampNeg x1) q11 (fb_I (fb_wI u q1 (fb_I u a0 5).toNatClampNeg x1) a0 5).toNatClampNeg x2) a0 5).toNatClampNeg (vp_nar .boolean x3)) a0 5).toNatClampNeg (fb_I (fb_wI (fb_wI (fb_wI u q1 (fb_I u a0 5).toNatClampNeg x1) q11 (fb_I (fb_wI u q1 (fb_I u a0 5).toNatClampNeg x1) a0 5).toNatClampNeg x2) q21 (fb_I (fb_wI (fb_wI u q1 (fb_I u a0 5).toNatClampNeg x1) q11 (fb_I (fb_wI u q1 (fb_I u a0 5).toNatClampNeg x1) a0 5).toNatClampNeg x2) a0 5).toNatClampNeg (vp_nar .boolean x3)) a0 17)) a0 18)) a0 11).bind fun q57 => fb_gd (q57 < fb_NT ∧ (fb_sh q57).1 = 100) 
  ((fb_gd (¬ (fb_I (fb_wI (fb_wI (fb_wI (fb_wI (fb_wI u q1 (fb_I u a0 5).toNatClampNeg x1) q11 (fb_I (fb_wI u q1 (fb_I u a0 5).toNatClampNeg x1) a0 5).toNatClampNeg x2) q21 (fb_I (fb_wI (fb_wI u q1 (fb_I u a0 5).toNatClampNeg x1) q11 (fb_I (fb_wI u q1 (fb_I u a0 5).toNatClampNeg x1) a0 5).toNatClampNeg x2) a0 5).toNatClampNeg (vp_nar .boolean x3)) q31 (fb_I (fb_wI (fb_wI (fb_wI u q1 (fb_I u a0 5).toNatClampNeg x1) q11 (fb_I (fb_wI u q1 (fb_I u a0 5).toNatClampNeg x1) a0 5).toNatClampNeg x2) q21 (fb_I (fb_wI (fb_wI u q1 (fb_I u a0 5).toNatClampNeg x1) q11 (fb_I (fb_wI u q1 (fb_I u a0 5).toNatClampNeg x1) a0 5).toNatClampNeg x2) a0 5).toNatClampNeg (vp_nar .boolean x3)) a0 5).toNatClampNeg (fb_I (fb_wI (fb_wI (fb_wI u q1 (fb_I u a0 5).toNatClampNeg x1) q11 (fb_I (fb_wI u q1 (fb_I u a0 5).toNatClampNeg x1) a0 5).toNatClampNeg x2) q21 (fb_I (fb_wI (fb_wI u q1 (fb_I u a0 5).toNatClampNeg x1) q11 (fb_I (fb_wI u q1 (fb_I u a0 5).toNatClampNeg x1) a0 5).toNatClampNeg x2) a0 5).toNatClampNeg (vp_nar .boolean x3)) a0 17)) q44 (fb_I (fb_wI (fb_wI (fb_wI (fb_wI u q1 (fb_I u a0 5).toNatClampNeg x1) q11 (fb_I (fb_wI u q1 (fb_I u a0 5).toNatClampNeg x1) a0 5).toNatClampNeg x2) q21 (fb_I (fb_wI (fb_wI u q1 (fb_I u a0 5).toNatClampNeg x1) q11 (fb_I (fb_wI u q1 (fb_I u a0 5).toNatClampNeg x1) a0 5).toNatClampNeg x2) a0 5).toNatClampNeg (vp_nar .boolean x3)) q31 (fb_I (fb_wI (fb_wI (fb_wI u q1 (fb_I u a0 5).toNatClampNeg x1) q11 (fb_I (fb_wI u q1 (fb_I u a0 5).toNatClampNeg x1) a0 5).toNatClampNeg x2) q21 (fb_I (fb_wI (fb_wI u q1 (fb_I u a0 5).toNatClampNeg x1) q11 (fb_I (fb_wI u q1 (fb_I u a0 5).toNatClampNeg x1) a0 5).toNatClampNeg x2) a0 5).toNatClampNeg (vp_nar .boolean x3)) a0 5).toNatClampNeg (fb_I (fb_wI (fb_wI (fb_wI u q1 (fb_I u a0 5).toNatClampNeg x1) q11 (fb_I (fb_wI u q1 (fb_I u a0 5).toNatClampNeg x1) a0 5).toNatClampNeg x2) q21 (fb_I (fb_wI (fb_wI u q1 (fb_I u a0 5).toNatClampNeg x1) q11 (fb_I (fb_wI u q1 (fb_I u a0 5).toNatClampNeg x1) a0 5).toNatClampNeg x2) a0 5).toNatClampNeg (vp_nar .boolean x3)) a0 17)) a0 5).toNatClampNeg (fb_I (fb_wI (fb_wI (fb_wI (fb_wI u q1 (fb_I u a0 5).toNatClampNeg x1) q11 (fb_I (fb_wI u q1 (fb_I u a0 5).toNatClampNeg x1) a0 5).toNatClampNeg x2) q21 (fb_I (fb_wI (fb_wI u q1 (fb_I u a0 5).toNatClampNeg x1) q11 (fb_I (fb_wI u q1 (fb_I u a0 5).toNatClampNeg x1) a0 5).toNatClampNeg x2) a0 5).toNatClampNeg (vp_nar .boolean x3)) q31 (fb_I (fb_wI (fb_wI (fb_wI u q1 (fb_I u a0 5).toNatClampNeg x1) q11 (fb_I (fb_wI u q1 (fb_I u a0 5).toNatClampNeg x1) a0 5).toNatClampNeg x2) q21 (fb_I (fb_wI (fb_wI u q1 (fb_I u a0 5).toNatClampNeg x1) q11 (fb_I (fb_wI u q1 (fb_I u a0 5).toNatClampNeg x1) a0 5).toNatClampNeg x2) a0 5).toNatClampNeg (vp_nar .boolean x3)) a0 5).toNatClampNeg (fb_I (fb_wI (fb_wI (fb_wI u q1 (fb_I u a0 5).toNatClampNeg x1) q11 (fb_I (fb_wI u q1 (fb_I u a0 5).toNatClampNeg x1) a0 5).toNatClampNeg x2) q21 (fb_I (fb_wI (fb_wI u q1 (fb_I u a0 5).toNatClampNeg x1) q11 (fb_I (fb_wI u q1 (fb_I u a0 5).toNatClampNeg x1) a0 5).toNatClampNeg x2) a0 5).toNatClampNeg (vp_nar .boolean x3)) a0 17)) a0 18)) a0 5 < 0 ∨ (fb_sh q57).2 ≤ (fb_I (fb_wI (fb_wI (fb_wI (fb_wI (fb_wI u q1 (fb_I u a0 5).toNatClampNeg x1) q11 (fb_I (fb_wI u q1 (fb_I u a0 5).toNatClampNeg x1) a0 5).toNatClampNeg x2) q21 (fb_I (fb_wI (fb_wI u q1 (fb_I u a0 5).toNatClampNeg x1) q11 (fb_I (fb_wI u q1 (fb_I u a0 5).toNatClampNeg x1) a0 5).toNatClampNeg x2) a0 5).toNatClampNeg (vp_nar .boolean x3)) q31 (fb_I (fb_wI (fb_wI (fb_wI u q1 (fb_I u a0 5).toNatClampNeg x1) q11 (fb_I (fb_wI u q1 (fb_I u a0 5).toNatClampNeg x1) a0 5).toNatClampNeg x2) q21 (fb_I (fb_wI (fb_wI u q1 (fb_I u a0 5).toNatClampNeg x1) q11 (fb_I (fb_wI u q1 (fb_I u a0 5).toNatClampNeg x1) a0 5).toNatClampNeg x2) a0 5).toNatClampNeg (vp_nar .boolean x3)) a0 5).toNatClampNeg (fb_I (fb_wI (fb_wI (fb_wI u q1 (fb_I u a0 5).toNatClampNeg x1) q11 (fb_I (fb_wI u q1 (fb_I u a0 5).toNatClampNeg x1) a0 5).toNatClampNeg x2) q21 (fb_I (fb_wI (fb_wI u q1 (fb_I u a0 5).toNatClampNeg x1) q11 (fb_I (fb_wI u q1 (fb_I u a0 5).toNatClampNeg x1) a0 5).toNatClampNeg x2) a0 5).toNatClampNeg (vp_nar .boolean x3)) a0 17)) q44 (fb_I (fb_wI (fb_wI (fb_wI (fb_wI u q1 (fb_I u a0 5).toNatClampNeg x1) q11 (fb_I (fb_wI u q1 (fb_I u a0 5).toNatClampNeg x1) a0 5).toNatClampNeg x2) q21 (fb_I (fb_wI (fb_wI u q1 (fb_I u a0 5).toNatClampNeg x1) q11 (fb_I (fb_wI u q1 (fb_I u a0 5).toNatClampNeg x1) a0 5).toNatClampNeg x2) a0 5).toNatClampNeg (vp_nar .boolean x3)) q31 (fb_I (fb_wI (fb_wI (fb_wI u q1 (fb_I u a0 5).toNatClampNeg x1) q11 (fb_I (fb_wI u q1 (fb_I u a0 5).toNatClampNeg x1) a0 5).toNatClampNeg x2) q21 (fb_I (fb_wI (fb_wI u q1 (fb_I u a0 5).toNatClampNeg x1) q11 (fb_I (fb_wI u q1 (fb_I u a0 5).toNatClampNeg x1) a0 5).toNatClampNeg x2) a0 5).toNatClampNeg (vp_nar .boolean x3)) a0 5).toNatClampNeg (fb_I (fb_wI (fb_wI (fb_wI u q1 (fb_I u a0 5).toNatClampNeg x1) q11 (fb_I (fb_wI u q1 (fb_I u a0 5).toNatClampNeg x1) a0 5).toNatClampNeg x2) q21 (fb_I (fb_wI (fb_wI u q1 (fb_I u a0 5).toNatClampNeg x1) q11 (fb_I (fb_wI u q1 (fb_I u a0 5).toNatClampNeg x1) a0 5).toNatClampNeg x2) a0 5).toNatClampNeg (vp_nar .boolean x3)) a0 17)) a0 5).toNatClampNeg (fb_I (fb_wI (fb_wI (fb_wI (fb_wI u q1 (fb_I u a0 5).toNatClampNeg x1) q11 (fb_I (fb_wI u q1 (fb_I u a0 5).toNatClampNeg x1) a0 5).toNatClampNeg x2) q21 (fb_I (fb_wI (fb_wI u q1 (fb_I u a0 5).toNatClampNeg x1) q11 (fb_I (fb_wI u q1 (fb_I u a0 5).toNatClampNeg x1) a0 5).toNatClampNeg x2) a0 5).toNatClampNeg (vp_nar .boolean x3)) q31 (fb_I (fb_wI (fb_wI (fb_wI u q1 (fb_I u a0 5).toNatClampNeg x1) q11 (fb_I (fb_wI u q1 (fb_I u a0 5).toNatClampNeg x1) a0 5).toNatClampNeg x2) q21 (fb_I (fb_wI (fb_wI u q1 (fb_I u a0 5).toNatClampNeg x1) q11 (fb_I (fb_wI u q1 (fb_I u a0 5).toNatClampNeg x1) a0 5).toNatClampNeg x2) a0 5).toNatClampNeg (vp_nar .boolean x3)) a0 5).toNatClampNeg (fb_I (fb_wI (fb_wI (fb_wI u q1 (fb_I u a0 5).toNatClampNeg x1) q11 (fb_I (fb_wI u q1 (fb_I u a0 5).toNatClampNeg x1) a0 5).toNatClampNeg x2) q21 (fb_I (fb_wI (fb_wI u q1 (fb_I u a0 5).toNatClampNeg x1) q11 (fb_I (fb_wI u q1 (fb_I u a0 5).toNatClampNeg x1) a0 5).toNatClampNeg x2) a0 5).toNatClampNeg (vp_nar .boolean x3)) a0 17)) a0 18)) a0 5).toNatClampNeg)) 
  (gX9_keepFinder_72 a0 fb_F 0 (fb_wI (fb_wI (fb_wI (fb_wI (fb_wI (fb_wI u q1 (fb_I u a0 5).toNatClampNeg x1) q11 (fb_I (fb_wI u q1 (fb_I u a0 5).toNatClampNeg x1) a0 5).toNatClampNeg x2) q21 (fb_I (fb_wI (fb_wI u q1 (fb_I u a0 5).toNatClampNeg x1) q11 (fb_I (fb_wI u q1 (fb_I u a0 5).toNatClampNeg x1) a0 5).toNatClampNeg x2) a0 5).toNatClampNeg (vp_nar .boolean x3)) q31 (fb_I (fb_wI (fb_wI (fb_wI u q1 (fb_I u a0 5).toNatClampNeg x1) q11 (fb_I (fb_wI u q1 (fb_I u a0 5).toNatClampNeg x1) a0 5).toNatClampNeg x2) q21 (fb_I (fb_wI (fb_wI u q1 (fb_I u a0 5).toNatClampNeg x1) q11 (fb_I (fb_wI u q1 (fb_I u a0 5).toNatClampNeg x1) a0 5).toNatClampNeg x2) a0 5).toNatClampNeg (vp_nar .boolean x3)) a0 5).toNatClampNeg (fb_I (fb_wI (fb_wI (fb_wI u q1 (fb_I u a0 5).toNatClampNeg x1) q11 (fb_I (fb_wI u q1 (fb_I u a0 5).toNatClampNeg x1) a0 5).toNatClampNeg x2) q21 (fb_I (fb_wI (fb_wI u q1 (fb_I u a0 5).toNatClampNeg x1) q11 (fb_I (fb_wI u q1 (fb_I u a0 5).toNatClampNeg x1) a0 5).toNatClampNeg x2) a0 5).toNatClampNeg (vp_nar .boolean x3)) a0 17)) q44 (fb_I (fb_wI (fb_wI (fb_wI (fb_wI u q1 (fb_I u a0 5).toNatClampNeg x1) q11 (fb_I (fb_wI u q1 (fb_I u a0 5).toNatClampNeg x1) a0 5).toNatClampNeg x2) q21 (fb_I (fb_wI (fb_wI u q1 (fb_I u a0 5).toNatClampNeg x1) q11 (fb_I (fb_wI u q1 (fb_I u a0 5).toNatClampNeg x1) a0 5).toNatClampNeg x2) a0 5).toNatClampNeg (vp_nar .boolean x3)) q31 (fb_I (fb_wI (fb_wI (fb_wI u q1 (fb_I u a0 5).toNatClampNeg x1) q11 (fb_I (fb_wI u q1 (fb_I u a0 5).toNatClampNeg x1) a0 5).toNatClampNeg x2) q21 (fb_I (fb_wI (fb_wI u q1 (fb_I u a0 5).toNatClampNeg x1) q11 (fb_I (fb_wI u q1 (fb_I u a0 5).toNatClampNeg x1) a0 5).toNatClampNeg x2) a0 5).toNatClampNeg (vp_nar .boolean x3)) a0 5).toNatClampNeg (fb_I (fb_wI (fb_wI (fb_wI u q1 (fb_I u a0 5).toNatClampNeg x1) q11 (fb_I (fb_wI u q1 (fb_I u a0 5).toNatClampNeg x1) a0 5).toNatClampNeg x2) q21 (fb_I (fb_wI (fb_wI u q1 (fb_I u a0 5).toNatClampNeg x1) q11 (fb_I (fb_wI u q1 (fb_I u a0 5).toNatClampNeg x1) a0 5).toNatClampNeg x2) a0 5).toNatClampNeg (vp_nar .boolean x3)) a0 17)) a0 5).toNatClampNeg (fb_I (fb_wI (fb_wI (fb_wI (fb_wI u q1 (fb_I u a0 5).toNatClampNeg x1) q11 (fb_I (fb_wI u q1 (fb_I u a0 5).toNatClampNeg x1) a0 5).toNatClampNeg x2) q21 (fb_I (fb_wI (fb_wI u q1 (fb_I u a0 5).toNatClampNeg x1) q11 (fb_I (fb_wI u q1 (fb_I u a0 5).toNatClampNeg x1) a0 5).toNatClampNeg x2) a0 5).toNatClampNeg (vp_nar .boolean x3)) q31 (fb_I (fb_wI (fb_wI (fb_wI u q1 (fb_I u a0 5).toNatClampNeg x1) q11 (fb_I (fb_wI u q1 (fb_I u a0 5).toNatClampNeg x1) a0 5).toNatClampNeg x2) q21 (fb_I (fb_wI (fb_wI u q1 (fb_I u a0 5).toNatClampNeg x1) q11 (fb_I (fb_wI u q1 (fb_I u a0 5).toNatClampNeg x1) a0 5).toNatClampNeg x2) a0 5).toNatClampNeg (vp_nar .boolean x3)) a0 5).toNatClampNeg (fb_I (fb_wI (fb_wI (fb_wI u q1 (fb_I u a0 5).toNatClampNeg x1) q11 (fb_I (fb_wI u q1 (fb_I u a0 5).toNatClampNeg x1) a0 5).toNatClampNeg x2) q21 (fb_I (fb_wI (fb_wI u q1 (fb_I u a0 5).toNatClampNeg x1) q11 (fb_I (fb_wI u q1 (fb_I u a0 5).toNatClampNeg x1) a0 5).toNatClampNeg x2) a0 5).toNatClampNeg (vp_nar .boolean x3)) a0 17)) a0 18)) q57 (fb_I (fb_wI (fb_wI (fb_wI (fb_wI (fb_wI u q1 (fb_I u a0 5).toNatClampNeg x1) q11 (fb_I (fb_wI u q1 (fb_I u a0 5).toNatClampNeg x1) a0 5).toNatClampNeg x2) q21 (fb_I (fb_wI (fb_wI u q1 (fb_I u a0 5).toNatClampNeg x1) q11 (fb_I (fb_wI u q1 (fb_I u a0 5).toNatClampNeg x1) a0 5).toNatClampNeg x2) a0 5).toNatClampNeg (vp_nar .boolean x3)) q31 (fb_I (fb_wI (fb_wI (fb_wI u q1 (fb_I u a0 5).toNatClampNeg x1) q11 (fb_I (fb_wI u q1 (fb_I u a0 5).toNatClampNeg x1) a0 5).toNatClampNeg x2) q21 (fb_I (fb_wI (fb_wI u q1 (fb_I u a0 5).toNatClampNeg x1) q11 (fb_I (fb_wI u q1 (fb_I u a0 5).toNatClampNeg x1) a0 5).toNatClampNeg x2) a0 5).toNatClampNeg (vp_nar .boolean x3)) a0 5).toNatClampNeg (fb_I (fb_wI (fb_wI (fb_wI u q1 (fb_I u a0 5).toNatClampNeg x1) q11 (fb_I (fb_wI u q1 (fb_I u a0 5).toNatClampNeg x1) a0 5).toNatClampNeg x2) q21 (fb_I (fb_wI (fb_wI u q1 (fb_I u a0 5).toNatClampNeg x1) q11 (fb_I (fb_wI u q1 (fb_I u a0 5).toNatClampNeg x1) a0 5).toNatClampNeg x2) a0 5).toNatClampNeg (vp_nar .boolean x3)) a0 17)) q44 (fb_I (fb_wI (fb_wI (fb_wI (fb_wI u q1 (fb_I u a0 5).toNatClampNeg x1) q11 (fb_I (fb_wI u q1 (fb_I u a0 5).toNatClampNeg x1) a0 5).toNatClampNeg x2) q21 (fb_I (fb_wI (fb_wI u q1 (fb_I u a0 5).toNatClampNeg x1) q11 (fb_I (fb_wI u q1 (fb_I u a0 5).toNatClampNeg x1) a0 5).toNatClampNeg x2) a0 5).toNatClampNeg (vp_nar .boolean x3)) q31 (fb_I (fb_wI (fb_wI (fb_wI u q1 (fb_I u a0 5).toNatClampNeg x1) q11 (fb_I (fb_wI u q1 (fb_I u a0 5).toNatClampNeg x1) a0 5).toNatClampNeg x2) q21 (fb_I (fb_wI (fb_wI u q1 (fb_I u a0 5).toNatClampNeg x1) q11 (fb_I (fb_wI u q1 (fb_I u a0 5).toNatClampNeg x1) a0 5).toNatClampNeg x2) a0 5).toNatClampNeg (vp_nar .boolean x3)) a0 5).toNatClampNeg (fb_I (fb_wI (fb_wI (fb_wI u q1 (fb_I u a0 5).toNatClampNeg x1) q11 (fb_I (fb_wI u q1 (fb_I u a0 5).toNatClampNeg x1) a0 5).toNatClampNeg x2) q21 (fb_I (fb_wI (fb_wI u q1 (fb_I u a0 5).toNatClampNeg x1) q11 (fb_I (fb_wI u q1 (fb_I u a0 5).toNatClampNeg x1) a0 5).toNatClampNeg x2) a0 5).toNatClampNeg (vp_nar .boolean x3)) a0 17)) a0 5).toNatClampNeg (fb_I (fb_wI (fb_wI (fb_wI (fb_wI u q1 (fb_I u a0 5).toNatClampNeg x1) q11 (fb_I (fb_wI u q1 (fb_I u a0 5).toNatClampNeg x1) a0 5).toNatClampNeg x2) q21 (fb_I (fb_wI (fb_wI u q1 (fb_I u a0 5).toNatClampNeg x1) q11 (fb_I (fb_wI u q1 (fb_I u a0 5).toNatClampNeg x1) a0 5).toNatClampNeg x2) a0 5).toNatClampNeg (vp_nar .boolean x3)) q31 (fb_I (fb_wI (fb_wI (fb_wI u q1 (fb_I u a0 5).toNatClampNeg x1) q11 (fb_I (fb_wI u q1 (fb_I u a0 5).toNatClampNeg x1) a0 5).toNatClampNeg x2) q21 (fb_I (fb_wI (fb_wI u q1 (fb_I u a0 5).toNatClampNeg x1) q11 (fb_I (fb_wI u q1 (fb_I u a0 5).toNatClampNeg x1) a0 5).toNatClampNeg x2) a0 5).toNatClampNeg (vp_nar .boolean x3)) a0 5).toNatClampNeg (fb_I (fb_wI (fb_wI (fb_wI u q1 (fb_I u a0 5).toNatClampNeg x1) q11 (fb_I (fb_wI u q1 (fb_I u a0 5).toNatClampNeg x1) a0 5).toNatClampNeg x2) q21 (fb_I (fb_wI (fb_wI u q1 (fb_I u a0 5).toNatClampNeg x1) q11 (fb_I (fb_wI u q1 (fb_I u a0 5).toNatClampNeg x1) a0 5).toNatClampNeg x2) a0 5).toNatClampNeg (vp_nar .boolean x3)) a0 17)) a0 18)) a0 5).toNatClampNeg (fb_I (fb_wI (fb_wI (fb_wI (fb_wI (fb_wI u q1 (fb_I u a0 5).toNatClampNeg x1) q11 (fb_I (fb_wI u q1 (fb_I u a0 5).toNatClampNeg x1) a0 5).toNatClampNeg x2) q21 (fb_I (fb_wI (fb_wI u q1 (fb_I u a0 5).toNatClampNeg x1) q11 (fb_I (fb_wI u q1 (fb_I u a0 5).toNatClampNeg x1) a0 5).toNatClampNeg x2) a0 5).toNatClampNeg (vp_nar .boolean x3)) q31 (fb_I (fb_wI (fb_wI (fb_wI u q1 (fb_I u a0 5).toNatClampNeg x1) q11 (fb_I (fb_wI u q1 (fb_I u a0 5).toNatClampNeg x1) a0 5).toNatClampNeg x2) q21 (fb_I (fb_wI (fb_wI u q1 (fb_I u a0 5).toNatClampNeg x1) q11 (fb_I (fb_wI u q1 (fb_I u a0 5).toNatClampNeg x1) a0 5).toNatClampNeg x2) a0 5).toNatClampNeg (vp_nar .boolean x3)) a0 5).toNatClampNeg (fb_I (fb_wI (fb_wI (fb_wI u q1 (fb_I u a0 5).toNatClampNeg x1) q11 (fb_I (fb_wI u q1 (fb_I u a0 5).toNatClampNeg x1) a0 5).toNatClampNeg x2) q21 (fb_I (fb_wI (fb_wI u q1 (fb_I u a0 5).toNatClampNeg x1) q11 (fb_I (fb_wI u q1 (fb_I u a0 5).toNatClampNeg x1) a0 5).toNatClampNeg x2) a0 5).toNatClampNeg (vp_nar .boolean x3)) a0 17)) q44 (fb_I (fb_wI (fb_wI (fb_wI (fb_wI u q1 (fb_I u a0 5).toNatClampNeg x1) q11 (fb_I (fb_wI u q1 (fb_I u a0 5).toNatClampNeg x1) a0 5).toNatClampNeg x2) q21 (fb_I (fb_wI (fb_wI u q1 (fb_I u a0 5).toNatClampNeg x1) q11 (fb_I (fb_wI u q1 (fb_I u a0 5).toNatClampNeg x1) a0 5).toNatClampNeg x2) a0 5).toNatClampNeg (vp_nar .boolean x3)) q31 (fb_I (fb_wI (fb_wI (fb_wI u q1 (fb_I u a0 5).toNatClampNeg x1) q11 (fb_I (fb_wI u q1 (fb_I u a0 5).toNatClampNeg x1) a0 5).toNatClampNeg x2) q21 (fb_I (fb_wI (fb_wI u q1 (fb_I u a0 5).toNatClampNeg x1) q11 (fb_I (fb_wI u q1 (fb_I u a0 5).toNatClampNeg x1) a0 5).toNatClampNeg x2) a0 5).toNatClampNeg (vp_nar .boolean x3)) a0 5).toNatClampNeg (fb_I (fb_wI (fb_wI (fb_wI u q1 (fb_I u a0 5).toNatClampNeg x1) q11 (fb_I (fb_wI u q1 (fb_I u a0 5).toNatClampNeg x1) a0 5).toNatClampNeg x2) q21 (fb_I (fb_wI (fb_wI u q1 (fb_I u a0 5).toNatClampNeg x1) q11 (fb_I (fb_wI u q1 (fb_I u a0 5).toNatClampNeg x1) a0 5).toNatClampNeg x2) a0 5).toNatClampNeg (vp_nar .boolean x3)) a0 17)) a0 5).toNatClampNeg (fb_I (fb_wI (fb_wI (fb_wI (fb_wI u q1 (fb_I u a0 5).toNatClampNeg x1) q11 (fb_I (fb_wI u q1 (fb_I u a0 5).toNatClampNeg x1) a0 5).toNatClampNeg x2) q21 (fb_I (fb_wI (fb_wI u q1 (fb_I u a0 5).toNatClampNeg x1) q11 (fb_I (fb_wI u q1 (fb_I u a0 5).toNatClampNeg x1) a0 5).toNatClampNeg x2) a0 5).toNatClampNeg (vp_nar .boolean x3)) q31 (fb_I (fb_wI (fb_wI (fb_wI u q1 (fb_I u a0 5).toNatClampNeg x1) q11 (fb_I (fb_wI u q1 (fb_I u a0 5).toNatClampNeg x1) a0 5).toNatClampNeg x2) q21 (fb_I (fb_wI (fb_wI u q1 (fb_I u a0 5).toNatClampNeg x1) q11 (fb_I (fb_wI u q1 (fb_I u a0 5).toNatClampNeg x1) a0 5).toNatClampNeg x2) a0 5).toNatClampNeg (vp_nar .boolean x3)) a0 5).toNatClampNeg (fb_I (fb_wI (fb_wI (fb_wI u q1 (fb_I u a0 5).toNatClampNeg x1) q11 (fb_I (fb_wI u q1 (fb_I u a0 5).toNatClampNeg x1) a0 5).toNatClampNeg x2) q21 (fb_I (fb_wI (fb_wI u q1 (fb_I u a0 5).toNatClampNeg x1) q11 (fb_I (fb_wI u q1 (fb_I u a0 5).toNatClampNeg x1) a0 5).toNatClampNeg x2) a0 5).toNatClampNeg (vp_nar .boolean x3)) a0 17)) a0 18)) a0 19)))))))))))))))))))))
set_option maxRecDepth 100000 in
set_option maxHeartbeats 4000000 in
theorem mX9_keepFinder (g : fb_G) (u : fb_M) (a0 : Nat) (x1 : Int32) (x2 : Int32) (x3 : Int32) (ha0 : a0 < fb_NT ∧ fb_sh a0 = (9, 40)) {res : fb_M} (h : fX9_keepFinder u a0 x1 x2 x3 = some res) : fb_Runs g 0 0 0 0 fb_NT fb_NT yX9_keepFinder cX9_keepFinder 5 none [.ref (fb_b g + a0), .int x1, .int x2, .int x3] u none res := by
  unfold fX9_keepFinder at h
  refine fb_enter (by decide) (Nat.le_of_ble_eq_true rfl) ?_
  show fb_V g RX9 cX9_keepFinder 5 none "keepFinder" (fb_room 0 0 0 0) (fb_Qm g none fb_NT res 0 0) 0 0 fb_NT u 0 [(0, .ref (fb_b g + a0)), (1, .int x1), (2, .int x2), (3, .int x3)] []
  refine fb_aload_n (pc := 0) dX9_keepFinder_0 0 rfl ?_
  refine fb_bnE h (fun q1 e1 h => fb_gdE h (fun s1 h => ?_))
  refine fb_getR (pc := 1) dX9_keepFinder_1 lkX9_19 ha0.1 ha0.2 (by decide) e1 ?_
  refine fb_aload_n (pc := 4) dX9_keepFinder_4 0 rfl ?_
  refine fb_getI (pc := 5) dX9_keepFinder_5 lkX9_244 ha0.1 ha0.2 rfl ?_
  refine fb_iload_n (pc := 8) dX9_keepFinder_8 1 rfl ?_
  refine fb_gdE h (fun i9 h => ?_)
  refine fb_iast (pc := 9) dX9_keepFinder_9 s1.1 (fb_eta s1.2) i9 ?_
  refine fb_aload_n (pc := 10) dX9_keepFinder_10 0 rfl ?_
  refine fb_bnE h (fun q11 e11 h => fb_gdE h (fun s11 h => ?_))
  refine fb_getR (pc := 11) dX9_keepFinder_11 lkX9_22 ha0.1 ha0.2 (by decide) e11 ?_
  refine fb_aload_n (pc := 14) dX9_keepFinder_14 0 rfl ?_
  refine fb_getI (pc := 15) dX9_keepFinder_15 lkX9_244 ha0.1 ha0.2 rfl ?_
  refine fb_iload_n (pc := 18) dX9_keepFinder_18 2 rfl ?_
  refine fb_gdE h (fun i19 h => ?_)
  refine fb_iast (pc := 19) dX9_keepFinder_19 s11.1 (fb_eta s11.2) i19 ?_
  refine fb_aload_n (pc := 20) dX9_keepFinder_20 0 rfl ?_
  refine fb_bnE h (fun q21 e21 h => fb_gdE h (fun s21 h => ?_))
  refine fb_getR (pc := 21) dX9_keepFinder_21 lkX9_25 ha0.1 ha0.2 (by decide) e21 ?_
  refine fb_aload_n (pc := 24) dX9_keepFinder_24 0 rfl ?_
  refine fb_getI (pc := 25) dX9_keepFinder_25 lkX9_244 ha0.1 ha0.2 rfl ?_
  refine fb_iload_n (pc := 28) dX9_keepFinder_28 3 rfl ?_
  refine fb_gdE h (fun i29 h => ?_)
  refine fb_zast (pc := 29) dX9_keepFinder_29 s21.1 (fb_eta s21.2) i29 ?_
  refine fb_aload_n (pc := 30) dX9_keepFinder_30 0 rfl ?_
  refine fb_bnE h (fun q31 e31 h => fb_gdE h (fun s31 h => ?_))
  refine fb_getR (pc := 31) dX9_keepFinder_31 lkX9_29 ha0.1 ha0.2 (by decide) e31 ?_
  refine fb_aload_n (pc := 34) dX9_keepFinder_34 0 rfl ?_
  refine fb_getI (pc := 35) dX9_keepFinder_35 lkX9_244 ha0.1 ha0.2 rfl ?_
  refine fb_aload_n (pc := 38) dX9_keepFinder_38 0 rfl ?_
  refine fb_getI (pc := 39) dX9_keepFinder_39 lkX9_183 ha0.1 ha0.2 rfl ?_
  refine fb_gdE h (fun i42 h => ?_)
  refine fb_iast (pc := 42) dX9_keepFinder_42 s31.1 (fb_eta s31.2) i42 ?_
  refine fb_aload_n (pc := 43) dX9_keepFinder_43 0 rfl ?_
  refine fb_bnE h (fun q44 e44 h => fb_gdE h (fun s44 h => ?_))
  refine fb_getR (pc := 44) dX9_keepFinder_44 lkX9_32 ha0.1 ha0.2 (by decide) e44 ?_
  refine fb_aload_n (pc := 47) dX9_keepFinder_47 0 rfl ?_
  refine fb_getI (pc := 48) dX9_keepFinder_48 lkX9_244 ha0.1 ha0.2 rfl ?_
  refine fb_aload_n (pc := 51) dX9_keepFinder_51 0 rfl ?_
  refine fb_getI (pc := 52) dX9_keepFinder_52 lkX9_180 ha0.1 ha0.2 rfl ?_
  refine fb_gdE h (fun i55 h => ?_)
  refine fb_iast (pc := 55) dX9_keepFinder_55 s44.1 (fb_eta s44.2) i55 ?_
  refine fb_aload_n (pc := 56) dX9_keepFinder_56 0 rfl ?_
  refine fb_bnE h (fun q57 e57 h => fb_gdE h (fun s57 h => ?_))
  refine fb_getR (pc := 57) dX9_keepFinder_57 lkX9_35 ha0.1 ha0.2 (by decide) e57 ?_
  refine fb_aload_n (pc := 60) dX9_keepFinder_60 0 rfl ?_
  refine fb_getI (pc := 61) dX9_keepFinder_61 lkX9_244 ha0.1 ha0.2 rfl ?_
  refine fb_aload_n (pc := 64) dX9_keepFinder_64 0 rfl ?_
  refine fb_getI (pc := 65) dX9_keepFinder_65 lkX9_208 ha0.1 ha0.2 rfl ?_
  refine fb_gdE h (fun i68 h => ?_)
  refine fb_iast (pc := 68) dX9_keepFinder_68 s57.1 (fb_eta s57.2) i68 ?_
  refine fb_iconst (pc := 69) (v := 0) dX9_keepFinder_69 fb_ki_0 ?_
  refine fb_istore (pc := 70) (lv' := [(4, .int 0), (0, .ref (fb_b g + a0)), (1, .int x1), (2, .int x2), (3, .int x3)]) dX9_keepFinder_70 (by decide) rfl ?_
  exact fb_sub [1, 0] rfl (tgX9_keepFinder_72 a0 ha0 fb_F 0 (fb_wI (fb_wI (fb_wI (fb_wI (fb_wI (fb_wI u q1 (fb_I u a0 5).toNatClampNeg x1) q11 (fb_I (fb_wI u q1 (fb_I u a0 5).toNatClampNeg x1) a0 5).toNatClampNeg x2) q21 (fb_I (fb_wI (fb_wI u q1 (fb_I u a0 5).toNatClampNeg x1) q11 (fb_I (fb_wI u q1 (fb_I u a0 5).toNatClampNeg x1) a0 5).toNatClampNeg x2) a0 5).toNatClampNeg (vp_nar .boolean x3)) q31 (fb_I (fb_wI (fb_wI (fb_wI u q1 (fb_I u a0 5).toNatClampNeg x1) q11 (fb_I (fb_wI u q1 (fb_I u a0 5).toNatClampNeg x1) a0 5).toNatClampNeg x2) q21 (fb_I (fb_wI (fb_wI u q1 (fb_I u a0 5).toNatClampNeg x1) q11 (fb_I (fb_wI u q1 (fb_I u a0 5).toNatClampNeg x1) a0 5).toNatClampNeg x2) a0 5).toNatClampNeg (vp_nar .boolean x3)) a0 5).toNatClampNeg (fb_I (fb_wI (fb_wI (fb_wI u q1 (fb_I u a0 5).toNatClampNeg x1) q11 (fb_I (fb_wI u q1 (fb_I u a0 5).toNatClampNeg x1) a0 5).toNatClampNeg x2) q21 (fb_I (fb_wI (fb_wI u q1 (fb_I u a0 5).toNatClampNeg x1) q11 (fb_I (fb_wI u q1 (fb_I u a0 5).toNatClampNeg x1) a0 5).toNatClampNeg x2) a0 5).toNatClampNeg (vp_nar .boolean x3)) a0 17)) q44 (fb_I (fb_wI (fb_wI (fb_wI (fb_wI u q1 (fb_I u a0 5).toNatClampNeg x1) q11 (fb_I (fb_wI u q1 (fb_I u a0 5).toNatClampNeg x1) a0 5).toNatClampNeg x2) q21 (fb_I (fb_wI (fb_wI u q1 (fb_I u a0 5).toNatClampNeg x1) q11 (fb_I (fb_wI u q1 (fb_I u a0 5).toNatClampNeg x1) a0 5).toNatClampNeg x2) a0 5).toNatClampNeg (vp_nar .boolean x3)) q31 (fb_I (fb_wI (fb_wI (fb_wI u q1 (fb_I u a0 5).toNatClampNeg x1) q11 (fb_I (fb_wI u q1 (fb_I u a0 5).toNatClampNeg x1) a0 5).toNatClampNeg x2) q21 (fb_I (fb_wI (fb_wI u q1 (fb_I u a0 5).toNatClampNeg x1) q11 (fb_I (fb_wI u q1 (fb_I u a0 5).toNatClampNeg x1) a0 5).toNatClampNeg x2) a0 5).toNatClampNeg (vp_nar .boolean x3)) a0 5).toNatClampNeg (fb_I (fb_wI (fb_wI (fb_wI u q1 (fb_I u a0 5).toNatClampNeg x1) q11 (fb_I (fb_wI u q1 (fb_I u a0 5).toNatClampNeg x1) a0 5).toNatClampNeg x2) q21 (fb_I (fb_wI (fb_wI u q1 (fb_I u a0 5).toNatClampNeg x1) q11 (fb_I (fb_wI u q1 (fb_I u a0 5).toNatClampNeg x1) a0 5).toNatClampNeg x2) a0 5).toNatClampNeg (vp_nar .boolean x3)) a0 17)) a0 5).toNatClampNeg (fb_I (fb_wI (fb_wI (fb_wI (fb_wI u q1 (fb_I u a0 5).toNatClampNeg x1) q11 (fb_I (fb_wI u q1 (fb_I u a0 5).toNatClampNeg x1) a0 5).toNatClampNeg x2) q21 (fb_I (fb_wI (fb_wI u q1 (fb_I u a0 5).toNatClampNeg x1) q11 (fb_I (fb_wI u q1 (fb_I u a0 5).toNatClampNeg x1) a0 5).toNatClampNeg x2) a0 5).toNatClampNeg (vp_nar .boolean x3)) q31 (fb_I (fb_wI (fb_wI (fb_wI u q1 (fb_I u a0 5).toNatClampNeg x1) q11 (fb_I (fb_wI u q1 (fb_I u a0 5).toNatClampNeg x1) a0 5).toNatClampNeg x2) q21 (fb_I (fb_wI (fb_wI u q1 (fb_I u a0 5).toNatClampNeg x1) q11 (fb_I (fb_wI u q1 (fb_I u a0 5).toNatClampNeg x1) a0 5).toNatClampNeg x2) a0 5).toNatClampNeg (vp_nar .boolean x3)) a0 5).toNatClampNeg (fb_I (fb_wI (fb_wI (fb_wI u q1 (fb_I u a0 5).toNatClampNeg x1) q11 (fb_I (fb_wI u q1 (fb_I u a0 5).toNatClampNeg x1) a0 5).toNatClampNeg x2) q21 (fb_I (fb_wI (fb_wI u q1 (fb_I u a0 5).toNatClampNeg x1) q11 (fb_I (fb_wI u q1 (fb_I u a0 5).toNatClampNeg x1) a0 5).toNatClampNeg x2) a0 5).toNatClampNeg (vp_nar .boolean x3)) a0 17)) a0 18)) q57 (fb_I (fb_wI (fb_wI (fb_wI (fb_wI (fb_wI u q1 (fb_I u a0 5).toNatClampNeg x1) q11 (fb_I (fb_wI u q1 (fb_I u a0 5).toNatClampNeg x1) a0 5).toNatClampNeg x2) q21 (fb_I (fb_wI (fb_wI u q1 (fb_I u a0 5).toNatClampNeg x1) q11 (fb_I (fb_wI u q1 (fb_I u a0 5).toNatClampNeg x1) a0 5).toNatClampNeg x2) a0 5).toNatClampNeg (vp_nar .boolean x3)) q31 (fb_I (fb_wI (fb_wI (fb_wI u q1 (fb_I u a0 5).toNatClampNeg x1) q11 (fb_I (fb_wI u q1 (fb_I u a0 5).toNatClampNeg x1) a0 5).toNatClampNeg x2) q21 (fb_I (fb_wI (fb_wI u q1 (fb_I u a0 5).toNatClampNeg x1) q11 (fb_I (fb_wI u q1 (fb_I u a0 5).toNatClampNeg x1) a0 5).toNatClampNeg x2) a0 5).toNatClampNeg (vp_nar .boolean x3)) a0 5).toNatClampNeg (fb_I (fb_wI (fb_wI (fb_wI u q1 (fb_I u a0 5).toNatClampNeg x1) q11 (fb_I (fb_wI u q1 (fb_I u a0 5).toNatClampNeg x1) a0 5).toNatClampNeg x2) q21 (fb_I (fb_wI (fb_wI u q1 (fb_I u a0 5).toNatClampNeg x1) q11 (fb_I (fb_wI u q1 (fb_I u a0 5).toNatClampNeg x1) a0 5).toNatClampNeg x2) a0 5).toNatClampNeg (vp_nar .boolean x3)) a0 17)) q44 (fb_I (fb_wI (fb_wI (fb_wI (fb_wI u q1 (fb_I u a0 5).toNatClampNeg x1) q11 (fb_I (fb_wI u q1 (fb_I u a0 5).toNatClampNeg x1) a0 5).toNatClampNeg x2) q21 (fb_I (fb_wI (fb_wI u q1 (fb_I u a0 5).toNatClampNeg x1) q11 (fb_I (fb_wI u q1 (fb_I u a0 5).toNatClampNeg x1) a0 5).toNatClampNeg x2) a0 5).toNatClampNeg (vp_nar .boolean x3)) q31 (fb_I (fb_wI (fb_wI (fb_wI u q1 (fb_I u a0 5).toNatClampNeg x1) q11 (fb_I (fb_wI u q1 (fb_I u a0 5).toNatClampNeg x1) a0 5).toNatClampNeg x2) q21 (fb_I (fb_wI (fb_wI u q1 (fb_I u a0 5).toNatClampNeg x1) q11 (fb_I (fb_wI u q1 (fb_I u a0 5).toNatClampNeg x1) a0 5).toNatClampNeg x2) a0 5).toNatClampNeg (vp_nar .boolean x3)) a0 5).toNatClampNeg (fb_I (fb_wI (fb_wI (fb_wI u q1 (fb_I u a0 5).toNatClampNeg x1) q11 (fb_I (fb_wI u q1 (fb_I u a0 5).toNatClampNeg x1) a0 5).toNatClampNeg x2) q21 (fb_I (fb_wI (fb_wI u q1 (fb_I u a0 5).toNatClampNeg x1) q11 (fb_I (fb_wI u q1 (fb_I u a0 5).toNatClampNeg x1) a0 5).toNatClampNeg x2) a0 5).toNatClampNeg (vp_nar .boolean x3)) a0 17)) a0 5).toNatClampNeg (fb_I (fb_wI (fb_wI (fb_wI (fb_wI u q1 (fb_I u a0 5).toNatClampNeg x1) q11 (fb_I (fb_wI u q1 (fb_I u a0 5).toNatClampNeg x1) a0 5).toNatClampNeg x2) q21 (fb_I (fb_wI (fb_wI u q1 (fb_I u a0 5).toNatClampNeg x1) q11 (fb_I (fb_wI u q1 (fb_I u a0 5).toNatClampNeg x1) a0 5).toNatClampNeg x2) a0 5).toNatClampNeg (vp_nar .boolean x3)) q31 (fb_I (fb_wI (fb_wI (fb_wI u q1 (fb_I u a0 5).toNatClampNeg x1) q11 (fb_I (fb_wI u q1 (fb_I u a0 5).toNatClampNeg x1) a0 5).toNatClampNeg x2) q21 (fb_I (fb_wI (fb_wI u q1 (fb_I u a0 5).toNatClampNeg x1) q11 (fb_I (fb_wI u q1 (fb_I u a0 5).toNatClampNeg x1) a0 5).toNatClampNeg x2) a0 5).toNatClampNeg (vp_nar .boolean x3)) a0 5).toNatClampNeg (fb_I (fb_wI (fb_wI (fb_wI u q1 (fb_I u a0 5).toNatClampNeg x1) q11 (fb_I (fb_wI u q1 (fb_I u a0 5).toNatClampNeg x1) a0 5).toNatClampNeg x2) q21 (fb_I (fb_wI (fb_wI u q1 (fb_I u a0 5).toNatClampNeg x1) q11 (fb_I (fb_wI u q1 (fb_I u a0 5).toNatClampNeg x1) a0 5).toNatClampNeg x2) a0 5).toNatClampNeg (vp_nar .boolean x3)) a0 17)) a0 18)) a0 5).toNatClampNeg (fb_I (fb_wI (fb_wI (fb_wI (fb_wI (fb_wI u q1 (fb_I u a0 5).toNatClampNeg x1) q11 (fb_I (fb_wI u q1 (fb_I u a0 5).toNatClampNeg x1) a0 5).toNatClampNeg x2) q21 (fb_I (fb_wI (fb_wI u q1 (fb_I u a0 5).toNatClampNeg x1) q11 (fb_I (fb_wI u q1 (fb_I u a0 5).toNatClampNeg x1) a0 5).toNatClampNeg x2) a0 5).toNatClampNeg (vp_nar .boolean x3)) q31 (fb_I (fb_wI (fb_wI (fb_wI u q1 (fb_I u a0 5).toNatClampNeg x1) q11 (fb_I (fb_wI u q1 (fb_I u a0 5).toNatClampNeg x1) a0 5).toNatClampNeg x2) q21 (fb_I (fb_wI (fb_wI u q1 (fb_I u a0 5).toNatClampNeg x1) q11 (fb_I (fb_wI u q1 (fb_I u a0 5).toNatClampNeg x1) a0 5).toNatClampNeg x2) a0 5).toNatClampNeg (vp_nar .boolean x3)) a0 5).toNatClampNeg (fb_I (fb_wI (fb_wI (fb_wI u q1 (fb_I u a0 5).toNatClampNeg x1) q11 (fb_I (fb_wI u q1 (fb_I u a0 5).toNatClampNeg x1) a0 5).toNatClampNeg x2) q21 (fb_I (fb_wI (fb_wI u q1 (fb_I u a0 5).toNatClampNeg x1) q11 (fb_I (fb_wI u q1 (fb_I u a0 5).toNatClampNeg x1) a0 5).toNatClampNeg x2) a0 5).toNatClampNeg (vp_nar .boolean x3)) a0 17)) q44 (fb_I (fb_wI (fb_wI (fb_wI (fb_wI u q1 (fb_I u a0 5).toNatClampNeg x1) q11 (fb_I (fb_wI u q1 (fb_I u a0 5).toNatClampNeg x1) a0 5).toNatClampNeg x2) q21 (fb_I (fb_wI (fb_wI u q1 (fb_I u a0 5).toNatClampNeg x1) q11 (fb_I (fb_wI u q1 (fb_I u a0 5).toNatClampNeg x1) a0 5).toNatClampNeg x2) a0 5).toNatClampNeg (vp_nar .boolean x3)) q31 (fb_I (fb_wI (fb_wI (fb_wI u q1 (fb_I u a0 5).toNatClampNeg x1) q11 (fb_I (fb_wI u q1 (fb_I u a0 5).toNatClampNeg x1) a0 5).toNatClampNeg x2) q21 (fb_I (fb_wI (fb_wI u q1 (fb_I u a0 5).toNatClampNeg x1) q11 (fb_I (fb_wI u q1 (fb_I u a0 5).toNatClampNeg x1) a0 5).toNatClampNeg x2) a0 5).toNatClampNeg (vp_nar .boolean x3)) a0 5).toNatClampNeg (fb_I (fb_wI (fb_wI (fb_wI u q1 (fb_I u a0 5).toNatClampNeg x1) q11 (fb_I (fb_wI u q1 (fb_I u a0 5).toNatClampNeg x1) a0 5).toNatClampNeg x2) q21 (fb_I (fb_wI (fb_wI u q1 (fb_I u a0 5).toNatClampNeg x1) q11 (fb_I (fb_wI u q1 (fb_I u a0 5).toNatClampNeg x1) a0 5).toNatClampNeg x2) a0 5).toNatClampNeg (vp_nar .boolean x3)) a0 17)) a0 5).toNatClampNeg (fb_I (fb_wI (fb_wI (fb_wI (fb_wI u q1 (fb_I u a0 5).toNatClampNeg x1) q11 (fb_I (fb_wI u q1 (fb_I u a0 5).toNatClampNeg x1) a0 5).toNatClampNeg x2) q21 (fb_I (fb_wI (fb_wI u q1 (fb_I u a0 5).toNatClampNeg x1) q11 (fb_I (fb_wI u q1 (fb_I u a0 5).toNatClampNeg x1) a0 5).toNatClampNeg x2) a0 5).toNatClampNeg (vp_nar .boolean x3)) q31 (fb_I (fb_wI (fb_wI (fb_wI u q1 (fb_I u a0 5).toNatClampNeg x1) q11 (fb_I (fb_wI u q1 (fb_I u a0 5).toNatClampNeg x1) a0 5).toNatClampNeg x2) q21 (fb_I (fb_wI (fb_wI u q1 (fb_I u a0 5).toNatClampNeg x1) q11 (fb_I (fb_wI u q1 (fb_I u a0 5).toNatClampNeg x1) a0 5).toNatClampNeg x2) a0 5).toNatClampNeg (vp_nar .boolean x3)) a0 5).toNatClampNeg (fb_I (fb_wI (fb_wI (fb_wI u q1 (fb_I u a0 5).toNatClampNeg x1) q11 (fb_I (fb_wI u q1 (fb_I u a0 5).toNatClampNeg x1) a0 5).toNatClampNeg x2) q21 (fb_I (fb_wI (fb_wI u q1 (fb_I u a0 5).toNatClampNeg x1) q11 (fb_I (fb_wI u q1 (fb_I u a0 5).toNatClampNeg x1) a0 5).toNatClampNeg x2) a0 5).toNatClampNeg (vp_nar .boolean x3)) a0 17)) a0 18)) a0 19)) h)

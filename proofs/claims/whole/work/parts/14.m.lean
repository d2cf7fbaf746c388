theorem dX8_save_0 : decode cX8_save 0 = .ok (.aload_n 0, 1) := by decide +kernel
theorem dX8_save_1 : decode cX8_save 1 = .ok (.getfield 42, 3) := by decide +kernel
theorem dX8_save_4 : decode cX8_save 4 = .ok (.iload_n 1, 1) := by decide +kernel
theorem dX8_save_5 : decode cX8_save 5 = .ok (.aload_n 0, 1) := by decide +kernel
theorem dX8_save_6 : decode cX8_save 6 = .ok (.getfield 46, 3) := by decide +kernel
theorem dX8_save_9 : decode cX8_save 9 = .ok (.invokevirtual 129, 3) := by decide +kernel
theorem dX8_save_12 : decode cX8_save 12 = .ok (.ireturn, 1) := by decide +kernel
def fX8_save (u : fb_M) (a0 : Nat) (x1 : Int32) : Option (Int32 × fb_M) :=
 ((fb_R u a0 5).bind fun q1 => fb_gd (q1 < fb_NT ∧ fb_sh q1 = (7, 2)) 
  (((fb_R u a0 6).bind fun q6 => fb_gd (q6 < fb_NT ∧ (fb_sh q6).1 = 103) 
  (((fX7_put u q1 x1 q6).bind fun r9 => 
  (fb_gd (r9.1 = 0 ∨ r9.1 = 1) 
  (some (r9.1, r9.2))))))))
set_option maxRecDepth 100000 in
set_option maxHeartbeats 4000000 in
theorem mX8_save (g : fb_G) (u : fb_M) (a0 : Nat) (x1 : Int32) (ha0 : a0 < fb_NT ∧ fb_sh a0 = (8, 12)) {res : (Int32 × fb_M)} (h : fX8_save u a0 x1 = some res) : fb_Runs g 2 103 0 0 fb_NT fb_NT yX8_save cX8_save 2 (some .boolean) [.ref (fb_b g + a0), .int x1] u (some (.int res.1)) res.2 := by
  unfold fX8_save at h
  refine fb_enter (by decide) (Nat.le_of_ble_eq_true rfl) ?_
  show fb_V g RX8 cX8_save 2 (some .boolean) "save" (fb_room 2 103 0 0) (fb_Qm g (some (.int res.1)) fb_NT res.2 0 0) 0 0 fb_NT u 0 [(0, .ref (fb_b g + a0)), (1, .int x1)] []
  refine fb_aload_n (pc := 0) dX8_save_0 0 rfl ?_
  refine fb_bnE h (fun q1 e1 h => fb_gdE h (fun s1 h => ?_))
  refine fb_getR (pc := 1) dX8_save_1 lkX8_42 ha0.1 ha0.2 (by decide) e1 ?_
  refine fb_iload_n (pc := 4) dX8_save_4 1 rfl ?_
  refine fb_aload_n (pc := 5) dX8_save_5 0 rfl ?_
  refine fb_bnE h (fun q6 e6 h => fb_gdE h (fun s6 h => ?_))
  refine fb_getR (pc := 6) dX8_save_6 lkX8_46 ha0.1 ha0.2 (by decide) e6 ?_
  refine fb_bnE h (fun r9 h9 h => ?_)
  refine fb_cV0v (pc := 9) [.int x1, .ref (fb_b g + q6)] dX8_save_9 (mX7_put g u q1 x1 q6 s1 s6 h9) ymX7_put yiX7_put s1.1 s1.2 ylX8_129 rfl (Nat.le_of_ble_eq_true rfl) ⟨Nat.le_of_ble_eq_true rfl, Nat.le_of_ble_eq_true rfl⟩ ⟨Nat.le_of_ble_eq_true rfl, Nat.le_of_ble_eq_true rfl⟩ ?_
  refine fb_gdE h (fun z12 h => ?_)
  exact fb_zretM (pc := 12) (fb_nz z12) h dX8_save_12

theorem dX7_drop_0 : decode cX7_drop 0 = .ok (.aload_n 0, 1) := by decide +kernel
theorem dX7_drop_1 : decode cX7_drop 1 = .ok (.iload_n 1, 1) := by decide +kernel
theorem dX7_drop_2 : decode cX7_drop 2 = .ok (.invokevirtual 23, 3) := by decide +kernel
theorem dX7_drop_5 : decode cX7_drop 5 = .ok (.istore_n 2, 1) := by decide +kernel
theorem dX7_drop_6 : decode cX7_drop 6 = .ok (.iload_n 2, 1) := by decide +kernel
theorem dX7_drop_7 : decode cX7_drop 7 = .ok (.ifCond .ge 5, 3) := by decide +kernel
theorem dX7_drop_10 : decode cX7_drop 10 = .ok (.iconst 0, 1) := by decide +kernel
theorem dX7_drop_11 : decode cX7_drop 11 = .ok (.ireturn, 1) := by decide +kernel
theorem dX7_drop_12 : decode cX7_drop 12 = .ok (.aload_n 0, 1) := by decide +kernel
theorem dX7_drop_13 : decode cX7_drop 13 = .ok (.getfield 11, 3) := by decide +kernel
theorem dX7_drop_16 : decode cX7_drop 16 = .ok (.iload_n 2, 1) := by decide +kernel
theorem dX7_drop_17 : decode cX7_drop 17 = .ok (.aaload, 1) := by decide +kernel
theorem dX7_drop_18 : decode cX7_drop 18 = .ok (.astore_n 3, 1) := by decide +kernel
theorem dX7_drop_19 : decode cX7_drop 19 = .ok (.aload_n 0, 1) := by decide +kernel
theorem dX7_drop_20 : decode cX7_drop 20 = .ok (.dup, 1) := by decide +kernel
theorem dX7_drop_21 : decode cX7_drop 21 = .ok (.getfield 16, 3) := by decide +kernel
theorem dX7_drop_24 : decode cX7_drop 24 = .ok (.iconst 1, 1) := by decide +kernel
theorem dX7_drop_25 : decode cX7_drop 25 = .ok (.isub, 1) := by decide +kernel
theorem dX7_drop_26 : decode cX7_drop 26 = .ok (.putfield 16, 3) := by decide +kernel
theorem dX7_drop_29 : decode cX7_drop 29 = .ok (.iload_n 2, 1) := by decide +kernel
theorem dX7_drop_30 : decode cX7_drop 30 = .ok (.istore 4, 2) := by decide +kernel
theorem dX7_drop_32 : decode cX7_drop 32 = .ok (.iload 4, 2) := by decide +kernel
theorem dX7_drop_34 : decode cX7_drop 34 = .ok (.aload_n 0, 1) := by decide +kernel
theorem dX7_drop_35 : decode cX7_drop 35 = .ok (.getfield 16, 3) := by decide +kernel
theorem dX7_drop_38 : decode cX7_drop 38 = .ok (.if_icmp .ge 25, 3) := by decide +kernel
theorem dX7_drop_41 : decode cX7_drop 41 = .ok (.aload_n 0, 1) := by decide +kernel
theorem dX7_drop_42 : decode cX7_drop 42 = .ok (.getfield 11, 3) := by decide +kernel
theorem dX7_drop_45 : decode cX7_drop 45 = .ok (.iload 4, 2) := by decide +kernel
theorem dX7_drop_47 : decode cX7_drop 47 = .ok (.aload_n 0, 1) := by decide +kernel
theorem dX7_drop_48 : decode cX7_drop 48 = .ok (.getfield 11, 3) := by decide +kernel
theorem dX7_drop_51 : decode cX7_drop 51 = .ok (.iload 4, 2) := by decide +kernel
theorem dX7_drop_53 : decode cX7_drop 53 = .ok (.iconst 1, 1) := by decide +kernel
theorem dX7_drop_54 : decode cX7_drop 54 = .ok (.iadd, 1) := by decide +kernel
theorem dX7_drop_55 : decode cX7_drop 55 = .ok (.aaload, 1) := by decide +kernel
theorem dX7_drop_56 : decode cX7_drop 56 = .ok (.aastore, 1) := by decide +kernel
theorem dX7_drop_57 : decode cX7_drop 57 = .ok (.iinc 4 1, 3) := by decide +kernel
theorem dX7_drop_60 : decode cX7_drop 60 = .ok (.goto (-28), 3) := by decide +kernel
theorem dX7_drop_63 : decode cX7_drop 63 = .ok (.aload_n 0, 1) := by decide +kernel
theorem dX7_drop_64 : decode cX7_drop 64 = .ok (.getfield 11, 3) := by decide +kernel
theorem dX7_drop_67 : decode cX7_drop 67 = .ok (.aload_n 0, 1) := by decide +kernel
theorem dX7_drop_68 : decode cX7_drop 68 = .ok (.getfield 16, 3) := by decide +kernel
theorem dX7_drop_71 : decode cX7_drop 71 = .ok (.aload_n 3, 1) := by decide +kernel
theorem dX7_drop_72 : decode cX7_drop 72 = .ok (.aastore, 1) := by decide +kernel
theorem dX7_drop_73 : decode cX7_drop 73 = .ok (.iconst 1, 1) := by decide +kernel
theorem dX7_drop_74 : decode cX7_drop 74 = .ok (.ireturn, 1) := by decide +kernel
def bX7_drop_32 (K32 : Int32 → fb_M → Option (Int32 × fb_M)) (a0 : Nat) (a3 : Nat) (x4 : Int32) (u : fb_M) : Option (Int32 × fb_M) :=
 (if (fb_I u a0 1) ≤ x4 then ((fb_R u a0 0).bind fun q64 => fb_gd (q64 < fb_NT ∧ (fb_sh q64).1 = 106) 
   ((fb_gd (¬ (fb_I u a0 1 < 0 ∨ (fb_sh q64).2 ≤ (fb_I u a0 1).toNatClampNeg)) 
   (some (1, fb_wR u q64 (fb_I u a0 1).toNatClampNeg a3)))))
  else ((fb_R u a0 0).bind fun q42 => fb_gd (q42 < fb_NT ∧ (fb_sh q42).1 = 106) 
   (((fb_R u a0 0).bind fun q48 => fb_gd (q48 < fb_NT ∧ (fb_sh q48).1 = 106) 
   ((fb_gd (¬ (x4 + 1 < 0 ∨ (fb_sh q48).2 ≤ (x4 + 1).toNatClampNeg)) 
   ((fb_R u q48 (x4 + 1).toNatClampNeg).bind fun q55 => fb_gd (q55 < fb_NT ∧ fb_sh q55 = (1, 2)) 
   ((fb_gd (¬ (x4 < 0 ∨ (fb_sh q42).2 ≤ x4.toNatClampNeg)) 
   (K32 (x4 + 1) (fb_wR u q42 x4.toNatClampNeg q55)))))))))))
def gX7_drop_32 (a0 : Nat) (a3 : Nat) : Nat → Int32 → fb_M → Option (Int32 × fb_M)
 | 0 => fun _ _ => none
 | fu + 1 => fun x4 u => bX7_drop_32 (gX7_drop_32 a0 a3 fu) a0 a3 x4 u
set_option maxRecDepth 100000 in
set_option maxHeartbeats 4000000 in
theorem tbX7_drop_32 {g : fb_G} {res : (Int32 × fb_M)} (a0 : Nat) (a3 : Nat) (x4 : Int32) (u : fb_M) (K32 : Int32 → fb_M → Option (Int32 × fb_M)) (ha0 : a0 < fb_NT ∧ fb_sh a0 = (7, 2)) (ha3 : a3 < fb_NT ∧ fb_sh a3 = (1, 2)) (hK32 : ∀ (x4 : Int32) (u : fb_M) ,  K32 x4 u = some res → fb_V g RX7 cX7_drop 5 (some .boolean) "drop" (fb_room 1 22 0 0) (fb_Qm g (some (.int res.1)) fb_NT res.2 0 0) 0 0 fb_NT u 32 [(0, .ref (fb_b g + a0)), (3, .ref (fb_b g + a3)), (4, .int x4)] []) (h : bX7_drop_32 K32 a0 a3 x4 u = some res) : fb_V g RX7 cX7_drop 5 (some .boolean) "drop" (fb_room 1 22 0 0) (fb_Qm g (some (.int res.1)) fb_NT res.2 0 0) 0 0 fb_NT u 32 [(0, .ref (fb_b g + a0)), (3, .ref (fb_b g + a3)), (4, .int x4)] [] := by
  unfold bX7_drop_32 at h
  refine fb_iload (pc := 32) dX7_drop_32 2 rfl ?_
  refine fb_aload_n (pc := 34) dX7_drop_34 0 rfl ?_
  refine fb_getI (pc := 35) dX7_drop_35 lkX7_16 ha0.1 ha0.2 rfl ?_
  refine fb_icmp_ge (pc := 38) (tgt := 63) h dX7_drop_38 (by decide) (fun h => ?_) (fun h => ?_)
  · refine fb_aload_n (pc := 63) dX7_drop_63 0 rfl ?_
    refine fb_bnE h (fun q64 e64 h => fb_gdE h (fun s64 h => ?_))
    refine fb_getR (pc := 64) dX7_drop_64 lkX7_11 ha0.1 ha0.2 (by decide) e64 ?_
    refine fb_aload_n (pc := 67) dX7_drop_67 0 rfl ?_
    refine fb_getI (pc := 68) dX7_drop_68 lkX7_16 ha0.1 ha0.2 rfl ?_
    refine fb_aload_n (pc := 71) dX7_drop_71 1 rfl ?_
    refine fb_gdE h (fun i72 h => ?_)
    refine fb_aast (pc := 72) (t := 6) dX7_drop_72 s64.1 (fb_eta s64.2) ⟨by decide, by decide, rfl⟩ i72 ha3.1 ha3.2 ⟨by decide, rfl⟩ ?_
    refine fb_iconst (pc := 73) (v := 1) dX7_drop_73 fb_ki_1 ?_
    exact fb_zretM (pc := 74) rfl h dX7_drop_74
  · refine fb_aload_n (pc := 41) dX7_drop_41 0 rfl ?_
    refine fb_bnE h (fun q42 e42 h => fb_gdE h (fun s42 h => ?_))
    refine fb_getR (pc := 42) dX7_drop_42 lkX7_11 ha0.1 ha0.2 (by decide) e42 ?_
    refine fb_iload (pc := 45) dX7_drop_45 2 rfl ?_
    refine fb_aload_n (pc := 47) dX7_drop_47 0 rfl ?_
    refine fb_bnE h (fun q48 e48 h => fb_gdE h (fun s48 h => ?_))
    refine fb_getR (pc := 48) dX7_drop_48 lkX7_11 ha0.1 ha0.2 (by decide) e48 ?_
    refine fb_iload (pc := 51) dX7_drop_51 2 rfl ?_
    refine fb_iconst (pc := 53) (v := 1) dX7_drop_53 fb_ki_1 ?_
    refine fb_iadd (pc := 54) dX7_drop_54 ?_
    refine fb_gdE h (fun i55 h => fb_bnE h (fun q55 e55 h => fb_gdE h (fun s55 h => ?_)))
    refine fb_aald (pc := 55) (t := 6) dX7_drop_55 s48.1 (fb_eta s48.2) ⟨by decide, by decide, rfl⟩ i55 e55 ?_
    refine fb_gdE h (fun i56 h => ?_)
    refine fb_aast (pc := 56) (t := 6) dX7_drop_56 s42.1 (fb_eta s42.2) ⟨by decide, by decide, rfl⟩ i56 s55.1 s55.2 ⟨by decide, rfl⟩ ?_
    refine fb_iinc (pc := 57) (v := 1) (lv' := [(4, .int (x4 + 1)), (0, .ref (fb_b g + a0)), (3, .ref (fb_b g + a3))]) dX7_drop_57 2 rfl fb_ki_1 (by decide) rfl ?_
    refine fb_goto (pc := 60) (tgt := 32) dX7_drop_60 (by decide) ?_
    exact fb_sub [1, 2, 0] rfl (hK32 (x4 + 1) (fb_wR u q42 x4.toNatClampNeg q55) h)

theorem tgX7_drop_32 {g : fb_G} {res : (Int32 × fb_M)} (a0 : Nat) (a3 : Nat) (ha0 : a0 < fb_NT ∧ fb_sh a0 = (7, 2)) (ha3 : a3 < fb_NT ∧ fb_sh a3 = (1, 2)) : ∀ (fu : Nat) (x4 : Int32) (u : fb_M) ,  gX7_drop_32 a0 a3 fu x4 u = some res → fb_V g RX7 cX7_drop 5 (some .boolean) "drop" (fb_room 1 22 0 0) (fb_Qm g (some (.int res.1)) fb_NT res.2 0 0) 0 0 fb_NT u 32 [(0, .ref (fb_b g + a0)), (3, .ref (fb_b g + a3)), (4, .int x4)] [] := by
  intro fu
  induction fu with
  | zero => intro x4 u h; exact absurd h (by simp [gX7_drop_32])
  | succ fu ih => intro x4 u h; exact tbX7_drop_32 a0 a3 x4 u (gX7_drop_32 a0 a3 fu) ha0 ha3 ih h
def fX7_drop (u : fb_M) (a0 : Nat) (x1 : Int32) : Option (Int32 × fb_M) :=
 ((fX7_placeOf u a0 x1).bind fun r2 => 
  (if 0 ≤ r2 then ((fb_R u a0 0).bind fun q13 => fb_gd (q13 < fb_NT ∧ (fb_sh q13).1 = 106) 
   ((fb_gd (¬ (r2 < 0 ∨ (fb_sh q13).2 ≤ r2.toNatClampNeg)) 
   ((fb_R u q13 r2.toNatClampNeg).bind fun q17 => fb_gd (q17 < fb_NT ∧ fb_sh q17 = (1, 2)) 
   ((gX7_drop_32 a0 q17 fb_F r2 (fb_wI u a0 1 ((fb_I u a0 1) - 1))))))))
  else (some (0, u))))
set_option maxRecDepth 100000 in
set_option maxHeartbeats 4000000 in
theorem mX7_drop (g : fb_G) (u : fb_M) (a0 : Nat) (x1 : Int32) (ha0 : a0 < fb_NT ∧ fb_sh a0 = (7, 2)) {res : (Int32 × fb_M)} (h : fX7_drop u a0 x1 = some res) : fb_Runs g 1 22 0 0 fb_NT fb_NT yX7_drop cX7_drop 5 (some .boolean) [.ref (fb_b g + a0), .int x1] u (some (.int res.1)) res.2 := by
  unfold fX7_drop at h
  refine fb_enter (by decide) (Nat.le_of_ble_eq_true rfl) ?_
  show fb_V g RX7 cX7_drop 5 (some .boolean) "drop" (fb_room 1 22 0 0) (fb_Qm g (some (.int res.1)) fb_NT res.2 0 0) 0 0 fb_NT u 0 [(0, .ref (fb_b g + a0)), (1, .int x1)] []
  refine fb_aload_n (pc := 0) dX7_drop_0 0 rfl ?_
  refine fb_iload_n (pc := 1) dX7_drop_1 1 rfl ?_
  refine fb_bnE h (fun r2 h2 h => ?_)
  refine fb_cV0v (pc := 2) [.int x1] dX7_drop_2 (mX7_placeOf g u a0 x1 ha0 h2) ymX7_placeOf yiX7_placeOf ha0.1 ha0.2 ylX7_23 rfl (Nat.le_of_ble_eq_true rfl) ⟨Nat.le_of_ble_eq_true rfl, Nat.le_of_ble_eq_true rfl⟩ ⟨Nat.le_of_ble_eq_true rfl, Nat.le_of_ble_eq_true rfl⟩ ?_
  refine fb_istore_n (pc := 5) (lv' := [(2, .int r2), (0, .ref (fb_b g + a0)), (1, .int x1)]) dX7_drop_5 rfl (by decide) rfl ?_
  refine fb_iload_n (pc := 6) dX7_drop_6 0 rfl ?_
  refine fb_if_ge (pc := 7) (tgt := 12) h dX7_drop_7 (by decide) (fun h => ?_) (fun h => ?_)
  · refine fb_aload_n (pc := 12) dX7_drop_12 1 rfl ?_
    refine fb_bnE h (fun q13 e13 h => fb_gdE h (fun s13 h => ?_))
    refine fb_getR (pc := 13) dX7_drop_13 lkX7_11 ha0.1 ha0.2 (by decide) e13 ?_
    refine fb_iload_n (pc := 16) dX7_drop_16 0 rfl ?_
    refine fb_gdE h (fun i17 h => fb_bnE h (fun q17 e17 h => fb_gdE h (fun s17 h => ?_)))
    refine fb_aald (pc := 17) (t := 6) dX7_drop_17 s13.1 (fb_eta s13.2) ⟨by decide, by decide, rfl⟩ i17 e17 ?_
    refine fb_astore_n (pc := 18) (lv' := [(3, .ref (fb_b g + q17)), (2, .int r2), (0, .ref (fb_b g + a0)), (1, .int x1)]) dX7_drop_18 rfl (by decide) rfl ?_
    refine fb_aload_n (pc := 19) dX7_drop_19 2 rfl ?_
    refine fb_dup (pc := 20) dX7_drop_20 rfl ?_
    refine fb_getI (pc := 21) dX7_drop_21 lkX7_16 ha0.1 ha0.2 rfl ?_
    refine fb_iconst (pc := 24) (v := 1) dX7_drop_24 fb_ki_1 ?_
    refine fb_isub (pc := 25) dX7_drop_25 ?_
    refine fb_putI (pc := 26) dX7_drop_26 lkX7_16 ly_7_1 ha0.1 ha0.2 rfl rfl rfl ?_
    refine fb_iload_n (pc := 29) dX7_drop_29 1 rfl ?_
    refine fb_istore (pc := 30) (lv' := [(4, .int r2), (3, .ref (fb_b g + q17)), (2, .int r2), (0, .ref (fb_b g + a0)), (1, .int x1)]) dX7_drop_30 (by decide) rfl ?_
    exact fb_sub [3, 1, 0] rfl (tgX7_drop_32 a0 q17 ha0 s17 fb_F r2 (fb_wI u a0 1 ((fb_I u a0 1) - 1)) h)
  · refine fb_iconst (pc := 10) (v := 0) dX7_drop_10 fb_ki_0 ?_
    exact fb_zretM (pc := 11) rfl h dX7_drop_11

theorem dX8_remove_0 : decode cX8_remove 0 = .ok (.aload_n 0, 1) := by decide +kernel
theorem dX8_remove_1 : decode cX8_remove 1 = .ok (.getfield 42, 3) := by decide +kernel
theorem dX8_remove_4 : decode cX8_remove 4 = .ok (.iload_n 1, 1) := by decide +kernel
theorem dX8_remove_5 : decode cX8_remove 5 = .ok (.invokevirtual 133, 3) := by decide +kernel
theorem dX8_remove_8 : decode cX8_remove 8 = .ok (.ireturn, 1) := by decide +kernel
def fX8_remove (u : fb_M) (a0 : Nat) (x1 : Int32) : Option (Int32 × fb_M) :=
 ((fb_R u a0 5).bind fun q1 => fb_gd (q1 < fb_NT ∧ fb_sh q1 = (7, 2)) 
  (((fX7_drop u q1 x1).bind fun r5 => 
  (fb_gd (r5.1 = 0 ∨ r5.1 = 1) 
  (some (r5.1, r5.2))))))
set_option maxRecDepth 100000 in
set_option maxHeartbeats 4000000 in
theorem mX8_remove (g : fb_G) (u : fb_M) (a0 : Nat) (x1 : Int32) (ha0 : a0 < fb_NT ∧ fb_sh a0 = (8, 12)) {res : (Int32 × fb_M)} (h : fX8_remove u a0 x1 = some res) : fb_Runs g 2 46 0 0 fb_NT fb_NT yX8_remove cX8_remove 2 (some .boolean) [.ref (fb_b g + a0), .int x1] u (some (.int res.1)) res.2 := by
  unfold fX8_remove at h
  refine fb_enter (by decide) (Nat.le_of_ble_eq_true rfl) ?_
  show fb_V g RX8 cX8_remove 2 (some .boolean) "remove" (fb_room 2 46 0 0) (fb_Qm g (some (.int res.1)) fb_NT res.2 0 0) 0 0 fb_NT u 0 [(0, .ref (fb_b g + a0)), (1, .int x1)] []
  refine fb_aload_n (pc := 0) dX8_remove_0 0 rfl ?_
  refine fb_bnE h (fun q1 e1 h => fb_gdE h (fun s1 h => ?_))
  refine fb_getR (pc := 1) dX8_remove_1 lkX8_42 ha0.1 ha0.2 (by decide) e1 ?_
  refine fb_iload_n (pc := 4) dX8_remove_4 1 rfl ?_
  refine fb_bnE h (fun r5 h5 h => ?_)
  refine fb_cV0v (pc := 5) [.int x1] dX8_remove_5 (mX7_drop g u q1 x1 s1 h5) ymX7_drop yiX7_drop s1.1 s1.2 ylX8_133 rfl (Nat.le_of_ble_eq_true rfl) ⟨Nat.le_of_ble_eq_true rfl, Nat.le_of_ble_eq_true rfl⟩ ⟨Nat.le_of_ble_eq_true rfl, Nat.le_of_ble_eq_true rfl⟩ ?_
  refine fb_gdE h (fun z8 h => ?_)
  exact fb_zretM (pc := 8) (fb_nz z8) h dX8_remove_8

theorem dX8_arg_0 : decode cX8_arg 0 = .ok (.aload_n 0, 1) := by decide +kernel
theorem dX8_arg_1 : decode cX8_arg 1 = .ok (.getfield 136, 3) := by decide +kernel
theorem dX8_arg_4 : decode cX8_arg 4 = .ok (.bipush 12, 2) := by decide +kernel
theorem dX8_arg_6 : decode cX8_arg 6 = .ok (.if_icmp .lt 5, 3) := by decide +kernel
theorem dX8_arg_9 : decode cX8_arg 9 = .ok (.iconst 0, 1) := by decide +kernel
theorem dX8_arg_10 : decode cX8_arg 10 = .ok (.ireturn, 1) := by decide +kernel
theorem dX8_arg_11 : decode cX8_arg 11 = .ok (.aload_n 0, 1) := by decide +kernel
theorem dX8_arg_12 : decode cX8_arg 12 = .ok (.getfield 58, 3) := by decide +kernel
theorem dX8_arg_15 : decode cX8_arg 15 = .ok (.aload_n 0, 1) := by decide +kernel
theorem dX8_arg_16 : decode cX8_arg 16 = .ok (.getfield 136, 3) := by decide +kernel
theorem dX8_arg_19 : decode cX8_arg 19 = .ok (.iload_n 1, 1) := by decide +kernel
theorem dX8_arg_20 : decode cX8_arg 20 = .ok (.iastore, 1) := by decide +kernel
theorem dX8_arg_21 : decode cX8_arg 21 = .ok (.aload_n 0, 1) := by decide +kernel
theorem dX8_arg_22 : decode cX8_arg 22 = .ok (.dup, 1) := by decide +kernel
theorem dX8_arg_23 : decode cX8_arg 23 = .ok (.getfield 136, 3) := by decide +kernel
theorem dX8_arg_26 : decode cX8_arg 26 = .ok (.iconst 1, 1) := by decide +kernel
theorem dX8_arg_27 : decode cX8_arg 27 = .ok (.iadd, 1) := by decide +kernel
theorem dX8_arg_28 : decode cX8_arg 28 = .ok (.putfield 136, 3) := by decide +kernel
theorem dX8_arg_31 : decode cX8_arg 31 = .ok (.iconst 1, 1) := by decide +kernel
theorem dX8_arg_32 : decode cX8_arg 32 = .ok (.ireturn, 1) := by decide +kernel
def fX8_arg (u : fb_M) (a0 : Nat) (x1 : Int32) : Option (Int32 × fb_M) :=
 (if (fb_I u a0 8) < 12 then ((fb_R u a0 7).bind fun q12 => fb_gd (q12 < fb_NT ∧ (fb_sh q12).1 = 100) 
   ((fb_gd (¬ (fb_I u a0 8 < 0 ∨ (fb_sh q12).2 ≤ (fb_I u a0 8).toNatClampNeg)) 
   (some (1, fb_wI (fb_wI u q12 (fb_I u a0 8).toNatClampNeg x1) a0 8 ((fb_I (fb_wI u q12 (fb_I u a0 8).toNatClampNeg x1) a0 8) + 1))))))
  else (some (0, u)))
set_option maxRecDepth 100000 in
set_option maxHeartbeats 4000000 in
theorem mX8_arg (g : fb_G) (u : fb_M) (a0 : Nat) (x1 : Int32) (ha0 : a0 < fb_NT ∧ fb_sh a0 = (8, 12)) {res : (Int32 × fb_M)} (h : fX8_arg u a0 x1 = some res) : fb_Runs g 0 0 0 0 fb_NT fb_NT yX8_arg cX8_arg 2 (some .boolean) [.ref (fb_b g + a0), .int x1] u (some (.int res.1)) res.2 := by
  unfold fX8_arg at h
  refine fb_enter (by decide) (Nat.le_of_ble_eq_true rfl) ?_
  show fb_V g RX8 cX8_arg 2 (some .boolean) "arg" (fb_room 0 0 0 0) (fb_Qm g (some (.int res.1)) fb_NT res.2 0 0) 0 0 fb_NT u 0 [(0, .ref (fb_b g + a0)), (1, .int x1)] []
  refine fb_aload_n (pc := 0) dX8_arg_0 0 rfl ?_
  refine fb_getI (pc := 1) dX8_arg_1 lkX8_136 ha0.1 ha0.2 rfl ?_
  refine fb_bipush (pc := 4) (v := 12) dX8_arg_4 fb_kb_12 ?_
  refine fb_icmp_lt (pc := 6) (tgt := 11) h dX8_arg_6 (by decide) (fun h => ?_) (fun h => ?_)
  · refine fb_aload_n (pc := 11) dX8_arg_11 0 rfl ?_
    refine fb_bnE h (fun q12 e12 h => fb_gdE h (fun s12 h => ?_))
    refine fb_getR (pc := 12) dX8_arg_12 lkX8_58 ha0.1 ha0.2 (by decide) e12 ?_
    refine fb_aload_n (pc := 15) dX8_arg_15 0 rfl ?_
    refine fb_getI (pc := 16) dX8_arg_16 lkX8_136 ha0.1 ha0.2 rfl ?_
    refine fb_iload_n (pc := 19) dX8_arg_19 1 rfl ?_
    refine fb_gdE h (fun i20 h => ?_)
    refine fb_iast (pc := 20) dX8_arg_20 s12.1 (fb_eta s12.2) i20 ?_
    refine fb_aload_n (pc := 21) dX8_arg_21 0 rfl ?_
    refine fb_dup (pc := 22) dX8_arg_22 rfl ?_
    refine fb_getI (pc := 23) dX8_arg_23 lkX8_136 ha0.1 ha0.2 rfl ?_
    refine fb_iconst (pc := 26) (v := 1) dX8_arg_26 fb_ki_1 ?_
    refine fb_iadd (pc := 27) dX8_arg_27 ?_
    refine fb_putI (pc := 28) dX8_arg_28 lkX8_136 ly_8_8 ha0.1 ha0.2 rfl rfl rfl ?_
    refine fb_iconst (pc := 31) (v := 1) dX8_arg_31 fb_ki_1 ?_
    exact fb_zretM (pc := 32) rfl h dX8_arg_32
  · refine fb_iconst (pc := 9) (v := 0) dX8_arg_9 fb_ki_0 ?_
    exact fb_zretM (pc := 10) rfl h dX8_arg_10

theorem dX7_count_0 : decode cX7_count 0 = .ok (.aload_n 0, 1) := by decide +kernel
theorem dX7_count_1 : decode cX7_count 1 = .ok (.getfield 16, 3) := by decide +kernel
theorem dX7_count_4 : decode cX7_count 4 = .ok (.ireturn, 1) := by decide +kernel
def fX7_count (u : fb_M) (a0 : Nat) : Option Int32 :=
 (some (fb_I u a0 1))
set_option maxRecDepth 100000 in
set_option maxHeartbeats 4000000 in
theorem mX7_count (g : fb_G) (u : fb_M) (a0 : Nat) (ha0 : a0 < fb_NT ∧ fb_sh a0 = (7, 2)) {res : Int32} (h : fX7_count u a0 = some res) : fb_Runs g 0 0 0 0 fb_NT fb_NT yX7_count cX7_count 1 (some .int) [.ref (fb_b g + a0)] u (some (.int res)) u := by
  unfold fX7_count at h
  refine fb_enter (by decide) (Nat.le_of_ble_eq_true rfl) ?_
  show fb_V g RX7 cX7_count 1 (some .int) "count" (fb_room 0 0 0 0) (fb_Qm g (some (.int res)) fb_NT u 0 0) 0 0 fb_NT u 0 [(0, .ref (fb_b g + a0))] []
  refine fb_aload_n (pc := 0) dX7_count_0 0 rfl ?_
  refine fb_getI (pc := 1) dX7_count_1 lkX7_16 ha0.1 ha0.2 rfl ?_
  exact fb_iretR (pc := 4) h dX7_count_4

theorem dX7_at_0 : decode cX7_at 0 = .ok (.aload_n 0, 1) := by decide +kernel
theorem dX7_at_1 : decode cX7_at 1 = .ok (.getfield 11, 3) := by decide +kernel
theorem dX7_at_4 : decode cX7_at 4 = .ok (.iload_n 1, 1) := by decide +kernel
theorem dX7_at_5 : decode cX7_at 5 = .ok (.aaload, 1) := by decide +kernel
theorem dX7_at_6 : decode cX7_at 6 = .ok (.areturn, 1) := by decide +kernel
def fX7_at (u : fb_M) (a0 : Nat) (x1 : Int32) : Option Nat :=
 ((fb_R u a0 0).bind fun q1 => fb_gd (q1 < fb_NT ∧ (fb_sh q1).1 = 106) 
  ((fb_gd (¬ (x1 < 0 ∨ (fb_sh q1).2 ≤ x1.toNatClampNeg)) 
  ((fb_R u q1 x1.toNatClampNeg).bind fun q5 => fb_gd (q5 < fb_NT ∧ fb_sh q5 = (1, 2)) 
  ((some q5))))))
set_option maxRecDepth 100000 in
set_option maxHeartbeats 4000000 in
theorem mX7_at (g : fb_G) (u : fb_M) (a0 : Nat) (x1 : Int32) (ha0 : a0 < fb_NT ∧ fb_sh a0 = (7, 2)) {res : Nat} (h : fX7_at u a0 x1 = some res) : fb_Runs g 0 0 0 0 fb_NT fb_NT yX7_at cX7_at 2 (some (.object "FinderBook$Entity")) [.ref (fb_b g + a0), .int x1] u (some (.ref (fb_b g + res))) u := by
  unfold fX7_at at h
  refine fb_enter (by decide) (Nat.le_of_ble_eq_true rfl) ?_
  show fb_V g RX7 cX7_at 2 (some (.object "FinderBook$Entity")) "at" (fb_room 0 0 0 0) (fb_Qm g (some (.ref (fb_b g + res))) fb_NT u 0 0) 0 0 fb_NT u 0 [(0, .ref (fb_b g + a0)), (1, .int x1)] []
  refine fb_aload_n (pc := 0) dX7_at_0 0 rfl ?_
  refine fb_bnE h (fun q1 e1 h => fb_gdE h (fun s1 h => ?_))
  refine fb_getR (pc := 1) dX7_at_1 lkX7_11 ha0.1 ha0.2 (by decide) e1 ?_
  refine fb_iload_n (pc := 4) dX7_at_4 1 rfl ?_
  refine fb_gdE h (fun i5 h => fb_bnE h (fun q5 e5 h => fb_gdE h (fun s5 h => ?_)))
  refine fb_aald (pc := 5) (t := 6) dX7_at_5 s1.1 (fb_eta s1.2) ⟨by decide, by decide, rfl⟩ i5 e5 ?_
  exact fb_aretR (pc := 6) h dX7_at_6

theorem dX2_argumentAt_0 : decode cX2_argumentAt 0 = .ok (.iload_n 1, 1) := by decide +kernel
theorem dX2_argumentAt_1 : decode cX2_argumentAt 1 = .ok (.aload_n 0, 1) := by decide +kernel
theorem dX2_argumentAt_2 : decode cX2_argumentAt 2 = .ok (.arraylength, 1) := by decide +kernel
theorem dX2_argumentAt_3 : decode cX2_argumentAt 3 = .ok (.if_icmp .ge 9, 3) := by decide +kernel
theorem dX2_argumentAt_6 : decode cX2_argumentAt 6 = .ok (.aload_n 0, 1) := by decide +kernel
theorem dX2_argumentAt_7 : decode cX2_argumentAt 7 = .ok (.iload_n 1, 1) := by decide +kernel
theorem dX2_argumentAt_8 : decode cX2_argumentAt 8 = .ok (.iaload, 1) := by decide +kernel
theorem dX2_argumentAt_9 : decode cX2_argumentAt 9 = .ok (.goto 4, 3) := by decide +kernel
theorem dX2_argumentAt_12 : decode cX2_argumentAt 12 = .ok (.iconst 0, 1) := by decide +kernel
theorem dX2_argumentAt_13 : decode cX2_argumentAt 13 = .ok (.ireturn, 1) := by decide +kernel
def fX2_argumentAt (u : fb_M) (a0 : Nat) (x1 : Int32) : Option Int32 :=
 (if (Int32.ofNat (fb_sh a0).2) ≤ x1 then (some 0)
  else (fb_gd (¬ (x1 < 0 ∨ (fb_sh a0).2 ≤ x1.toNatClampNeg)) 
   (some (fb_I u a0 x1.toNatClampNeg))))
set_option maxRecDepth 100000 in
set_option maxHeartbeats 4000000 in
theorem mX2_argumentAt (g : fb_G) (u : fb_M) (a0 : Nat) (x1 : Int32) (ha0 : a0 < fb_NT ∧ (fb_sh a0).1 = 100) {res : Int32} (h : fX2_argumentAt u a0 x1 = some res) : fb_Runs g 0 0 0 0 fb_NT fb_NT yX2_argumentAt cX2_argumentAt 2 (some .int) [.ref (fb_b g + a0), .int x1] u (some (.int res)) u := by
  unfold fX2_argumentAt at h
  refine fb_enter (by decide) (Nat.le_of_ble_eq_true rfl) ?_
  show fb_V g RX2 cX2_argumentAt 2 (some .int) "argumentAt" (fb_room 0 0 0 0) (fb_Qm g (some (.int res)) fb_NT u 0 0) 0 0 fb_NT u 0 [(0, .ref (fb_b g + a0)), (1, .int x1)] []
  refine fb_iload_n (pc := 0) dX2_argumentAt_0 1 rfl ?_
  refine fb_aload_n (pc := 1) dX2_argumentAt_1 0 rfl ?_
  refine fb_alen (pc := 2) (t := 0) dX2_argumentAt_2 ha0.1 (fb_eta ha0.2) (by decide) ?_
  refine fb_icmp_ge (pc := 3) (tgt := 12) h dX2_argumentAt_3 (by decide) (fun h => ?_) (fun h => ?_)
  · refine fb_iconst (pc := 12) (v := 0) dX2_argumentAt_12 fb_ki_0 ?_
    exact fb_iretR (pc := 13) h dX2_argumentAt_13
  · refine fb_aload_n (pc := 6) dX2_argumentAt_6 0 rfl ?_
    refine fb_iload_n (pc := 7) dX2_argumentAt_7 1 rfl ?_
    refine fb_gdE h (fun i8 h => ?_)
    refine fb_iald (pc := 8) dX2_argumentAt_8 ha0.1 (fb_eta ha0.2) i8 ?_
    refine fb_goto (pc := 9) (tgt := 13) dX2_argumentAt_9 (by decide) ?_
    exact fb_iretR (pc := 13) h dX2_argumentAt_13

theorem dX10_holds_0 : decode cX10_holds 0 = .ok (.lload_n 1, 1) := by decide +kernel
theorem dX10_holds_1 : decode cX10_holds 1 = .ok (.ldc2_w 53, 3) := by decide +kernel
theorem dX10_holds_4 : decode cX10_holds 4 = .ok (.lcmp, 1) := by decide +kernel
theorem dX10_holds_5 : decode cX10_holds 5 = .ok (.ifCond .ne 15, 3) := by decide +kernel
theorem dX10_holds_8 : decode cX10_holds 8 = .ok (.iload_n 0, 1) := by decide +kernel
theorem dX10_holds_9 : decode cX10_holds 9 = .ok (.bipush 7, 2) := by decide +kernel
theorem dX10_holds_11 : decode cX10_holds 11 = .ok (.if_icmp .ne 7, 3) := by decide +kernel
theorem dX10_holds_14 : decode cX10_holds 14 = .ok (.iconst 1, 1) := by decide +kernel
theorem dX10_holds_15 : decode cX10_holds 15 = .ok (.goto 4, 3) := by decide +kernel
theorem dX10_holds_18 : decode cX10_holds 18 = .ok (.iconst 0, 1) := by decide +kernel
theorem dX10_holds_19 : decode cX10_holds 19 = .ok (.ireturn, 1) := by decide +kernel
theorem dX10_holds_20 : decode cX10_holds 20 = .ok (.iload_n 0, 1) := by decide +kernel
theorem dX10_holds_21 : decode cX10_holds 21 = .ok (.tableswitch 184 0 10 #[59, 72, 85, 98, 111, 124, 137, 184, 158, 160, 172], 59) := by decide +kernel
theorem dX10_holds_80 : decode cX10_holds 80 = .ok (.lload_n 1, 1) := by decide +kernel
theorem dX10_holds_81 : decode cX10_holds 81 = .ok (.iload_n 3, 1) := by decide +kernel
theorem dX10_holds_82 : decode cX10_holds 82 = .ok (.i2l, 1) := by decide +kernel
theorem dX10_holds_83 : decode cX10_holds 83 = .ok (.lcmp, 1) := by decide +kernel
theorem dX10_holds_84 : decode cX10_holds 84 = .ok (.ifCond .ne 7, 3) := by decide +kernel
theorem dX10_holds_87 : decode cX10_holds 87 = .ok (.iconst 1, 1) := by decide +kernel
theorem dX10_holds_88 : decode cX10_holds 88 = .ok (.goto 4, 3) := by decide +kernel
theorem dX10_holds_91 : decode cX10_holds 91 = .ok (.iconst 0, 1) := by decide +kernel
theorem dX10_holds_92 : decode cX10_holds 92 = .ok (.ireturn, 1) := by decide +kernel
theorem dX10_holds_93 : decode cX10_holds 93 = .ok (.lload_n 1, 1) := by decide +kernel
theorem dX10_holds_94 : decode cX10_holds 94 = .ok (.iload_n 3, 1) := by decide +kernel
theorem dX10_holds_95 : decode cX10_holds 95 = .ok (.i2l, 1) := by decide +kernel
theorem dX10_holds_96 : decode cX10_holds 96 = .ok (.lcmp, 1) := by decide +kernel
theorem dX10_holds_97 : decode cX10_holds 97 = .ok (.ifCond .eq 7, 3) := by decide +kernel
theorem dX10_holds_100 : decode cX10_holds 100 = .ok (.iconst 1, 1) := by decide +kernel
theorem dX10_holds_101 : decode cX10_holds 101 = .ok (.goto 4, 3) := by decide +kernel
theorem dX10_holds_104 : decode cX10_holds 104 = .ok (.iconst 0, 1) := by decide +kernel
theorem dX10_holds_105 : decode cX10_holds 105 = .ok (.ireturn, 1) := by decide +kernel
theorem dX10_holds_106 : decode cX10_holds 106 = .ok (.lload_n 1, 1) := by decide +kernel
theorem dX10_holds_107 : decode cX10_holds 107 = .ok (.iload_n 3, 1) := by decide +kernel
theorem dX10_holds_108 : decode cX10_holds 108 = .ok (.i2l, 1) := by decide +kernel
theorem dX10_holds_109 : decode cX10_holds 109 = .ok (.lcmp, 1) := by decide +kernel
theorem dX10_holds_110 : decode cX10_holds 110 = .ok (.ifCond .ge 7, 3) := by decide +kernel
theorem dX10_holds_113 : decode cX10_holds 113 = .ok (.iconst 1, 1) := by decide +kernel
theorem dX10_holds_114 : decode cX10_holds 114 = .ok (.goto 4, 3) := by decide +kernel
theorem dX10_holds_117 : decode cX10_holds 117 = .ok (.iconst 0, 1) := by decide +kernel
theorem dX10_holds_118 : decode cX10_holds 118 = .ok (.ireturn, 1) := by decide +kernel
theorem dX10_holds_119 : decode cX10_holds 119 = .ok (.lload_n 1, 1) := by decide +kernel
theorem dX10_holds_120 : decode cX10_holds 120 = .ok (.iload_n 3, 1) := by decide +kernel
theorem dX10_holds_121 : decode cX10_holds 121 = .ok (.i2l, 1) := by decide +kernel
theorem dX10_holds_122 : decode cX10_holds 122 = .ok (.lcmp, 1) := by decide +kernel
theorem dX10_holds_123 : decode cX10_holds 123 = .ok (.ifCond .gt 7, 3) := by decide +kernel
theorem dX10_holds_126 : decode cX10_holds 126 = .ok (.iconst 1, 1) := by decide +kernel
theorem dX10_holds_127 : decode cX10_holds 127 = .ok (.goto 4, 3) := by decide +kernel
theorem dX10_holds_130 : decode cX10_holds 130 = .ok (.iconst 0, 1) := by decide +kernel
theorem dX10_holds_131 : decode cX10_holds 131 = .ok (.ireturn, 1) := by decide +kernel
theorem dX10_holds_132 : decode cX10_holds 132 = .ok (.lload_n 1, 1) := by decide +kernel
theorem dX10_holds_133 : decode cX10_holds 133 = .ok (.iload_n 3, 1) := by decide +kernel
theorem dX10_holds_134 : decode cX10_holds 134 = .ok (.i2l, 1) := by decide +kernel
theorem dX10_holds_135 : decode cX10_holds 135 = .ok (.lcmp, 1) := by decide +kernel
theorem dX10_holds_136 : decode cX10_holds 136 = .ok (.ifCond .le 7, 3) := by decide +kernel
theorem dX10_holds_139 : decode cX10_holds 139 = .ok (.iconst 1, 1) := by decide +kernel
theorem dX10_holds_140 : decode cX10_holds 140 = .ok (.goto 4, 3) := by decide +kernel
theorem dX10_holds_143 : decode cX10_holds 143 = .ok (.iconst 0, 1) := by decide +kernel
theorem dX10_holds_144 : decode cX10_holds 144 = .ok (.ireturn, 1) := by decide +kernel
theorem dX10_holds_145 : decode cX10_holds 145 = .ok (.lload_n 1, 1) := by decide +kernel
theorem dX10_holds_146 : decode cX10_holds 146 = .ok (.iload_n 3, 1) := by decide +kernel
theorem dX10_holds_147 : decode cX10_holds 147 = .ok (.i2l, 1) := by decide +kernel
theorem dX10_holds_148 : decode cX10_holds 148 = .ok (.lcmp, 1) := by decide +kernel
theorem dX10_holds_149 : decode cX10_holds 149 = .ok (.ifCond .lt 7, 3) := by decide +kernel
theorem dX10_holds_152 : decode cX10_holds 152 = .ok (.iconst 1, 1) := by decide +kernel
theorem dX10_holds_153 : decode cX10_holds 153 = .ok (.goto 4, 3) := by decide +kernel
theorem dX10_holds_156 : decode cX10_holds 156 = .ok (.iconst 0, 1) := by decide +kernel
theorem dX10_holds_157 : decode cX10_holds 157 = .ok (.ireturn, 1) := by decide +kernel
theorem dX10_holds_158 : decode cX10_holds 158 = .ok (.iload_n 3, 1) := by decide +kernel
theorem dX10_holds_159 : decode cX10_holds 159 = .ok (.i2l, 1) := by decide +kernel
theorem dX10_holds_160 : decode cX10_holds 160 = .ok (.lload_n 1, 1) := by decide +kernel
theorem dX10_holds_161 : decode cX10_holds 161 = .ok (.lcmp, 1) := by decide +kernel
theorem dX10_holds_162 : decode cX10_holds 162 = .ok (.ifCond .gt 15, 3) := by decide +kernel
theorem dX10_holds_165 : decode cX10_holds 165 = .ok (.lload_n 1, 1) := by decide +kernel
theorem dX10_holds_166 : decode cX10_holds 166 = .ok (.iload 4, 2) := by decide +kernel
theorem dX10_holds_168 : decode cX10_holds 168 = .ok (.i2l, 1) := by decide +kernel
theorem dX10_holds_169 : decode cX10_holds 169 = .ok (.lcmp, 1) := by decide +kernel
theorem dX10_holds_170 : decode cX10_holds 170 = .ok (.ifCond .gt 7, 3) := by decide +kernel
theorem dX10_holds_173 : decode cX10_holds 173 = .ok (.iconst 1, 1) := by decide +kernel
theorem dX10_holds_174 : decode cX10_holds 174 = .ok (.goto 4, 3) := by decide +kernel
theorem dX10_holds_177 : decode cX10_holds 177 = .ok (.iconst 0, 1) := by decide +kernel
theorem dX10_holds_178 : decode cX10_holds 178 = .ok (.ireturn, 1) := by decide +kernel
theorem dX10_holds_179 : decode cX10_holds 179 = .ok (.iconst 1, 1) := by decide +kernel
theorem dX10_holds_180 : decode cX10_holds 180 = .ok (.ireturn, 1) := by decide +kernel
theorem dX10_holds_181 : decode cX10_holds 181 = .ok (.lload_n 1, 1) := by decide +kernel
theorem dX10_holds_182 : decode cX10_holds 182 = .ok (.lconst 0, 1) := by decide +kernel
theorem dX10_holds_183 : decode cX10_holds 183 = .ok (.lcmp, 1) := by decide +kernel
theorem dX10_holds_184 : decode cX10_holds 184 = .ok (.ifCond .eq 7, 3) := by decide +kernel
theorem dX10_holds_187 : decode cX10_holds 187 = .ok (.iconst 1, 1) := by decide +kernel
theorem dX10_holds_188 : decode cX10_holds 188 = .ok (.goto 4, 3) := by decide +kernel
theorem dX10_holds_191 : decode cX10_holds 191 = .ok (.iconst 0, 1) := by decide +kernel
theorem dX10_holds_192 : decode cX10_holds 192 = .ok (.ireturn, 1) := by decide +kernel
theorem dX10_holds_193 : decode cX10_holds 193 = .ok (.lload_n 1, 1) := by decide +kernel
theorem dX10_holds_194 : decode cX10_holds 194 = .ok (.lconst 0, 1) := by decide +kernel
theorem dX10_holds_195 : decode cX10_holds 195 = .ok (.lcmp, 1) := by decide +kernel
theorem dX10_holds_196 : decode cX10_holds 196 = .ok (.ifCond .ne 7, 3) := by decide +kernel
theorem dX10_holds_199 : decode cX10_holds 199 = .ok (.iconst 1, 1) := by decide +kernel
theorem dX10_holds_200 : decode cX10_holds 200 = .ok (.goto 4, 3) := by decide +kernel
theorem dX10_holds_203 : decode cX10_holds 203 = .ok (.iconst 0, 1) := by decide +kernel
theorem dX10_holds_204 : decode cX10_holds 204 = .ok (.ireturn, 1) := by decide +kernel
theorem dX10_holds_205 : decode cX10_holds 205 = .ok (.iconst 0, 1) := by decide +kernel
theorem dX10_holds_206 : decode cX10_holds 206 = .ok (.ireturn, 1) := by decide +kernel
def fX10_holds (u : fb_M) (x0 : Int32) (y1 : Int64) (x3 : Int32) (x4 : Int32) : Option Int32 :=
 (if (lg_cmp y1 3000000000) = 0 then (if x0 = 7 then (some 1)
   else (some 0))
  else (if x0 = 0 then (if (lg_cmp y1 ((x3).toInt64)) = 0 then (some 1)
    else (some 0))
   else (if x0 = 1 then (if (lg_cmp y1 ((x3).toInt64)) = 0 then (some 0)
    else (some 1))
   else (if x0 = 2 then (if 0 ≤ (lg_cmp y1 ((x3).toInt64)) then (some 0)
    else (some 1))
   else (if x0 = 3 then (if 0 < (lg_cmp y1 ((x3).toInt64)) then (some 0)
    else (some 1))
   else (if x0 = 4 then (if (lg_cmp y1 ((x3).toInt64)) ≤ 0 then (some 0)
    else (some 1))
   else (if x0 = 5 then (if (lg_cmp y1 ((x3).toInt64)) < 0 then (some 0)
    else (some 1))
   else (if x0 = 6 then (if 0 < (lg_cmp ((x3).toInt64) y1) then (some 0)
    else (if 0 < (lg_cmp y1 ((x4).toInt64)) then (some 0)
     else (some 1)))
   else (if x0 = 7 then (some 0)
   else (if x0 = 8 then (some 1)
   else (if x0 = 9 then (if (lg_cmp y1 0) = 0 then (some 0)
    else (some 1))
   else (if x0 = 10 then (if (lg_cmp y1 0) = 0 then (some 1)
    else (some 0))
   else (some 0)))))))))))))
set_option maxRecDepth 100000 in
set_option maxHeartbeats 4000000 in
theorem mX10_holds (g : fb_G) (u : fb_M) (x0 : Int32) (y1 : Int64) (x3 : Int32) (x4 : Int32) {res : Int32} (h : fX10_holds u x0 y1 x3 x4 = some res) : fb_Runs g 0 0 0 0 fb_NT fb_NT yX10_holds cX10_holds 5 (some .boolean) [.int x0, .long y1, .int x3, .int x4] u (some (.int res)) u := by
  unfold fX10_holds at h
  refine fb_enter (by decide) (Nat.le_of_ble_eq_true rfl) ?_
  show fb_V g RX10 cX10_holds 5 (some .boolean) "holds" (fb_room 0 0 0 0) (fb_Qm g (some (.int res)) fb_NT u 0 0) 0 0 fb_NT u 0 [(0, .int x0), (1, .long y1), (3, .int x3), (4, .int x4)] []
  refine fb_lload_n (pc := 0) dX10_holds_0 1 rfl ?_
  refine fb_ldc2 (pc := 1) (v := 3000000000) dX10_holds_1 lwX10_53 ?_
  refine fb_lcmp (pc := 4) dX10_holds_4 ?_
  refine fb_if_ne (pc := 5) (tgt := 20) h dX10_holds_5 (by decide) (fun h => ?_) (fun h => ?_)
  · refine fb_iload_n (pc := 20) dX10_holds_20 0 rfl ?_
    refine fb_ifE h (fun c21_0 h => ?_) (fun c21_0 h => ?_)
    · refine fb_tabIn (pc := 21) (v := 0) (tgt := 80) c21_0 dX10_holds_21 (by decide) (by decide) rfl (by decide) ?_
      refine fb_lload_n (pc := 80) dX10_holds_80 1 rfl ?_
      refine fb_iload_n (pc := 81) dX10_holds_81 2 rfl ?_
      refine fb_i2l (pc := 82) dX10_holds_82 ?_
      refine fb_lcmp (pc := 83) dX10_holds_83 ?_
      refine fb_if_ne (pc := 84) (tgt := 91) h dX10_holds_84 (by decide) (fun h => ?_) (fun h => ?_)
      · refine fb_iconst (pc := 91) (v := 0) dX10_holds_91 fb_ki_0 ?_
        exact fb_zretR (pc := 92) rfl h dX10_holds_92
      · refine fb_iconst (pc := 87) (v := 1) dX10_holds_87 fb_ki_1 ?_
        refine fb_goto (pc := 88) (tgt := 92) dX10_holds_88 (by decide) ?_
        exact fb_zretR (pc := 92) rfl h dX10_holds_92
    refine fb_ifE h (fun c21_1 h => ?_) (fun c21_1 h => ?_)
    · refine fb_tabIn (pc := 21) (v := 1) (tgt := 93) c21_1 dX10_holds_21 (by decide) (by decide) rfl (by decide) ?_
      refine fb_lload_n (pc := 93) dX10_holds_93 1 rfl ?_
      refine fb_iload_n (pc := 94) dX10_holds_94 2 rfl ?_
      refine fb_i2l (pc := 95) dX10_holds_95 ?_
      refine fb_lcmp (pc := 96) dX10_holds_96 ?_
      refine fb_if_eq (pc := 97) (tgt := 104) h dX10_holds_97 (by decide) (fun h => ?_) (fun h => ?_)
      · refine fb_iconst (pc := 104) (v := 0) dX10_holds_104 fb_ki_0 ?_
        exact fb_zretR (pc := 105) rfl h dX10_holds_105
      · refine fb_iconst (pc := 100) (v := 1) dX10_holds_100 fb_ki_1 ?_
        refine fb_goto (pc := 101) (tgt := 105) dX10_holds_101 (by decide) ?_
        exact fb_zretR (pc := 105) rfl h dX10_holds_105
    refine fb_ifE h (fun c21_2 h => ?_) (fun c21_2 h => ?_)
    · refine fb_tabIn (pc := 21) (v := 2) (tgt := 106) c21_2 dX10_holds_21 (by decide) (by decide) rfl (by decide) ?_
      refine fb_lload_n (pc := 106) dX10_holds_106 1 rfl ?_
      refine fb_iload_n (pc := 107) dX10_holds_107 2 rfl ?_
      refine fb_i2l (pc := 108) dX10_holds_108 ?_
      refine fb_lcmp (pc := 109) dX10_holds_109 ?_
      refine fb_if_ge (pc := 110) (tgt := 117) h dX10_holds_110 (by decide) (fun h => ?_) (fun h => ?_)
      · refine fb_iconst (pc := 117) (v := 0) dX10_holds_117 fb_ki_0 ?_
        exact fb_zretR (pc := 118) rfl h dX10_holds_118
      · refine fb_iconst (pc := 113) (v := 1) dX10_holds_113 fb_ki_1 ?_
        refine fb_goto (pc := 114) (tgt := 118) dX10_holds_114 (by decide) ?_
        exact fb_zretR (pc := 118) rfl h dX10_holds_118
    refine fb_ifE h (fun c21_3 h => ?_) (fun c21_3 h => ?_)
    · refine fb_tabIn (pc := 21) (v := 3) (tgt := 119) c21_3 dX10_holds_21 (by decide) (by decide) rfl (by decide) ?_
      refine fb_lload_n (pc := 119) dX10_holds_119 1 rfl ?_
      refine fb_iload_n (pc := 120) dX10_holds_120 2 rfl ?_
      refine fb_i2l (pc := 121) dX10_holds_121 ?_
      refine fb_lcmp (pc := 122) dX10_holds_122 ?_
      refine fb_if_gt (pc := 123) (tgt := 130) h dX10_holds_123 (by decide) (fun h => ?_) (fun h => ?_)
      · refine fb_iconst (pc := 130) (v := 0) dX10_holds_130 fb_ki_0 ?_
        exact fb_zretR (pc := 131) rfl h dX10_holds_131
      · refine fb_iconst (pc := 126) (v := 1) dX10_holds_126 fb_ki_1 ?_
        refine fb_goto (pc := 127) (tgt := 131) dX10_holds_127 (by decide) ?_
        exact fb_zretR (pc := 131) rfl h dX10_holds_131
    refine fb_ifE h (fun c21_4 h => ?_) (fun c21_4 h => ?_)
    · refine fb_tabIn (pc := 21) (v := 4) (tgt := 132) c21_4 dX10_holds_21 (by decide) (by decide) rfl (by decide) ?_
      refine fb_lload_n (pc := 132) dX10_holds_132 1 rfl ?_
      refine fb_iload_n (pc := 133) dX10_holds_133 2 rfl ?_
      refine fb_i2l (pc := 134) dX10_holds_134 ?_
      refine fb_lcmp (pc := 135) dX10_holds_135 ?_
      refine fb_if_le (pc := 136) (tgt := 143) h dX10_holds_136 (by decide) (fun h => ?_) (fun h => ?_)
      · refine fb_iconst (pc := 143) (v := 0) dX10_holds_143 fb_ki_0 ?_
        exact fb_zretR (pc := 144) rfl h dX10_holds_144
      · refine fb_iconst (pc := 139) (v := 1) dX10_holds_139 fb_ki_1 ?_
        refine fb_goto (pc := 140) (tgt := 144) dX10_holds_140 (by decide) ?_
        exact fb_zretR (pc := 144) rfl h dX10_holds_144
    refine fb_ifE h (fun c21_5 h => ?_) (fun c21_5 h => ?_)
    · refine fb_tabIn (pc := 21) (v := 5) (tgt := 145) c21_5 dX10_holds_21 (by decide) (by decide) rfl (by decide) ?_
      refine fb_lload_n (pc := 145) dX10_holds_145 1 rfl ?_
      refine fb_iload_n (pc := 146) dX10_holds_146 2 rfl ?_
      refine fb_i2l (pc := 147) dX10_holds_147 ?_
      refine fb_lcmp (pc := 148) dX10_holds_148 ?_
      refine fb_if_lt (pc := 149) (tgt := 156) h dX10_holds_149 (by decide) (fun h => ?_) (fun h => ?_)
      · refine fb_iconst (pc := 156) (v := 0) dX10_holds_156 fb_ki_0 ?_
        exact fb_zretR (pc := 157) rfl h dX10_holds_157
      · refine fb_iconst (pc := 152) (v := 1) dX10_holds_152 fb_ki_1 ?_
        refine fb_goto (pc := 153) (tgt := 157) dX10_holds_153 (by decide) ?_
        exact fb_zretR (pc := 157) rfl h dX10_holds_157
    refine fb_ifE h (fun c21_6 h => ?_) (fun c21_6 h => ?_)
    · refine fb_tabIn (pc := 21) (v := 6) (tgt := 158) c21_6 dX10_holds_21 (by decide) (by decide) rfl (by decide) ?_
      refine fb_iload_n (pc := 158) dX10_holds_158 2 rfl ?_
      refine fb_i2l (pc := 159) dX10_holds_159 ?_
      refine fb_lload_n (pc := 160) dX10_holds_160 1 rfl ?_
      refine fb_lcmp (pc := 161) dX10_holds_161 ?_
      refine fb_if_gt (pc := 162) (tgt := 177) h dX10_holds_162 (by decide) (fun h => ?_) (fun h => ?_)
      · refine fb_iconst (pc := 177) (v := 0) dX10_holds_177 fb_ki_0 ?_
        exact fb_zretR (pc := 178) rfl h dX10_holds_178
      · refine fb_lload_n (pc := 165) dX10_holds_165 1 rfl ?_
        refine fb_iload (pc := 166) dX10_holds_166 3 rfl ?_
        refine fb_i2l (pc := 168) dX10_holds_168 ?_
        refine fb_lcmp (pc := 169) dX10_holds_169 ?_
        refine fb_if_gt (pc := 170) (tgt := 177) h dX10_holds_170 (by decide) (fun h => ?_) (fun h => ?_)
        · refine fb_iconst (pc := 177) (v := 0) dX10_holds_177 fb_ki_0 ?_
          exact fb_zretR (pc := 178) rfl h dX10_holds_178
        · refine fb_iconst (pc := 173) (v := 1) dX10_holds_173 fb_ki_1 ?_
          refine fb_goto (pc := 174) (tgt := 178) dX10_holds_174 (by decide) ?_
          exact fb_zretR (pc := 178) rfl h dX10_holds_178
    refine fb_ifE h (fun c21_7 h => ?_) (fun c21_7 h => ?_)
    · refine fb_tabIn (pc := 21) (v := 7) (tgt := 205) c21_7 dX10_holds_21 (by decide) (by decide) rfl (by decide) ?_
      refine fb_iconst (pc := 205) (v := 0) dX10_holds_205 fb_ki_0 ?_
      exact fb_zretR (pc := 206) rfl h dX10_holds_206
    refine fb_ifE h (fun c21_8 h => ?_) (fun c21_8 h => ?_)
    · refine fb_tabIn (pc := 21) (v := 8) (tgt := 179) c21_8 dX10_holds_21 (by decide) (by decide) rfl (by decide) ?_
      refine fb_iconst (pc := 179) (v := 1) dX10_holds_179 fb_ki_1 ?_
      exact fb_zretR (pc := 180) rfl h dX10_holds_180
    refine fb_ifE h (fun c21_9 h => ?_) (fun c21_9 h => ?_)
    · refine fb_tabIn (pc := 21) (v := 9) (tgt := 181) c21_9 dX10_holds_21 (by decide) (by decide) rfl (by decide) ?_
      refine fb_lload_n (pc := 181) dX10_holds_181 1 rfl ?_
      refine fb_lconst (pc := 182) (v := 0) dX10_holds_182 fb_kl_0 ?_
      refine fb_lcmp (pc := 183) dX10_holds_183 ?_
      refine fb_if_eq (pc := 184) (tgt := 191) h dX10_holds_184 (by decide) (fun h => ?_) (fun h => ?_)
      · refine fb_iconst (pc := 191) (v := 0) dX10_holds_191 fb_ki_0 ?_
        exact fb_zretR (pc := 192) rfl h dX10_holds_192
      · refine fb_iconst (pc := 187) (v := 1) dX10_holds_187 fb_ki_1 ?_
        refine fb_goto (pc := 188) (tgt := 192) dX10_holds_188 (by decide) ?_
        exact fb_zretR (pc := 192) rfl h dX10_holds_192
    refine fb_ifE h (fun c21_10 h => ?_) (fun c21_10 h => ?_)
    · refine fb_tabIn (pc := 21) (v := 10) (tgt := 193) c21_10 dX10_holds_21 (by decide) (by decide) rfl (by decide) ?_
      refine fb_lload_n (pc := 193) dX10_holds_193 1 rfl ?_
      refine fb_lconst (pc := 194) (v := 0) dX10_holds_194 fb_kl_0 ?_
      refine fb_lcmp (pc := 195) dX10_holds_195 ?_
      refine fb_if_ne (pc := 196) (tgt := 203) h dX10_holds_196 (by decide) (fun h => ?_) (fun h => ?_)
      · refine fb_iconst (pc := 203) (v := 0) dX10_holds_203 fb_ki_0 ?_
        exact fb_zretR (pc := 204) rfl h dX10_holds_204
      · refine fb_iconst (pc := 199) (v := 1) dX10_holds_199 fb_ki_1 ?_
        refine fb_goto (pc := 200) (tgt := 204) dX10_holds_200 (by decide) ?_
        exact fb_zretR (pc := 204) rfl h dX10_holds_204
    refine fb_tabOut (pc := 21) (tgt := 205) (by have a0 := lv_neT c21_0 (a := 0) (by decide); have a1 := lv_neT c21_1 (a := 1) (by decide); have a2 := lv_neT c21_2 (a := 2) (by decide); have a3 := lv_neT c21_3 (a := 3) (by decide); have a4 := lv_neT c21_4 (a := 4) (by decide); have a5 := lv_neT c21_5 (a := 5) (by decide); have a6 := lv_neT c21_6 (a := 6) (by decide); have a7 := lv_neT c21_7 (a := 7) (by decide); have a8 := lv_neT c21_8 (a := 8) (by decide); have a9 := lv_neT c21_9 (a := 9) (by decide); have a10 := lv_neT c21_10 (a := 10) (by decide); omega) dX10_holds_21 (by decide) ?_
    refine fb_iconst (pc := 205) (v := 0) dX10_holds_205 fb_ki_0 ?_
    exact fb_zretR (pc := 206) rfl h dX10_holds_206
  · refine fb_iload_n (pc := 8) dX10_holds_8 0 rfl ?_
    refine fb_bipush (pc := 9) (v := 7) dX10_holds_9 fb_kb_7 ?_
    refine fb_icmp_ne (pc := 11) (tgt := 18) h dX10_holds_11 (by decide) (fun h => ?_) (fun h => ?_)
    · refine fb_iconst (pc := 18) (v := 0) dX10_holds_18 fb_ki_0 ?_
      exact fb_zretR (pc := 19) rfl h dX10_holds_19
    · refine fb_iconst (pc := 14) (v := 1) dX10_holds_14 fb_ki_1 ?_
      refine fb_goto (pc := 15) (tgt := 19) dX10_holds_15 (by decide) ?_
      exact fb_zretR (pc := 19) rfl h dX10_holds_19

theorem dX2_fits_0 : decode cX2_fits 0 = .ok (.iconst 1, 1) := by decide +kernel
theorem dX2_fits_1 : decode cX2_fits 1 = .ok (.istore_n 3, 1) := by decide +kernel
theorem dX2_fits_2 : decode cX2_fits 2 = .ok (.iconst 0, 1) := by decide +kernel
theorem dX2_fits_3 : decode cX2_fits 3 = .ok (.istore 4, 2) := by decide +kernel
theorem dX2_fits_5 : decode cX2_fits 5 = .ok (.iconst 0, 1) := by decide +kernel
theorem dX2_fits_6 : decode cX2_fits 6 = .ok (.istore 5, 2) := by decide +kernel
theorem dX2_fits_8 : decode cX2_fits 8 = .ok (.iload 5, 2) := by decide +kernel
theorem dX2_fits_10 : decode cX2_fits 10 = .ok (.aload_n 0, 1) := by decide +kernel
theorem dX2_fits_11 : decode cX2_fits 11 = .ok (.getfield 42, 3) := by decide +kernel
theorem dX2_fits_14 : decode cX2_fits 14 = .ok (.if_icmp .ge 120, 3) := by decide +kernel
theorem dX2_fits_17 : decode cX2_fits 17 = .ok (.iload 5, 2) := by decide +kernel
theorem dX2_fits_19 : decode cX2_fits 19 = .ok (.bipush 6, 2) := by decide +kernel
theorem dX2_fits_21 : decode cX2_fits 21 = .ok (.if_icmp .ge 113, 3) := by decide +kernel
theorem dX2_fits_24 : decode cX2_fits 24 = .ok (.iload 5, 2) := by decide +kernel
theorem dX2_fits_26 : decode cX2_fits 26 = .ok (.ifCond .le 30, 3) := by decide +kernel
theorem dX2_fits_29 : decode cX2_fits 29 = .ok (.aload_n 0, 1) := by decide +kernel
theorem dX2_fits_30 : decode cX2_fits 30 = .ok (.getfield 18, 3) := by decide +kernel
theorem dX2_fits_33 : decode cX2_fits 33 = .ok (.iload 5, 2) := by decide +kernel
theorem dX2_fits_35 : decode cX2_fits 35 = .ok (.iaload, 1) := by decide +kernel
theorem dX2_fits_36 : decode cX2_fits 36 = .ok (.aload_n 0, 1) := by decide +kernel
theorem dX2_fits_37 : decode cX2_fits 37 = .ok (.getfield 18, 3) := by decide +kernel
theorem dX2_fits_40 : decode cX2_fits 40 = .ok (.iload 5, 2) := by decide +kernel
theorem dX2_fits_42 : decode cX2_fits 42 = .ok (.iconst 1, 1) := by decide +kernel
theorem dX2_fits_43 : decode cX2_fits 43 = .ok (.isub, 1) := by decide +kernel
theorem dX2_fits_44 : decode cX2_fits 44 = .ok (.iaload, 1) := by decide +kernel
theorem dX2_fits_45 : decode cX2_fits 45 = .ok (.if_icmp .eq 11, 3) := by decide +kernel
theorem dX2_fits_48 : decode cX2_fits 48 = .ok (.iload_n 3, 1) := by decide +kernel
theorem dX2_fits_49 : decode cX2_fits 49 = .ok (.ifCond .eq 5, 3) := by decide +kernel
theorem dX2_fits_52 : decode cX2_fits 52 = .ok (.iconst 1, 1) := by decide +kernel
theorem dX2_fits_53 : decode cX2_fits 53 = .ok (.ireturn, 1) := by decide +kernel
theorem dX2_fits_54 : decode cX2_fits 54 = .ok (.iconst 1, 1) := by decide +kernel
theorem dX2_fits_55 : decode cX2_fits 55 = .ok (.istore_n 3, 1) := by decide +kernel
theorem dX2_fits_56 : decode cX2_fits 56 = .ok (.aload_n 2, 1) := by decide +kernel
theorem dX2_fits_57 : decode cX2_fits 57 = .ok (.iload 4, 2) := by decide +kernel
theorem dX2_fits_59 : decode cX2_fits 59 = .ok (.invokestatic 56, 3) := by decide +kernel
theorem dX2_fits_62 : decode cX2_fits 62 = .ok (.istore 6, 2) := by decide +kernel
theorem dX2_fits_64 : decode cX2_fits 64 = .ok (.aload_n 2, 1) := by decide +kernel
theorem dX2_fits_65 : decode cX2_fits 65 = .ok (.iload 4, 2) := by decide +kernel
theorem dX2_fits_67 : decode cX2_fits 67 = .ok (.iconst 1, 1) := by decide +kernel
theorem dX2_fits_68 : decode cX2_fits 68 = .ok (.iadd, 1) := by decide +kernel
theorem dX2_fits_69 : decode cX2_fits 69 = .ok (.invokestatic 56, 3) := by decide +kernel
theorem dX2_fits_72 : decode cX2_fits 72 = .ok (.istore 7, 2) := by decide +kernel
theorem dX2_fits_74 : decode cX2_fits 74 = .ok (.iload_n 3, 1) := by decide +kernel
theorem dX2_fits_75 : decode cX2_fits 75 = .ok (.ifCond .eq 36, 3) := by decide +kernel
theorem dX2_fits_78 : decode cX2_fits 78 = .ok (.aload_n 0, 1) := by decide +kernel
theorem dX2_fits_79 : decode cX2_fits 79 = .ok (.getfield 15, 3) := by decide +kernel
theorem dX2_fits_82 : decode cX2_fits 82 = .ok (.iload 5, 2) := by decide +kernel
theorem dX2_fits_84 : decode cX2_fits 84 = .ok (.iaload, 1) := by decide +kernel
theorem dX2_fits_85 : decode cX2_fits 85 = .ok (.aload_n 1, 1) := by decide +kernel
theorem dX2_fits_86 : decode cX2_fits 86 = .ok (.getfield 60, 3) := by decide +kernel
theorem dX2_fits_89 : decode cX2_fits 89 = .ok (.aload_n 0, 1) := by decide +kernel
theorem dX2_fits_90 : decode cX2_fits 90 = .ok (.getfield 11, 3) := by decide +kernel
theorem dX2_fits_93 : decode cX2_fits 93 = .ok (.iload 5, 2) := by decide +kernel
theorem dX2_fits_95 : decode cX2_fits 95 = .ok (.iaload, 1) := by decide +kernel
theorem dX2_fits_96 : decode cX2_fits 96 = .ok (.laload, 1) := by decide +kernel
theorem dX2_fits_97 : decode cX2_fits 97 = .ok (.iload 6, 2) := by decide +kernel
theorem dX2_fits_99 : decode cX2_fits 99 = .ok (.iload 7, 2) := by decide +kernel
theorem dX2_fits_101 : decode cX2_fits 101 = .ok (.invokestatic 66, 3) := by decide +kernel
theorem dX2_fits_104 : decode cX2_fits 104 = .ok (.ifCond .eq 7, 3) := by decide +kernel
theorem dX2_fits_107 : decode cX2_fits 107 = .ok (.iconst 1, 1) := by decide +kernel
theorem dX2_fits_108 : decode cX2_fits 108 = .ok (.goto 4, 3) := by decide +kernel
theorem dX2_fits_111 : decode cX2_fits 111 = .ok (.iconst 0, 1) := by decide +kernel
theorem dX2_fits_112 : decode cX2_fits 112 = .ok (.istore_n 3, 1) := by decide +kernel
theorem dX2_fits_113 : decode cX2_fits 113 = .ok (.iload 4, 2) := by decide +kernel
theorem dX2_fits_115 : decode cX2_fits 115 = .ok (.aload_n 0, 1) := by decide +kernel
theorem dX2_fits_116 : decode cX2_fits 116 = .ok (.getfield 15, 3) := by decide +kernel
theorem dX2_fits_119 : decode cX2_fits 119 = .ok (.iload 5, 2) := by decide +kernel
theorem dX2_fits_121 : decode cX2_fits 121 = .ok (.iaload, 1) := by decide +kernel
theorem dX2_fits_122 : decode cX2_fits 122 = .ok (.invokestatic 51, 3) := by decide +kernel
theorem dX2_fits_125 : decode cX2_fits 125 = .ok (.iadd, 1) := by decide +kernel
theorem dX2_fits_126 : decode cX2_fits 126 = .ok (.istore 4, 2) := by decide +kernel
theorem dX2_fits_128 : decode cX2_fits 128 = .ok (.iinc 5 1, 3) := by decide +kernel
theorem dX2_fits_131 : decode cX2_fits 131 = .ok (.goto (-123), 3) := by decide +kernel
theorem dX2_fits_134 : decode cX2_fits 134 = .ok (.iload_n 3, 1) := by decide +kernel
theorem dX2_fits_135 : decode cX2_fits 135 = .ok (.ireturn, 1) := by decide +kernel
def jX2_fits_112 (K8 : Int32 → Int32 → Int32 → Option Int32) (a0 : Nat) (a1 : Nat) (a2 : Nat) (x4 : Int32) (x5 : Int32) (k0 : Int32) (u : fb_M) : Option Int32 :=
 ((fb_R u a0 8).bind fun q116 => fb_gd (q116 < fb_NT ∧ (fb_sh q116).1 = 100) 
  ((fb_gd (¬ (x5 < 0 ∨ (fb_sh q116).2 ≤ x5.toNatClampNeg)) 
  ((fX10_argumentsTaken u (fb_I u q116 x5.toNatClampNeg)).bind fun r122 => 
  (K8 k0 (x4 + r122) (x5 + 1))))))
set_option maxRecDepth 100000 in
set_option maxHeartbeats 4000000 in
theorem tjX2_fits_112 {g : fb_G} {res : Int32} (a0 : Nat) (a1 : Nat) (a2 : Nat) (x4 : Int32) (x5 : Int32) (k0 : Int32) (u : fb_M) (K8 : Int32 → Int32 → Int32 → Option Int32) (ha0 : a0 < fb_NT ∧ fb_sh a0 = (2, 12)) (ha1 : a1 < fb_NT ∧ fb_sh a1 = (1, 2)) (ha2 : a2 < fb_NT ∧ (fb_sh a2).1 = 100) (hK8 : ∀ (x3 : Int32) (x4 : Int32) (x5 : Int32) ,  K8 x3 x4 x5 = some res → fb_V g RX2 cX2_fits 8 (some .boolean) "fits" (fb_room 1 24 0 0) (fb_Qm g (some (.int res)) fb_NT u 0 0) 0 0 fb_NT u 8 [(0, .ref (fb_b g + a0)), (1, .ref (fb_b g + a1)), (2, .ref (fb_b g + a2)), (3, .int x3), (4, .int x4), (5, .int x5)] []) (h : jX2_fits_112 K8 a0 a1 a2 x4 x5 k0 u = some res) : fb_V g RX2 cX2_fits 8 (some .boolean) "fits" (fb_room 1 24 0 0) (fb_Qm g (some (.int res)) fb_NT u 0 0) 0 0 fb_NT u 112 [(0, .ref (fb_b g + a0)), (1, .ref (fb_b g + a1)), (2, .ref (fb_b g + a2)), (4, .int x4), (5, .int x5)] [.int k0] := by
  unfold jX2_fits_112 at h
  refine fb_istore_n (pc := 112) (lv' := [(3, .int k0), (0, .ref (fb_b g + a0)), (1, .ref (fb_b g + a1)), (2, .ref (fb_b g + a2)), (4, .int x4), (5, .int x5)]) dX2_fits_112 rfl (by decide) rfl ?_
  refine fb_iload (pc := 113) dX2_fits_113 4 rfl ?_
  refine fb_aload_n (pc := 115) dX2_fits_115 1 rfl ?_
  refine fb_bnE h (fun q116 e116 h => fb_gdE h (fun s116 h => ?_))
  refine fb_getR (pc := 116) dX2_fits_116 lkX2_15 ha0.1 ha0.2 (by decide) e116 ?_
  refine fb_iload (pc := 119) dX2_fits_119 5 rfl ?_
  refine fb_gdE h (fun i121 h => ?_)
  refine fb_iald (pc := 121) dX2_fits_121 s116.1 (fb_eta s116.2) i121 ?_
  refine fb_bnE h (fun r122 h122 h => ?_)
  refine fb_cS0v (pc := 122) [.int (fb_I u q116 x5.toNatClampNeg)] dX2_fits_122 (mX10_argumentsTaken g u (fb_I u q116 x5.toNatClampNeg) h122) ymX10_argumentsTaken ysX10_argumentsTaken ylX2_51 rfl (Nat.le_of_ble_eq_true rfl) ⟨Nat.le_of_ble_eq_true rfl, Nat.le_of_ble_eq_true rfl⟩ ⟨Nat.le_of_ble_eq_true rfl, Nat.le_of_ble_eq_true rfl⟩ ?_
  refine fb_iadd (pc := 125) dX2_fits_125 ?_
  refine fb_istore (pc := 126) (lv' := [(4, .int (x4 + r122)), (3, .int k0), (0, .ref (fb_b g + a0)), (1, .ref (fb_b g + a1)), (2, .ref (fb_b g + a2)), (5, .int x5)]) dX2_fits_126 (by decide) rfl ?_
  refine fb_iinc (pc := 128) (v := 1) (lv' := [(5, .int (x5 + 1)), (4, .int (x4 + r122)), (3, .int k0), (0, .ref (fb_b g + a0)), (1, .ref (fb_b g + a1)), (2, .ref (fb_b g + a2))]) dX2_fits_128 5 rfl fb_ki_1 (by decide) rfl ?_
  refine fb_goto (pc := 131) (tgt := 8) dX2_fits_131 (by decide) ?_
  exact fb_sub [3, 4, 5, 2, 1, 0] rfl (hK8 k0 (x4 + r122) (x5 + 1) h)

def jX2_fits_56 (K8 : Int32 → Int32 → Int32 → Option Int32) (a0 : Nat) (a1 : Nat) (a2 : Nat) (x3 : Int32) (x4 : Int32) (x5 : Int32) (u : fb_M) : Option Int32 :=
 ((fX2_argumentAt u a2 x4).bind fun r59 => 
  ((fX2_argumentAt u a2 (x4 + 1)).bind fun r69 => 
  (if x3 = 0 then (jX2_fits_112 K8 a0 a1 a2 x4 x5 0 u)
  else ((fb_R u a0 8).bind fun q79 => fb_gd (q79 < fb_NT ∧ (fb_sh q79).1 = 100) 
   ((fb_gd (¬ (x5 < 0 ∨ (fb_sh q79).2 ≤ x5.toNatClampNeg)) 
   ((fb_R u a1 1).bind fun q86 => fb_gd (q86 < fb_NT ∧ (fb_sh q86).1 = 103) 
   (((fb_R u a0 7).bind fun q90 => fb_gd (q90 < fb_NT ∧ (fb_sh q90).1 = 100) 
   ((fb_gd (¬ (x5 < 0 ∨ (fb_sh q90).2 ≤ x5.toNatClampNeg)) 
   (fb_gd (¬ (fb_I u q90 x5.toNatClampNeg < 0 ∨ (fb_sh q86).2 ≤ (fb_I u q90 x5.toNatClampNeg).toNatClampNeg)) 
   ((fX10_holds u (fb_I u q79 x5.toNatClampNeg) (fb_L u q86 (fb_I u q90 x5.toNatClampNeg).toNatClampNeg) r59 r69).bind fun r101 => 
   (if r101 = 0 then (jX2_fits_112 K8 a0 a1 a2 x4 x5 0 u)
   else (jX2_fits_112 K8 a0 a1 a2 x4 x5 1 u)))))))))))))))
set_option maxRecDepth 100000 in
set_option maxHeartbeats 4000000 in
theorem tjX2_fits_56 {g : fb_G} {res : Int32} (a0 : Nat) (a1 : Nat) (a2 : Nat) (x3 : Int32) (x4 : Int32) (x5 : Int32) (u : fb_M) (K8 : Int32 → Int32 → Int32 → Option Int32) (ha0 : a0 < fb_NT ∧ fb_sh a0 = (2, 12)) (ha1 : a1 < fb_NT ∧ fb_sh a1 = (1, 2)) (ha2 : a2 < fb_NT ∧ (fb_sh a2).1 = 100) (hK8 : ∀ (x3 : Int32) (x4 : Int32) (x5 : Int32) ,  K8 x3 x4 x5 = some res → fb_V g RX2 cX2_fits 8 (some .boolean) "fits" (fb_room 1 24 0 0) (fb_Qm g (some (.int res)) fb_NT u 0 0) 0 0 fb_NT u 8 [(0, .ref (fb_b g + a0)), (1, .ref (fb_b g + a1)), (2, .ref (fb_b g + a2)), (3, .int x3), (4, .int x4), (5, .int x5)] []) (h : jX2_fits_56 K8 a0 a1 a2 x3 x4 x5 u = some res) : fb_V g RX2 cX2_fits 8 (some .boolean) "fits" (fb_room 1 24 0 0) (fb_Qm g (some (.int res)) fb_NT u 0 0) 0 0 fb_NT u 56 [(0, .ref (fb_b g + a0)), (1, .ref (fb_b g + a1)), (2, .ref (fb_b g + a2)), (3, .int x3), (4, .int x4), (5, .int x5)] [] := by
  unfold jX2_fits_56 at h
  refine fb_aload_n (pc := 56) dX2_fits_56 2 rfl ?_
  refine fb_iload (pc := 57) dX2_fits_57 4 rfl ?_
  refine fb_bnE h (fun r59 h59 h => ?_)
  refine fb_cS0v (pc := 59) [.ref (fb_b g + a2), .int x4] dX2_fits_59 (mX2_argumentAt g u a2 x4 ha2 h59) ymX2_argumentAt ysX2_argumentAt ylX2_56 rfl (Nat.le_of_ble_eq_true rfl) ⟨Nat.le_of_ble_eq_true rfl, Nat.le_of_ble_eq_true rfl⟩ ⟨Nat.le_of_ble_eq_true rfl, Nat.le_of_ble_eq_true rfl⟩ ?_
  refine fb_istore (pc := 62) (lv' := [(6, .int r59), (0, .ref (fb_b g + a0)), (1, .ref (fb_b g + a1)), (2, .ref (fb_b g + a2)), (3, .int x3), (4, .int x4), (5, .int x5)]) dX2_fits_62 (by decide) rfl ?_
  refine fb_aload_n (pc := 64) dX2_fits_64 3 rfl ?_
  refine fb_iload (pc := 65) dX2_fits_65 5 rfl ?_
  refine fb_iconst (pc := 67) (v := 1) dX2_fits_67 fb_ki_1 ?_
  refine fb_iadd (pc := 68) dX2_fits_68 ?_
  refine fb_bnE h (fun r69 h69 h => ?_)
  refine fb_cS0v (pc := 69) [.ref (fb_b g + a2), .int (x4 + 1)] dX2_fits_69 (mX2_argumentAt g u a2 (x4 + 1) ha2 h69) ymX2_argumentAt ysX2_argumentAt ylX2_56 rfl (Nat.le_of_ble_eq_true rfl) ⟨Nat.le_of_ble_eq_true rfl, Nat.le_of_ble_eq_true rfl⟩ ⟨Nat.le_of_ble_eq_true rfl, Nat.le_of_ble_eq_true rfl⟩ ?_
  refine fb_istore (pc := 72) (lv' := [(7, .int r69), (6, .int r59), (0, .ref (fb_b g + a0)), (1, .ref (fb_b g + a1)), (2, .ref (fb_b g + a2)), (3, .int x3), (4, .int x4), (5, .int x5)]) dX2_fits_72 (by decide) rfl ?_
  refine fb_iload_n (pc := 74) dX2_fits_74 5 rfl ?_
  refine fb_if_eq (pc := 75) (tgt := 111) h dX2_fits_75 (by decide) (fun h => ?_) (fun h => ?_)
  · refine fb_iconst (pc := 111) (v := 0) dX2_fits_111 fb_ki_0 ?_
    exact fb_sub [2, 3, 4, 6, 7] rfl (tjX2_fits_112 a0 a1 a2 x4 x5 0 u K8 ha0 ha1 ha2 hK8 h)
  · refine fb_aload_n (pc := 78) dX2_fits_78 2 rfl ?_
    refine fb_bnE h (fun q79 e79 h => fb_gdE h (fun s79 h => ?_))
    refine fb_getR (pc := 79) dX2_fits_79 lkX2_15 ha0.1 ha0.2 (by decide) e79 ?_
    refine fb_iload (pc := 82) dX2_fits_82 7 rfl ?_
    refine fb_gdE h (fun i84 h => ?_)
    refine fb_iald (pc := 84) dX2_fits_84 s79.1 (fb_eta s79.2) i84 ?_
    refine fb_aload_n (pc := 85) dX2_fits_85 3 rfl ?_
    refine fb_bnE h (fun q86 e86 h => fb_gdE h (fun s86 h => ?_))
    refine fb_getR (pc := 86) dX2_fits_86 lkX2_60 ha1.1 ha1.2 (by decide) e86 ?_
    refine fb_aload_n (pc := 89) dX2_fits_89 2 rfl ?_
    refine fb_bnE h (fun q90 e90 h => fb_gdE h (fun s90 h => ?_))
    refine fb_getR (pc := 90) dX2_fits_90 lkX2_11 ha0.1 ha0.2 (by decide) e90 ?_
    refine fb_iload (pc := 93) dX2_fits_93 7 rfl ?_
    refine fb_gdE h (fun i95 h => ?_)
    refine fb_iald (pc := 95) dX2_fits_95 s90.1 (fb_eta s90.2) i95 ?_
    refine fb_gdE h (fun i96 h => ?_)
    refine fb_lald (pc := 96) dX2_fits_96 s86.1 (fb_eta s86.2) i96 ?_
    refine fb_iload (pc := 97) dX2_fits_97 1 rfl ?_
    refine fb_iload (pc := 99) dX2_fits_99 0 rfl ?_
    refine fb_bnE h (fun r101 h101 h => ?_)
    refine fb_cS0v (pc := 101) [.int (fb_I u q79 x5.toNatClampNeg), .long (fb_L u q86 (fb_I u q90 x5.toNatClampNeg).toNatClampNeg), .int r59, .int r69] dX2_fits_101 (mX10_holds g u (fb_I u q79 x5.toNatClampNeg) (fb_L u q86 (fb_I u q90 x5.toNatClampNeg).toNatClampNeg) r59 r69 h101) ymX10_holds ysX10_holds ylX2_66 rfl (Nat.le_of_ble_eq_true rfl) ⟨Nat.le_of_ble_eq_true rfl, Nat.le_of_ble_eq_true rfl⟩ ⟨Nat.le_of_ble_eq_true rfl, Nat.le_of_ble_eq_true rfl⟩ ?_
    refine fb_if_eq (pc := 104) (tgt := 111) h dX2_fits_104 (by decide) (fun h => ?_) (fun h => ?_)
    · refine fb_iconst (pc := 111) (v := 0) dX2_fits_111 fb_ki_0 ?_
      exact fb_sub [2, 3, 4, 6, 7] rfl (tjX2_fits_112 a0 a1 a2 x4 x5 0 u K8 ha0 ha1 ha2 hK8 h)
    · refine fb_iconst (pc := 107) (v := 1) dX2_fits_107 fb_ki_1 ?_
      refine fb_goto (pc := 108) (tgt := 112) dX2_fits_108 (by decide) ?_
      exact fb_sub [2, 3, 4, 6, 7] rfl (tjX2_fits_112 a0 a1 a2 x4 x5 1 u K8 ha0 ha1 ha2 hK8 h)

def bX2_fits_8 (K8 : Int32 → Int32 → Int32 → Option Int32) (a0 : Nat) (a1 : Nat) (a2 : Nat) (x3 : Int32) (x4 : Int32) (x5 : Int32) (u : fb_M) : Option Int32 :=
 (if (fb_I u a0 4) ≤ x5 then (fb_gd (x3 = 0 ∨ x3 = 1) 
   (some x3))
  else (if 6 ≤ x5 then (fb_gd (x3 = 0 ∨ x3 = 1) 
    (some x3))
   else (if x5 ≤ 0 then (jX2_fits_56 K8 a0 a1 a2 x3 x4 x5 u)
    else ((fb_R u a0 9).bind fun q30 => fb_gd (q30 < fb_NT ∧ (fb_sh q30).1 = 100) 
     ((fb_gd (¬ (x5 < 0 ∨ (fb_sh q30).2 ≤ x5.toNatClampNeg)) 
     ((fb_R u a0 9).bind fun q37 => fb_gd (q37 < fb_NT ∧ (fb_sh q37).1 = 100) 
     ((fb_gd (¬ (x5 - 1 < 0 ∨ (fb_sh q37).2 ≤ (x5 - 1).toNatClampNeg)) 
     (if (fb_I u q30 x5.toNatClampNeg) = (fb_I u q37 (x5 - 1).toNatClampNeg) then (jX2_fits_56 K8 a0 a1 a2 x3 x4 x5 u)
     else (if x3 = 0 then (jX2_fits_56 K8 a0 a1 a2 1 x4 x5 u)
      else (some 1))))))))))))
def gX2_fits_8 (a0 : Nat) (a1 : Nat) (a2 : Nat) (u : fb_M) : Nat → Int32 → Int32 → Int32 → Option Int32
 | 0 => fun _ _ _ => none
 | fu + 1 => fun x3 x4 x5 => bX2_fits_8 (gX2_fits_8 a0 a1 a2 u fu) a0 a1 a2 x3 x4 x5 u
set_option maxRecDepth 100000 in
set_option maxHeartbeats 4000000 in
theorem tbX2_fits_8 {g : fb_G} {res : Int32} (a0 : Nat) (a1 : Nat) (a2 : Nat) (x3 : Int32) (x4 : Int32) (x5 : Int32) (u : fb_M) (K8 : Int32 → Int32 → Int32 → Option Int32) (ha0 : a0 < fb_NT ∧ fb_sh a0 = (2, 12)) (ha1 : a1 < fb_NT ∧ fb_sh a1 = (1, 2)) (ha2 : a2 < fb_NT ∧ (fb_sh a2).1 = 100) (hK8 : ∀ (x3 : Int32) (x4 : Int32) (x5 : Int32) ,  K8 x3 x4 x5 = some res → fb_V g RX2 cX2_fits 8 (some .boolean) "fits" (fb_room 1 24 0 0) (fb_Qm g (some (.int res)) fb_NT u 0 0) 0 0 fb_NT u 8 [(0, .ref (fb_b g + a0)), (1, .ref (fb_b g + a1)), (2, .ref (fb_b g + a2)), (3, .int x3), (4, .int x4), (5, .int x5)] []) (h : bX2_fits_8 K8 a0 a1 a2 x3 x4 x5 u = some res) : fb_V g RX2 cX2_fits 8 (some .boolean) "fits" (fb_room 1 24 0 0) (fb_Qm g (some (.int res)) fb_NT u 0 0) 0 0 fb_NT u 8 [(0, .ref (fb_b g + a0)), (1, .ref (fb_b g + a1)), (2, .ref (fb_b g + a2)), (3, .int x3), (4, .int x4), (5, .int x5)] [] := by
  unfold bX2_fits_8 at h
  refine fb_iload (pc := 8) dX2_fits_8 5 rfl ?_
  refine fb_aload_n (pc := 10) dX2_fits_10 0 rfl ?_
  refine fb_getI (pc := 11) dX2_fits_11 lkX2_42 ha0.1 ha0.2 rfl ?_
  refine fb_icmp_ge (pc := 14) (tgt := 134) h dX2_fits_14 (by decide) (fun h => ?_) (fun h => ?_)
  · refine fb_iload_n (pc := 134) dX2_fits_134 3 rfl ?_
    refine fb_gdE h (fun z135 h => ?_)
    exact fb_zretR (pc := 135) (fb_nz z135) h dX2_fits_135
  · refine fb_iload (pc := 17) dX2_fits_17 5 rfl ?_
    refine fb_bipush (pc := 19) (v := 6) dX2_fits_19 fb_kb_6 ?_
    refine fb_icmp_ge (pc := 21) (tgt := 134) h dX2_fits_21 (by decide) (fun h => ?_) (fun h => ?_)
    · refine fb_iload_n (pc := 134) dX2_fits_134 3 rfl ?_
      refine fb_gdE h (fun z135 h => ?_)
      exact fb_zretR (pc := 135) (fb_nz z135) h dX2_fits_135
    · refine fb_iload (pc := 24) dX2_fits_24 5 rfl ?_
      refine fb_if_le (pc := 26) (tgt := 56) h dX2_fits_26 (by decide) (fun h => ?_) (fun h => ?_)
      · exact fb_sub [0, 1, 2, 3, 4, 5] rfl (tjX2_fits_56 a0 a1 a2 x3 x4 x5 u K8 ha0 ha1 ha2 hK8 h)
      · refine fb_aload_n (pc := 29) dX2_fits_29 0 rfl ?_
        refine fb_bnE h (fun q30 e30 h => fb_gdE h (fun s30 h => ?_))
        refine fb_getR (pc := 30) dX2_fits_30 lkX2_18 ha0.1 ha0.2 (by decide) e30 ?_
        refine fb_iload (pc := 33) dX2_fits_33 5 rfl ?_
        refine fb_gdE h (fun i35 h => ?_)
        refine fb_iald (pc := 35) dX2_fits_35 s30.1 (fb_eta s30.2) i35 ?_
        refine fb_aload_n (pc := 36) dX2_fits_36 0 rfl ?_
        refine fb_bnE h (fun q37 e37 h => fb_gdE h (fun s37 h => ?_))
        refine fb_getR (pc := 37) dX2_fits_37 lkX2_18 ha0.1 ha0.2 (by decide) e37 ?_
        refine fb_iload (pc := 40) dX2_fits_40 5 rfl ?_
        refine fb_iconst (pc := 42) (v := 1) dX2_fits_42 fb_ki_1 ?_
        refine fb_isub (pc := 43) dX2_fits_43 ?_
        refine fb_gdE h (fun i44 h => ?_)
        refine fb_iald (pc := 44) dX2_fits_44 s37.1 (fb_eta s37.2) i44 ?_
        refine fb_icmp_eq (pc := 45) (tgt := 56) h dX2_fits_45 (by decide) (fun h => ?_) (fun h => ?_)
        · exact fb_sub [0, 1, 2, 3, 4, 5] rfl (tjX2_fits_56 a0 a1 a2 x3 x4 x5 u K8 ha0 ha1 ha2 hK8 h)
        · refine fb_iload_n (pc := 48) dX2_fits_48 3 rfl ?_
          refine fb_if_eq (pc := 49) (tgt := 54) h dX2_fits_49 (by decide) (fun h => ?_) (fun h => ?_)
          · refine fb_iconst (pc := 54) (v := 1) dX2_fits_54 fb_ki_1 ?_
            refine fb_istore_n (pc := 55) (lv' := [(3, .int 1), (0, .ref (fb_b g + a0)), (1, .ref (fb_b g + a1)), (2, .ref (fb_b g + a2)), (4, .int x4), (5, .int x5)]) dX2_fits_55 rfl (by decide) rfl ?_
            exact fb_sub [1, 2, 3, 0, 4, 5] rfl (tjX2_fits_56 a0 a1 a2 1 x4 x5 u K8 ha0 ha1 ha2 hK8 h)
          · refine fb_iconst (pc := 52) (v := 1) dX2_fits_52 fb_ki_1 ?_
            exact fb_zretR (pc := 53) rfl h dX2_fits_53

theorem tgX2_fits_8 {g : fb_G} {res : Int32} (a0 : Nat) (a1 : Nat) (a2 : Nat) (u : fb_M) (ha0 : a0 < fb_NT ∧ fb_sh a0 = (2, 12)) (ha1 : a1 < fb_NT ∧ fb_sh a1 = (1, 2)) (ha2 : a2 < fb_NT ∧ (fb_sh a2).1 = 100) : ∀ (fu : Nat) (x3 : Int32) (x4 : Int32) (x5 : Int32) ,  gX2_fits_8 a0 a1 a2 u fu x3 x4 x5 = some res → fb_V g RX2 cX2_fits 8 (some .boolean) "fits" (fb_room 1 24 0 0) (fb_Qm g (some (.int res)) fb_NT u 0 0) 0 0 fb_NT u 8 [(0, .ref (fb_b g + a0)), (1, .ref (fb_b g + a1)), (2, .ref (fb_b g + a2)), (3, .int x3), (4, .int x4), (5, .int x5)] [] := by
  intro fu
  induction fu with
  | zero => intro x3 x4 x5 h; exact absurd h (by simp [gX2_fits_8])
  | succ fu ih => intro x3 x4 x5 h; exact tbX2_fits_8 a0 a1 a2 x3 x4 x5 u (gX2_fits_8 a0 a1 a2 u fu) ha0 ha1 ha2 ih h
def fX2_fits (u : fb_M) (a0 : Nat) (a1 : Nat) (a2 : Nat) : Option Int32 :=
 (gX2_fits_8 a0 a1 a2 u fb_F 1 0 0)
set_option maxRecDepth 100000 in
set_option maxHeartbeats 4000000 in
theorem mX2_fits (g : fb_G) (u : fb_M) (a0 : Nat) (a1 : Nat) (a2 : Nat) (ha0 : a0 < fb_NT ∧ fb_sh a0 = (2, 12)) (ha1 : a1 < fb_NT ∧ fb_sh a1 = (1, 2)) (ha2 : a2 < fb_NT ∧ (fb_sh a2).1 = 100) {res : Int32} (h : fX2_fits u a0 a1 a2 = some res) : fb_Runs g 1 24 0 0 fb_NT fb_NT yX2_fits cX2_fits 8 (some .boolean) [.ref (fb_b g + a0), .ref (fb_b g + a1), .ref (fb_b g + a2)] u (some (.int res)) u := by
  unfold fX2_fits at h
  refine fb_enter (by decide) (Nat.le_of_ble_eq_true rfl) ?_
  show fb_V g RX2 cX2_fits 8 (some .boolean) "fits" (fb_room 1 24 0 0) (fb_Qm g (some (.int res)) fb_NT u 0 0) 0 0 fb_NT u 0 [(0, .ref (fb_b g + a0)), (1, .ref (fb_b g + a1)), (2, .ref (fb_b g + a2))] []
  refine fb_iconst (pc := 0) (v := 1) dX2_fits_0 fb_ki_1 ?_
  refine fb_istore_n (pc := 1) (lv' := [(3, .int 1), (0, .ref (fb_b g + a0)), (1, .ref (fb_b g + a1)), (2, .ref (fb_b g + a2))]) dX2_fits_1 rfl (by decide) rfl ?_
  refine fb_iconst (pc := 2) (v := 0) dX2_fits_2 fb_ki_0 ?_
  refine fb_istore (pc := 3) (lv' := [(4, .int 0), (3, .int 1), (0, .ref (fb_b g + a0)), (1, .ref (fb_b g + a1)), (2, .ref (fb_b g + a2))]) dX2_fits_3 (by decide) rfl ?_
  refine fb_iconst (pc := 5) (v := 0) dX2_fits_5 fb_ki_0 ?_
  refine fb_istore (pc := 6) (lv' := [(5, .int 0), (4, .int 0), (3, .int 1), (0, .ref (fb_b g + a0)), (1, .ref (fb_b g + a1)), (2, .ref (fb_b g + a2))]) dX2_fits_6 (by decide) rfl ?_
  exact fb_sub [3, 4, 5, 2, 1, 0] rfl (tgX2_fits_8 a0 a1 a2 u ha0 ha1 ha2 fb_F 1 0 0 h)

theorem dX1_sortKey_0 : decode cX1_sortKey 0 = .ok (.aload_n 0, 1) := by decide +kernel
theorem dX1_sortKey_1 : decode cX1_sortKey 1 = .ok (.getfield 11, 3) := by decide +kernel
theorem dX1_sortKey_4 : decode cX1_sortKey 4 = .ok (.iload_n 1, 1) := by decide +kernel
theorem dX1_sortKey_5 : decode cX1_sortKey 5 = .ok (.laload, 1) := by decide +kernel
theorem dX1_sortKey_6 : decode cX1_sortKey 6 = .ok (.ldc2_w 17, 3) := by decide +kernel
theorem dX1_sortKey_9 : decode cX1_sortKey 9 = .ok (.lcmp, 1) := by decide +kernel
theorem dX1_sortKey_10 : decode cX1_sortKey 10 = .ok (.ifCond .ne 9, 3) := by decide +kernel
theorem dX1_sortKey_13 : decode cX1_sortKey 13 = .ok (.ldc2_w 21, 3) := by decide +kernel
theorem dX1_sortKey_16 : decode cX1_sortKey 16 = .ok (.goto 9, 3) := by decide +kernel
theorem dX1_sortKey_19 : decode cX1_sortKey 19 = .ok (.aload_n 0, 1) := by decide +kernel
theorem dX1_sortKey_20 : decode cX1_sortKey 20 = .ok (.getfield 11, 3) := by decide +kernel
theorem dX1_sortKey_23 : decode cX1_sortKey 23 = .ok (.iload_n 1, 1) := by decide +kernel
theorem dX1_sortKey_24 : decode cX1_sortKey 24 = .ok (.laload, 1) := by decide +kernel
theorem dX1_sortKey_25 : decode cX1_sortKey 25 = .ok (.lreturn, 1) := by decide +kernel
def fX1_sortKey (u : fb_M) (a0 : Nat) (x1 : Int32) : Option Int64 :=
 ((fb_R u a0 1).bind fun q1 => fb_gd (q1 < fb_NT ∧ (fb_sh q1).1 = 103) 
  ((fb_gd (¬ (x1 < 0 ∨ (fb_sh q1).2 ≤ x1.toNatClampNeg)) 
  (if (lg_cmp (fb_L u q1 x1.toNatClampNeg) 3000000000) = 0 then (some ((-9223372036854775808)))
  else ((fb_R u a0 1).bind fun q20 => fb_gd (q20 < fb_NT ∧ (fb_sh q20).1 = 103) 
   ((fb_gd (¬ (x1 < 0 ∨ (fb_sh q20).2 ≤ x1.toNatClampNeg)) 
   (some (fb_L u q20 x1.toNatClampNeg)))))))))
set_option maxRecDepth 100000 in
set_option maxHeartbeats 4000000 in
theorem mX1_sortKey (g : fb_G) (u : fb_M) (a0 : Nat) (x1 : Int32) (ha0 : a0 < fb_NT ∧ fb_sh a0 = (1, 2)) {res : Int64} (h : fX1_sortKey u a0 x1 = some res) : fb_Runs g 0 0 0 0 fb_NT fb_NT yX1_sortKey cX1_sortKey 2 (some .long) [.ref (fb_b g + a0), .int x1] u (some (.long res)) u := by
  unfold fX1_sortKey at h
  refine fb_enter (by decide) (Nat.le_of_ble_eq_true rfl) ?_
  show fb_V g RX1 cX1_sortKey 2 (some .long) "sortKey" (fb_room 0 0 0 0) (fb_Qm g (some (.long res)) fb_NT u 0 0) 0 0 fb_NT u 0 [(0, .ref (fb_b g + a0)), (1, .int x1)] []
  refine fb_aload_n (pc := 0) dX1_sortKey_0 0 rfl ?_
  refine fb_bnE h (fun q1 e1 h => fb_gdE h (fun s1 h => ?_))
  refine fb_getR (pc := 1) dX1_sortKey_1 lkX1_11 ha0.1 ha0.2 (by decide) e1 ?_
  refine fb_iload_n (pc := 4) dX1_sortKey_4 1 rfl ?_
  refine fb_gdE h (fun i5 h => ?_)
  refine fb_lald (pc := 5) dX1_sortKey_5 s1.1 (fb_eta s1.2) i5 ?_
  refine fb_ldc2 (pc := 6) (v := 3000000000) dX1_sortKey_6 lwX1_17 ?_
  refine fb_lcmp (pc := 9) dX1_sortKey_9 ?_
  refine fb_if_ne (pc := 10) (tgt := 19) h dX1_sortKey_10 (by decide) (fun h => ?_) (fun h => ?_)
  · refine fb_aload_n (pc := 19) dX1_sortKey_19 0 rfl ?_
    refine fb_bnE h (fun q20 e20 h => fb_gdE h (fun s20 h => ?_))
    refine fb_getR (pc := 20) dX1_sortKey_20 lkX1_11 ha0.1 ha0.2 (by decide) e20 ?_
    refine fb_iload_n (pc := 23) dX1_sortKey_23 1 rfl ?_
    refine fb_gdE h (fun i24 h => ?_)
    refine fb_lald (pc := 24) dX1_sortKey_24 s20.1 (fb_eta s20.2) i24 ?_
    exact fb_lretR (pc := 25) h dX1_sortKey_25
  · refine fb_ldc2 (pc := 13) (v := (-9223372036854775808)) dX1_sortKey_13 lwX1_21 ?_
    refine fb_goto (pc := 16) (tgt := 25) dX1_sortKey_16 (by decide) ?_
    exact fb_lretR (pc := 25) h dX1_sortKey_25

theorem dX2_putsBefore_0 : decode cX2_putsBefore 0 = .ok (.iconst 0, 1) := by decide +kernel
theorem dX2_putsBefore_1 : decode cX2_putsBefore 1 = .ok (.istore_n 3, 1) := by decide +kernel
theorem dX2_putsBefore_2 : decode cX2_putsBefore 2 = .ok (.iload_n 3, 1) := by decide +kernel
theorem dX2_putsBefore_3 : decode cX2_putsBefore 3 = .ok (.aload_n 0, 1) := by decide +kernel
theorem dX2_putsBefore_4 : decode cX2_putsBefore 4 = .ok (.getfield 48, 3) := by decide +kernel
theorem dX2_putsBefore_7 : decode cX2_putsBefore 7 = .ok (.if_icmp .ge 85, 3) := by decide +kernel
theorem dX2_putsBefore_10 : decode cX2_putsBefore 10 = .ok (.iload_n 3, 1) := by decide +kernel
theorem dX2_putsBefore_11 : decode cX2_putsBefore 11 = .ok (.iconst 3, 1) := by decide +kernel
theorem dX2_putsBefore_12 : decode cX2_putsBefore 12 = .ok (.if_icmp .ge 80, 3) := by decide +kernel
theorem dX2_putsBefore_15 : decode cX2_putsBefore 15 = .ok (.aload_n 1, 1) := by decide +kernel
theorem dX2_putsBefore_16 : decode cX2_putsBefore 16 = .ok (.aload_n 0, 1) := by decide +kernel
theorem dX2_putsBefore_17 : decode cX2_putsBefore 17 = .ok (.getfield 21, 3) := by decide +kernel
theorem dX2_putsBefore_20 : decode cX2_putsBefore 20 = .ok (.iload_n 3, 1) := by decide +kernel
theorem dX2_putsBefore_21 : decode cX2_putsBefore 21 = .ok (.iaload, 1) := by decide +kernel
theorem dX2_putsBefore_22 : decode cX2_putsBefore 22 = .ok (.invokevirtual 70, 3) := by decide +kernel
theorem dX2_putsBefore_25 : decode cX2_putsBefore 25 = .ok (.lstore 4, 2) := by decide +kernel
theorem dX2_putsBefore_27 : decode cX2_putsBefore 27 = .ok (.aload_n 2, 1) := by decide +kernel
theorem dX2_putsBefore_28 : decode cX2_putsBefore 28 = .ok (.aload_n 0, 1) := by decide +kernel
theorem dX2_putsBefore_29 : decode cX2_putsBefore 29 = .ok (.getfield 21, 3) := by decide +kernel
theorem dX2_putsBefore_32 : decode cX2_putsBefore 32 = .ok (.iload_n 3, 1) := by decide +kernel
theorem dX2_putsBefore_33 : decode cX2_putsBefore 33 = .ok (.iaload, 1) := by decide +kernel
theorem dX2_putsBefore_34 : decode cX2_putsBefore 34 = .ok (.invokevirtual 70, 3) := by decide +kernel
theorem dX2_putsBefore_37 : decode cX2_putsBefore 37 = .ok (.lstore 6, 2) := by decide +kernel
theorem dX2_putsBefore_39 : decode cX2_putsBefore 39 = .ok (.lload 4, 2) := by decide +kernel
theorem dX2_putsBefore_41 : decode cX2_putsBefore 41 = .ok (.lload 6, 2) := by decide +kernel
theorem dX2_putsBefore_43 : decode cX2_putsBefore 43 = .ok (.lcmp, 1) := by decide +kernel
theorem dX2_putsBefore_44 : decode cX2_putsBefore 44 = .ok (.ifCond .eq 42, 3) := by decide +kernel
theorem dX2_putsBefore_47 : decode cX2_putsBefore 47 = .ok (.aload_n 0, 1) := by decide +kernel
theorem dX2_putsBefore_48 : decode cX2_putsBefore 48 = .ok (.getfield 24, 3) := by decide +kernel
theorem dX2_putsBefore_51 : decode cX2_putsBefore 51 = .ok (.iload_n 3, 1) := by decide +kernel
theorem dX2_putsBefore_52 : decode cX2_putsBefore 52 = .ok (.baload, 1) := by decide +kernel
theorem dX2_putsBefore_53 : decode cX2_putsBefore 53 = .ok (.ifCond .eq 19, 3) := by decide +kernel
theorem dX2_putsBefore_56 : decode cX2_putsBefore 56 = .ok (.lload 4, 2) := by decide +kernel
theorem dX2_putsBefore_58 : decode cX2_putsBefore 58 = .ok (.lload 6, 2) := by decide +kernel
theorem dX2_putsBefore_60 : decode cX2_putsBefore 60 = .ok (.lcmp, 1) := by decide +kernel
theorem dX2_putsBefore_61 : decode cX2_putsBefore 61 = .ok (.ifCond .le 7, 3) := by decide +kernel
theorem dX2_putsBefore_64 : decode cX2_putsBefore 64 = .ok (.iconst 1, 1) := by decide +kernel
theorem dX2_putsBefore_65 : decode cX2_putsBefore 65 = .ok (.goto 20, 3) := by decide +kernel
theorem dX2_putsBefore_68 : decode cX2_putsBefore 68 = .ok (.iconst 0, 1) := by decide +kernel
theorem dX2_putsBefore_69 : decode cX2_putsBefore 69 = .ok (.goto 16, 3) := by decide +kernel
theorem dX2_putsBefore_72 : decode cX2_putsBefore 72 = .ok (.lload 4, 2) := by decide +kernel
theorem dX2_putsBefore_74 : decode cX2_putsBefore 74 = .ok (.lload 6, 2) := by decide +kernel
theorem dX2_putsBefore_76 : decode cX2_putsBefore 76 = .ok (.lcmp, 1) := by decide +kernel
theorem dX2_putsBefore_77 : decode cX2_putsBefore 77 = .ok (.ifCond .ge 7, 3) := by decide +kernel
theorem dX2_putsBefore_80 : decode cX2_putsBefore 80 = .ok (.iconst 1, 1) := by decide +kernel
theorem dX2_putsBefore_81 : decode cX2_putsBefore 81 = .ok (.goto 4, 3) := by decide +kernel
theorem dX2_putsBefore_84 : decode cX2_putsBefore 84 = .ok (.iconst 0, 1) := by decide +kernel
theorem dX2_putsBefore_85 : decode cX2_putsBefore 85 = .ok (.ireturn, 1) := by decide +kernel
theorem dX2_putsBefore_86 : decode cX2_putsBefore 86 = .ok (.iinc 3 1, 3) := by decide +kernel
theorem dX2_putsBefore_89 : decode cX2_putsBefore 89 = .ok (.goto (-87), 3) := by decide +kernel
theorem dX2_putsBefore_92 : decode cX2_putsBefore 92 = .ok (.iconst 0, 1) := by decide +kernel
theorem dX2_putsBefore_93 : decode cX2_putsBefore 93 = .ok (.ireturn, 1) := by decide +kernel
def bX2_putsBefore_2 (K2 : Int32 → Option Int32) (a0 : Nat) (a1 : Nat) (a2 : Nat) (x3 : Int32) (u : fb_M) : Option Int32 :=
 (if (fb_I u a0 6) ≤ x3 then (some 0)
  else (if 3 ≤ x3 then (some 0)
   else ((fb_R u a0 10).bind fun q17 => fb_gd (q17 < fb_NT ∧ (fb_sh q17).1 = 100) 
    ((fb_gd (¬ (x3 < 0 ∨ (fb_sh q17).2 ≤ x3.toNatClampNeg)) 
    ((fX1_sortKey u a1 (fb_I u q17 x3.toNatClampNeg)).bind fun r22 => 
    ((fb_R u a0 10).bind fun q29 => fb_gd (q29 < fb_NT ∧ (fb_sh q29).1 = 100) 
    ((fb_gd (¬ (x3 < 0 ∨ (fb_sh q29).2 ≤ x3.toNatClampNeg)) 
    ((fX1_sortKey u a2 (fb_I u q29 x3.toNatClampNeg)).bind fun r34 => 
    (if (lg_cmp r22 r34) = 0 then (K2 (x3 + 1))
    else ((fb_R u a0 11).bind fun q48 => fb_gd (q48 < fb_NT ∧ (fb_sh q48).1 = 102) 
     ((fb_gd (¬ (x3 < 0 ∨ (fb_sh q48).2 ≤ x3.toNatClampNeg)) 
     (if (fb_I u q48 x3.toNatClampNeg) = 0 then (if 0 ≤ (lg_cmp r22 r34) then (some 0)
      else (some 1))
     else (if (lg_cmp r22 r34) ≤ 0 then (some 0)
      else (some 1)))))))))))))))))
def gX2_putsBefore_2 (a0 : Nat) (a1 : Nat) (a2 : Nat) (u : fb_M) : Nat → Int32 → Option Int32
 | 0 => fun _ => none
 | fu + 1 => fun x3 => bX2_putsBefore_2 (gX2_putsBefore_2 a0 a1 a2 u fu) a0 a1 a2 x3 u
set_option maxRecDepth 100000 in
set_option maxHeartbeats 4000000 in
theorem tbX2_putsBefore_2 {g : fb_G} {res : Int32} (a0 : Nat) (a1 : Nat) (a2 : Nat) (x3 : Int32) (u : fb_M) (K2 : Int32 → Option Int32) (ha0 : a0 < fb_NT ∧ fb_sh a0 = (2, 12)) (ha1 : a1 < fb_NT ∧ fb_sh a1 = (1, 2)) (ha2 : a2 < fb_NT ∧ fb_sh a2 = (1, 2)) (hK2 : ∀ (x3 : Int32) ,  K2 x3 = some res → fb_V g RX2 cX2_putsBefore 8 (some .boolean) "putsBefore" (fb_room 1 21 0 0) (fb_Qm g (some (.int res)) fb_NT u 0 0) 0 0 fb_NT u 2 [(0, .ref (fb_b g + a0)), (1, .ref (fb_b g + a1)), (2, .ref (fb_b g + a2)), (3, .int x3)] []) (h : bX2_putsBefore_2 K2 a0 a1 a2 x3 u = some res) : fb_V g RX2 cX2_putsBefore 8 (some .boolean) "putsBefore" (fb_room 1 21 0 0) (fb_Qm g (some (.int res)) fb_NT u 0 0) 0 0 fb_NT u 2 [(0, .ref (fb_b g + a0)), (1, .ref (fb_b g + a1)), (2, .ref (fb_b g + a2)), (3, .int x3)] [] := by
  unfold bX2_putsBefore_2 at h
  refine fb_iload_n (pc := 2) dX2_putsBefore_2 3 rfl ?_
  refine fb_aload_n (pc := 3) dX2_putsBefore_3 0 rfl ?_
  refine fb_getI (pc := 4) dX2_putsBefore_4 lkX2_48 ha0.1 ha0.2 rfl ?_
  refine fb_icmp_ge (pc := 7) (tgt := 92) h dX2_putsBefore_7 (by decide) (fun h => ?_) (fun h => ?_)
  · refine fb_iconst (pc := 92) (v := 0) dX2_putsBefore_92 fb_ki_0 ?_
    exact fb_zretR (pc := 93) rfl h dX2_putsBefore_93
  · refine fb_iload_n (pc := 10) dX2_putsBefore_10 3 rfl ?_
    refine fb_iconst (pc := 11) (v := 3) dX2_putsBefore_11 fb_ki_3 ?_
    refine fb_icmp_ge (pc := 12) (tgt := 92) h dX2_putsBefore_12 (by decide) (fun h => ?_) (fun h => ?_)
    · refine fb_iconst (pc := 92) (v := 0) dX2_putsBefore_92 fb_ki_0 ?_
      exact fb_zretR (pc := 93) rfl h dX2_putsBefore_93
    · refine fb_aload_n (pc := 15) dX2_putsBefore_15 1 rfl ?_
      refine fb_aload_n (pc := 16) dX2_putsBefore_16 0 rfl ?_
      refine fb_bnE h (fun q17 e17 h => fb_gdE h (fun s17 h => ?_))
      refine fb_getR (pc := 17) dX2_putsBefore_17 lkX2_21 ha0.1 ha0.2 (by decide) e17 ?_
      refine fb_iload_n (pc := 20) dX2_putsBefore_20 3 rfl ?_
      refine fb_gdE h (fun i21 h => ?_)
      refine fb_iald (pc := 21) dX2_putsBefore_21 s17.1 (fb_eta s17.2) i21 ?_
      refine fb_bnE h (fun r22 h22 h => ?_)
      refine fb_cV0v (pc := 22) [.int (fb_I u q17 x3.toNatClampNeg)] dX2_putsBefore_22 (mX1_sortKey g u a1 (fb_I u q17 x3.toNatClampNeg) ha1 h22) ymX1_sortKey yiX1_sortKey ha1.1 ha1.2 ylX2_70 rfl (Nat.le_of_ble_eq_true rfl) ⟨Nat.le_of_ble_eq_true rfl, Nat.le_of_ble_eq_true rfl⟩ ⟨Nat.le_of_ble_eq_true rfl, Nat.le_of_ble_eq_true rfl⟩ ?_
      refine fb_lstore (pc := 25) (lv' := [(4, .long r22), (0, .ref (fb_b g + a0)), (1, .ref (fb_b g + a1)), (2, .ref (fb_b g + a2)), (3, .int x3)]) dX2_putsBefore_25 (by decide) rfl ?_
      refine fb_aload_n (pc := 27) dX2_putsBefore_27 3 rfl ?_
      refine fb_aload_n (pc := 28) dX2_putsBefore_28 1 rfl ?_
      refine fb_bnE h (fun q29 e29 h => fb_gdE h (fun s29 h => ?_))
      refine fb_getR (pc := 29) dX2_putsBefore_29 lkX2_21 ha0.1 ha0.2 (by decide) e29 ?_
      refine fb_iload_n (pc := 32) dX2_putsBefore_32 4 rfl ?_
      refine fb_gdE h (fun i33 h => ?_)
      refine fb_iald (pc := 33) dX2_putsBefore_33 s29.1 (fb_eta s29.2) i33 ?_
      refine fb_bnE h (fun r34 h34 h => ?_)
      refine fb_cV0v (pc := 34) [.int (fb_I u q29 x3.toNatClampNeg)] dX2_putsBefore_34 (mX1_sortKey g u a2 (fb_I u q29 x3.toNatClampNeg) ha2 h34) ymX1_sortKey yiX1_sortKey ha2.1 ha2.2 ylX2_70 rfl (Nat.le_of_ble_eq_true rfl) ⟨Nat.le_of_ble_eq_true rfl, Nat.le_of_ble_eq_true rfl⟩ ⟨Nat.le_of_ble_eq_true rfl, Nat.le_of_ble_eq_true rfl⟩ ?_
      refine fb_lstore (pc := 37) (lv' := [(6, .long r34), (4, .long r22), (0, .ref (fb_b g + a0)), (1, .ref (fb_b g + a1)), (2, .ref (fb_b g + a2)), (3, .int x3)]) dX2_putsBefore_37 (by decide) rfl ?_
      refine fb_lload (pc := 39) dX2_putsBefore_39 1 rfl ?_
      refine fb_lload (pc := 41) dX2_putsBefore_41 0 rfl ?_
      refine fb_lcmp (pc := 43) dX2_putsBefore_43 ?_
      refine fb_if_eq (pc := 44) (tgt := 86) h dX2_putsBefore_44 (by decide) (fun h => ?_) (fun h => ?_)
      · refine fb_iinc (pc := 86) (v := 1) (lv' := [(3, .int (x3 + 1)), (6, .long r34), (4, .long r22), (0, .ref (fb_b g + a0)), (1, .ref (fb_b g + a1)), (2, .ref (fb_b g + a2))]) dX2_putsBefore_86 5 rfl fb_ki_1 (by decide) rfl ?_
        refine fb_goto (pc := 89) (tgt := 2) dX2_putsBefore_89 (by decide) ?_
        exact fb_sub [3, 4, 5, 0] rfl (hK2 (x3 + 1) h)
      · refine fb_aload_n (pc := 47) dX2_putsBefore_47 2 rfl ?_
        refine fb_bnE h (fun q48 e48 h => fb_gdE h (fun s48 h => ?_))
        refine fb_getR (pc := 48) dX2_putsBefore_48 lkX2_24 ha0.1 ha0.2 (by decide) e48 ?_
        refine fb_iload_n (pc := 51) dX2_putsBefore_51 5 rfl ?_
        refine fb_gdE h (fun i52 h => ?_)
        refine fb_zald (pc := 52) dX2_putsBefore_52 s48.1 (fb_eta s48.2) i52 ?_
        refine fb_if_eq (pc := 53) (tgt := 72) h dX2_putsBefore_53 (by decide) (fun h => ?_) (fun h => ?_)
        · refine fb_lload (pc := 72) dX2_putsBefore_72 1 rfl ?_
          refine fb_lload (pc := 74) dX2_putsBefore_74 0 rfl ?_
          refine fb_lcmp (pc := 76) dX2_putsBefore_76 ?_
          refine fb_if_ge (pc := 77) (tgt := 84) h dX2_putsBefore_77 (by decide) (fun h => ?_) (fun h => ?_)
          · refine fb_iconst (pc := 84) (v := 0) dX2_putsBefore_84 fb_ki_0 ?_
            exact fb_zretR (pc := 85) rfl h dX2_putsBefore_85
          · refine fb_iconst (pc := 80) (v := 1) dX2_putsBefore_80 fb_ki_1 ?_
            refine fb_goto (pc := 81) (tgt := 85) dX2_putsBefore_81 (by decide) ?_
            exact fb_zretR (pc := 85) rfl h dX2_putsBefore_85
        · refine fb_lload (pc := 56) dX2_putsBefore_56 1 rfl ?_
          refine fb_lload (pc := 58) dX2_putsBefore_58 0 rfl ?_
          refine fb_lcmp (pc := 60) dX2_putsBefore_60 ?_
          refine fb_if_le (pc := 61) (tgt := 68) h dX2_putsBefore_61 (by decide) (fun h => ?_) (fun h => ?_)
          · refine fb_iconst (pc := 68) (v := 0) dX2_putsBefore_68 fb_ki_0 ?_
            refine fb_goto (pc := 69) (tgt := 85) dX2_putsBefore_69 (by decide) ?_
            exact fb_zretR (pc := 85) rfl h dX2_putsBefore_85
          · refine fb_iconst (pc := 64) (v := 1) dX2_putsBefore_64 fb_ki_1 ?_
            refine fb_goto (pc := 65) (tgt := 85) dX2_putsBefore_65 (by decide) ?_
            exact fb_zretR (pc := 85) rfl h dX2_putsBefore_85

theorem tgX2_putsBefore_2 {g : fb_G} {res : Int32} (a0 : Nat) (a1 : Nat) (a2 : Nat) (u : fb_M) (ha0 : a0 < fb_NT ∧ fb_sh a0 = (2, 12)) (ha1 : a1 < fb_NT ∧ fb_sh a1 = (1, 2)) (ha2 : a2 < fb_NT ∧ fb_sh a2 = (1, 2)) : ∀ (fu : Nat) (x3 : Int32) ,  gX2_putsBefore_2 a0 a1 a2 u fu x3 = some res → fb_V g RX2 cX2_putsBefore 8 (some .boolean) "putsBefore" (fb_room 1 21 0 0) (fb_Qm g (some (.int res)) fb_NT u 0 0) 0 0 fb_NT u 2 [(0, .ref (fb_b g + a0)), (1, .ref (fb_b g + a1)), (2, .ref (fb_b g + a2)), (3, .int x3)] [] := by
  intro fu
  induction fu with
  | zero => intro x3 h; exact absurd h (by simp [gX2_putsBefore_2])
  | succ fu ih => intro x3 h; exact tbX2_putsBefore_2 a0 a1 a2 x3 u (gX2_putsBefore_2 a0 a1 a2 u fu) ha0 ha1 ha2 ih h
def fX2_putsBefore (u : fb_M) (a0 : Nat) (a1 : Nat) (a2 : Nat) : Option Int32 :=
 (gX2_putsBefore_2 a0 a1 a2 u fb_F 0)
set_option maxRecDepth 100000 in
set_option maxHeartbeats 4000000 in
theorem mX2_putsBefore (g : fb_G) (u : fb_M) (a0 : Nat) (a1 : Nat) (a2 : Nat) (ha0 : a0 < fb_NT ∧ fb_sh a0 = (2, 12)) (ha1 : a1 < fb_NT ∧ fb_sh a1 = (1, 2)) (ha2 : a2 < fb_NT ∧ fb_sh a2 = (1, 2)) {res : Int32} (h : fX2_putsBefore u a0 a1 a2 = some res) : fb_Runs g 1 21 0 0 fb_NT fb_NT yX2_putsBefore cX2_putsBefore 8 (some .boolean) [.ref (fb_b g + a0), .ref (fb_b g + a1), .ref (fb_b g + a2)] u (some (.int res)) u := by
  unfold fX2_putsBefore at h
  refine fb_enter (by decide) (Nat.le_of_ble_eq_true rfl) ?_
  show fb_V g RX2 cX2_putsBefore 8 (some .boolean) "putsBefore" (fb_room 1 21 0 0) (fb_Qm g (some (.int res)) fb_NT u 0 0) 0 0 fb_NT u 0 [(0, .ref (fb_b g + a0)), (1, .ref (fb_b g + a1)), (2, .ref (fb_b g + a2))] []
  refine fb_iconst (pc := 0) (v := 0) dX2_putsBefore_0 fb_ki_0 ?_
  refine fb_istore_n (pc := 1) (lv' := [(3, .int 0), (0, .ref (fb_b g + a0)), (1, .ref (fb_b g + a1)), (2, .ref (fb_b g + a2))]) dX2_putsBefore_1 rfl (by decide) rfl ?_
  exact fb_sub [1, 2, 3, 0] rfl (tgX2_putsBefore_2 a0 a1 a2 u ha0 ha1 ha2 fb_F 0 h)

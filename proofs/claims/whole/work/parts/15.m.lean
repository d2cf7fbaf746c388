theorem dX4_insert_0 : decode cX4_insert 0 = .ok (.aload_n 0, 1) := by decide +kernel
theorem dX4_insert_1 : decode cX4_insert 1 = .ok (.getfield 17, 3) := by decide +kernel
theorem dX4_insert_4 : decode cX4_insert 4 = .ok (.istore_n 3, 1) := by decide +kernel
theorem dX4_insert_5 : decode cX4_insert 5 = .ok (.iload_n 3, 1) := by decide +kernel
theorem dX4_insert_6 : decode cX4_insert 6 = .ok (.ifCond .le 39, 3) := by decide +kernel
theorem dX4_insert_9 : decode cX4_insert 9 = .ok (.aload_n 2, 1) := by decide +kernel
theorem dX4_insert_10 : decode cX4_insert 10 = .ok (.aload_n 1, 1) := by decide +kernel
theorem dX4_insert_11 : decode cX4_insert 11 = .ok (.aload_n 0, 1) := by decide +kernel
theorem dX4_insert_12 : decode cX4_insert 12 = .ok (.getfield 11, 3) := by decide +kernel
theorem dX4_insert_15 : decode cX4_insert 15 = .ok (.iload_n 3, 1) := by decide +kernel
theorem dX4_insert_16 : decode cX4_insert 16 = .ok (.iconst 1, 1) := by decide +kernel
theorem dX4_insert_17 : decode cX4_insert 17 = .ok (.isub, 1) := by decide +kernel
theorem dX4_insert_18 : decode cX4_insert 18 = .ok (.aaload, 1) := by decide +kernel
theorem dX4_insert_19 : decode cX4_insert 19 = .ok (.invokevirtual 41, 3) := by decide +kernel
theorem dX4_insert_22 : decode cX4_insert 22 = .ok (.ifCond .eq 23, 3) := by decide +kernel
theorem dX4_insert_25 : decode cX4_insert 25 = .ok (.aload_n 0, 1) := by decide +kernel
theorem dX4_insert_26 : decode cX4_insert 26 = .ok (.getfield 11, 3) := by decide +kernel
theorem dX4_insert_29 : decode cX4_insert 29 = .ok (.iload_n 3, 1) := by decide +kernel
theorem dX4_insert_30 : decode cX4_insert 30 = .ok (.aload_n 0, 1) := by decide +kernel
theorem dX4_insert_31 : decode cX4_insert 31 = .ok (.getfield 11, 3) := by decide +kernel
theorem dX4_insert_34 : decode cX4_insert 34 = .ok (.iload_n 3, 1) := by decide +kernel
theorem dX4_insert_35 : decode cX4_insert 35 = .ok (.iconst 1, 1) := by decide +kernel
theorem dX4_insert_36 : decode cX4_insert 36 = .ok (.isub, 1) := by decide +kernel
theorem dX4_insert_37 : decode cX4_insert 37 = .ok (.aaload, 1) := by decide +kernel
theorem dX4_insert_38 : decode cX4_insert 38 = .ok (.aastore, 1) := by decide +kernel
theorem dX4_insert_39 : decode cX4_insert 39 = .ok (.iinc 3 (-1), 3) := by decide +kernel
theorem dX4_insert_42 : decode cX4_insert 42 = .ok (.goto (-37), 3) := by decide +kernel
theorem dX4_insert_45 : decode cX4_insert 45 = .ok (.aload_n 0, 1) := by decide +kernel
theorem dX4_insert_46 : decode cX4_insert 46 = .ok (.getfield 11, 3) := by decide +kernel
theorem dX4_insert_49 : decode cX4_insert 49 = .ok (.iload_n 3, 1) := by decide +kernel
theorem dX4_insert_50 : decode cX4_insert 50 = .ok (.aload_n 1, 1) := by decide +kernel
theorem dX4_insert_51 : decode cX4_insert 51 = .ok (.aastore, 1) := by decide +kernel
theorem dX4_insert_52 : decode cX4_insert 52 = .ok (.aload_n 0, 1) := by decide +kernel
theorem dX4_insert_53 : decode cX4_insert 53 = .ok (.dup, 1) := by decide +kernel
theorem dX4_insert_54 : decode cX4_insert 54 = .ok (.getfield 17, 3) := by decide +kernel
theorem dX4_insert_57 : decode cX4_insert 57 = .ok (.iconst 1, 1) := by decide +kernel
theorem dX4_insert_58 : decode cX4_insert 58 = .ok (.iadd, 1) := by decide +kernel
theorem dX4_insert_59 : decode cX4_insert 59 = .ok (.putfield 17, 3) := by decide +kernel
theorem dX4_insert_62 : decode cX4_insert 62 = .ok (.return_, 1) := by decide +kernel
def jX4_insert_45 (a0 : Nat) (a1 : Nat) (x3 : Int32) (u : fb_M) : Option fb_M :=
 ((fb_R u a0 0).bind fun q46 => fb_gd (q46 < fb_NT ∧ (fb_sh q46).1 = 106) 
  ((fb_gd (¬ (x3 < 0 ∨ (fb_sh q46).2 ≤ x3.toNatClampNeg)) 
  (some (fb_wI (fb_wR u q46 x3.toNatClampNeg a1) a0 1 ((fb_I (fb_wR u q46 x3.toNatClampNeg a1) a0 1) + 1))))))
set_option maxRecDepth 100000 in
set_option maxHeartbeats 4000000 in
theorem tjX4_insert_45 {g : fb_G} {res : fb_M} (a0 : Nat) (a1 : Nat) (x3 : Int32) (u : fb_M) (ha0 : a0 < fb_NT ∧ fb_sh a0 = (4, 2)) (ha1 : a1 < fb_NT ∧ fb_sh a1 = (1, 2)) (h : jX4_insert_45 a0 a1 x3 u = some res) : fb_V g RX4 cX4_insert 4 none "insert" (fb_room 2 48 0 0) (fb_Qm g none fb_NT res 0 0) 0 0 fb_NT u 45 [(0, .ref (fb_b g + a0)), (1, .ref (fb_b g + a1)), (3, .int x3)] [] := by
  unfold jX4_insert_45 at h
  refine fb_aload_n (pc := 45) dX4_insert_45 0 rfl ?_
  refine fb_bnE h (fun q46 e46 h => fb_gdE h (fun s46 h => ?_))
  refine fb_getR (pc := 46) dX4_insert_46 lkX4_11 ha0.1 ha0.2 (by decide) e46 ?_
  refine fb_iload_n (pc := 49) dX4_insert_49 2 rfl ?_
  refine fb_aload_n (pc := 50) dX4_insert_50 1 rfl ?_
  refine fb_gdE h (fun i51 h => ?_)
  refine fb_aast (pc := 51) (t := 6) dX4_insert_51 s46.1 (fb_eta s46.2) ⟨by decide, by decide, rfl⟩ i51 ha1.1 ha1.2 ⟨by decide, rfl⟩ ?_
  refine fb_aload_n (pc := 52) dX4_insert_52 0 rfl ?_
  refine fb_dup (pc := 53) dX4_insert_53 rfl ?_
  refine fb_getI (pc := 54) dX4_insert_54 lkX4_17 ha0.1 ha0.2 rfl ?_
  refine fb_iconst (pc := 57) (v := 1) dX4_insert_57 fb_ki_1 ?_
  refine fb_iadd (pc := 58) dX4_insert_58 ?_
  refine fb_putI (pc := 59) dX4_insert_59 lkX4_17 ly_4_1 ha0.1 ha0.2 rfl rfl rfl ?_
  exact fb_vretM (pc := 62) h dX4_insert_62

def bX4_insert_5 (K5 : Int32 → fb_M → Option fb_M) (a0 : Nat) (a1 : Nat) (a2 : Nat) (x3 : Int32) (u : fb_M) : Option fb_M :=
 (if x3 ≤ 0 then (jX4_insert_45 a0 a1 x3 u)
  else ((fb_R u a0 0).bind fun q12 => fb_gd (q12 < fb_NT ∧ (fb_sh q12).1 = 106) 
   ((fb_gd (¬ (x3 - 1 < 0 ∨ (fb_sh q12).2 ≤ (x3 - 1).toNatClampNeg)) 
   ((fb_R u q12 (x3 - 1).toNatClampNeg).bind fun q18 => fb_gd (q18 < fb_NT ∧ fb_sh q18 = (1, 2)) 
   (((fX2_putsBefore u a2 a1 q18).bind fun r19 => 
   (if r19 = 0 then (jX4_insert_45 a0 a1 x3 u)
   else ((fb_R u a0 0).bind fun q26 => fb_gd (q26 < fb_NT ∧ (fb_sh q26).1 = 106) 
    (((fb_R u a0 0).bind fun q31 => fb_gd (q31 < fb_NT ∧ (fb_sh q31).1 = 106) 
    ((fb_gd (¬ (x3 - 1 < 0 ∨ (fb_sh q31).2 ≤ (x3 - 1).toNatClampNeg)) 
    ((fb_R u q31 (x3 - 1).toNatClampNeg).bind fun q37 => fb_gd (q37 < fb_NT ∧ fb_sh q37 = (1, 2)) 
    ((fb_gd (¬ (x3 < 0 ∨ (fb_sh q26).2 ≤ x3.toNatClampNeg)) 
    (K5 (x3 + (-1)) (fb_wR u q26 x3.toNatClampNeg q37))))))))))))))))))
def gX4_insert_5 (a0 : Nat) (a1 : Nat) (a2 : Nat) : Nat → Int32 → fb_M → Option fb_M
 | 0 => fun _ _ => none
 | fu + 1 => fun x3 u => bX4_insert_5 (gX4_insert_5 a0 a1 a2 fu) a0 a1 a2 x3 u
set_option maxRecDepth 100000 in
set_option maxHeartbeats 4000000 in
theorem tbX4_insert_5 {g : fb_G} {res : fb_M} (a0 : Nat) (a1 : Nat) (a2 : Nat) (x3 : Int32) (u : fb_M) (K5 : Int32 → fb_M → Option fb_M) (ha0 : a0 < fb_NT ∧ fb_sh a0 = (4, 2)) (ha1 : a1 < fb_NT ∧ fb_sh a1 = (1, 2)) (ha2 : a2 < fb_NT ∧ fb_sh a2 = (2, 12)) (hK5 : ∀ (x3 : Int32) (u : fb_M) ,  K5 x3 u = some res → fb_V g RX4 cX4_insert 4 none "insert" (fb_room 2 48 0 0) (fb_Qm g none fb_NT res 0 0) 0 0 fb_NT u 5 [(0, .ref (fb_b g + a0)), (1, .ref (fb_b g + a1)), (2, .ref (fb_b g + a2)), (3, .int x3)] []) (h : bX4_insert_5 K5 a0 a1 a2 x3 u = some res) : fb_V g RX4 cX4_insert 4 none "insert" (fb_room 2 48 0 0) (fb_Qm g none fb_NT res 0 0) 0 0 fb_NT u 5 [(0, .ref (fb_b g + a0)), (1, .ref (fb_b g + a1)), (2, .ref (fb_b g + a2)), (3, .int x3)] [] := by
  unfold bX4_insert_5 at h
  refine fb_iload_n (pc := 5) dX4_insert_5 3 rfl ?_
  refine fb_if_le (pc := 6) (tgt := 45) h dX4_insert_6 (by decide) (fun h => ?_) (fun h => ?_)
  · exact fb_sub [0, 1, 3] rfl (tjX4_insert_45 a0 a1 x3 u ha0 ha1 h)
  · refine fb_aload_n (pc := 9) dX4_insert_9 2 rfl ?_
    refine fb_aload_n (pc := 10) dX4_insert_10 1 rfl ?_
    refine fb_aload_n (pc := 11) dX4_insert_11 0 rfl ?_
    refine fb_bnE h (fun q12 e12 h => fb_gdE h (fun s12 h => ?_))
    refine fb_getR (pc := 12) dX4_insert_12 lkX4_11 ha0.1 ha0.2 (by decide) e12 ?_
    refine fb_iload_n (pc := 15) dX4_insert_15 3 rfl ?_
    refine fb_iconst (pc := 16) (v := 1) dX4_insert_16 fb_ki_1 ?_
    refine fb_isub (pc := 17) dX4_insert_17 ?_
    refine fb_gdE h (fun i18 h => fb_bnE h (fun q18 e18 h => fb_gdE h (fun s18 h => ?_)))
    refine fb_aald (pc := 18) (t := 6) dX4_insert_18 s12.1 (fb_eta s12.2) ⟨by decide, by decide, rfl⟩ i18 e18 ?_
    refine fb_bnE h (fun r19 h19 h => ?_)
    refine fb_cV0v (pc := 19) [.ref (fb_b g + a1), .ref (fb_b g + q18)] dX4_insert_19 (mX2_putsBefore g u a2 a1 q18 ha2 ha1 s18 h19) ymX2_putsBefore yiX2_putsBefore ha2.1 ha2.2 ylX4_41 rfl (Nat.le_of_ble_eq_true rfl) ⟨Nat.le_of_ble_eq_true rfl, Nat.le_of_ble_eq_true rfl⟩ ⟨Nat.le_of_ble_eq_true rfl, Nat.le_of_ble_eq_true rfl⟩ ?_
    refine fb_if_eq (pc := 22) (tgt := 45) h dX4_insert_22 (by decide) (fun h => ?_) (fun h => ?_)
    · exact fb_sub [0, 1, 3] rfl (tjX4_insert_45 a0 a1 x3 u ha0 ha1 h)
    · refine fb_aload_n (pc := 25) dX4_insert_25 0 rfl ?_
      refine fb_bnE h (fun q26 e26 h => fb_gdE h (fun s26 h => ?_))
      refine fb_getR (pc := 26) dX4_insert_26 lkX4_11 ha0.1 ha0.2 (by decide) e26 ?_
      refine fb_iload_n (pc := 29) dX4_insert_29 3 rfl ?_
      refine fb_aload_n (pc := 30) dX4_insert_30 0 rfl ?_
      refine fb_bnE h (fun q31 e31 h => fb_gdE h (fun s31 h => ?_))
      refine fb_getR (pc := 31) dX4_insert_31 lkX4_11 ha0.1 ha0.2 (by decide) e31 ?_
      refine fb_iload_n (pc := 34) dX4_insert_34 3 rfl ?_
      refine fb_iconst (pc := 35) (v := 1) dX4_insert_35 fb_ki_1 ?_
      refine fb_isub (pc := 36) dX4_insert_36 ?_
      refine fb_gdE h (fun i37 h => fb_bnE h (fun q37 e37 h => fb_gdE h (fun s37 h => ?_)))
      refine fb_aald (pc := 37) (t := 6) dX4_insert_37 s31.1 (fb_eta s31.2) ⟨by decide, by decide, rfl⟩ i37 e37 ?_
      refine fb_gdE h (fun i38 h => ?_)
      refine fb_aast (pc := 38) (t := 6) dX4_insert_38 s26.1 (fb_eta s26.2) ⟨by decide, by decide, rfl⟩ i38 s37.1 s37.2 ⟨by decide, rfl⟩ ?_
      refine fb_iinc (pc := 39) (v := (-1)) (lv' := [(3, .int (x3 + (-1))), (0, .ref (fb_b g + a0)), (1, .ref (fb_b g + a1)), (2, .ref (fb_b g + a2))]) dX4_insert_39 3 rfl fb_ki_m1 (by decide) rfl ?_
      refine fb_goto (pc := 42) (tgt := 5) dX4_insert_42 (by decide) ?_
      exact fb_sub [1, 2, 3, 0] rfl (hK5 (x3 + (-1)) (fb_wR u q26 x3.toNatClampNeg q37) h)

theorem tgX4_insert_5 {g : fb_G} {res : fb_M} (a0 : Nat) (a1 : Nat) (a2 : Nat) (ha0 : a0 < fb_NT ∧ fb_sh a0 = (4, 2)) (ha1 : a1 < fb_NT ∧ fb_sh a1 = (1, 2)) (ha2 : a2 < fb_NT ∧ fb_sh a2 = (2, 12)) : ∀ (fu : Nat) (x3 : Int32) (u : fb_M) ,  gX4_insert_5 a0 a1 a2 fu x3 u = some res → fb_V g RX4 cX4_insert 4 none "insert" (fb_room 2 48 0 0) (fb_Qm g none fb_NT res 0 0) 0 0 fb_NT u 5 [(0, .ref (fb_b g + a0)), (1, .ref (fb_b g + a1)), (2, .ref (fb_b g + a2)), (3, .int x3)] [] := by
  intro fu
  induction fu with
  | zero => intro x3 u h; exact absurd h (by simp [gX4_insert_5])
  | succ fu ih => intro x3 u h; exact tbX4_insert_5 a0 a1 a2 x3 u (gX4_insert_5 a0 a1 a2 fu) ha0 ha1 ha2 ih h
def fX4_insert (u : fb_M) (a0 : Nat) (a1 : Nat) (a2 : Nat) : Option fb_M :=
 (gX4_insert_5 a0 a1 a2 fb_F (fb_I u a0 1) u)
set_option maxRecDepth 100000 in
set_option maxHeartbeats 4000000 in
theorem mX4_insert (g : fb_G) (u : fb_M) (a0 : Nat) (a1 : Nat) (a2 : Nat) (ha0 : a0 < fb_NT ∧ fb_sh a0 = (4, 2)) (ha1 : a1 < fb_NT ∧ fb_sh a1 = (1, 2)) (ha2 : a2 < fb_NT ∧ fb_sh a2 = (2, 12)) {res : fb_M} (h : fX4_insert u a0 a1 a2 = some res) : fb_Runs g 2 48 0 0 fb_NT fb_NT yX4_insert cX4_insert 4 none [.ref (fb_b g + a0), .ref (fb_b g + a1), .ref (fb_b g + a2)] u none res := by
  unfold fX4_insert at h
  refine fb_enter (by decide) (Nat.le_of_ble_eq_true rfl) ?_
  show fb_V g RX4 cX4_insert 4 none "insert" (fb_room 2 48 0 0) (fb_Qm g none fb_NT res 0 0) 0 0 fb_NT u 0 [(0, .ref (fb_b g + a0)), (1, .ref (fb_b g + a1)), (2, .ref (fb_b g + a2))] []
  refine fb_aload_n (pc := 0) dX4_insert_0 0 rfl ?_
  refine fb_getI (pc := 1) dX4_insert_1 lkX4_17 ha0.1 ha0.2 rfl ?_
  refine fb_istore_n (pc := 4) (lv' := [(3, .int (fb_I u a0 1)), (0, .ref (fb_b g + a0)), (1, .ref (fb_b g + a1)), (2, .ref (fb_b g + a2))]) dX4_insert_4 rfl (by decide) rfl ?_
  exact fb_sub [1, 2, 3, 0] rfl (tgX4_insert_5 a0 a1 a2 ha0 ha1 ha2 fb_F (fb_I u a0 1) u h)

theorem dX4_gather_0 : decode cX4_gather 0 = .ok (.aload_n 0, 1) := by decide +kernel
theorem dX4_gather_1 : decode cX4_gather 1 = .ok (.iconst 0, 1) := by decide +kernel
theorem dX4_gather_2 : decode cX4_gather 2 = .ok (.putfield 17, 3) := by decide +kernel
theorem dX4_gather_5 : decode cX4_gather 5 = .ok (.iconst 0, 1) := by decide +kernel
theorem dX4_gather_6 : decode cX4_gather 6 = .ok (.istore 4, 2) := by decide +kernel
theorem dX4_gather_8 : decode cX4_gather 8 = .ok (.iload 4, 2) := by decide +kernel
theorem dX4_gather_10 : decode cX4_gather 10 = .ok (.aload_n 1, 1) := by decide +kernel
theorem dX4_gather_11 : decode cX4_gather 11 = .ok (.invokevirtual 21, 3) := by decide +kernel
theorem dX4_gather_14 : decode cX4_gather 14 = .ok (.if_icmp .ge 34, 3) := by decide +kernel
theorem dX4_gather_17 : decode cX4_gather 17 = .ok (.aload_n 1, 1) := by decide +kernel
theorem dX4_gather_18 : decode cX4_gather 18 = .ok (.iload 4, 2) := by decide +kernel
theorem dX4_gather_20 : decode cX4_gather 20 = .ok (.invokevirtual 24, 3) := by decide +kernel
theorem dX4_gather_23 : decode cX4_gather 23 = .ok (.astore 5, 2) := by decide +kernel
theorem dX4_gather_25 : decode cX4_gather 25 = .ok (.aload_n 2, 1) := by decide +kernel
theorem dX4_gather_26 : decode cX4_gather 26 = .ok (.aload 5, 2) := by decide +kernel
theorem dX4_gather_28 : decode cX4_gather 28 = .ok (.aload_n 3, 1) := by decide +kernel
theorem dX4_gather_29 : decode cX4_gather 29 = .ok (.invokevirtual 28, 3) := by decide +kernel
theorem dX4_gather_32 : decode cX4_gather 32 = .ok (.ifCond .eq 10, 3) := by decide +kernel
theorem dX4_gather_35 : decode cX4_gather 35 = .ok (.aload_n 0, 1) := by decide +kernel
theorem dX4_gather_36 : decode cX4_gather 36 = .ok (.aload 5, 2) := by decide +kernel
theorem dX4_gather_38 : decode cX4_gather 38 = .ok (.aload_n 2, 1) := by decide +kernel
theorem dX4_gather_39 : decode cX4_gather 39 = .ok (.invokevirtual 34, 3) := by decide +kernel
theorem dX4_gather_42 : decode cX4_gather 42 = .ok (.iinc 4 1, 3) := by decide +kernel
theorem dX4_gather_45 : decode cX4_gather 45 = .ok (.goto (-37), 3) := by decide +kernel
theorem dX4_gather_48 : decode cX4_gather 48 = .ok (.aload_n 2, 1) := by decide +kernel
theorem dX4_gather_49 : decode cX4_gather 49 = .ok (.getfield 38, 3) := by decide +kernel
theorem dX4_gather_52 : decode cX4_gather 52 = .ok (.ifCond .le 22, 3) := by decide +kernel
theorem dX4_gather_55 : decode cX4_gather 55 = .ok (.aload_n 2, 1) := by decide +kernel
theorem dX4_gather_56 : decode cX4_gather 56 = .ok (.getfield 38, 3) := by decide +kernel
theorem dX4_gather_59 : decode cX4_gather 59 = .ok (.aload_n 0, 1) := by decide +kernel
theorem dX4_gather_60 : decode cX4_gather 60 = .ok (.getfield 17, 3) := by decide +kernel
theorem dX4_gather_63 : decode cX4_gather 63 = .ok (.if_icmp .ge 11, 3) := by decide +kernel
theorem dX4_gather_66 : decode cX4_gather 66 = .ok (.aload_n 0, 1) := by decide +kernel
theorem dX4_gather_67 : decode cX4_gather 67 = .ok (.aload_n 2, 1) := by decide +kernel
theorem dX4_gather_68 : decode cX4_gather 68 = .ok (.getfield 38, 3) := by decide +kernel
theorem dX4_gather_71 : decode cX4_gather 71 = .ok (.putfield 17, 3) := by decide +kernel
theorem dX4_gather_74 : decode cX4_gather 74 = .ok (.return_, 1) := by decide +kernel
def bX4_gather_8 (K8 : Int32 → fb_M → Option fb_M) (a0 : Nat) (a1 : Nat) (a2 : Nat) (a3 : Nat) (x4 : Int32) (u : fb_M) : Option fb_M :=
 ((fX7_count u a1).bind fun r11 => 
  (if r11 ≤ x4 then (if (fb_I u a2 1) ≤ 0 then (some u)
   else (if (fb_I u a0 1) ≤ (fb_I u a2 1) then (some u)
    else (some (fb_wI u a0 1 (fb_I u a2 1)))))
  else ((fX7_at u a1 x4).bind fun r20 => 
   (fb_gd (r20 < fb_NT ∧ fb_sh r20 = (1, 2)) 
   ((fX2_fits u a2 r20 a3).bind fun r29 => 
   (if r29 = 0 then (K8 (x4 + 1) u)
   else ((fX4_insert u a0 r20 a2).bind fun r39 => 
    (K8 (x4 + 1) r39))))))))
def gX4_gather_8 (a0 : Nat) (a1 : Nat) (a2 : Nat) (a3 : Nat) : Nat → Int32 → fb_M → Option fb_M
 | 0 => fun _ _ => none
 | fu + 1 => fun x4 u => bX4_gather_8 (gX4_gather_8 a0 a1 a2 a3 fu) a0 a1 a2 a3 x4 u
set_option maxRecDepth 100000 in
set_option maxHeartbeats 4000000 in
theorem tbX4_gather_8 {g : fb_G} {res : fb_M} (a0 : Nat) (a1 : Nat) (a2 : Nat) (a3 : Nat) (x4 : Int32) (u : fb_M) (K8 : Int32 → fb_M → Option fb_M) (ha0 : a0 < fb_NT ∧ fb_sh a0 = (4, 2)) (ha1 : a1 < fb_NT ∧ fb_sh a1 = (7, 2)) (ha2 : a2 < fb_NT ∧ fb_sh a2 = (2, 12)) (ha3 : a3 < fb_NT ∧ (fb_sh a3).1 = 100) (hK8 : ∀ (x4 : Int32) (u : fb_M) ,  K8 x4 u = some res → fb_V g RX4 cX4_gather 6 none "gather" (fb_room 3 71 0 0) (fb_Qm g none fb_NT res 0 0) 0 0 fb_NT u 8 [(0, .ref (fb_b g + a0)), (1, .ref (fb_b g + a1)), (2, .ref (fb_b g + a2)), (3, .ref (fb_b g + a3)), (4, .int x4)] []) (h : bX4_gather_8 K8 a0 a1 a2 a3 x4 u = some res) : fb_V g RX4 cX4_gather 6 none "gather" (fb_room 3 71 0 0) (fb_Qm g none fb_NT res 0 0) 0 0 fb_NT u 8 [(0, .ref (fb_b g + a0)), (1, .ref (fb_b g + a1)), (2, .ref (fb_b g + a2)), (3, .ref (fb_b g + a3)), (4, .int x4)] [] := by
  unfold bX4_gather_8 at h
  refine fb_iload (pc := 8) dX4_gather_8 4 rfl ?_
  refine fb_aload_n (pc := 10) dX4_gather_10 1 rfl ?_
  refine fb_bnE h (fun r11 h11 h => ?_)
  refine fb_cV0v (pc := 11) [] dX4_gather_11 (mX7_count g u a1 ha1 h11) ymX7_count yiX7_count ha1.1 ha1.2 ylX4_21 rfl (Nat.le_of_ble_eq_true rfl) ⟨Nat.le_of_ble_eq_true rfl, Nat.le_of_ble_eq_true rfl⟩ ⟨Nat.le_of_ble_eq_true rfl, Nat.le_of_ble_eq_true rfl⟩ ?_
  refine fb_icmp_ge (pc := 14) (tgt := 48) h dX4_gather_14 (by decide) (fun h => ?_) (fun h => ?_)
  · refine fb_aload_n (pc := 48) dX4_gather_48 2 rfl ?_
    refine fb_getI (pc := 49) dX4_gather_49 lkX4_38 ha2.1 ha2.2 rfl ?_
    refine fb_if_le (pc := 52) (tgt := 74) h dX4_gather_52 (by decide) (fun h => ?_) (fun h => ?_)
    · exact fb_vretM (pc := 74) h dX4_gather_74
    · refine fb_aload_n (pc := 55) dX4_gather_55 2 rfl ?_
      refine fb_getI (pc := 56) dX4_gather_56 lkX4_38 ha2.1 ha2.2 rfl ?_
      refine fb_aload_n (pc := 59) dX4_gather_59 0 rfl ?_
      refine fb_getI (pc := 60) dX4_gather_60 lkX4_17 ha0.1 ha0.2 rfl ?_
      refine fb_icmp_ge (pc := 63) (tgt := 74) h dX4_gather_63 (by decide) (fun h => ?_) (fun h => ?_)
      · exact fb_vretM (pc := 74) h dX4_gather_74
      · refine fb_aload_n (pc := 66) dX4_gather_66 0 rfl ?_
        refine fb_aload_n (pc := 67) dX4_gather_67 2 rfl ?_
        refine fb_getI (pc := 68) dX4_gather_68 lkX4_38 ha2.1 ha2.2 rfl ?_
        refine fb_putI (pc := 71) dX4_gather_71 lkX4_17 ly_4_1 ha0.1 ha0.2 rfl rfl rfl ?_
        exact fb_vretM (pc := 74) h dX4_gather_74
  · refine fb_aload_n (pc := 17) dX4_gather_17 1 rfl ?_
    refine fb_iload (pc := 18) dX4_gather_18 4 rfl ?_
    refine fb_bnE h (fun r20 h20 h => ?_)
    refine fb_gdE h (fun s20 h => ?_)
    refine fb_cV0v (pc := 20) [.int x4] dX4_gather_20 (mX7_at g u a1 x4 ha1 h20) ymX7_at yiX7_at ha1.1 ha1.2 ylX4_24 rfl (Nat.le_of_ble_eq_true rfl) ⟨Nat.le_of_ble_eq_true rfl, Nat.le_of_ble_eq_true rfl⟩ ⟨Nat.le_of_ble_eq_true rfl, Nat.le_of_ble_eq_true rfl⟩ ?_
    refine fb_astore (pc := 23) (lv' := [(5, .ref (fb_b g + r20)), (0, .ref (fb_b g + a0)), (1, .ref (fb_b g + a1)), (2, .ref (fb_b g + a2)), (3, .ref (fb_b g + a3)), (4, .int x4)]) dX4_gather_23 (by decide) rfl ?_
    refine fb_aload_n (pc := 25) dX4_gather_25 3 rfl ?_
    refine fb_aload (pc := 26) dX4_gather_26 0 rfl ?_
    refine fb_aload_n (pc := 28) dX4_gather_28 4 rfl ?_
    refine fb_bnE h (fun r29 h29 h => ?_)
    refine fb_cV0v (pc := 29) [.ref (fb_b g + r20), .ref (fb_b g + a3)] dX4_gather_29 (mX2_fits g u a2 r20 a3 ha2 s20 ha3 h29) ymX2_fits yiX2_fits ha2.1 ha2.2 ylX4_28 rfl (Nat.le_of_ble_eq_true rfl) ⟨Nat.le_of_ble_eq_true rfl, Nat.le_of_ble_eq_true rfl⟩ ⟨Nat.le_of_ble_eq_true rfl, Nat.le_of_ble_eq_true rfl⟩ ?_
    refine fb_if_eq (pc := 32) (tgt := 42) h dX4_gather_32 (by decide) (fun h => ?_) (fun h => ?_)
    · refine fb_iinc (pc := 42) (v := 1) (lv' := [(4, .int (x4 + 1)), (5, .ref (fb_b g + r20)), (0, .ref (fb_b g + a0)), (1, .ref (fb_b g + a1)), (2, .ref (fb_b g + a2)), (3, .ref (fb_b g + a3))]) dX4_gather_42 5 rfl fb_ki_1 (by decide) rfl ?_
      refine fb_goto (pc := 45) (tgt := 8) dX4_gather_45 (by decide) ?_
      exact fb_sub [2, 3, 4, 5, 0] rfl (hK8 (x4 + 1) u h)
    · refine fb_aload_n (pc := 35) dX4_gather_35 1 rfl ?_
      refine fb_aload (pc := 36) dX4_gather_36 0 rfl ?_
      refine fb_aload_n (pc := 38) dX4_gather_38 3 rfl ?_
      refine fb_bnE h (fun r39 h39 h => ?_)
      refine fb_cV0n (pc := 39) [.ref (fb_b g + r20), .ref (fb_b g + a2)] dX4_gather_39 (mX4_insert g u a0 r20 a2 ha0 s20 ha2 h39) ymX4_insert yiX4_insert ha0.1 ha0.2 ylX4_34 rfl (Nat.le_of_ble_eq_true rfl) ⟨Nat.le_of_ble_eq_true rfl, Nat.le_of_ble_eq_true rfl⟩ ⟨Nat.le_of_ble_eq_true rfl, Nat.le_of_ble_eq_true rfl⟩ ?_
      refine fb_iinc (pc := 42) (v := 1) (lv' := [(4, .int (x4 + 1)), (5, .ref (fb_b g + r20)), (0, .ref (fb_b g + a0)), (1, .ref (fb_b g + a1)), (2, .ref (fb_b g + a2)), (3, .ref (fb_b g + a3))]) dX4_gather_42 5 rfl fb_ki_1 (by decide) rfl ?_
      refine fb_goto (pc := 45) (tgt := 8) dX4_gather_45 (by decide) ?_
      exact fb_sub [2, 3, 4, 5, 0] rfl (hK8 (x4 + 1) r39 h)

theorem tgX4_gather_8 {g : fb_G} {res : fb_M} (a0 : Nat) (a1 : Nat) (a2 : Nat) (a3 : Nat) (ha0 : a0 < fb_NT ∧ fb_sh a0 = (4, 2)) (ha1 : a1 < fb_NT ∧ fb_sh a1 = (7, 2)) (ha2 : a2 < fb_NT ∧ fb_sh a2 = (2, 12)) (ha3 : a3 < fb_NT ∧ (fb_sh a3).1 = 100) : ∀ (fu : Nat) (x4 : Int32) (u : fb_M) ,  gX4_gather_8 a0 a1 a2 a3 fu x4 u = some res → fb_V g RX4 cX4_gather 6 none "gather" (fb_room 3 71 0 0) (fb_Qm g none fb_NT res 0 0) 0 0 fb_NT u 8 [(0, .ref (fb_b g + a0)), (1, .ref (fb_b g + a1)), (2, .ref (fb_b g + a2)), (3, .ref (fb_b g + a3)), (4, .int x4)] [] := by
  intro fu
  induction fu with
  | zero => intro x4 u h; exact absurd h (by simp [gX4_gather_8])
  | succ fu ih => intro x4 u h; exact tbX4_gather_8 a0 a1 a2 a3 x4 u (gX4_gather_8 a0 a1 a2 a3 fu) ha0 ha1 ha2 ha3 ih h
def fX4_gather (u : fb_M) (a0 : Nat) (a1 : Nat) (a2 : Nat) (a3 : Nat) : Option fb_M :=
 (gX4_gather_8 a0 a1 a2 a3 fb_F 0 (fb_wI u a0 1 0))
set_option maxRecDepth 100000 in
set_option maxHeartbeats 4000000 in
theorem mX4_gather (g : fb_G) (u : fb_M) (a0 : Nat) (a1 : Nat) (a2 : Nat) (a3 : Nat) (ha0 : a0 < fb_NT ∧ fb_sh a0 = (4, 2)) (ha1 : a1 < fb_NT ∧ fb_sh a1 = (7, 2)) (ha2 : a2 < fb_NT ∧ fb_sh a2 = (2, 12)) (ha3 : a3 < fb_NT ∧ (fb_sh a3).1 = 100) {res : fb_M} (h : fX4_gather u a0 a1 a2 a3 = some res) : fb_Runs g 3 71 0 0 fb_NT fb_NT yX4_gather cX4_gather 6 none [.ref (fb_b g + a0), .ref (fb_b g + a1), .ref (fb_b g + a2), .ref (fb_b g + a3)] u none res := by
  unfold fX4_gather at h
  refine fb_enter (by decide) (Nat.le_of_ble_eq_true rfl) ?_
  show fb_V g RX4 cX4_gather 6 none "gather" (fb_room 3 71 0 0) (fb_Qm g none fb_NT res 0 0) 0 0 fb_NT u 0 [(0, .ref (fb_b g + a0)), (1, .ref (fb_b g + a1)), (2, .ref (fb_b g + a2)), (3, .ref (fb_b g + a3))] []
  refine fb_aload_n (pc := 0) dX4_gather_0 0 rfl ?_
  refine fb_iconst (pc := 1) (v := 0) dX4_gather_1 fb_ki_0 ?_
  refine fb_putI (pc := 2) dX4_gather_2 lkX4_17 ly_4_1 ha0.1 ha0.2 rfl rfl rfl ?_
  refine fb_iconst (pc := 5) (v := 0) dX4_gather_5 fb_ki_0 ?_
  refine fb_istore (pc := 6) (lv' := [(4, .int 0), (0, .ref (fb_b g + a0)), (1, .ref (fb_b g + a1)), (2, .ref (fb_b g + a2)), (3, .ref (fb_b g + a3))]) dX4_gather_6 (by decide) rfl ?_
  exact fb_sub [1, 2, 3, 4, 0] rfl (tgX4_gather_8 a0 a1 a2 a3 ha0 ha1 ha2 ha3 fb_F 0 (fb_wI u a0 1 0) h)

theorem dX8_deleteFinding_0 : decode cX8_deleteFinding 0 = .ok (.iconst 0, 1) := by decide +kernel
theorem dX8_deleteFinding_1 : decode cX8_deleteFinding 1 = .ok (.istore_n 1, 1) := by decide +kernel
theorem dX8_deleteFinding_2 : decode cX8_deleteFinding 2 = .ok (.iload_n 1, 1) := by decide +kernel
theorem dX8_deleteFinding_3 : decode cX8_deleteFinding 3 = .ok (.aload_n 0, 1) := by decide +kernel
theorem dX8_deleteFinding_4 : decode cX8_deleteFinding 4 = .ok (.getfield 65, 3) := by decide +kernel
theorem dX8_deleteFinding_7 : decode cX8_deleteFinding 7 = .ok (.getfield 149, 3) := by decide +kernel
theorem dX8_deleteFinding_10 : decode cX8_deleteFinding 10 = .ok (.if_icmp .ge 29, 3) := by decide +kernel
theorem dX8_deleteFinding_13 : decode cX8_deleteFinding 13 = .ok (.aload_n 0, 1) := by decide +kernel
theorem dX8_deleteFinding_14 : decode cX8_deleteFinding 14 = .ok (.getfield 42, 3) := by decide +kernel
theorem dX8_deleteFinding_17 : decode cX8_deleteFinding 17 = .ok (.aload_n 0, 1) := by decide +kernel
theorem dX8_deleteFinding_18 : decode cX8_deleteFinding 18 = .ok (.getfield 65, 3) := by decide +kernel
theorem dX8_deleteFinding_21 : decode cX8_deleteFinding 21 = .ok (.getfield 178, 3) := by decide +kernel
theorem dX8_deleteFinding_24 : decode cX8_deleteFinding 24 = .ok (.iload_n 1, 1) := by decide +kernel
theorem dX8_deleteFinding_25 : decode cX8_deleteFinding 25 = .ok (.aaload, 1) := by decide +kernel
theorem dX8_deleteFinding_26 : decode cX8_deleteFinding 26 = .ok (.getfield 182, 3) := by decide +kernel
theorem dX8_deleteFinding_29 : decode cX8_deleteFinding 29 = .ok (.invokevirtual 133, 3) := by decide +kernel
theorem dX8_deleteFinding_32 : decode cX8_deleteFinding 32 = .ok (.pop, 1) := by decide +kernel
theorem dX8_deleteFinding_33 : decode cX8_deleteFinding 33 = .ok (.iinc 1 1, 3) := by decide +kernel
theorem dX8_deleteFinding_36 : decode cX8_deleteFinding 36 = .ok (.goto (-34), 3) := by decide +kernel
theorem dX8_deleteFinding_39 : decode cX8_deleteFinding 39 = .ok (.aload_n 0, 1) := by decide +kernel
theorem dX8_deleteFinding_40 : decode cX8_deleteFinding 40 = .ok (.getfield 65, 3) := by decide +kernel
theorem dX8_deleteFinding_43 : decode cX8_deleteFinding 43 = .ok (.getfield 149, 3) := by decide +kernel
theorem dX8_deleteFinding_46 : decode cX8_deleteFinding 46 = .ok (.ireturn, 1) := by decide +kernel
def bX8_deleteFinding_2 (K2 : Int32 → fb_M → Option (Int32 × fb_M)) (a0 : Nat) (x1 : Int32) (u : fb_M) : Option (Int32 × fb_M) :=
 ((fb_R u a0 9).bind fun q4 => fb_gd (q4 < fb_NT ∧ fb_sh q4 = (4, 2)) 
  ((if (fb_I u q4 1) ≤ x1 then ((fb_R u a0 9).bind fun q40 => fb_gd (q40 < fb_NT ∧ fb_sh q40 = (4, 2)) 
   ((some (fb_I u q40 1, u))))
  else ((fb_R u a0 5).bind fun q14 => fb_gd (q14 < fb_NT ∧ fb_sh q14 = (7, 2)) 
   (((fb_R u a0 9).bind fun q18 => fb_gd (q18 < fb_NT ∧ fb_sh q18 = (4, 2)) 
   (((fb_R u q18 0).bind fun q21 => fb_gd (q21 < fb_NT ∧ (fb_sh q21).1 = 106) 
   ((fb_gd (¬ (x1 < 0 ∨ (fb_sh q21).2 ≤ x1.toNatClampNeg)) 
   ((fb_R u q21 x1.toNatClampNeg).bind fun q25 => fb_gd (q25 < fb_NT ∧ fb_sh q25 = (1, 2)) 
   (((fX7_drop u q14 (fb_I u q25 0)).bind fun r29 => 
   (K2 (x1 + 1) r29.2))))))))))))))
def gX8_deleteFinding_2 (a0 : Nat) : Nat → Int32 → fb_M → Option (Int32 × fb_M)
 | 0 => fun _ _ => none
 | fu + 1 => fun x1 u => bX8_deleteFinding_2 (gX8_deleteFinding_2 a0 fu) a0 x1 u
set_option maxRecDepth 100000 in
set_option maxHeartbeats 4000000 in
theorem tbX8_deleteFinding_2 {g : fb_G} {res : (Int32 × fb_M)} (a0 : Nat) (x1 : Int32) (u : fb_M) (K2 : Int32 → fb_M → Option (Int32 × fb_M)) (ha0 : a0 < fb_NT ∧ fb_sh a0 = (8, 12)) (hK2 : ∀ (x1 : Int32) (u : fb_M) ,  K2 x1 u = some res → fb_V g RX8 cX8_deleteFinding 2 (some .int) "deleteFinding" (fb_room 2 46 0 0) (fb_Qm g (some (.int res.1)) fb_NT res.2 0 0) 0 0 fb_NT u 2 [(0, .ref (fb_b g + a0)), (1, .int x1)] []) (h : bX8_deleteFinding_2 K2 a0 x1 u = some res) : fb_V g RX8 cX8_deleteFinding 2 (some .int) "deleteFinding" (fb_room 2 46 0 0) (fb_Qm g (some (.int res.1)) fb_NT res.2 0 0) 0 0 fb_NT u 2 [(0, .ref (fb_b g + a0)), (1, .int x1)] [] := by
  unfold bX8_deleteFinding_2 at h
  refine fb_iload_n (pc := 2) dX8_deleteFinding_2 1 rfl ?_
  refine fb_aload_n (pc := 3) dX8_deleteFinding_3 0 rfl ?_
  refine fb_bnE h (fun q4 e4 h => fb_gdE h (fun s4 h => ?_))
  refine fb_getR (pc := 4) dX8_deleteFinding_4 lkX8_65 ha0.1 ha0.2 (by decide) e4 ?_
  refine fb_getI (pc := 7) dX8_deleteFinding_7 lkX8_149 s4.1 s4.2 rfl ?_
  refine fb_icmp_ge (pc := 10) (tgt := 39) h dX8_deleteFinding_10 (by decide) (fun h => ?_) (fun h => ?_)
  · refine fb_aload_n (pc := 39) dX8_deleteFinding_39 0 rfl ?_
    refine fb_bnE h (fun q40 e40 h => fb_gdE h (fun s40 h => ?_))
    refine fb_getR (pc := 40) dX8_deleteFinding_40 lkX8_65 ha0.1 ha0.2 (by decide) e40 ?_
    refine fb_getI (pc := 43) dX8_deleteFinding_43 lkX8_149 s40.1 s40.2 rfl ?_
    exact fb_iretM (pc := 46) h dX8_deleteFinding_46
  · refine fb_aload_n (pc := 13) dX8_deleteFinding_13 0 rfl ?_
    refine fb_bnE h (fun q14 e14 h => fb_gdE h (fun s14 h => ?_))
    refine fb_getR (pc := 14) dX8_deleteFinding_14 lkX8_42 ha0.1 ha0.2 (by decide) e14 ?_
    refine fb_aload_n (pc := 17) dX8_deleteFinding_17 0 rfl ?_
    refine fb_bnE h (fun q18 e18 h => fb_gdE h (fun s18 h => ?_))
    refine fb_getR (pc := 18) dX8_deleteFinding_18 lkX8_65 ha0.1 ha0.2 (by decide) e18 ?_
    refine fb_bnE h (fun q21 e21 h => fb_gdE h (fun s21 h => ?_))
    refine fb_getR (pc := 21) dX8_deleteFinding_21 lkX8_178 s18.1 s18.2 (by decide) e21 ?_
    refine fb_iload_n (pc := 24) dX8_deleteFinding_24 1 rfl ?_
    refine fb_gdE h (fun i25 h => fb_bnE h (fun q25 e25 h => fb_gdE h (fun s25 h => ?_)))
    refine fb_aald (pc := 25) (t := 6) dX8_deleteFinding_25 s21.1 (fb_eta s21.2) ⟨by decide, by decide, rfl⟩ i25 e25 ?_
    refine fb_getI (pc := 26) dX8_deleteFinding_26 lkX8_182 s25.1 s25.2 rfl ?_
    refine fb_bnE h (fun r29 h29 h => ?_)
    refine fb_cV0v (pc := 29) [.int (fb_I u q25 0)] dX8_deleteFinding_29 (mX7_drop g u q14 (fb_I u q25 0) s14 h29) ymX7_drop yiX7_drop s14.1 s14.2 ylX8_133 rfl (Nat.le_of_ble_eq_true rfl) ⟨Nat.le_of_ble_eq_true rfl, Nat.le_of_ble_eq_true rfl⟩ ⟨Nat.le_of_ble_eq_true rfl, Nat.le_of_ble_eq_true rfl⟩ ?_
    refine fb_pop (pc := 32) dX8_deleteFinding_32 rfl ?_
    refine fb_iinc (pc := 33) (v := 1) (lv' := [(1, .int (x1 + 1)), (0, .ref (fb_b g + a0))]) dX8_deleteFinding_33 1 rfl fb_ki_1 (by decide) rfl ?_
    refine fb_goto (pc := 36) (tgt := 2) dX8_deleteFinding_36 (by decide) ?_
    exact fb_sub [1, 0] rfl (hK2 (x1 + 1) r29.2 h)

theorem tgX8_deleteFinding_2 {g : fb_G} {res : (Int32 × fb_M)} (a0 : Nat) (ha0 : a0 < fb_NT ∧ fb_sh a0 = (8, 12)) : ∀ (fu : Nat) (x1 : Int32) (u : fb_M) ,  gX8_deleteFinding_2 a0 fu x1 u = some res → fb_V g RX8 cX8_deleteFinding 2 (some .int) "deleteFinding" (fb_room 2 46 0 0) (fb_Qm g (some (.int res.1)) fb_NT res.2 0 0) 0 0 fb_NT u 2 [(0, .ref (fb_b g + a0)), (1, .int x1)] [] := by
  intro fu
  induction fu with
  | zero => intro x1 u h; exact absurd h (by simp [gX8_deleteFinding_2])
  | succ fu ih => intro x1 u h; exact tbX8_deleteFinding_2 a0 x1 u (gX8_deleteFinding_2 a0 fu) ha0 ih h
def fX8_deleteFinding (u : fb_M) (a0 : Nat) : Option (Int32 × fb_M) :=
 (gX8_deleteFinding_2 a0 fb_F 0 u)
set_option maxRecDepth 100000 in
set_option maxHeartbeats 4000000 in
theorem mX8_deleteFinding (g : fb_G) (u : fb_M) (a0 : Nat) (ha0 : a0 < fb_NT ∧ fb_sh a0 = (8, 12)) {res : (Int32 × fb_M)} (h : fX8_deleteFinding u a0 = some res) : fb_Runs g 2 46 0 0 fb_NT fb_NT yX8_deleteFinding cX8_deleteFinding 2 (some .int) [.ref (fb_b g + a0)] u (some (.int res.1)) res.2 := by
  unfold fX8_deleteFinding at h
  refine fb_enter (by decide) (Nat.le_of_ble_eq_true rfl) ?_
  show fb_V g RX8 cX8_deleteFinding 2 (some .int) "deleteFinding" (fb_room 2 46 0 0) (fb_Qm g (some (.int res.1)) fb_NT res.2 0 0) 0 0 fb_NT u 0 [(0, .ref (fb_b g + a0))] []
  refine fb_iconst (pc := 0) (v := 0) dX8_deleteFinding_0 fb_ki_0 ?_
  refine fb_istore_n (pc := 1) (lv' := [(1, .int 0), (0, .ref (fb_b g + a0))]) dX8_deleteFinding_1 rfl (by decide) rfl ?_
  exact fb_sub [1, 0] rfl (tgX8_deleteFinding_2 a0 ha0 fb_F 0 u h)

theorem dX8_keepFinding_0 : decode cX8_keepFinding 0 = .ok (.iload_n 1, 1) := by decide +kernel
theorem dX8_keepFinding_1 : decode cX8_keepFinding 1 = .ok (.ifCond .eq 17, 3) := by decide +kernel
theorem dX8_keepFinding_4 : decode cX8_keepFinding 4 = .ok (.aload_n 0, 1) := by decide +kernel
theorem dX8_keepFinding_5 : decode cX8_keepFinding 5 = .ok (.getfield 65, 3) := by decide +kernel
theorem dX8_keepFinding_8 : decode cX8_keepFinding 8 = .ok (.getfield 149, 3) := by decide +kernel
theorem dX8_keepFinding_11 : decode cX8_keepFinding 11 = .ok (.iconst 1, 1) := by decide +kernel
theorem dX8_keepFinding_12 : decode cX8_keepFinding 12 = .ok (.if_icmp .le 6, 3) := by decide +kernel
theorem dX8_keepFinding_15 : decode cX8_keepFinding 15 = .ok (.bipush (-3), 2) := by decide +kernel
theorem dX8_keepFinding_17 : decode cX8_keepFinding 17 = .ok (.ireturn, 1) := by decide +kernel
theorem dX8_keepFinding_18 : decode cX8_keepFinding 18 = .ok (.iconst 0, 1) := by decide +kernel
theorem dX8_keepFinding_19 : decode cX8_keepFinding 19 = .ok (.istore_n 2, 1) := by decide +kernel
theorem dX8_keepFinding_20 : decode cX8_keepFinding 20 = .ok (.iload_n 2, 1) := by decide +kernel
theorem dX8_keepFinding_21 : decode cX8_keepFinding 21 = .ok (.aload_n 0, 1) := by decide +kernel
theorem dX8_keepFinding_22 : decode cX8_keepFinding 22 = .ok (.getfield 65, 3) := by decide +kernel
theorem dX8_keepFinding_25 : decode cX8_keepFinding 25 = .ok (.getfield 149, 3) := by decide +kernel
theorem dX8_keepFinding_28 : decode cX8_keepFinding 28 = .ok (.if_icmp .ge 27, 3) := by decide +kernel
theorem dX8_keepFinding_31 : decode cX8_keepFinding 31 = .ok (.aload_n 0, 1) := by decide +kernel
theorem dX8_keepFinding_32 : decode cX8_keepFinding 32 = .ok (.getfield 69, 3) := by decide +kernel
theorem dX8_keepFinding_35 : decode cX8_keepFinding 35 = .ok (.iload_n 2, 1) := by decide +kernel
theorem dX8_keepFinding_36 : decode cX8_keepFinding 36 = .ok (.aload_n 0, 1) := by decide +kernel
theorem dX8_keepFinding_37 : decode cX8_keepFinding 37 = .ok (.getfield 65, 3) := by decide +kernel
theorem dX8_keepFinding_40 : decode cX8_keepFinding 40 = .ok (.getfield 178, 3) := by decide +kernel
theorem dX8_keepFinding_43 : decode cX8_keepFinding 43 = .ok (.iload_n 2, 1) := by decide +kernel
theorem dX8_keepFinding_44 : decode cX8_keepFinding 44 = .ok (.aaload, 1) := by decide +kernel
theorem dX8_keepFinding_45 : decode cX8_keepFinding 45 = .ok (.getfield 182, 3) := by decide +kernel
theorem dX8_keepFinding_48 : decode cX8_keepFinding 48 = .ok (.iastore, 1) := by decide +kernel
theorem dX8_keepFinding_49 : decode cX8_keepFinding 49 = .ok (.iinc 2 1, 3) := by decide +kernel
theorem dX8_keepFinding_52 : decode cX8_keepFinding 52 = .ok (.goto (-32), 3) := by decide +kernel
theorem dX8_keepFinding_55 : decode cX8_keepFinding 55 = .ok (.aload_n 0, 1) := by decide +kernel
theorem dX8_keepFinding_56 : decode cX8_keepFinding 56 = .ok (.aload_n 0, 1) := by decide +kernel
theorem dX8_keepFinding_57 : decode cX8_keepFinding 57 = .ok (.getfield 65, 3) := by decide +kernel
theorem dX8_keepFinding_60 : decode cX8_keepFinding 60 = .ok (.getfield 149, 3) := by decide +kernel
theorem dX8_keepFinding_63 : decode cX8_keepFinding 63 = .ok (.putfield 142, 3) := by decide +kernel
theorem dX8_keepFinding_66 : decode cX8_keepFinding 66 = .ok (.aload_n 0, 1) := by decide +kernel
theorem dX8_keepFinding_67 : decode cX8_keepFinding 67 = .ok (.getfield 142, 3) := by decide +kernel
theorem dX8_keepFinding_70 : decode cX8_keepFinding 70 = .ok (.ireturn, 1) := by decide +kernel
def bX8_keepFinding_20 (K20 : Int32 → fb_M → Option (Int32 × fb_M)) (a0 : Nat) (x2 : Int32) (u : fb_M) : Option (Int32 × fb_M) :=
 ((fb_R u a0 9).bind fun q22 => fb_gd (q22 < fb_NT ∧ fb_sh q22 = (4, 2)) 
  ((if (fb_I u q22 1) ≤ x2 then ((fb_R u a0 9).bind fun q57 => fb_gd (q57 < fb_NT ∧ fb_sh q57 = (4, 2)) 
   ((some (fb_I (fb_wI u a0 11 (fb_I u q57 1)) a0 11, fb_wI u a0 11 (fb_I u q57 1)))))
  else ((fb_R u a0 10).bind fun q32 => fb_gd (q32 < fb_NT ∧ (fb_sh q32).1 = 100) 
   (((fb_R u a0 9).bind fun q37 => fb_gd (q37 < fb_NT ∧ fb_sh q37 = (4, 2)) 
   (((fb_R u q37 0).bind fun q40 => fb_gd (q40 < fb_NT ∧ (fb_sh q40).1 = 106) 
   ((fb_gd (¬ (x2 < 0 ∨ (fb_sh q40).2 ≤ x2.toNatClampNeg)) 
   ((fb_R u q40 x2.toNatClampNeg).bind fun q44 => fb_gd (q44 < fb_NT ∧ fb_sh q44 = (1, 2)) 
   ((fb_gd (¬ (x2 < 0 ∨ (fb_sh q32).2 ≤ x2.toNatClampNeg)) 
   (K20 (x2 + 1) (fb_wI u q32 x2.toNatClampNeg (fb_I u q44 0))))))))))))))))
def gX8_keepFinding_20 (a0 : Nat) : Nat → Int32 → fb_M → Option (Int32 × fb_M)
 | 0 => fun _ _ => none
 | fu + 1 => fun x2 u => bX8_keepFinding_20 (gX8_keepFinding_20 a0 fu) a0 x2 u
set_option maxRecDepth 100000 in
set_option maxHeartbeats 4000000 in
theorem tbX8_keepFinding_20 {g : fb_G} {res : (Int32 × fb_M)} (a0 : Nat) (x2 : Int32) (u : fb_M) (K20 : Int32 → fb_M → Option (Int32 × fb_M)) (ha0 : a0 < fb_NT ∧ fb_sh a0 = (8, 12)) (hK20 : ∀ (x2 : Int32) (u : fb_M) ,  K20 x2 u = some res → fb_V g RX8 cX8_keepFinding 3 (some .int) "keepFinding" (fb_room 0 0 0 0) (fb_Qm g (some (.int res.1)) fb_NT res.2 0 0) 0 0 fb_NT u 20 [(0, .ref (fb_b g + a0)), (2, .int x2)] []) (h : bX8_keepFinding_20 K20 a0 x2 u = some res) : fb_V g RX8 cX8_keepFinding 3 (some .int) "keepFinding" (fb_room 0 0 0 0) (fb_Qm g (some (.int res.1)) fb_NT res.2 0 0) 0 0 fb_NT u 20 [(0, .ref (fb_b g + a0)), (2, .int x2)] [] := by
  unfold bX8_keepFinding_20 at h
  refine fb_iload_n (pc := 20) dX8_keepFinding_20 1 rfl ?_
  refine fb_aload_n (pc := 21) dX8_keepFinding_21 0 rfl ?_
  refine fb_bnE h (fun q22 e22 h => fb_gdE h (fun s22 h => ?_))
  refine fb_getR (pc := 22) dX8_keepFinding_22 lkX8_65 ha0.1 ha0.2 (by decide) e22 ?_
  refine fb_getI (pc := 25) dX8_keepFinding_25 lkX8_149 s22.1 s22.2 rfl ?_
  refine fb_icmp_ge (pc := 28) (tgt := 55) h dX8_keepFinding_28 (by decide) (fun h => ?_) (fun h => ?_)
  · refine fb_aload_n (pc := 55) dX8_keepFinding_55 0 rfl ?_
    refine fb_aload_n (pc := 56) dX8_keepFinding_56 0 rfl ?_
    refine fb_bnE h (fun q57 e57 h => fb_gdE h (fun s57 h => ?_))
    refine fb_getR (pc := 57) dX8_keepFinding_57 lkX8_65 ha0.1 ha0.2 (by decide) e57 ?_
    refine fb_getI (pc := 60) dX8_keepFinding_60 lkX8_149 s57.1 s57.2 rfl ?_
    refine fb_putI (pc := 63) dX8_keepFinding_63 lkX8_142 ly_8_11 ha0.1 ha0.2 rfl rfl rfl ?_
    refine fb_aload_n (pc := 66) dX8_keepFinding_66 0 rfl ?_
    refine fb_getI (pc := 67) dX8_keepFinding_67 lkX8_142 ha0.1 ha0.2 rfl ?_
    exact fb_iretM (pc := 70) h dX8_keepFinding_70
  · refine fb_aload_n (pc := 31) dX8_keepFinding_31 0 rfl ?_
    refine fb_bnE h (fun q32 e32 h => fb_gdE h (fun s32 h => ?_))
    refine fb_getR (pc := 32) dX8_keepFinding_32 lkX8_69 ha0.1 ha0.2 (by decide) e32 ?_
    refine fb_iload_n (pc := 35) dX8_keepFinding_35 1 rfl ?_
    refine fb_aload_n (pc := 36) dX8_keepFinding_36 0 rfl ?_
    refine fb_bnE h (fun q37 e37 h => fb_gdE h (fun s37 h => ?_))
    refine fb_getR (pc := 37) dX8_keepFinding_37 lkX8_65 ha0.1 ha0.2 (by decide) e37 ?_
    refine fb_bnE h (fun q40 e40 h => fb_gdE h (fun s40 h => ?_))
    refine fb_getR (pc := 40) dX8_keepFinding_40 lkX8_178 s37.1 s37.2 (by decide) e40 ?_
    refine fb_iload_n (pc := 43) dX8_keepFinding_43 1 rfl ?_
    refine fb_gdE h (fun i44 h => fb_bnE h (fun q44 e44 h => fb_gdE h (fun s44 h => ?_)))
    refine fb_aald (pc := 44) (t := 6) dX8_keepFinding_44 s40.1 (fb_eta s40.2) ⟨by decide, by decide, rfl⟩ i44 e44 ?_
    refine fb_getI (pc := 45) dX8_keepFinding_45 lkX8_182 s44.1 s44.2 rfl ?_
    refine fb_gdE h (fun i48 h => ?_)
    refine fb_iast (pc := 48) dX8_keepFinding_48 s32.1 (fb_eta s32.2) i48 ?_
    refine fb_iinc (pc := 49) (v := 1) (lv' := [(2, .int (x2 + 1)), (0, .ref (fb_b g + a0))]) dX8_keepFinding_49 1 rfl fb_ki_1 (by decide) rfl ?_
    refine fb_goto (pc := 52) (tgt := 20) dX8_keepFinding_52 (by decide) ?_
    exact fb_sub [1, 0] rfl (hK20 (x2 + 1) (fb_wI u q32 x2.toNatClampNeg (fb_I u q44 0)) h)

theorem tgX8_keepFinding_20 {g : fb_G} {res : (Int32 × fb_M)} (a0 : Nat) (ha0 : a0 < fb_NT ∧ fb_sh a0 = (8, 12)) : ∀ (fu : Nat) (x2 : Int32) (u : fb_M) ,  gX8_keepFinding_20 a0 fu x2 u = some res → fb_V g RX8 cX8_keepFinding 3 (some .int) "keepFinding" (fb_room 0 0 0 0) (fb_Qm g (some (.int res.1)) fb_NT res.2 0 0) 0 0 fb_NT u 20 [(0, .ref (fb_b g + a0)), (2, .int x2)] [] := by
  intro fu
  induction fu with
  | zero => intro x2 u h; exact absurd h (by simp [gX8_keepFinding_20])
  | succ fu ih => intro x2 u h; exact tbX8_keepFinding_20 a0 x2 u (gX8_keepFinding_20 a0 fu) ha0 ih h
def fX8_keepFinding (u : fb_M) (a0 : Nat) (x1 : Int32) : Option (Int32 × fb_M) :=
 (if x1 = 0 then (gX8_keepFinding_20 a0 fb_F 0 u)
  else ((fb_R u a0 9).bind fun q5 => fb_gd (q5 < fb_NT ∧ fb_sh q5 = (4, 2)) 
   ((if (fb_I u q5 1) ≤ 1 then (gX8_keepFinding_20 a0 fb_F 0 u)
   else (some ((-3), u))))))
set_option maxRecDepth 100000 in
set_option maxHeartbeats 4000000 in
theorem mX8_keepFinding (g : fb_G) (u : fb_M) (a0 : Nat) (x1 : Int32) (ha0 : a0 < fb_NT ∧ fb_sh a0 = (8, 12)) {res : (Int32 × fb_M)} (h : fX8_keepFinding u a0 x1 = some res) : fb_Runs g 0 0 0 0 fb_NT fb_NT yX8_keepFinding cX8_keepFinding 3 (some .int) [.ref (fb_b g + a0), .int x1] u (some (.int res.1)) res.2 := by
  unfold fX8_keepFinding at h
  refine fb_enter (by decide) (Nat.le_of_ble_eq_true rfl) ?_
  show fb_V g RX8 cX8_keepFinding 3 (some .int) "keepFinding" (fb_room 0 0 0 0) (fb_Qm g (some (.int res.1)) fb_NT res.2 0 0) 0 0 fb_NT u 0 [(0, .ref (fb_b g + a0)), (1, .int x1)] []
  refine fb_iload_n (pc := 0) dX8_keepFinding_0 1 rfl ?_
  refine fb_if_eq (pc := 1) (tgt := 18) h dX8_keepFinding_1 (by decide) (fun h => ?_) (fun h => ?_)
  · refine fb_iconst (pc := 18) (v := 0) dX8_keepFinding_18 fb_ki_0 ?_
    refine fb_istore_n (pc := 19) (lv' := [(2, .int 0), (0, .ref (fb_b g + a0)), (1, .int x1)]) dX8_keepFinding_19 rfl (by decide) rfl ?_
    exact fb_sub [1, 0] rfl (tgX8_keepFinding_20 a0 ha0 fb_F 0 u h)
  · refine fb_aload_n (pc := 4) dX8_keepFinding_4 0 rfl ?_
    refine fb_bnE h (fun q5 e5 h => fb_gdE h (fun s5 h => ?_))
    refine fb_getR (pc := 5) dX8_keepFinding_5 lkX8_65 ha0.1 ha0.2 (by decide) e5 ?_
    refine fb_getI (pc := 8) dX8_keepFinding_8 lkX8_149 s5.1 s5.2 rfl ?_
    refine fb_iconst (pc := 11) (v := 1) dX8_keepFinding_11 fb_ki_1 ?_
    refine fb_icmp_le (pc := 12) (tgt := 18) h dX8_keepFinding_12 (by decide) (fun h => ?_) (fun h => ?_)
    · refine fb_iconst (pc := 18) (v := 0) dX8_keepFinding_18 fb_ki_0 ?_
      refine fb_istore_n (pc := 19) (lv' := [(2, .int 0), (0, .ref (fb_b g + a0)), (1, .int x1)]) dX8_keepFinding_19 rfl (by decide) rfl ?_
      exact fb_sub [1, 0] rfl (tgX8_keepFinding_20 a0 ha0 fb_F 0 u h)
    · refine fb_bipush (pc := 15) (v := (-3)) dX8_keepFinding_15 fb_kb_m3 ?_
      exact fb_iretM (pc := 17) h dX8_keepFinding_17

theorem dX8_run_0 : decode cX8_run 0 = .ok (.aload_n 0, 1) := by decide +kernel
theorem dX8_run_1 : decode cX8_run 1 = .ok (.iload_n 1, 1) := by decide +kernel
theorem dX8_run_2 : decode cX8_run 2 = .ok (.invokevirtual 114, 3) := by decide +kernel
theorem dX8_run_5 : decode cX8_run 5 = .ok (.ifCond .ne 5, 3) := by decide +kernel
theorem dX8_run_8 : decode cX8_run 8 = .ok (.iconst (-1), 1) := by decide +kernel
theorem dX8_run_9 : decode cX8_run 9 = .ok (.ireturn, 1) := by decide +kernel
theorem dX8_run_10 : decode cX8_run 10 = .ok (.aload_n 0, 1) := by decide +kernel
theorem dX8_run_11 : decode cX8_run 11 = .ok (.getfield 34, 3) := by decide +kernel
theorem dX8_run_14 : decode cX8_run 14 = .ok (.iload_n 1, 1) := by decide +kernel
theorem dX8_run_15 : decode cX8_run 15 = .ok (.aaload, 1) := by decide +kernel
theorem dX8_run_16 : decode cX8_run 16 = .ok (.astore_n 2, 1) := by decide +kernel
theorem dX8_run_17 : decode cX8_run 17 = .ok (.aload_n 0, 1) := by decide +kernel
theorem dX8_run_18 : decode cX8_run 18 = .ok (.getfield 136, 3) := by decide +kernel
theorem dX8_run_21 : decode cX8_run 21 = .ok (.istore_n 3, 1) := by decide +kernel
theorem dX8_run_22 : decode cX8_run 22 = .ok (.aload_n 0, 1) := by decide +kernel
theorem dX8_run_23 : decode cX8_run 23 = .ok (.iconst 0, 1) := by decide +kernel
theorem dX8_run_24 : decode cX8_run 24 = .ok (.putfield 136, 3) := by decide +kernel
theorem dX8_run_27 : decode cX8_run 27 = .ok (.iload_n 3, 1) := by decide +kernel
theorem dX8_run_28 : decode cX8_run 28 = .ok (.aload_n 2, 1) := by decide +kernel
theorem dX8_run_29 : decode cX8_run 29 = .ok (.getfield 139, 3) := by decide +kernel
theorem dX8_run_32 : decode cX8_run 32 = .ok (.if_icmp .eq 6, 3) := by decide +kernel
theorem dX8_run_35 : decode cX8_run 35 = .ok (.bipush (-2), 2) := by decide +kernel
theorem dX8_run_37 : decode cX8_run 37 = .ok (.ireturn, 1) := by decide +kernel
theorem dX8_run_38 : decode cX8_run 38 = .ok (.aload_n 0, 1) := by decide +kernel
theorem dX8_run_39 : decode cX8_run 39 = .ok (.iconst 0, 1) := by decide +kernel
theorem dX8_run_40 : decode cX8_run 40 = .ok (.putfield 142, 3) := by decide +kernel
theorem dX8_run_43 : decode cX8_run 43 = .ok (.aload_n 0, 1) := by decide +kernel
theorem dX8_run_44 : decode cX8_run 44 = .ok (.getfield 65, 3) := by decide +kernel
theorem dX8_run_47 : decode cX8_run 47 = .ok (.aload_n 0, 1) := by decide +kernel
theorem dX8_run_48 : decode cX8_run 48 = .ok (.getfield 42, 3) := by decide +kernel
theorem dX8_run_51 : decode cX8_run 51 = .ok (.aload_n 2, 1) := by decide +kernel
theorem dX8_run_52 : decode cX8_run 52 = .ok (.aload_n 0, 1) := by decide +kernel
theorem dX8_run_53 : decode cX8_run 53 = .ok (.getfield 58, 3) := by decide +kernel
theorem dX8_run_56 : decode cX8_run 56 = .ok (.invokevirtual 145, 3) := by decide +kernel
theorem dX8_run_59 : decode cX8_run 59 = .ok (.aload_n 2, 1) := by decide +kernel
theorem dX8_run_60 : decode cX8_run 60 = .ok (.getfield 107, 3) := by decide +kernel
theorem dX8_run_63 : decode cX8_run 63 = .ok (.tableswitch 54 1 3 #[25, 33, 49], 25) := by decide +kernel
theorem dX8_run_88 : decode cX8_run 88 = .ok (.aload_n 0, 1) := by decide +kernel
theorem dX8_run_89 : decode cX8_run 89 = .ok (.getfield 65, 3) := by decide +kernel
theorem dX8_run_92 : decode cX8_run 92 = .ok (.getfield 149, 3) := by decide +kernel
theorem dX8_run_95 : decode cX8_run 95 = .ok (.ireturn, 1) := by decide +kernel
theorem dX8_run_96 : decode cX8_run 96 = .ok (.aload_n 0, 1) := by decide +kernel
theorem dX8_run_97 : decode cX8_run 97 = .ok (.getfield 65, 3) := by decide +kernel
theorem dX8_run_100 : decode cX8_run 100 = .ok (.getfield 149, 3) := by decide +kernel
theorem dX8_run_103 : decode cX8_run 103 = .ok (.ifCond .le 7, 3) := by decide +kernel
theorem dX8_run_106 : decode cX8_run 106 = .ok (.iconst 1, 1) := by decide +kernel
theorem dX8_run_107 : decode cX8_run 107 = .ok (.goto 4, 3) := by decide +kernel
theorem dX8_run_110 : decode cX8_run 110 = .ok (.iconst 0, 1) := by decide +kernel
theorem dX8_run_111 : decode cX8_run 111 = .ok (.ireturn, 1) := by decide +kernel
theorem dX8_run_112 : decode cX8_run 112 = .ok (.aload_n 0, 1) := by decide +kernel
theorem dX8_run_113 : decode cX8_run 113 = .ok (.invokevirtual 152, 3) := by decide +kernel
theorem dX8_run_116 : decode cX8_run 116 = .ok (.ireturn, 1) := by decide +kernel
theorem dX8_run_117 : decode cX8_run 117 = .ok (.aload_n 0, 1) := by decide +kernel
theorem dX8_run_118 : decode cX8_run 118 = .ok (.aload_n 2, 1) := by decide +kernel
theorem dX8_run_119 : decode cX8_run 119 = .ok (.getfield 110, 3) := by decide +kernel
theorem dX8_run_122 : decode cX8_run 122 = .ok (.invokevirtual 155, 3) := by decide +kernel
theorem dX8_run_125 : decode cX8_run 125 = .ok (.ireturn, 1) := by decide +kernel
def fX8_run (u : fb_M) (a0 : Nat) (x1 : Int32) : Option (Int32 × fb_M) :=
 ((fX8_isFinder u a0 x1).bind fun r2 => 
  (if r2 = 0 then (some ((-1), u))
  else ((fb_R u a0 3).bind fun q11 => fb_gd (q11 < fb_NT ∧ (fb_sh q11).1 = 105) 
   ((fb_gd (¬ (x1 < 0 ∨ (fb_sh q11).2 ≤ x1.toNatClampNeg)) 
   ((fb_R u q11 x1.toNatClampNeg).bind fun q15 => fb_gd (q15 < fb_NT ∧ fb_sh q15 = (2, 12)) 
   ((if (fb_I u a0 8) = (fb_I (fb_wI u a0 8 0) q15 5) then ((fb_R (fb_wI (fb_wI u a0 8 0) a0 11 0) a0 9).bind fun q44 => fb_gd (q44 < fb_NT ∧ fb_sh q44 = (4, 2)) 
    (((fb_R (fb_wI (fb_wI u a0 8 0) a0 11 0) a0 5).bind fun q48 => fb_gd (q48 < fb_NT ∧ fb_sh q48 = (7, 2)) 
    (((fb_R (fb_wI (fb_wI u a0 8 0) a0 11 0) a0 7).bind fun q53 => fb_gd (q53 < fb_NT ∧ (fb_sh q53).1 = 100) 
    (((fX4_gather (fb_wI (fb_wI u a0 8 0) a0 11 0) q44 q48 q15 q53).bind fun r56 => 
    (if (fb_I r56 q15 0) = 1 then ((fb_R r56 a0 9).bind fun q89 => fb_gd (q89 < fb_NT ∧ fb_sh q89 = (4, 2)) 
     ((some (fb_I r56 q89 1, r56))))
    else (if (fb_I r56 q15 0) = 2 then ((fb_R r56 a0 9).bind fun q97 => fb_gd (q97 < fb_NT ∧ fb_sh q97 = (4, 2)) 
     ((if (fb_I r56 q97 1) ≤ 0 then (some (0, r56))
     else (some (1, r56)))))
    else (if (fb_I r56 q15 0) = 3 then ((fX8_deleteFinding r56 a0).bind fun r113 => 
     (some (r113.1, r113.2)))
    else ((fX8_keepFinding r56 a0 (fb_I r56 q15 2)).bind fun r122 => 
    (some (r122.1, r122.2)))))))))))))
   else (some ((-2), fb_wI u a0 8 0))))))))))
set_option maxRecDepth 100000 in
set_option maxHeartbeats 4000000 in
theorem mX8_run (g : fb_G) (u : fb_M) (a0 : Nat) (x1 : Int32) (ha0 : a0 < fb_NT ∧ fb_sh a0 = (8, 12)) {res : (Int32 × fb_M)} (h : fX8_run u a0 x1 = some res) : fb_Runs g 4 96 0 0 fb_NT fb_NT yX8_run cX8_run 4 (some .int) [.ref (fb_b g + a0), .int x1] u (some (.int res.1)) res.2 := by
  unfold fX8_run at h
  refine fb_enter (by decide) (Nat.le_of_ble_eq_true rfl) ?_
  show fb_V g RX8 cX8_run 4 (some .int) "run" (fb_room 4 96 0 0) (fb_Qm g (some (.int res.1)) fb_NT res.2 0 0) 0 0 fb_NT u 0 [(0, .ref (fb_b g + a0)), (1, .int x1)] []
  refine fb_aload_n (pc := 0) dX8_run_0 0 rfl ?_
  refine fb_iload_n (pc := 1) dX8_run_1 1 rfl ?_
  refine fb_bnE h (fun r2 h2 h => ?_)
  refine fb_cV0v (pc := 2) [.int x1] dX8_run_2 (mX8_isFinder g u a0 x1 ha0 h2) ymX8_isFinder yiX8_isFinder ha0.1 ha0.2 ylX8_114 rfl (Nat.le_of_ble_eq_true rfl) ⟨Nat.le_of_ble_eq_true rfl, Nat.le_of_ble_eq_true rfl⟩ ⟨Nat.le_of_ble_eq_true rfl, Nat.le_of_ble_eq_true rfl⟩ ?_
  refine fb_if_ne (pc := 5) (tgt := 10) h dX8_run_5 (by decide) (fun h => ?_) (fun h => ?_)
  · refine fb_aload_n (pc := 10) dX8_run_10 0 rfl ?_
    refine fb_bnE h (fun q11 e11 h => fb_gdE h (fun s11 h => ?_))
    refine fb_getR (pc := 11) dX8_run_11 lkX8_34 ha0.1 ha0.2 (by decide) e11 ?_
    refine fb_iload_n (pc := 14) dX8_run_14 1 rfl ?_
    refine fb_gdE h (fun i15 h => fb_bnE h (fun q15 e15 h => fb_gdE h (fun s15 h => ?_)))
    refine fb_aald (pc := 15) (t := 5) dX8_run_15 s11.1 (fb_eta s11.2) ⟨by decide, by decide, rfl⟩ i15 e15 ?_
    refine fb_astore_n (pc := 16) (lv' := [(2, .ref (fb_b g + q15)), (0, .ref (fb_b g + a0)), (1, .int x1)]) dX8_run_16 rfl (by decide) rfl ?_
    refine fb_aload_n (pc := 17) dX8_run_17 1 rfl ?_
    refine fb_getI (pc := 18) dX8_run_18 lkX8_136 ha0.1 ha0.2 rfl ?_
    refine fb_istore_n (pc := 21) (lv' := [(3, .int (fb_I u a0 8)), (2, .ref (fb_b g + q15)), (0, .ref (fb_b g + a0)), (1, .int x1)]) dX8_run_21 rfl (by decide) rfl ?_
    refine fb_aload_n (pc := 22) dX8_run_22 2 rfl ?_
    refine fb_iconst (pc := 23) (v := 0) dX8_run_23 fb_ki_0 ?_
    refine fb_putI (pc := 24) dX8_run_24 lkX8_136 ly_8_8 ha0.1 ha0.2 rfl rfl rfl ?_
    refine fb_iload_n (pc := 27) dX8_run_27 0 rfl ?_
    refine fb_aload_n (pc := 28) dX8_run_28 1 rfl ?_
    refine fb_getI (pc := 29) dX8_run_29 lkX8_139 s15.1 s15.2 rfl ?_
    refine fb_icmp_eq (pc := 32) (tgt := 38) h dX8_run_32 (by decide) (fun h => ?_) (fun h => ?_)
    · refine fb_aload_n (pc := 38) dX8_run_38 2 rfl ?_
      refine fb_iconst (pc := 39) (v := 0) dX8_run_39 fb_ki_0 ?_
      refine fb_putI (pc := 40) dX8_run_40 lkX8_142 ly_8_11 ha0.1 ha0.2 rfl rfl rfl ?_
      refine fb_aload_n (pc := 43) dX8_run_43 2 rfl ?_
      refine fb_bnE h (fun q44 e44 h => fb_gdE h (fun s44 h => ?_))
      refine fb_getR (pc := 44) dX8_run_44 lkX8_65 ha0.1 ha0.2 (by decide) e44 ?_
      refine fb_aload_n (pc := 47) dX8_run_47 2 rfl ?_
      refine fb_bnE h (fun q48 e48 h => fb_gdE h (fun s48 h => ?_))
      refine fb_getR (pc := 48) dX8_run_48 lkX8_42 ha0.1 ha0.2 (by decide) e48 ?_
      refine fb_aload_n (pc := 51) dX8_run_51 1 rfl ?_
      refine fb_aload_n (pc := 52) dX8_run_52 2 rfl ?_
      refine fb_bnE h (fun q53 e53 h => fb_gdE h (fun s53 h => ?_))
      refine fb_getR (pc := 53) dX8_run_53 lkX8_58 ha0.1 ha0.2 (by decide) e53 ?_
      refine fb_bnE h (fun r56 h56 h => ?_)
      refine fb_cV0n (pc := 56) [.ref (fb_b g + q48), .ref (fb_b g + q15), .ref (fb_b g + q53)] dX8_run_56 (mX4_gather g (fb_wI (fb_wI u a0 8 0) a0 11 0) q44 q48 q15 q53 s44 s48 s15 s53 h56) ymX4_gather yiX4_gather s44.1 s44.2 ylX8_145 rfl (Nat.le_of_ble_eq_true rfl) ⟨Nat.le_of_ble_eq_true rfl, Nat.le_of_ble_eq_true rfl⟩ ⟨Nat.le_of_ble_eq_true rfl, Nat.le_of_ble_eq_true rfl⟩ ?_
      refine fb_aload_n (pc := 59) dX8_run_59 1 rfl ?_
      refine fb_getI (pc := 60) dX8_run_60 lkX8_107 s15.1 s15.2 rfl ?_
      refine fb_ifE h (fun c63_1 h => ?_) (fun c63_1 h => ?_)
      · refine fb_tabIn (pc := 63) (v := 1) (tgt := 88) c63_1 dX8_run_63 (by decide) (by decide) rfl (by decide) ?_
        refine fb_aload_n (pc := 88) dX8_run_88 2 rfl ?_
        refine fb_bnE h (fun q89 e89 h => fb_gdE h (fun s89 h => ?_))
        refine fb_getR (pc := 89) dX8_run_89 lkX8_65 ha0.1 ha0.2 (by decide) e89 ?_
        refine fb_getI (pc := 92) dX8_run_92 lkX8_149 s89.1 s89.2 rfl ?_
        exact fb_iretM (pc := 95) h dX8_run_95
      refine fb_ifE h (fun c63_2 h => ?_) (fun c63_2 h => ?_)
      · refine fb_tabIn (pc := 63) (v := 2) (tgt := 96) c63_2 dX8_run_63 (by decide) (by decide) rfl (by decide) ?_
        refine fb_aload_n (pc := 96) dX8_run_96 2 rfl ?_
        refine fb_bnE h (fun q97 e97 h => fb_gdE h (fun s97 h => ?_))
        refine fb_getR (pc := 97) dX8_run_97 lkX8_65 ha0.1 ha0.2 (by decide) e97 ?_
        refine fb_getI (pc := 100) dX8_run_100 lkX8_149 s97.1 s97.2 rfl ?_
        refine fb_if_le (pc := 103) (tgt := 110) h dX8_run_103 (by decide) (fun h => ?_) (fun h => ?_)
        · refine fb_iconst (pc := 110) (v := 0) dX8_run_110 fb_ki_0 ?_
          exact fb_iretM (pc := 111) h dX8_run_111
        · refine fb_iconst (pc := 106) (v := 1) dX8_run_106 fb_ki_1 ?_
          refine fb_goto (pc := 107) (tgt := 111) dX8_run_107 (by decide) ?_
          exact fb_iretM (pc := 111) h dX8_run_111
      refine fb_ifE h (fun c63_3 h => ?_) (fun c63_3 h => ?_)
      · refine fb_tabIn (pc := 63) (v := 3) (tgt := 112) c63_3 dX8_run_63 (by decide) (by decide) rfl (by decide) ?_
        refine fb_aload_n (pc := 112) dX8_run_112 2 rfl ?_
        refine fb_bnE h (fun r113 h113 h => ?_)
        refine fb_cV0v (pc := 113) [] dX8_run_113 (mX8_deleteFinding g r56 a0 ha0 h113) ymX8_deleteFinding yiX8_deleteFinding ha0.1 ha0.2 ylX8_152 rfl (Nat.le_of_ble_eq_true rfl) ⟨Nat.le_of_ble_eq_true rfl, Nat.le_of_ble_eq_true rfl⟩ ⟨Nat.le_of_ble_eq_true rfl, Nat.le_of_ble_eq_true rfl⟩ ?_
        exact fb_iretM (pc := 116) h dX8_run_116
      refine fb_tabOut (pc := 63) (tgt := 117) (by have a0 := lv_neT c63_1 (a := 1) (by decide); have a1 := lv_neT c63_2 (a := 2) (by decide); have a2 := lv_neT c63_3 (a := 3) (by decide); omega) dX8_run_63 (by decide) ?_
      refine fb_aload_n (pc := 117) dX8_run_117 2 rfl ?_
      refine fb_aload_n (pc := 118) dX8_run_118 1 rfl ?_
      refine fb_getI (pc := 119) dX8_run_119 lkX8_110 s15.1 s15.2 rfl ?_
      refine fb_bnE h (fun r122 h122 h => ?_)
      refine fb_cV0v (pc := 122) [.int (fb_I r56 q15 2)] dX8_run_122 (mX8_keepFinding g r56 a0 (fb_I r56 q15 2) ha0 h122) ymX8_keepFinding yiX8_keepFinding ha0.1 ha0.2 ylX8_155 rfl (Nat.le_of_ble_eq_true rfl) ⟨Nat.le_of_ble_eq_true rfl, Nat.le_of_ble_eq_true rfl⟩ ⟨Nat.le_of_ble_eq_true rfl, Nat.le_of_ble_eq_true rfl⟩ ?_
      exact fb_iretM (pc := 125) h dX8_run_125
    · refine fb_bipush (pc := 35) (v := (-2)) dX8_run_35 fb_kb_m2 ?_
      exact fb_iretM (pc := 37) h dX8_run_37
  · refine fb_iconst (pc := 8) (v := (-1)) dX8_run_8 fb_ki_m1 ?_
    exact fb_iretM (pc := 9) h dX8_run_9

theorem dX8_results_0 : decode cX8_results 0 = .ok (.aload_n 0, 1) := by decide +kernel
theorem dX8_results_1 : decode cX8_results 1 = .ok (.getfield 142, 3) := by decide +kernel
theorem dX8_results_4 : decode cX8_results 4 = .ok (.ireturn, 1) := by decide +kernel
def fX8_results (u : fb_M) (a0 : Nat) : Option Int32 :=
 (some (fb_I u a0 11))
set_option maxRecDepth 100000 in
set_option maxHeartbeats 4000000 in
theorem mX8_results (g : fb_G) (u : fb_M) (a0 : Nat) (ha0 : a0 < fb_NT ∧ fb_sh a0 = (8, 12)) {res : Int32} (h : fX8_results u a0 = some res) : fb_Runs g 0 0 0 0 fb_NT fb_NT yX8_results cX8_results 1 (some .int) [.ref (fb_b g + a0)] u (some (.int res)) u := by
  unfold fX8_results at h
  refine fb_enter (by decide) (Nat.le_of_ble_eq_true rfl) ?_
  show fb_V g RX8 cX8_results 1 (some .int) "results" (fb_room 0 0 0 0) (fb_Qm g (some (.int res)) fb_NT u 0 0) 0 0 fb_NT u 0 [(0, .ref (fb_b g + a0))] []
  refine fb_aload_n (pc := 0) dX8_results_0 0 rfl ?_
  refine fb_getI (pc := 1) dX8_results_1 lkX8_142 ha0.1 ha0.2 rfl ?_
  exact fb_iretR (pc := 4) h dX8_results_4

theorem dX8_result_0 : decode cX8_result 0 = .ok (.iload_n 1, 1) := by decide +kernel
theorem dX8_result_1 : decode cX8_result 1 = .ok (.ifCond .lt 20, 3) := by decide +kernel
theorem dX8_result_4 : decode cX8_result 4 = .ok (.iload_n 1, 1) := by decide +kernel
theorem dX8_result_5 : decode cX8_result 5 = .ok (.aload_n 0, 1) := by decide +kernel
theorem dX8_result_6 : decode cX8_result 6 = .ok (.getfield 142, 3) := by decide +kernel
theorem dX8_result_9 : decode cX8_result 9 = .ok (.if_icmp .ge 12, 3) := by decide +kernel
theorem dX8_result_12 : decode cX8_result 12 = .ok (.aload_n 0, 1) := by decide +kernel
theorem dX8_result_13 : decode cX8_result 13 = .ok (.getfield 69, 3) := by decide +kernel
theorem dX8_result_16 : decode cX8_result 16 = .ok (.iload_n 1, 1) := by decide +kernel
theorem dX8_result_17 : decode cX8_result 17 = .ok (.iaload, 1) := by decide +kernel
theorem dX8_result_18 : decode cX8_result 18 = .ok (.goto 4, 3) := by decide +kernel
theorem dX8_result_21 : decode cX8_result 21 = .ok (.iconst 0, 1) := by decide +kernel
theorem dX8_result_22 : decode cX8_result 22 = .ok (.ireturn, 1) := by decide +kernel
def fX8_result (u : fb_M) (a0 : Nat) (x1 : Int32) : Option Int32 :=
 (if x1 < 0 then (some 0)
  else (if (fb_I u a0 11) ≤ x1 then (some 0)
   else ((fb_R u a0 10).bind fun q13 => fb_gd (q13 < fb_NT ∧ (fb_sh q13).1 = 100) 
    ((fb_gd (¬ (x1 < 0 ∨ (fb_sh q13).2 ≤ x1.toNatClampNeg)) 
    (some (fb_I u q13 x1.toNatClampNeg)))))))
set_option maxRecDepth 100000 in
set_option maxHeartbeats 4000000 in
theorem mX8_result (g : fb_G) (u : fb_M) (a0 : Nat) (x1 : Int32) (ha0 : a0 < fb_NT ∧ fb_sh a0 = (8, 12)) {res : Int32} (h : fX8_result u a0 x1 = some res) : fb_Runs g 0 0 0 0 fb_NT fb_NT yX8_result cX8_result 2 (some .int) [.ref (fb_b g + a0), .int x1] u (some (.int res)) u := by
  unfold fX8_result at h
  refine fb_enter (by decide) (Nat.le_of_ble_eq_true rfl) ?_
  show fb_V g RX8 cX8_result 2 (some .int) "result" (fb_room 0 0 0 0) (fb_Qm g (some (.int res)) fb_NT u 0 0) 0 0 fb_NT u 0 [(0, .ref (fb_b g + a0)), (1, .int x1)] []
  refine fb_iload_n (pc := 0) dX8_result_0 1 rfl ?_
  refine fb_if_lt (pc := 1) (tgt := 21) h dX8_result_1 (by decide) (fun h => ?_) (fun h => ?_)
  · refine fb_iconst (pc := 21) (v := 0) dX8_result_21 fb_ki_0 ?_
    exact fb_iretR (pc := 22) h dX8_result_22
  · refine fb_iload_n (pc := 4) dX8_result_4 1 rfl ?_
    refine fb_aload_n (pc := 5) dX8_result_5 0 rfl ?_
    refine fb_getI (pc := 6) dX8_result_6 lkX8_142 ha0.1 ha0.2 rfl ?_
    refine fb_icmp_ge (pc := 9) (tgt := 21) h dX8_result_9 (by decide) (fun h => ?_) (fun h => ?_)
    · refine fb_iconst (pc := 21) (v := 0) dX8_result_21 fb_ki_0 ?_
      exact fb_iretR (pc := 22) h dX8_result_22
    · refine fb_aload_n (pc := 12) dX8_result_12 0 rfl ?_
      refine fb_bnE h (fun q13 e13 h => fb_gdE h (fun s13 h => ?_))
      refine fb_getR (pc := 13) dX8_result_13 lkX8_69 ha0.1 ha0.2 (by decide) e13 ?_
      refine fb_iload_n (pc := 16) dX8_result_16 1 rfl ?_
      refine fb_gdE h (fun i17 h => ?_)
      refine fb_iald (pc := 17) dX8_result_17 s13.1 (fb_eta s13.2) i17 ?_
      refine fb_goto (pc := 18) (tgt := 22) dX8_result_18 (by decide) ?_
      exact fb_iretR (pc := 22) h dX8_result_22

theorem dX8_value_0 : decode cX8_value 0 = .ok (.aload_n 0, 1) := by decide +kernel
theorem dX8_value_1 : decode cX8_value 1 = .ok (.getfield 42, 3) := by decide +kernel
theorem dX8_value_4 : decode cX8_value 4 = .ok (.iload_n 1, 1) := by decide +kernel
theorem dX8_value_5 : decode cX8_value 5 = .ok (.invokevirtual 159, 3) := by decide +kernel
theorem dX8_value_8 : decode cX8_value 8 = .ok (.istore_n 3, 1) := by decide +kernel
theorem dX8_value_9 : decode cX8_value 9 = .ok (.iload_n 3, 1) := by decide +kernel
theorem dX8_value_10 : decode cX8_value 10 = .ok (.ifCond .lt 30, 3) := by decide +kernel
theorem dX8_value_13 : decode cX8_value 13 = .ok (.aload_n 0, 1) := by decide +kernel
theorem dX8_value_14 : decode cX8_value 14 = .ok (.getfield 19, 3) := by decide +kernel
theorem dX8_value_17 : decode cX8_value 17 = .ok (.iload_n 2, 1) := by decide +kernel
theorem dX8_value_18 : decode cX8_value 18 = .ok (.invokevirtual 162, 3) := by decide +kernel
theorem dX8_value_21 : decode cX8_value 21 = .ok (.ifCond .eq 19, 3) := by decide +kernel
theorem dX8_value_24 : decode cX8_value 24 = .ok (.aload_n 0, 1) := by decide +kernel
theorem dX8_value_25 : decode cX8_value 25 = .ok (.getfield 42, 3) := by decide +kernel
theorem dX8_value_28 : decode cX8_value 28 = .ok (.iload_n 3, 1) := by decide +kernel
theorem dX8_value_29 : decode cX8_value 29 = .ok (.invokevirtual 165, 3) := by decide +kernel
theorem dX8_value_32 : decode cX8_value 32 = .ok (.getfield 169, 3) := by decide +kernel
theorem dX8_value_35 : decode cX8_value 35 = .ok (.iload_n 2, 1) := by decide +kernel
theorem dX8_value_36 : decode cX8_value 36 = .ok (.laload, 1) := by decide +kernel
theorem dX8_value_37 : decode cX8_value 37 = .ok (.goto 6, 3) := by decide +kernel
theorem dX8_value_40 : decode cX8_value 40 = .ok (.ldc2_w 174, 3) := by decide +kernel
theorem dX8_value_43 : decode cX8_value 43 = .ok (.lreturn, 1) := by decide +kernel
def fX8_value (u : fb_M) (a0 : Nat) (x1 : Int32) (x2 : Int32) : Option Int64 :=
 ((fb_R u a0 5).bind fun q1 => fb_gd (q1 < fb_NT ∧ fb_sh q1 = (7, 2)) 
  (((fX7_placeOf u q1 x1).bind fun r5 => 
  (if r5 < 0 then (some 4000000000)
  else ((fb_R u a0 1).bind fun q14 => fb_gd (q14 < fb_NT ∧ fb_sh q14 = (6, 2)) 
   (((fX6_has u q14 x2).bind fun r18 => 
   (if r18 = 0 then (some 4000000000)
   else ((fb_R u a0 5).bind fun q25 => fb_gd (q25 < fb_NT ∧ fb_sh q25 = (7, 2)) 
    (((fX7_at u q25 r5).bind fun r29 => 
    (fb_gd (r29 < fb_NT ∧ fb_sh r29 = (1, 2)) 
    ((fb_R u r29 1).bind fun q32 => fb_gd (q32 < fb_NT ∧ (fb_sh q32).1 = 103) 
    ((fb_gd (¬ (x2 < 0 ∨ (fb_sh q32).2 ≤ x2.toNatClampNeg)) 
    (some (fb_L u q32 x2.toNatClampNeg)))))))))))))))))
set_option maxRecDepth 100000 in
set_option maxHeartbeats 4000000 in
theorem mX8_value (g : fb_G) (u : fb_M) (a0 : Nat) (x1 : Int32) (x2 : Int32) (ha0 : a0 < fb_NT ∧ fb_sh a0 = (8, 12)) {res : Int64} (h : fX8_value u a0 x1 x2 = some res) : fb_Runs g 1 22 0 0 fb_NT fb_NT yX8_value cX8_value 4 (some .long) [.ref (fb_b g + a0), .int x1, .int x2] u (some (.long res)) u := by
  unfold fX8_value at h
  refine fb_enter (by decide) (Nat.le_of_ble_eq_true rfl) ?_
  show fb_V g RX8 cX8_value 4 (some .long) "value" (fb_room 1 22 0 0) (fb_Qm g (some (.long res)) fb_NT u 0 0) 0 0 fb_NT u 0 [(0, .ref (fb_b g + a0)), (1, .int x1), (2, .int x2)] []
  refine fb_aload_n (pc := 0) dX8_value_0 0 rfl ?_
  refine fb_bnE h (fun q1 e1 h => fb_gdE h (fun s1 h => ?_))
  refine fb_getR (pc := 1) dX8_value_1 lkX8_42 ha0.1 ha0.2 (by decide) e1 ?_
  refine fb_iload_n (pc := 4) dX8_value_4 1 rfl ?_
  refine fb_bnE h (fun r5 h5 h => ?_)
  refine fb_cV0v (pc := 5) [.int x1] dX8_value_5 (mX7_placeOf g u q1 x1 s1 h5) ymX7_placeOf yiX7_placeOf s1.1 s1.2 ylX8_159 rfl (Nat.le_of_ble_eq_true rfl) ⟨Nat.le_of_ble_eq_true rfl, Nat.le_of_ble_eq_true rfl⟩ ⟨Nat.le_of_ble_eq_true rfl, Nat.le_of_ble_eq_true rfl⟩ ?_
  refine fb_istore_n (pc := 8) (lv' := [(3, .int r5), (0, .ref (fb_b g + a0)), (1, .int x1), (2, .int x2)]) dX8_value_8 rfl (by decide) rfl ?_
  refine fb_iload_n (pc := 9) dX8_value_9 0 rfl ?_
  refine fb_if_lt (pc := 10) (tgt := 40) h dX8_value_10 (by decide) (fun h => ?_) (fun h => ?_)
  · refine fb_ldc2 (pc := 40) (v := 4000000000) dX8_value_40 lwX8_174 ?_
    exact fb_lretR (pc := 43) h dX8_value_43
  · refine fb_aload_n (pc := 13) dX8_value_13 1 rfl ?_
    refine fb_bnE h (fun q14 e14 h => fb_gdE h (fun s14 h => ?_))
    refine fb_getR (pc := 14) dX8_value_14 lkX8_19 ha0.1 ha0.2 (by decide) e14 ?_
    refine fb_iload_n (pc := 17) dX8_value_17 3 rfl ?_
    refine fb_bnE h (fun r18 h18 h => ?_)
    refine fb_cV0v (pc := 18) [.int x2] dX8_value_18 (mX6_has g u q14 x2 s14 h18) ymX6_has yiX6_has s14.1 s14.2 ylX8_162 rfl (Nat.le_of_ble_eq_true rfl) ⟨Nat.le_of_ble_eq_true rfl, Nat.le_of_ble_eq_true rfl⟩ ⟨Nat.le_of_ble_eq_true rfl, Nat.le_of_ble_eq_true rfl⟩ ?_
    refine fb_if_eq (pc := 21) (tgt := 40) h dX8_value_21 (by decide) (fun h => ?_) (fun h => ?_)
    · refine fb_ldc2 (pc := 40) (v := 4000000000) dX8_value_40 lwX8_174 ?_
      exact fb_lretR (pc := 43) h dX8_value_43
    · refine fb_aload_n (pc := 24) dX8_value_24 1 rfl ?_
      refine fb_bnE h (fun q25 e25 h => fb_gdE h (fun s25 h => ?_))
      refine fb_getR (pc := 25) dX8_value_25 lkX8_42 ha0.1 ha0.2 (by decide) e25 ?_
      refine fb_iload_n (pc := 28) dX8_value_28 0 rfl ?_
      refine fb_bnE h (fun r29 h29 h => ?_)
      refine fb_gdE h (fun s29 h => ?_)
      refine fb_cV0v (pc := 29) [.int r5] dX8_value_29 (mX7_at g u q25 r5 s25 h29) ymX7_at yiX7_at s25.1 s25.2 ylX8_165 rfl (Nat.le_of_ble_eq_true rfl) ⟨Nat.le_of_ble_eq_true rfl, Nat.le_of_ble_eq_true rfl⟩ ⟨Nat.le_of_ble_eq_true rfl, Nat.le_of_ble_eq_true rfl⟩ ?_
      refine fb_bnE h (fun q32 e32 h => fb_gdE h (fun s32 h => ?_))
      refine fb_getR (pc := 32) dX8_value_32 lkX8_169 s29.1 s29.2 (by decide) e32 ?_
      refine fb_iload_n (pc := 35) dX8_value_35 3 rfl ?_
      refine fb_gdE h (fun i36 h => ?_)
      refine fb_lald (pc := 36) dX8_value_36 s32.1 (fb_eta s32.2) i36 ?_
      refine fb_goto (pc := 37) (tgt := 43) dX8_value_37 (by decide) ?_
      exact fb_lretR (pc := 43) h dX8_value_43

theorem dX8_size_0 : decode cX8_size 0 = .ok (.aload_n 0, 1) := by decide +kernel
theorem dX8_size_1 : decode cX8_size 1 = .ok (.getfield 42, 3) := by decide +kernel
theorem dX8_size_4 : decode cX8_size 4 = .ok (.invokevirtual 176, 3) := by decide +kernel
theorem dX8_size_7 : decode cX8_size 7 = .ok (.ireturn, 1) := by decide +kernel
def fX8_size (u : fb_M) (a0 : Nat) : Option Int32 :=
 ((fb_R u a0 5).bind fun q1 => fb_gd (q1 < fb_NT ∧ fb_sh q1 = (7, 2)) 
  (((fX7_count u q1).bind fun r4 => 
  (some r4))))
set_option maxRecDepth 100000 in
set_option maxHeartbeats 4000000 in
theorem mX8_size (g : fb_G) (u : fb_M) (a0 : Nat) (ha0 : a0 < fb_NT ∧ fb_sh a0 = (8, 12)) {res : Int32} (h : fX8_size u a0 = some res) : fb_Runs g 1 20 0 0 fb_NT fb_NT yX8_size cX8_size 1 (some .int) [.ref (fb_b g + a0)] u (some (.int res)) u := by
  unfold fX8_size at h
  refine fb_enter (by decide) (Nat.le_of_ble_eq_true rfl) ?_
  show fb_V g RX8 cX8_size 1 (some .int) "size" (fb_room 1 20 0 0) (fb_Qm g (some (.int res)) fb_NT u 0 0) 0 0 fb_NT u 0 [(0, .ref (fb_b g + a0))] []
  refine fb_aload_n (pc := 0) dX8_size_0 0 rfl ?_
  refine fb_bnE h (fun q1 e1 h => fb_gdE h (fun s1 h => ?_))
  refine fb_getR (pc := 1) dX8_size_1 lkX8_42 ha0.1 ha0.2 (by decide) e1 ?_
  refine fb_bnE h (fun r4 h4 h => ?_)
  refine fb_cV0v (pc := 4) [] dX8_size_4 (mX7_count g u q1 s1 h4) ymX7_count yiX7_count s1.1 s1.2 ylX8_176 rfl (Nat.le_of_ble_eq_true rfl) ⟨Nat.le_of_ble_eq_true rfl, Nat.le_of_ble_eq_true rfl⟩ ⟨Nat.le_of_ble_eq_true rfl, Nat.le_of_ble_eq_true rfl⟩ ?_
  exact fb_iretR (pc := 7) h dX8_size_7

theorem dX9_capital_0 : decode cX9_capital 0 = .ok (.iload_n 0, 1) := by decide +kernel
theorem dX9_capital_1 : decode cX9_capital 1 = .ok (.bipush 65, 2) := by decide +kernel
theorem dX9_capital_3 : decode cX9_capital 3 = .ok (.if_icmp .lt 13, 3) := by decide +kernel
theorem dX9_capital_6 : decode cX9_capital 6 = .ok (.iload_n 0, 1) := by decide +kernel
theorem dX9_capital_7 : decode cX9_capital 7 = .ok (.bipush 90, 2) := by decide +kernel
theorem dX9_capital_9 : decode cX9_capital 9 = .ok (.if_icmp .gt 7, 3) := by decide +kernel
theorem dX9_capital_12 : decode cX9_capital 12 = .ok (.iconst 1, 1) := by decide +kernel
theorem dX9_capital_13 : decode cX9_capital 13 = .ok (.goto 4, 3) := by decide +kernel
theorem dX9_capital_16 : decode cX9_capital 16 = .ok (.iconst 0, 1) := by decide +kernel
theorem dX9_capital_17 : decode cX9_capital 17 = .ok (.ireturn, 1) := by decide +kernel
def fX9_capital (u : fb_M) (x0 : Int32) : Option Int32 :=
 (if x0 < 65 then (some 0)
  else (if 90 < x0 then (some 0)
   else (some 1)))
set_option maxRecDepth 100000 in
set_option maxHeartbeats 4000000 in
theorem mX9_capital (g : fb_G) (u : fb_M) (x0 : Int32) {res : Int32} (h : fX9_capital u x0 = some res) : fb_Runs g 0 0 0 0 fb_NT fb_NT yX9_capital cX9_capital 1 (some .boolean) [.int x0] u (some (.int res)) u := by
  unfold fX9_capital at h
  refine fb_enter (by decide) (Nat.le_of_ble_eq_true rfl) ?_
  show fb_V g RX9 cX9_capital 1 (some .boolean) "capital" (fb_room 0 0 0 0) (fb_Qm g (some (.int res)) fb_NT u 0 0) 0 0 fb_NT u 0 [(0, .int x0)] []
  refine fb_iload_n (pc := 0) dX9_capital_0 0 rfl ?_
  refine fb_bipush (pc := 1) (v := 65) dX9_capital_1 fb_kb_65 ?_
  refine fb_icmp_lt (pc := 3) (tgt := 16) h dX9_capital_3 (by decide) (fun h => ?_) (fun h => ?_)
  · refine fb_iconst (pc := 16) (v := 0) dX9_capital_16 fb_ki_0 ?_
    exact fb_zretR (pc := 17) rfl h dX9_capital_17
  · refine fb_iload_n (pc := 6) dX9_capital_6 0 rfl ?_
    refine fb_bipush (pc := 7) (v := 90) dX9_capital_7 fb_kb_90 ?_
    refine fb_icmp_gt (pc := 9) (tgt := 16) h dX9_capital_9 (by decide) (fun h => ?_) (fun h => ?_)
    · refine fb_iconst (pc := 16) (v := 0) dX9_capital_16 fb_ki_0 ?_
      exact fb_zretR (pc := 17) rfl h dX9_capital_17
    · refine fb_iconst (pc := 12) (v := 1) dX9_capital_12 fb_ki_1 ?_
      refine fb_goto (pc := 13) (tgt := 17) dX9_capital_13 (by decide) ?_
      exact fb_zretR (pc := 17) rfl h dX9_capital_17

theorem dX9_small_0 : decode cX9_small 0 = .ok (.iload_n 0, 1) := by decide +kernel
theorem dX9_small_1 : decode cX9_small 1 = .ok (.bipush 97, 2) := by decide +kernel
theorem dX9_small_3 : decode cX9_small 3 = .ok (.if_icmp .lt 13, 3) := by decide +kernel
theorem dX9_small_6 : decode cX9_small 6 = .ok (.iload_n 0, 1) := by decide +kernel
theorem dX9_small_7 : decode cX9_small 7 = .ok (.bipush 122, 2) := by decide +kernel
theorem dX9_small_9 : decode cX9_small 9 = .ok (.if_icmp .gt 7, 3) := by decide +kernel
theorem dX9_small_12 : decode cX9_small 12 = .ok (.iconst 1, 1) := by decide +kernel
theorem dX9_small_13 : decode cX9_small 13 = .ok (.goto 4, 3) := by decide +kernel
theorem dX9_small_16 : decode cX9_small 16 = .ok (.iconst 0, 1) := by decide +kernel
theorem dX9_small_17 : decode cX9_small 17 = .ok (.ireturn, 1) := by decide +kernel
def fX9_small (u : fb_M) (x0 : Int32) : Option Int32 :=
 (if x0 < 97 then (some 0)
  else (if 122 < x0 then (some 0)
   else (some 1)))
set_option maxRecDepth 100000 in
set_option maxHeartbeats 4000000 in
theorem mX9_small (g : fb_G) (u : fb_M) (x0 : Int32) {res : Int32} (h : fX9_small u x0 = some res) : fb_Runs g 0 0 0 0 fb_NT fb_NT yX9_small cX9_small 1 (some .boolean) [.int x0] u (some (.int res)) u := by
  unfold fX9_small at h
  refine fb_enter (by decide) (Nat.le_of_ble_eq_true rfl) ?_
  show fb_V g RX9 cX9_small 1 (some .boolean) "small" (fb_room 0 0 0 0) (fb_Qm g (some (.int res)) fb_NT u 0 0) 0 0 fb_NT u 0 [(0, .int x0)] []
  refine fb_iload_n (pc := 0) dX9_small_0 0 rfl ?_
  refine fb_bipush (pc := 1) (v := 97) dX9_small_1 fb_kb_97 ?_
  refine fb_icmp_lt (pc := 3) (tgt := 16) h dX9_small_3 (by decide) (fun h => ?_) (fun h => ?_)
  · refine fb_iconst (pc := 16) (v := 0) dX9_small_16 fb_ki_0 ?_
    exact fb_zretR (pc := 17) rfl h dX9_small_17
  · refine fb_iload_n (pc := 6) dX9_small_6 0 rfl ?_
    refine fb_bipush (pc := 7) (v := 122) dX9_small_7 fb_kb_122 ?_
    refine fb_icmp_gt (pc := 9) (tgt := 16) h dX9_small_9 (by decide) (fun h => ?_) (fun h => ?_)
    · refine fb_iconst (pc := 16) (v := 0) dX9_small_16 fb_ki_0 ?_
      exact fb_zretR (pc := 17) rfl h dX9_small_17
    · refine fb_iconst (pc := 12) (v := 1) dX9_small_12 fb_ki_1 ?_
      refine fb_goto (pc := 13) (tgt := 17) dX9_small_13 (by decide) ?_
      exact fb_zretR (pc := 17) rfl h dX9_small_17

theorem dX9_figure_0 : decode cX9_figure 0 = .ok (.iload_n 0, 1) := by decide +kernel
theorem dX9_figure_1 : decode cX9_figure 1 = .ok (.bipush 48, 2) := by decide +kernel
theorem dX9_figure_3 : decode cX9_figure 3 = .ok (.if_icmp .lt 13, 3) := by decide +kernel
theorem dX9_figure_6 : decode cX9_figure 6 = .ok (.iload_n 0, 1) := by decide +kernel
theorem dX9_figure_7 : decode cX9_figure 7 = .ok (.bipush 57, 2) := by decide +kernel
theorem dX9_figure_9 : decode cX9_figure 9 = .ok (.if_icmp .gt 7, 3) := by decide +kernel
theorem dX9_figure_12 : decode cX9_figure 12 = .ok (.iconst 1, 1) := by decide +kernel
theorem dX9_figure_13 : decode cX9_figure 13 = .ok (.goto 4, 3) := by decide +kernel
theorem dX9_figure_16 : decode cX9_figure 16 = .ok (.iconst 0, 1) := by decide +kernel
theorem dX9_figure_17 : decode cX9_figure 17 = .ok (.ireturn, 1) := by decide +kernel
def fX9_figure (u : fb_M) (x0 : Int32) : Option Int32 :=
 (if x0 < 48 then (some 0)
  else (if 57 < x0 then (some 0)
   else (some 1)))
set_option maxRecDepth 100000 in
set_option maxHeartbeats 4000000 in
theorem mX9_figure (g : fb_G) (u : fb_M) (x0 : Int32) {res : Int32} (h : fX9_figure u x0 = some res) : fb_Runs g 0 0 0 0 fb_NT fb_NT yX9_figure cX9_figure 1 (some .boolean) [.int x0] u (some (.int res)) u := by
  unfold fX9_figure at h
  refine fb_enter (by decide) (Nat.le_of_ble_eq_true rfl) ?_
  show fb_V g RX9 cX9_figure 1 (some .boolean) "figure" (fb_room 0 0 0 0) (fb_Qm g (some (.int res)) fb_NT u 0 0) 0 0 fb_NT u 0 [(0, .int x0)] []
  refine fb_iload_n (pc := 0) dX9_figure_0 0 rfl ?_
  refine fb_bipush (pc := 1) (v := 48) dX9_figure_1 fb_kb_48 ?_
  refine fb_icmp_lt (pc := 3) (tgt := 16) h dX9_figure_3 (by decide) (fun h => ?_) (fun h => ?_)
  · refine fb_iconst (pc := 16) (v := 0) dX9_figure_16 fb_ki_0 ?_
    exact fb_zretR (pc := 17) rfl h dX9_figure_17
  · refine fb_iload_n (pc := 6) dX9_figure_6 0 rfl ?_
    refine fb_bipush (pc := 7) (v := 57) dX9_figure_7 fb_kb_57 ?_
    refine fb_icmp_gt (pc := 9) (tgt := 16) h dX9_figure_9 (by decide) (fun h => ?_) (fun h => ?_)
    · refine fb_iconst (pc := 16) (v := 0) dX9_figure_16 fb_ki_0 ?_
      exact fb_zretR (pc := 17) rfl h dX9_figure_17
    · refine fb_iconst (pc := 12) (v := 1) dX9_figure_12 fb_ki_1 ?_
      refine fb_goto (pc := 13) (tgt := 17) dX9_figure_13 (by decide) ?_
      exact fb_zretR (pc := 17) rfl h dX9_figure_17

theorem dX9_at_0 : decode cX9_at 0 = .ok (.iload_n 1, 1) := by decide +kernel
theorem dX9_at_1 : decode cX9_at 1 = .ok (.ifCond .lt 20, 3) := by decide +kernel
theorem dX9_at_4 : decode cX9_at 4 = .ok (.iload_n 1, 1) := by decide +kernel
theorem dX9_at_5 : decode cX9_at 5 = .ok (.aload_n 0, 1) := by decide +kernel
theorem dX9_at_6 : decode cX9_at 6 = .ok (.getfield 95, 3) := by decide +kernel
theorem dX9_at_9 : decode cX9_at 9 = .ok (.if_icmp .ge 12, 3) := by decide +kernel
theorem dX9_at_12 : decode cX9_at 12 = .ok (.aload_n 0, 1) := by decide +kernel
theorem dX9_at_13 : decode cX9_at 13 = .ok (.getfield 7, 3) := by decide +kernel
theorem dX9_at_16 : decode cX9_at 16 = .ok (.iload_n 1, 1) := by decide +kernel
theorem dX9_at_17 : decode cX9_at 17 = .ok (.iaload, 1) := by decide +kernel
theorem dX9_at_18 : decode cX9_at 18 = .ok (.goto 4, 3) := by decide +kernel
theorem dX9_at_21 : decode cX9_at 21 = .ok (.iconst 0, 1) := by decide +kernel
theorem dX9_at_22 : decode cX9_at 22 = .ok (.ireturn, 1) := by decide +kernel
def fX9_at (u : fb_M) (a0 : Nat) (x1 : Int32) : Option Int32 :=
 (if x1 < 0 then (some 0)
  else (if (fb_I u a0 1) ≤ x1 then (some 0)
   else ((fb_R u a0 0).bind fun q13 => fb_gd (q13 < fb_NT ∧ (fb_sh q13).1 = 100) 
    ((fb_gd (¬ (x1 < 0 ∨ (fb_sh q13).2 ≤ x1.toNatClampNeg)) 
    (some (fb_I u q13 x1.toNatClampNeg)))))))
set_option maxRecDepth 100000 in
set_option maxHeartbeats 4000000 in
theorem mX9_at (g : fb_G) (u : fb_M) (a0 : Nat) (x1 : Int32) (ha0 : a0 < fb_NT ∧ fb_sh a0 = (9, 40)) {res : Int32} (h : fX9_at u a0 x1 = some res) : fb_Runs g 0 0 0 0 fb_NT fb_NT yX9_at cX9_at 2 (some .int) [.ref (fb_b g + a0), .int x1] u (some (.int res)) u := by
  unfold fX9_at at h
  refine fb_enter (by decide) (Nat.le_of_ble_eq_true rfl) ?_
  show fb_V g RX9 cX9_at 2 (some .int) "at" (fb_room 0 0 0 0) (fb_Qm g (some (.int res)) fb_NT u 0 0) 0 0 fb_NT u 0 [(0, .ref (fb_b g + a0)), (1, .int x1)] []
  refine fb_iload_n (pc := 0) dX9_at_0 1 rfl ?_
  refine fb_if_lt (pc := 1) (tgt := 21) h dX9_at_1 (by decide) (fun h => ?_) (fun h => ?_)
  · refine fb_iconst (pc := 21) (v := 0) dX9_at_21 fb_ki_0 ?_
    exact fb_iretR (pc := 22) h dX9_at_22
  · refine fb_iload_n (pc := 4) dX9_at_4 1 rfl ?_
    refine fb_aload_n (pc := 5) dX9_at_5 0 rfl ?_
    refine fb_getI (pc := 6) dX9_at_6 lkX9_95 ha0.1 ha0.2 rfl ?_
    refine fb_icmp_ge (pc := 9) (tgt := 21) h dX9_at_9 (by decide) (fun h => ?_) (fun h => ?_)
    · refine fb_iconst (pc := 21) (v := 0) dX9_at_21 fb_ki_0 ?_
      exact fb_iretR (pc := 22) h dX9_at_22
    · refine fb_aload_n (pc := 12) dX9_at_12 0 rfl ?_
      refine fb_bnE h (fun q13 e13 h => fb_gdE h (fun s13 h => ?_))
      refine fb_getR (pc := 13) dX9_at_13 lkX9_7 ha0.1 ha0.2 (by decide) e13 ?_
      refine fb_iload_n (pc := 16) dX9_at_16 1 rfl ?_
      refine fb_gdE h (fun i17 h => ?_)
      refine fb_iald (pc := 17) dX9_at_17 s13.1 (fb_eta s13.2) i17 ?_
      refine fb_goto (pc := 18) (tgt := 22) dX9_at_18 (by decide) ?_
      exact fb_iretR (pc := 22) h dX9_at_22

theorem dX9_before_0 : decode cX9_before 0 = .ok (.iload_n 2, 1) := by decide +kernel
theorem dX9_before_1 : decode cX9_before 1 = .ok (.istore 5, 2) := by decide +kernel
theorem dX9_before_3 : decode cX9_before 3 = .ok (.lload_n 3, 1) := by decide +kernel
theorem dX9_before_4 : decode cX9_before 4 = .ok (.lstore 6, 2) := by decide +kernel
theorem dX9_before_6 : decode cX9_before 6 = .ok (.lload 6, 2) := by decide +kernel
theorem dX9_before_8 : decode cX9_before 8 = .ok (.lconst 0, 1) := by decide +kernel
theorem dX9_before_9 : decode cX9_before 9 = .ok (.lcmp, 1) := by decide +kernel
theorem dX9_before_10 : decode cX9_before 10 = .ok (.ifCond .eq 52, 3) := by decide +kernel
theorem dX9_before_13 : decode cX9_before 13 = .ok (.iload 5, 2) := by decide +kernel
theorem dX9_before_15 : decode cX9_before 15 = .ok (.ifCond .lt 47, 3) := by decide +kernel
theorem dX9_before_18 : decode cX9_before 18 = .ok (.iload 5, 2) := by decide +kernel
theorem dX9_before_20 : decode cX9_before 20 = .ok (.iload_n 1, 1) := by decide +kernel
theorem dX9_before_21 : decode cX9_before 21 = .ok (.if_icmp .le 28, 3) := by decide +kernel
theorem dX9_before_24 : decode cX9_before 24 = .ok (.aload_n 0, 1) := by decide +kernel
theorem dX9_before_25 : decode cX9_before 25 = .ok (.iload 5, 2) := by decide +kernel
theorem dX9_before_27 : decode cX9_before 27 = .ok (.iconst 1, 1) := by decide +kernel
theorem dX9_before_28 : decode cX9_before 28 = .ok (.isub, 1) := by decide +kernel
theorem dX9_before_29 : decode cX9_before 29 = .ok (.invokevirtual 99, 3) := by decide +kernel
theorem dX9_before_32 : decode cX9_before 32 = .ok (.lload 6, 2) := by decide +kernel
theorem dX9_before_34 : decode cX9_before 34 = .ok (.ldc2_w 103, 3) := by decide +kernel
theorem dX9_before_37 : decode cX9_before 37 = .ok (.land, 1) := by decide +kernel
theorem dX9_before_38 : decode cX9_before 38 = .ok (.l2i, 1) := by decide +kernel
theorem dX9_before_39 : decode cX9_before 39 = .ok (.if_icmp .ne 10, 3) := by decide +kernel
theorem dX9_before_42 : decode cX9_before 42 = .ok (.iload 5, 2) := by decide +kernel
theorem dX9_before_44 : decode cX9_before 44 = .ok (.iconst 1, 1) := by decide +kernel
theorem dX9_before_45 : decode cX9_before 45 = .ok (.isub, 1) := by decide +kernel
theorem dX9_before_46 : decode cX9_before 46 = .ok (.goto 4, 3) := by decide +kernel
theorem dX9_before_49 : decode cX9_before 49 = .ok (.iconst (-1), 1) := by decide +kernel
theorem dX9_before_50 : decode cX9_before 50 = .ok (.istore 5, 2) := by decide +kernel
theorem dX9_before_52 : decode cX9_before 52 = .ok (.lload 6, 2) := by decide +kernel
theorem dX9_before_54 : decode cX9_before 54 = .ok (.bipush 8, 2) := by decide +kernel
theorem dX9_before_56 : decode cX9_before 56 = .ok (.lushr, 1) := by decide +kernel
theorem dX9_before_57 : decode cX9_before 57 = .ok (.lstore 6, 2) := by decide +kernel
theorem dX9_before_59 : decode cX9_before 59 = .ok (.goto (-53), 3) := by decide +kernel
theorem dX9_before_62 : decode cX9_before 62 = .ok (.iload 5, 2) := by decide +kernel
theorem dX9_before_64 : decode cX9_before 64 = .ok (.ireturn, 1) := by decide +kernel
def bX9_before_6 (K6 : Int32 → Int64 → Option Int32) (a0 : Nat) (x1 : Int32) (x5 : Int32) (y6 : Int64) (u : fb_M) : Option Int32 :=
 (if (lg_cmp y6 0) = 0 then (some x5)
  else (if x5 < 0 then (some x5)
   else (if x5 ≤ x1 then (K6 ((-1)) ((y6.toUInt64 >>> ((8 : Int32).toInt64.toUInt64 &&& Int64.toUInt64 63)).toInt64))
    else ((fX9_at u a0 (x5 - 1)).bind fun r29 => 
     (if r29 = ((y6 &&& 255).toInt32) then (K6 (x5 - 1) ((y6.toUInt64 >>> ((8 : Int32).toInt64.toUInt64 &&& Int64.toUInt64 63)).toInt64))
     else (K6 ((-1)) ((y6.toUInt64 >>> ((8 : Int32).toInt64.toUInt64 &&& Int64.toUInt64 63)).toInt64)))))))
def gX9_before_6 (a0 : Nat) (x1 : Int32) (u : fb_M) : Nat → Int32 → Int64 → Option Int32
 | 0 => fun _ _ => none
 | fu + 1 => fun x5 y6 => bX9_before_6 (gX9_before_6 a0 x1 u fu) a0 x1 x5 y6 u
set_option maxRecDepth 100000 in
set_option maxHeartbeats 4000000 in
theorem tbX9_before_6 {g : fb_G} {res : Int32} (a0 : Nat) (x1 : Int32) (x5 : Int32) (y6 : Int64) (u : fb_M) (K6 : Int32 → Int64 → Option Int32) (ha0 : a0 < fb_NT ∧ fb_sh a0 = (9, 40)) (hK6 : ∀ (x5 : Int32) (y6 : Int64) ,  K6 x5 y6 = some res → fb_V g RX9 cX9_before 8 (some .int) "before" (fb_room 1 21 0 0) (fb_Qm g (some (.int res)) fb_NT u 0 0) 0 0 fb_NT u 6 [(0, .ref (fb_b g + a0)), (1, .int x1), (5, .int x5), (6, .long y6)] []) (h : bX9_before_6 K6 a0 x1 x5 y6 u = some res) : fb_V g RX9 cX9_before 8 (some .int) "before" (fb_room 1 21 0 0) (fb_Qm g (some (.int res)) fb_NT u 0 0) 0 0 fb_NT u 6 [(0, .ref (fb_b g + a0)), (1, .int x1), (5, .int x5), (6, .long y6)] [] := by
  unfold bX9_before_6 at h
  refine fb_lload (pc := 6) dX9_before_6 3 rfl ?_
  refine fb_lconst (pc := 8) (v := 0) dX9_before_8 fb_kl_0 ?_
  refine fb_lcmp (pc := 9) dX9_before_9 ?_
  refine fb_if_eq (pc := 10) (tgt := 62) h dX9_before_10 (by decide) (fun h => ?_) (fun h => ?_)
  · refine fb_iload (pc := 62) dX9_before_62 2 rfl ?_
    exact fb_iretR (pc := 64) h dX9_before_64
  · refine fb_iload (pc := 13) dX9_before_13 2 rfl ?_
    refine fb_if_lt (pc := 15) (tgt := 62) h dX9_before_15 (by decide) (fun h => ?_) (fun h => ?_)
    · refine fb_iload (pc := 62) dX9_before_62 2 rfl ?_
      exact fb_iretR (pc := 64) h dX9_before_64
    · refine fb_iload (pc := 18) dX9_before_18 2 rfl ?_
      refine fb_iload_n (pc := 20) dX9_before_20 1 rfl ?_
      refine fb_icmp_le (pc := 21) (tgt := 49) h dX9_before_21 (by decide) (fun h => ?_) (fun h => ?_)
      · refine fb_iconst (pc := 49) (v := (-1)) dX9_before_49 fb_ki_m1 ?_
        refine fb_istore (pc := 50) (lv' := [(5, .int ((-1))), (0, .ref (fb_b g + a0)), (1, .int x1), (6, .long y6)]) dX9_before_50 (by decide) rfl ?_
        refine fb_lload (pc := 52) dX9_before_52 3 rfl ?_
        refine fb_bipush (pc := 54) (v := 8) dX9_before_54 fb_kb_8 ?_
        refine fb_lushr (pc := 56) dX9_before_56 ?_
        refine fb_lstore (pc := 57) (lv' := [(6, .long ((y6.toUInt64 >>> ((8 : Int32).toInt64.toUInt64 &&& Int64.toUInt64 63)).toInt64)), (5, .int ((-1))), (0, .ref (fb_b g + a0)), (1, .int x1)]) dX9_before_57 (by decide) rfl ?_
        refine fb_goto (pc := 59) (tgt := 6) dX9_before_59 (by decide) ?_
        exact fb_sub [2, 3, 1, 0] rfl (hK6 ((-1)) ((y6.toUInt64 >>> ((8 : Int32).toInt64.toUInt64 &&& Int64.toUInt64 63)).toInt64) h)
      · refine fb_aload_n (pc := 24) dX9_before_24 0 rfl ?_
        refine fb_iload (pc := 25) dX9_before_25 2 rfl ?_
        refine fb_iconst (pc := 27) (v := 1) dX9_before_27 fb_ki_1 ?_
        refine fb_isub (pc := 28) dX9_before_28 ?_
        refine fb_bnE h (fun r29 h29 h => ?_)
        refine fb_cV0v (pc := 29) [.int (x5 - 1)] dX9_before_29 (mX9_at g u a0 (x5 - 1) ha0 h29) ymX9_at yiX9_at ha0.1 ha0.2 ylX9_99 rfl (Nat.le_of_ble_eq_true rfl) ⟨Nat.le_of_ble_eq_true rfl, Nat.le_of_ble_eq_true rfl⟩ ⟨Nat.le_of_ble_eq_true rfl, Nat.le_of_ble_eq_true rfl⟩ ?_
        refine fb_lload (pc := 32) dX9_before_32 3 rfl ?_
        refine fb_ldc2 (pc := 34) (v := 255) dX9_before_34 lwX9_103 ?_
        refine fb_land (pc := 37) dX9_before_37 ?_
        refine fb_l2i (pc := 38) dX9_before_38 ?_
        refine fb_icmp_ne (pc := 39) (tgt := 49) h dX9_before_39 (by decide) (fun h => ?_) (fun h => ?_)
        · refine fb_iconst (pc := 49) (v := (-1)) dX9_before_49 fb_ki_m1 ?_
          refine fb_istore (pc := 50) (lv' := [(5, .int ((-1))), (0, .ref (fb_b g + a0)), (1, .int x1), (6, .long y6)]) dX9_before_50 (by decide) rfl ?_
          refine fb_lload (pc := 52) dX9_before_52 3 rfl ?_
          refine fb_bipush (pc := 54) (v := 8) dX9_before_54 fb_kb_8 ?_
          refine fb_lushr (pc := 56) dX9_before_56 ?_
          refine fb_lstore (pc := 57) (lv' := [(6, .long ((y6.toUInt64 >>> ((8 : Int32).toInt64.toUInt64 &&& Int64.toUInt64 63)).toInt64)), (5, .int ((-1))), (0, .ref (fb_b g + a0)), (1, .int x1)]) dX9_before_57 (by decide) rfl ?_
          refine fb_goto (pc := 59) (tgt := 6) dX9_before_59 (by decide) ?_
          exact fb_sub [2, 3, 1, 0] rfl (hK6 ((-1)) ((y6.toUInt64 >>> ((8 : Int32).toInt64.toUInt64 &&& Int64.toUInt64 63)).toInt64) h)
        · refine fb_iload (pc := 42) dX9_before_42 2 rfl ?_
          refine fb_iconst (pc := 44) (v := 1) dX9_before_44 fb_ki_1 ?_
          refine fb_isub (pc := 45) dX9_before_45 ?_
          refine fb_goto (pc := 46) (tgt := 50) dX9_before_46 (by decide) ?_
          refine fb_istore (pc := 50) (lv' := [(5, .int (x5 - 1)), (0, .ref (fb_b g + a0)), (1, .int x1), (6, .long y6)]) dX9_before_50 (by decide) rfl ?_
          refine fb_lload (pc := 52) dX9_before_52 3 rfl ?_
          refine fb_bipush (pc := 54) (v := 8) dX9_before_54 fb_kb_8 ?_
          refine fb_lushr (pc := 56) dX9_before_56 ?_
          refine fb_lstore (pc := 57) (lv' := [(6, .long ((y6.toUInt64 >>> ((8 : Int32).toInt64.toUInt64 &&& Int64.toUInt64 63)).toInt64)), (5, .int (x5 - 1)), (0, .ref (fb_b g + a0)), (1, .int x1)]) dX9_before_57 (by decide) rfl ?_
          refine fb_goto (pc := 59) (tgt := 6) dX9_before_59 (by decide) ?_
          exact fb_sub [2, 3, 1, 0] rfl (hK6 (x5 - 1) ((y6.toUInt64 >>> ((8 : Int32).toInt64.toUInt64 &&& Int64.toUInt64 63)).toInt64) h)

theorem tgX9_before_6 {g : fb_G} {res : Int32} (a0 : Nat) (x1 : Int32) (u : fb_M) (ha0 : a0 < fb_NT ∧ fb_sh a0 = (9, 40)) : ∀ (fu : Nat) (x5 : Int32) (y6 : Int64) ,  gX9_before_6 a0 x1 u fu x5 y6 = some res → fb_V g RX9 cX9_before 8 (some .int) "before" (fb_room 1 21 0 0) (fb_Qm g (some (.int res)) fb_NT u 0 0) 0 0 fb_NT u 6 [(0, .ref (fb_b g + a0)), (1, .int x1), (5, .int x5), (6, .long y6)] [] := by
  intro fu
  induction fu with
  | zero => intro x5 y6 h; exact absurd h (by simp [gX9_before_6])
  | succ fu ih => intro x5 y6 h; exact tbX9_before_6 a0 x1 x5 y6 u (gX9_before_6 a0 x1 u fu) ha0 ih h
def fX9_before (u : fb_M) (a0 : Nat) (x1 : Int32) (x2 : Int32) (y3 : Int64) : Option Int32 :=
 (gX9_before_6 a0 x1 u fb_F x2 y3)
set_option maxRecDepth 100000 in
set_option maxHeartbeats 4000000 in
theorem mX9_before (g : fb_G) (u : fb_M) (a0 : Nat) (x1 : Int32) (x2 : Int32) (y3 : Int64) (ha0 : a0 < fb_NT ∧ fb_sh a0 = (9, 40)) {res : Int32} (h : fX9_before u a0 x1 x2 y3 = some res) : fb_Runs g 1 21 0 0 fb_NT fb_NT yX9_before cX9_before 8 (some .int) [.ref (fb_b g + a0), .int x1, .int x2, .long y3] u (some (.int res)) u := by
  unfold fX9_before at h
  refine fb_enter (by decide) (Nat.le_of_ble_eq_true rfl) ?_
  show fb_V g RX9 cX9_before 8 (some .int) "before" (fb_room 1 21 0 0) (fb_Qm g (some (.int res)) fb_NT u 0 0) 0 0 fb_NT u 0 [(0, .ref (fb_b g + a0)), (1, .int x1), (2, .int x2), (3, .long y3)] []
  refine fb_iload_n (pc := 0) dX9_before_0 2 rfl ?_
  refine fb_istore (pc := 1) (lv' := [(5, .int x2), (0, .ref (fb_b g + a0)), (1, .int x1), (2, .int x2), (3, .long y3)]) dX9_before_1 (by decide) rfl ?_
  refine fb_lload_n (pc := 3) dX9_before_3 4 rfl ?_
  refine fb_lstore (pc := 4) (lv' := [(6, .long y3), (5, .int x2), (0, .ref (fb_b g + a0)), (1, .int x1), (2, .int x2), (3, .long y3)]) dX9_before_4 (by decide) rfl ?_
  exact fb_sub [2, 3, 1, 0] rfl (tgX9_before_6 a0 x1 u ha0 fb_F x2 y3 h)

theorem dX9_letters_0 : decode cX9_letters 0 = .ok (.iconst 0, 1) := by decide +kernel
theorem dX9_letters_1 : decode cX9_letters 1 = .ok (.istore_n 2, 1) := by decide +kernel
theorem dX9_letters_2 : decode cX9_letters 2 = .ok (.lload_n 0, 1) := by decide +kernel
theorem dX9_letters_3 : decode cX9_letters 3 = .ok (.lstore_n 3, 1) := by decide +kernel
theorem dX9_letters_4 : decode cX9_letters 4 = .ok (.lload_n 3, 1) := by decide +kernel
theorem dX9_letters_5 : decode cX9_letters 5 = .ok (.lconst 0, 1) := by decide +kernel
theorem dX9_letters_6 : decode cX9_letters 6 = .ok (.lcmp, 1) := by decide +kernel
theorem dX9_letters_7 : decode cX9_letters 7 = .ok (.ifCond .eq 14, 3) := by decide +kernel
theorem dX9_letters_10 : decode cX9_letters 10 = .ok (.iinc 2 1, 3) := by decide +kernel
theorem dX9_letters_13 : decode cX9_letters 13 = .ok (.lload_n 3, 1) := by decide +kernel
theorem dX9_letters_14 : decode cX9_letters 14 = .ok (.bipush 8, 2) := by decide +kernel
theorem dX9_letters_16 : decode cX9_letters 16 = .ok (.lushr, 1) := by decide +kernel
theorem dX9_letters_17 : decode cX9_letters 17 = .ok (.lstore_n 3, 1) := by decide +kernel
theorem dX9_letters_18 : decode cX9_letters 18 = .ok (.goto (-14), 3) := by decide +kernel
theorem dX9_letters_21 : decode cX9_letters 21 = .ok (.iload_n 2, 1) := by decide +kernel
theorem dX9_letters_22 : decode cX9_letters 22 = .ok (.ireturn, 1) := by decide +kernel
def bX9_letters_4 (K4 : Int32 → Int64 → Option Int32) (x2 : Int32) (y3 : Int64) (u : fb_M) : Option Int32 :=
 (if (lg_cmp y3 0) = 0 then (some x2)
  else (K4 (x2 + 1) ((y3.toUInt64 >>> ((8 : Int32).toInt64.toUInt64 &&& Int64.toUInt64 63)).toInt64)))
def gX9_letters_4 (u : fb_M) : Nat → Int32 → Int64 → Option Int32
 | 0 => fun _ _ => none
 | fu + 1 => fun x2 y3 => bX9_letters_4 (gX9_letters_4 u fu) x2 y3 u
set_option maxRecDepth 100000 in
set_option maxHeartbeats 4000000 in
theorem tbX9_letters_4 {g : fb_G} {res : Int32} (x2 : Int32) (y3 : Int64) (u : fb_M) (K4 : Int32 → Int64 → Option Int32) (hK4 : ∀ (x2 : Int32) (y3 : Int64) ,  K4 x2 y3 = some res → fb_V g RX9 cX9_letters 5 (some .int) "letters" (fb_room 0 0 0 0) (fb_Qm g (some (.int res)) fb_NT u 0 0) 0 0 fb_NT u 4 [(2, .int x2), (3, .long y3)] []) (h : bX9_letters_4 K4 x2 y3 u = some res) : fb_V g RX9 cX9_letters 5 (some .int) "letters" (fb_room 0 0 0 0) (fb_Qm g (some (.int res)) fb_NT u 0 0) 0 0 fb_NT u 4 [(2, .int x2), (3, .long y3)] [] := by
  unfold bX9_letters_4 at h
  refine fb_lload_n (pc := 4) dX9_letters_4 1 rfl ?_
  refine fb_lconst (pc := 5) (v := 0) dX9_letters_5 fb_kl_0 ?_
  refine fb_lcmp (pc := 6) dX9_letters_6 ?_
  refine fb_if_eq (pc := 7) (tgt := 21) h dX9_letters_7 (by decide) (fun h => ?_) (fun h => ?_)
  · refine fb_iload_n (pc := 21) dX9_letters_21 0 rfl ?_
    exact fb_iretR (pc := 22) h dX9_letters_22
  · refine fb_iinc (pc := 10) (v := 1) (lv' := [(2, .int (x2 + 1)), (3, .long y3)]) dX9_letters_10 0 rfl fb_ki_1 (by decide) rfl ?_
    refine fb_lload_n (pc := 13) dX9_letters_13 1 rfl ?_
    refine fb_bipush (pc := 14) (v := 8) dX9_letters_14 fb_kb_8 ?_
    refine fb_lushr (pc := 16) dX9_letters_16 ?_
    refine fb_lstore_n (pc := 17) (lv' := [(3, .long ((y3.toUInt64 >>> ((8 : Int32).toInt64.toUInt64 &&& Int64.toUInt64 63)).toInt64)), (2, .int (x2 + 1))]) dX9_letters_17 rfl (by decide) rfl ?_
    refine fb_goto (pc := 18) (tgt := 4) dX9_letters_18 (by decide) ?_
    exact fb_sub [1, 0] rfl (hK4 (x2 + 1) ((y3.toUInt64 >>> ((8 : Int32).toInt64.toUInt64 &&& Int64.toUInt64 63)).toInt64) h)

theorem tgX9_letters_4 {g : fb_G} {res : Int32} (u : fb_M) : ∀ (fu : Nat) (x2 : Int32) (y3 : Int64) ,  gX9_letters_4 u fu x2 y3 = some res → fb_V g RX9 cX9_letters 5 (some .int) "letters" (fb_room 0 0 0 0) (fb_Qm g (some (.int res)) fb_NT u 0 0) 0 0 fb_NT u 4 [(2, .int x2), (3, .long y3)] [] := by
  intro fu
  induction fu with
  | zero => intro x2 y3 h; exact absurd h (by simp [gX9_letters_4])
  | succ fu ih => intro x2 y3 h; exact tbX9_letters_4 x2 y3 u (gX9_letters_4 u fu) ih h
def fX9_letters (u : fb_M) (y0 : Int64) : Option Int32 :=
 (gX9_letters_4 u fb_F 0 y0)
set_option maxRecDepth 100000 in
set_option maxHeartbeats 4000000 in
theorem mX9_letters (g : fb_G) (u : fb_M) (y0 : Int64) {res : Int32} (h : fX9_letters u y0 = some res) : fb_Runs g 0 0 0 0 fb_NT fb_NT yX9_letters cX9_letters 5 (some .int) [.long y0] u (some (.int res)) u := by
  unfold fX9_letters at h
  refine fb_enter (by decide) (Nat.le_of_ble_eq_true rfl) ?_
  show fb_V g RX9 cX9_letters 5 (some .int) "letters" (fb_room 0 0 0 0) (fb_Qm g (some (.int res)) fb_NT u 0 0) 0 0 fb_NT u 0 [(0, .long y0)] []
  refine fb_iconst (pc := 0) (v := 0) dX9_letters_0 fb_ki_0 ?_
  refine fb_istore_n (pc := 1) (lv' := [(2, .int 0), (0, .long y0)]) dX9_letters_1 rfl (by decide) rfl ?_
  refine fb_lload_n (pc := 2) dX9_letters_2 1 rfl ?_
  refine fb_lstore_n (pc := 3) (lv' := [(3, .long y0), (2, .int 0), (0, .long y0)]) dX9_letters_3 rfl (by decide) rfl ?_
  exact fb_sub [1, 0] rfl (tgX9_letters_4 u fb_F 0 y0 h)

theorem dX9_stands_0 : decode cX9_stands 0 = .ok (.iload_n 1, 1) := by decide +kernel
theorem dX9_stands_1 : decode cX9_stands 1 = .ok (.lload_n 3, 1) := by decide +kernel
theorem dX9_stands_2 : decode cX9_stands 2 = .ok (.invokestatic 105, 3) := by decide +kernel
theorem dX9_stands_5 : decode cX9_stands 5 = .ok (.iadd, 1) := by decide +kernel
theorem dX9_stands_6 : decode cX9_stands 6 = .ok (.istore 5, 2) := by decide +kernel
theorem dX9_stands_8 : decode cX9_stands 8 = .ok (.iload 5, 2) := by decide +kernel
theorem dX9_stands_10 : decode cX9_stands 10 = .ok (.iload_n 2, 1) := by decide +kernel
theorem dX9_stands_11 : decode cX9_stands 11 = .ok (.if_icmp .gt 19, 3) := by decide +kernel
theorem dX9_stands_14 : decode cX9_stands 14 = .ok (.aload_n 0, 1) := by decide +kernel
theorem dX9_stands_15 : decode cX9_stands 15 = .ok (.iload_n 1, 1) := by decide +kernel
theorem dX9_stands_16 : decode cX9_stands 16 = .ok (.iload 5, 2) := by decide +kernel
theorem dX9_stands_18 : decode cX9_stands 18 = .ok (.lload_n 3, 1) := by decide +kernel
theorem dX9_stands_19 : decode cX9_stands 19 = .ok (.invokevirtual 109, 3) := by decide +kernel
theorem dX9_stands_22 : decode cX9_stands 22 = .ok (.iload_n 1, 1) := by decide +kernel
theorem dX9_stands_23 : decode cX9_stands 23 = .ok (.if_icmp .ne 7, 3) := by decide +kernel
theorem dX9_stands_26 : decode cX9_stands 26 = .ok (.iconst 1, 1) := by decide +kernel
theorem dX9_stands_27 : decode cX9_stands 27 = .ok (.goto 4, 3) := by decide +kernel
theorem dX9_stands_30 : decode cX9_stands 30 = .ok (.iconst 0, 1) := by decide +kernel
theorem dX9_stands_31 : decode cX9_stands 31 = .ok (.ireturn, 1) := by decide +kernel
def fX9_stands (u : fb_M) (a0 : Nat) (x1 : Int32) (x2 : Int32) (y3 : Int64) : Option Int32 :=
 ((fX9_letters u y3).bind fun r2 => 
  (if x2 < (x1 + r2) then (some 0)
  else ((fX9_before u a0 x1 (x1 + r2) y3).bind fun r19 => 
   (if r19 = x1 then (some 1)
   else (some 0)))))
set_option maxRecDepth 100000 in
set_option maxHeartbeats 4000000 in
theorem mX9_stands (g : fb_G) (u : fb_M) (a0 : Nat) (x1 : Int32) (x2 : Int32) (y3 : Int64) (ha0 : a0 < fb_NT ∧ fb_sh a0 = (9, 40)) {res : Int32} (h : fX9_stands u a0 x1 x2 y3 = some res) : fb_Runs g 2 48 0 0 fb_NT fb_NT yX9_stands cX9_stands 6 (some .boolean) [.ref (fb_b g + a0), .int x1, .int x2, .long y3] u (some (.int res)) u := by
  unfold fX9_stands at h
  refine fb_enter (by decide) (Nat.le_of_ble_eq_true rfl) ?_
  show fb_V g RX9 cX9_stands 6 (some .boolean) "stands" (fb_room 2 48 0 0) (fb_Qm g (some (.int res)) fb_NT u 0 0) 0 0 fb_NT u 0 [(0, .ref (fb_b g + a0)), (1, .int x1), (2, .int x2), (3, .long y3)] []
  refine fb_iload_n (pc := 0) dX9_stands_0 1 rfl ?_
  refine fb_lload_n (pc := 1) dX9_stands_1 3 rfl ?_
  refine fb_bnE h (fun r2 h2 h => ?_)
  refine fb_cS0v (pc := 2) [.long y3] dX9_stands_2 (mX9_letters g u y3 h2) ymX9_letters ysX9_letters ylX9_105 rfl (Nat.le_of_ble_eq_true rfl) ⟨Nat.le_of_ble_eq_true rfl, Nat.le_of_ble_eq_true rfl⟩ ⟨Nat.le_of_ble_eq_true rfl, Nat.le_of_ble_eq_true rfl⟩ ?_
  refine fb_iadd (pc := 5) dX9_stands_5 ?_
  refine fb_istore (pc := 6) (lv' := [(5, .int (x1 + r2)), (0, .ref (fb_b g + a0)), (1, .int x1), (2, .int x2), (3, .long y3)]) dX9_stands_6 (by decide) rfl ?_
  refine fb_iload (pc := 8) dX9_stands_8 0 rfl ?_
  refine fb_iload_n (pc := 10) dX9_stands_10 3 rfl ?_
  refine fb_icmp_gt (pc := 11) (tgt := 30) h dX9_stands_11 (by decide) (fun h => ?_) (fun h => ?_)
  · refine fb_iconst (pc := 30) (v := 0) dX9_stands_30 fb_ki_0 ?_
    exact fb_zretR (pc := 31) rfl h dX9_stands_31
  · refine fb_aload_n (pc := 14) dX9_stands_14 1 rfl ?_
    refine fb_iload_n (pc := 15) dX9_stands_15 2 rfl ?_
    refine fb_iload (pc := 16) dX9_stands_16 0 rfl ?_
    refine fb_lload_n (pc := 18) dX9_stands_18 4 rfl ?_
    refine fb_bnE h (fun r19 h19 h => ?_)
    refine fb_cV0v (pc := 19) [.int x1, .int (x1 + r2), .long y3] dX9_stands_19 (mX9_before g u a0 x1 (x1 + r2) y3 ha0 h19) ymX9_before yiX9_before ha0.1 ha0.2 ylX9_109 rfl (Nat.le_of_ble_eq_true rfl) ⟨Nat.le_of_ble_eq_true rfl, Nat.le_of_ble_eq_true rfl⟩ ⟨Nat.le_of_ble_eq_true rfl, Nat.le_of_ble_eq_true rfl⟩ ?_
    refine fb_iload_n (pc := 22) dX9_stands_22 2 rfl ?_
    refine fb_icmp_ne (pc := 23) (tgt := 30) h dX9_stands_23 (by decide) (fun h => ?_) (fun h => ?_)
    · refine fb_iconst (pc := 30) (v := 0) dX9_stands_30 fb_ki_0 ?_
      exact fb_zretR (pc := 31) rfl h dX9_stands_31
    · refine fb_iconst (pc := 26) (v := 1) dX9_stands_26 fb_ki_1 ?_
      refine fb_goto (pc := 27) (tgt := 31) dX9_stands_27 (by decide) ?_
      exact fb_zretR (pc := 31) rfl h dX9_stands_31

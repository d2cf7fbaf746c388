theorem dX9_leafOf_0 : decode cX9_leafOf 0 = .ok (.iconst (-1), 1) := by decide +kernel
theorem dX9_leafOf_1 : decode cX9_leafOf 1 = .ok (.istore_n 3, 1) := by decide +kernel
theorem dX9_leafOf_2 : decode cX9_leafOf 2 = .ok (.iconst 0, 1) := by decide +kernel
theorem dX9_leafOf_3 : decode cX9_leafOf 3 = .ok (.istore 4, 2) := by decide +kernel
theorem dX9_leafOf_5 : decode cX9_leafOf 5 = .ok (.iload 4, 2) := by decide +kernel
theorem dX9_leafOf_7 : decode cX9_leafOf 7 = .ok (.aload_n 0, 1) := by decide +kernel
theorem dX9_leafOf_8 : decode cX9_leafOf 8 = .ok (.getfield 127, 3) := by decide +kernel
theorem dX9_leafOf_11 : decode cX9_leafOf 11 = .ok (.if_icmp .ge 82, 3) := by decide +kernel
theorem dX9_leafOf_14 : decode cX9_leafOf 14 = .ok (.aload_n 0, 1) := by decide +kernel
theorem dX9_leafOf_15 : decode cX9_leafOf 15 = .ok (.iload_n 1, 1) := by decide +kernel
theorem dX9_leafOf_16 : decode cX9_leafOf 16 = .ok (.iload_n 2, 1) := by decide +kernel
theorem dX9_leafOf_17 : decode cX9_leafOf 17 = .ok (.iload 4, 2) := by decide +kernel
theorem dX9_leafOf_19 : decode cX9_leafOf 19 = .ok (.invokevirtual 133, 3) := by decide +kernel
theorem dX9_leafOf_22 : decode cX9_leafOf 22 = .ok (.ifCond .eq 65, 3) := by decide +kernel
theorem dX9_leafOf_25 : decode cX9_leafOf 25 = .ok (.iload_n 3, 1) := by decide +kernel
theorem dX9_leafOf_26 : decode cX9_leafOf 26 = .ok (.ifCond .ge 7, 3) := by decide +kernel
theorem dX9_leafOf_29 : decode cX9_leafOf 29 = .ok (.iconst 1, 1) := by decide +kernel
theorem dX9_leafOf_30 : decode cX9_leafOf 30 = .ok (.goto 17, 3) := by decide +kernel
theorem dX9_leafOf_33 : decode cX9_leafOf 33 = .ok (.aload_n 0, 1) := by decide +kernel
theorem dX9_leafOf_34 : decode cX9_leafOf 34 = .ok (.iload 4, 2) := by decide +kernel
theorem dX9_leafOf_36 : decode cX9_leafOf 36 = .ok (.iconst 0, 1) := by decide +kernel
theorem dX9_leafOf_37 : decode cX9_leafOf 37 = .ok (.invokevirtual 137, 3) := by decide +kernel
theorem dX9_leafOf_40 : decode cX9_leafOf 40 = .ok (.aload_n 0, 1) := by decide +kernel
theorem dX9_leafOf_41 : decode cX9_leafOf 41 = .ok (.iload_n 3, 1) := by decide +kernel
theorem dX9_leafOf_42 : decode cX9_leafOf 42 = .ok (.iconst 0, 1) := by decide +kernel
theorem dX9_leafOf_43 : decode cX9_leafOf 43 = .ok (.invokevirtual 137, 3) := by decide +kernel
theorem dX9_leafOf_46 : decode cX9_leafOf 46 = .ok (.isub, 1) := by decide +kernel
theorem dX9_leafOf_47 : decode cX9_leafOf 47 = .ok (.istore 5, 2) := by decide +kernel
theorem dX9_leafOf_49 : decode cX9_leafOf 49 = .ok (.iload 5, 2) := by decide +kernel
theorem dX9_leafOf_51 : decode cX9_leafOf 51 = .ok (.ifCond .ne 20, 3) := by decide +kernel
theorem dX9_leafOf_54 : decode cX9_leafOf 54 = .ok (.aload_n 0, 1) := by decide +kernel
theorem dX9_leafOf_55 : decode cX9_leafOf 55 = .ok (.iload 4, 2) := by decide +kernel
theorem dX9_leafOf_57 : decode cX9_leafOf 57 = .ok (.iconst 1, 1) := by decide +kernel
theorem dX9_leafOf_58 : decode cX9_leafOf 58 = .ok (.invokevirtual 137, 3) := by decide +kernel
theorem dX9_leafOf_61 : decode cX9_leafOf 61 = .ok (.aload_n 0, 1) := by decide +kernel
theorem dX9_leafOf_62 : decode cX9_leafOf 62 = .ok (.iload_n 3, 1) := by decide +kernel
theorem dX9_leafOf_63 : decode cX9_leafOf 63 = .ok (.iconst 1, 1) := by decide +kernel
theorem dX9_leafOf_64 : decode cX9_leafOf 64 = .ok (.invokevirtual 137, 3) := by decide +kernel
theorem dX9_leafOf_67 : decode cX9_leafOf 67 = .ok (.isub, 1) := by decide +kernel
theorem dX9_leafOf_68 : decode cX9_leafOf 68 = .ok (.goto 5, 3) := by decide +kernel
theorem dX9_leafOf_71 : decode cX9_leafOf 71 = .ok (.iload 5, 2) := by decide +kernel
theorem dX9_leafOf_73 : decode cX9_leafOf 73 = .ok (.istore 5, 2) := by decide +kernel
theorem dX9_leafOf_75 : decode cX9_leafOf 75 = .ok (.iload 5, 2) := by decide +kernel
theorem dX9_leafOf_77 : decode cX9_leafOf 77 = .ok (.ifCond .le 8, 3) := by decide +kernel
theorem dX9_leafOf_80 : decode cX9_leafOf 80 = .ok (.iload 4, 2) := by decide +kernel
theorem dX9_leafOf_82 : decode cX9_leafOf 82 = .ok (.goto 4, 3) := by decide +kernel
theorem dX9_leafOf_85 : decode cX9_leafOf 85 = .ok (.iload_n 3, 1) := by decide +kernel
theorem dX9_leafOf_86 : decode cX9_leafOf 86 = .ok (.istore_n 3, 1) := by decide +kernel
theorem dX9_leafOf_87 : decode cX9_leafOf 87 = .ok (.iinc 4 1, 3) := by decide +kernel
theorem dX9_leafOf_90 : decode cX9_leafOf 90 = .ok (.goto (-85), 3) := by decide +kernel
theorem dX9_leafOf_93 : decode cX9_leafOf 93 = .ok (.iload_n 3, 1) := by decide +kernel
theorem dX9_leafOf_94 : decode cX9_leafOf 94 = .ok (.ireturn, 1) := by decide +kernel
def jX9_leafOf_73 (K5 : Int32 → Int32 → Option Int32) (a0 : Nat) (x1 : Int32) (x2 : Int32) (x3 : Int32) (x4 : Int32) (k0 : Int32) (u : fb_M) : Option Int32 :=
 (if k0 ≤ 0 then (K5 x3 (x4 + 1))
  else (K5 x4 (x4 + 1)))
set_option maxRecDepth 100000 in
set_option maxHeartbeats 4000000 in
theorem tjX9_leafOf_73 {g : fb_G} {res : Int32} (a0 : Nat) (x1 : Int32) (x2 : Int32) (x3 : Int32) (x4 : Int32) (k0 : Int32) (u : fb_M) (K5 : Int32 → Int32 → Option Int32) (ha0 : a0 < fb_NT ∧ fb_sh a0 = (9, 40)) (hK5 : ∀ (x3 : Int32) (x4 : Int32) ,  K5 x3 x4 = some res → fb_V g RX9 cX9_leafOf 6 (some .int) "leafOf" (fb_room 2 49 0 0) (fb_Qm g (some (.int res)) fb_NT u 0 0) 0 0 fb_NT u 5 [(0, .ref (fb_b g + a0)), (1, .int x1), (2, .int x2), (3, .int x3), (4, .int x4)] []) (h : jX9_leafOf_73 K5 a0 x1 x2 x3 x4 k0 u = some res) : fb_V g RX9 cX9_leafOf 6 (some .int) "leafOf" (fb_room 2 49 0 0) (fb_Qm g (some (.int res)) fb_NT u 0 0) 0 0 fb_NT u 73 [(0, .ref (fb_b g + a0)), (1, .int x1), (2, .int x2), (3, .int x3), (4, .int x4)] [.int k0] := by
  unfold jX9_leafOf_73 at h
  refine fb_istore (pc := 73) (lv' := [(5, .int k0), (0, .ref (fb_b g + a0)), (1, .int x1), (2, .int x2), (3, .int x3), (4, .int x4)]) dX9_leafOf_73 (by decide) rfl ?_
  refine fb_iload (pc := 75) dX9_leafOf_75 0 rfl ?_
  refine fb_if_le (pc := 77) (tgt := 85) h dX9_leafOf_77 (by decide) (fun h => ?_) (fun h => ?_)
  · refine fb_iload_n (pc := 85) dX9_leafOf_85 4 rfl ?_
    refine fb_istore_n (pc := 86) (lv' := [(3, .int x3), (5, .int k0), (0, .ref (fb_b g + a0)), (1, .int x1), (2, .int x2), (4, .int x4)]) dX9_leafOf_86 rfl (by decide) rfl ?_
    refine fb_iinc (pc := 87) (v := 1) (lv' := [(4, .int (x4 + 1)), (3, .int x3), (5, .int k0), (0, .ref (fb_b g + a0)), (1, .int x1), (2, .int x2)]) dX9_leafOf_87 5 rfl fb_ki_1 (by decide) rfl ?_
    refine fb_goto (pc := 90) (tgt := 5) dX9_leafOf_90 (by decide) ?_
    exact fb_sub [3, 4, 5, 1, 0] rfl (hK5 x3 (x4 + 1) h)
  · refine fb_iload (pc := 80) dX9_leafOf_80 5 rfl ?_
    refine fb_goto (pc := 82) (tgt := 86) dX9_leafOf_82 (by decide) ?_
    refine fb_istore_n (pc := 86) (lv' := [(3, .int x4), (5, .int k0), (0, .ref (fb_b g + a0)), (1, .int x1), (2, .int x2), (4, .int x4)]) dX9_leafOf_86 rfl (by decide) rfl ?_
    refine fb_iinc (pc := 87) (v := 1) (lv' := [(4, .int (x4 + 1)), (3, .int x4), (5, .int k0), (0, .ref (fb_b g + a0)), (1, .int x1), (2, .int x2)]) dX9_leafOf_87 5 rfl fb_ki_1 (by decide) rfl ?_
    refine fb_goto (pc := 90) (tgt := 5) dX9_leafOf_90 (by decide) ?_
    exact fb_sub [3, 4, 5, 1, 0] rfl (hK5 x4 (x4 + 1) h)

def jX9_leafOf_47 (K5 : Int32 → Int32 → Option Int32) (a0 : Nat) (x1 : Int32) (x2 : Int32) (x3 : Int32) (x4 : Int32) (k0 : Int32) (u : fb_M) : Option Int32 :=
 (if k0 = 0 then ((fX9_nameLength u a0 x4 1).bind fun r58 => 
   ((fX9_nameLength u a0 x3 1).bind fun r64 => 
   (jX9_leafOf_73 K5 a0 x1 x2 x3 x4 (r58 - r64) u)))
  else (jX9_leafOf_73 K5 a0 x1 x2 x3 x4 k0 u))
set_option maxRecDepth 100000 in
set_option maxHeartbeats 4000000 in
theorem tjX9_leafOf_47 {g : fb_G} {res : Int32} (a0 : Nat) (x1 : Int32) (x2 : Int32) (x3 : Int32) (x4 : Int32) (k0 : Int32) (u : fb_M) (K5 : Int32 → Int32 → Option Int32) (ha0 : a0 < fb_NT ∧ fb_sh a0 = (9, 40)) (hK5 : ∀ (x3 : Int32) (x4 : Int32) ,  K5 x3 x4 = some res → fb_V g RX9 cX9_leafOf 6 (some .int) "leafOf" (fb_room 2 49 0 0) (fb_Qm g (some (.int res)) fb_NT u 0 0) 0 0 fb_NT u 5 [(0, .ref (fb_b g + a0)), (1, .int x1), (2, .int x2), (3, .int x3), (4, .int x4)] []) (h : jX9_leafOf_47 K5 a0 x1 x2 x3 x4 k0 u = some res) : fb_V g RX9 cX9_leafOf 6 (some .int) "leafOf" (fb_room 2 49 0 0) (fb_Qm g (some (.int res)) fb_NT u 0 0) 0 0 fb_NT u 47 [(0, .ref (fb_b g + a0)), (1, .int x1), (2, .int x2), (3, .int x3), (4, .int x4)] [.int k0] := by
  unfold jX9_leafOf_47 at h
  refine fb_istore (pc := 47) (lv' := [(5, .int k0), (0, .ref (fb_b g + a0)), (1, .int x1), (2, .int x2), (3, .int x3), (4, .int x4)]) dX9_leafOf_47 (by decide) rfl ?_
  refine fb_iload (pc := 49) dX9_leafOf_49 0 rfl ?_
  refine fb_if_ne (pc := 51) (tgt := 71) h dX9_leafOf_51 (by decide) (fun h => ?_) (fun h => ?_)
  · refine fb_iload (pc := 71) dX9_leafOf_71 0 rfl ?_
    exact fb_sub [1, 2, 3, 4, 5] rfl (tjX9_leafOf_73 a0 x1 x2 x3 x4 k0 u K5 ha0 hK5 h)
  · refine fb_aload_n (pc := 54) dX9_leafOf_54 1 rfl ?_
    refine fb_iload (pc := 55) dX9_leafOf_55 5 rfl ?_
    refine fb_iconst (pc := 57) (v := 1) dX9_leafOf_57 fb_ki_1 ?_
    refine fb_bnE h (fun r58 h58 h => ?_)
    refine fb_cV0v (pc := 58) [.int x4, .int 1] dX9_leafOf_58 (mX9_nameLength g u a0 x4 1 ha0 h58) ymX9_nameLength yiX9_nameLength ha0.1 ha0.2 ylX9_137 rfl (Nat.le_of_ble_eq_true rfl) ⟨Nat.le_of_ble_eq_true rfl, Nat.le_of_ble_eq_true rfl⟩ ⟨Nat.le_of_ble_eq_true rfl, Nat.le_of_ble_eq_true rfl⟩ ?_
    refine fb_aload_n (pc := 61) dX9_leafOf_61 1 rfl ?_
    refine fb_iload_n (pc := 62) dX9_leafOf_62 4 rfl ?_
    refine fb_iconst (pc := 63) (v := 1) dX9_leafOf_63 fb_ki_1 ?_
    refine fb_bnE h (fun r64 h64 h => ?_)
    refine fb_cV0v (pc := 64) [.int x3, .int 1] dX9_leafOf_64 (mX9_nameLength g u a0 x3 1 ha0 h64) ymX9_nameLength yiX9_nameLength ha0.1 ha0.2 ylX9_137 rfl (Nat.le_of_ble_eq_true rfl) ⟨Nat.le_of_ble_eq_true rfl, Nat.le_of_ble_eq_true rfl⟩ ⟨Nat.le_of_ble_eq_true rfl, Nat.le_of_ble_eq_true rfl⟩ ?_
    refine fb_isub (pc := 67) dX9_leafOf_67 ?_
    refine fb_goto (pc := 68) (tgt := 73) dX9_leafOf_68 (by decide) ?_
    exact fb_sub [1, 2, 3, 4, 5] rfl (tjX9_leafOf_73 a0 x1 x2 x3 x4 (r58 - r64) u K5 ha0 hK5 h)

def bX9_leafOf_5 (K5 : Int32 → Int32 → Option Int32) (a0 : Nat) (x1 : Int32) (x2 : Int32) (x3 : Int32) (x4 : Int32) (u : fb_M) : Option Int32 :=
 (if (fb_I u a0 4) ≤ x4 then (some x3)
  else ((fX9_spells u a0 x1 x2 x4).bind fun r19 => 
   (if r19 = 0 then (K5 x3 (x4 + 1))
   else (if 0 ≤ x3 then ((fX9_nameLength u a0 x4 0).bind fun r37 => 
     ((fX9_nameLength u a0 x3 0).bind fun r43 => 
     (jX9_leafOf_47 K5 a0 x1 x2 x3 x4 (r37 - r43) u)))
    else (jX9_leafOf_47 K5 a0 x1 x2 x3 x4 1 u)))))
def gX9_leafOf_5 (a0 : Nat) (x1 : Int32) (x2 : Int32) (u : fb_M) : Nat → Int32 → Int32 → Option Int32
 | 0 => fun _ _ => none
 | fu + 1 => fun x3 x4 => bX9_leafOf_5 (gX9_leafOf_5 a0 x1 x2 u fu) a0 x1 x2 x3 x4 u
set_option maxRecDepth 100000 in
set_option maxHeartbeats 4000000 in
theorem tbX9_leafOf_5 {g : fb_G} {res : Int32} (a0 : Nat) (x1 : Int32) (x2 : Int32) (x3 : Int32) (x4 : Int32) (u : fb_M) (K5 : Int32 → Int32 → Option Int32) (ha0 : a0 < fb_NT ∧ fb_sh a0 = (9, 40)) (hK5 : ∀ (x3 : Int32) (x4 : Int32) ,  K5 x3 x4 = some res → fb_V g RX9 cX9_leafOf 6 (some .int) "leafOf" (fb_room 2 49 0 0) (fb_Qm g (some (.int res)) fb_NT u 0 0) 0 0 fb_NT u 5 [(0, .ref (fb_b g + a0)), (1, .int x1), (2, .int x2), (3, .int x3), (4, .int x4)] []) (h : bX9_leafOf_5 K5 a0 x1 x2 x3 x4 u = some res) : fb_V g RX9 cX9_leafOf 6 (some .int) "leafOf" (fb_room 2 49 0 0) (fb_Qm g (some (.int res)) fb_NT u 0 0) 0 0 fb_NT u 5 [(0, .ref (fb_b g + a0)), (1, .int x1), (2, .int x2), (3, .int x3), (4, .int x4)] [] := by
  unfold bX9_leafOf_5 at h
  refine fb_iload (pc := 5) dX9_leafOf_5 4 rfl ?_
  refine fb_aload_n (pc := 7) dX9_leafOf_7 0 rfl ?_
  refine fb_getI (pc := 8) dX9_leafOf_8 lkX9_127 ha0.1 ha0.2 rfl ?_
  refine fb_icmp_ge (pc := 11) (tgt := 93) h dX9_leafOf_11 (by decide) (fun h => ?_) (fun h => ?_)
  · refine fb_iload_n (pc := 93) dX9_leafOf_93 3 rfl ?_
    exact fb_iretR (pc := 94) h dX9_leafOf_94
  · refine fb_aload_n (pc := 14) dX9_leafOf_14 0 rfl ?_
    refine fb_iload_n (pc := 15) dX9_leafOf_15 1 rfl ?_
    refine fb_iload_n (pc := 16) dX9_leafOf_16 2 rfl ?_
    refine fb_iload (pc := 17) dX9_leafOf_17 4 rfl ?_
    refine fb_bnE h (fun r19 h19 h => ?_)
    refine fb_cV0v (pc := 19) [.int x1, .int x2, .int x4] dX9_leafOf_19 (mX9_spells g u a0 x1 x2 x4 ha0 h19) ymX9_spells yiX9_spells ha0.1 ha0.2 ylX9_133 rfl (Nat.le_of_ble_eq_true rfl) ⟨Nat.le_of_ble_eq_true rfl, Nat.le_of_ble_eq_true rfl⟩ ⟨Nat.le_of_ble_eq_true rfl, Nat.le_of_ble_eq_true rfl⟩ ?_
    refine fb_if_eq (pc := 22) (tgt := 87) h dX9_leafOf_22 (by decide) (fun h => ?_) (fun h => ?_)
    · refine fb_iinc (pc := 87) (v := 1) (lv' := [(4, .int (x4 + 1)), (0, .ref (fb_b g + a0)), (1, .int x1), (2, .int x2), (3, .int x3)]) dX9_leafOf_87 4 rfl fb_ki_1 (by decide) rfl ?_
      refine fb_goto (pc := 90) (tgt := 5) dX9_leafOf_90 (by decide) ?_
      exact fb_sub [1, 2, 3, 4, 0] rfl (hK5 x3 (x4 + 1) h)
    · refine fb_iload_n (pc := 25) dX9_leafOf_25 3 rfl ?_
      refine fb_if_ge (pc := 26) (tgt := 33) h dX9_leafOf_26 (by decide) (fun h => ?_) (fun h => ?_)
      · refine fb_aload_n (pc := 33) dX9_leafOf_33 0 rfl ?_
        refine fb_iload (pc := 34) dX9_leafOf_34 4 rfl ?_
        refine fb_iconst (pc := 36) (v := 0) dX9_leafOf_36 fb_ki_0 ?_
        refine fb_bnE h (fun r37 h37 h => ?_)
        refine fb_cV0v (pc := 37) [.int x4, .int 0] dX9_leafOf_37 (mX9_nameLength g u a0 x4 0 ha0 h37) ymX9_nameLength yiX9_nameLength ha0.1 ha0.2 ylX9_137 rfl (Nat.le_of_ble_eq_true rfl) ⟨Nat.le_of_ble_eq_true rfl, Nat.le_of_ble_eq_true rfl⟩ ⟨Nat.le_of_ble_eq_true rfl, Nat.le_of_ble_eq_true rfl⟩ ?_
        refine fb_aload_n (pc := 40) dX9_leafOf_40 0 rfl ?_
        refine fb_iload_n (pc := 41) dX9_leafOf_41 3 rfl ?_
        refine fb_iconst (pc := 42) (v := 0) dX9_leafOf_42 fb_ki_0 ?_
        refine fb_bnE h (fun r43 h43 h => ?_)
        refine fb_cV0v (pc := 43) [.int x3, .int 0] dX9_leafOf_43 (mX9_nameLength g u a0 x3 0 ha0 h43) ymX9_nameLength yiX9_nameLength ha0.1 ha0.2 ylX9_137 rfl (Nat.le_of_ble_eq_true rfl) ⟨Nat.le_of_ble_eq_true rfl, Nat.le_of_ble_eq_true rfl⟩ ⟨Nat.le_of_ble_eq_true rfl, Nat.le_of_ble_eq_true rfl⟩ ?_
        refine fb_isub (pc := 46) dX9_leafOf_46 ?_
        exact fb_sub [0, 1, 2, 3, 4] rfl (tjX9_leafOf_47 a0 x1 x2 x3 x4 (r37 - r43) u K5 ha0 hK5 h)
      · refine fb_iconst (pc := 29) (v := 1) dX9_leafOf_29 fb_ki_1 ?_
        refine fb_goto (pc := 30) (tgt := 47) dX9_leafOf_30 (by decide) ?_
        exact fb_sub [0, 1, 2, 3, 4] rfl (tjX9_leafOf_47 a0 x1 x2 x3 x4 1 u K5 ha0 hK5 h)

theorem tgX9_leafOf_5 {g : fb_G} {res : Int32} (a0 : Nat) (x1 : Int32) (x2 : Int32) (u : fb_M) (ha0 : a0 < fb_NT ∧ fb_sh a0 = (9, 40)) : ∀ (fu : Nat) (x3 : Int32) (x4 : Int32) ,  gX9_leafOf_5 a0 x1 x2 u fu x3 x4 = some res → fb_V g RX9 cX9_leafOf 6 (some .int) "leafOf" (fb_room 2 49 0 0) (fb_Qm g (some (.int res)) fb_NT u 0 0) 0 0 fb_NT u 5 [(0, .ref (fb_b g + a0)), (1, .int x1), (2, .int x2), (3, .int x3), (4, .int x4)] [] := by
  intro fu
  induction fu with
  | zero => intro x3 x4 h; exact absurd h (by simp [gX9_leafOf_5])
  | succ fu ih => intro x3 x4 h; exact tbX9_leafOf_5 a0 x1 x2 x3 x4 u (gX9_leafOf_5 a0 x1 x2 u fu) ha0 ih h
def fX9_leafOf (u : fb_M) (a0 : Nat) (x1 : Int32) (x2 : Int32) : Option Int32 :=
 (gX9_leafOf_5 a0 x1 x2 u fb_F ((-1)) 0)
set_option maxRecDepth 100000 in
set_option maxHeartbeats 4000000 in
theorem mX9_leafOf (g : fb_G) (u : fb_M) (a0 : Nat) (x1 : Int32) (x2 : Int32) (ha0 : a0 < fb_NT ∧ fb_sh a0 = (9, 40)) {res : Int32} (h : fX9_leafOf u a0 x1 x2 = some res) : fb_Runs g 2 49 0 0 fb_NT fb_NT yX9_leafOf cX9_leafOf 6 (some .int) [.ref (fb_b g + a0), .int x1, .int x2] u (some (.int res)) u := by
  unfold fX9_leafOf at h
  refine fb_enter (by decide) (Nat.le_of_ble_eq_true rfl) ?_
  show fb_V g RX9 cX9_leafOf 6 (some .int) "leafOf" (fb_room 2 49 0 0) (fb_Qm g (some (.int res)) fb_NT u 0 0) 0 0 fb_NT u 0 [(0, .ref (fb_b g + a0)), (1, .int x1), (2, .int x2)] []
  refine fb_iconst (pc := 0) (v := (-1)) dX9_leafOf_0 fb_ki_m1 ?_
  refine fb_istore_n (pc := 1) (lv' := [(3, .int ((-1))), (0, .ref (fb_b g + a0)), (1, .int x1), (2, .int x2)]) dX9_leafOf_1 rfl (by decide) rfl ?_
  refine fb_iconst (pc := 2) (v := 0) dX9_leafOf_2 fb_ki_0 ?_
  refine fb_istore (pc := 3) (lv' := [(4, .int 0), (3, .int ((-1))), (0, .ref (fb_b g + a0)), (1, .int x1), (2, .int x2)]) dX9_leafOf_3 (by decide) rfl ?_
  exact fb_sub [2, 3, 4, 1, 0] rfl (tgX9_leafOf_5 a0 x1 x2 u ha0 fb_F ((-1)) 0 h)

theorem dX9_names_0 : decode cX9_names 0 = .ok (.aload_n 0, 1) := by decide +kernel
theorem dX9_names_1 : decode cX9_names 1 = .ok (.iconst 0, 1) := by decide +kernel
theorem dX9_names_2 : decode cX9_names 2 = .ok (.aload_n 0, 1) := by decide +kernel
theorem dX9_names_3 : decode cX9_names 3 = .ok (.getfield 95, 3) := by decide +kernel
theorem dX9_names_6 : decode cX9_names 6 = .ok (.invokevirtual 141, 3) := by decide +kernel
theorem dX9_names_9 : decode cX9_names 9 = .ok (.ireturn, 1) := by decide +kernel
def fX9_names (u : fb_M) (a0 : Nat) : Option Int32 :=
 ((fX9_leafOf u a0 0 (fb_I u a0 1)).bind fun r6 => 
  (some r6))
set_option maxRecDepth 100000 in
set_option maxHeartbeats 4000000 in
theorem mX9_names (g : fb_G) (u : fb_M) (a0 : Nat) (ha0 : a0 < fb_NT ∧ fb_sh a0 = (9, 40)) {res : Int32} (h : fX9_names u a0 = some res) : fb_Runs g 3 74 0 0 fb_NT fb_NT yX9_names cX9_names 1 (some .int) [.ref (fb_b g + a0)] u (some (.int res)) u := by
  unfold fX9_names at h
  refine fb_enter (by decide) (Nat.le_of_ble_eq_true rfl) ?_
  show fb_V g RX9 cX9_names 1 (some .int) "names" (fb_room 3 74 0 0) (fb_Qm g (some (.int res)) fb_NT u 0 0) 0 0 fb_NT u 0 [(0, .ref (fb_b g + a0))] []
  refine fb_aload_n (pc := 0) dX9_names_0 0 rfl ?_
  refine fb_iconst (pc := 1) (v := 0) dX9_names_1 fb_ki_0 ?_
  refine fb_aload_n (pc := 2) dX9_names_2 0 rfl ?_
  refine fb_getI (pc := 3) dX9_names_3 lkX9_95 ha0.1 ha0.2 rfl ?_
  refine fb_bnE h (fun r6 h6 h => ?_)
  refine fb_cV0v (pc := 6) [.int 0, .int (fb_I u a0 1)] dX9_names_6 (mX9_leafOf g u a0 0 (fb_I u a0 1) ha0 h6) ymX9_leafOf yiX9_leafOf ha0.1 ha0.2 ylX9_141 rfl (Nat.le_of_ble_eq_true rfl) ⟨Nat.le_of_ble_eq_true rfl, Nat.le_of_ble_eq_true rfl⟩ ⟨Nat.le_of_ble_eq_true rfl, Nat.le_of_ble_eq_true rfl⟩ ?_
  exact fb_iretR (pc := 9) h dX9_names_9

theorem dX9_keywordStart_0 : decode cX9_keywordStart 0 = .ok (.iload_n 3, 1) := by decide +kernel
theorem dX9_keywordStart_1 : decode cX9_keywordStart 1 = .ok (.istore 4, 2) := by decide +kernel
theorem dX9_keywordStart_3 : decode cX9_keywordStart 3 = .ok (.iload_n 1, 1) := by decide +kernel
theorem dX9_keywordStart_4 : decode cX9_keywordStart 4 = .ok (.tableswitch 241 1 11 #[60, 71, 82, 105, 128, 163, 174, 185, 208, 219, 230], 60) := by decide +kernel
theorem dX9_keywordStart_64 : decode cX9_keywordStart 64 = .ok (.aload_n 0, 1) := by decide +kernel
theorem dX9_keywordStart_65 : decode cX9_keywordStart 65 = .ok (.iload_n 2, 1) := by decide +kernel
theorem dX9_keywordStart_66 : decode cX9_keywordStart 66 = .ok (.iload 4, 2) := by decide +kernel
theorem dX9_keywordStart_68 : decode cX9_keywordStart 68 = .ok (.ldc2_w 144, 3) := by decide +kernel
theorem dX9_keywordStart_71 : decode cX9_keywordStart 71 = .ok (.invokevirtual 109, 3) := by decide +kernel
theorem dX9_keywordStart_74 : decode cX9_keywordStart 74 = .ok (.ireturn, 1) := by decide +kernel
theorem dX9_keywordStart_75 : decode cX9_keywordStart 75 = .ok (.aload_n 0, 1) := by decide +kernel
theorem dX9_keywordStart_76 : decode cX9_keywordStart 76 = .ok (.iload_n 2, 1) := by decide +kernel
theorem dX9_keywordStart_77 : decode cX9_keywordStart 77 = .ok (.iload 4, 2) := by decide +kernel
theorem dX9_keywordStart_79 : decode cX9_keywordStart 79 = .ok (.ldc2_w 146, 3) := by decide +kernel
theorem dX9_keywordStart_82 : decode cX9_keywordStart 82 = .ok (.invokevirtual 109, 3) := by decide +kernel
theorem dX9_keywordStart_85 : decode cX9_keywordStart 85 = .ok (.ireturn, 1) := by decide +kernel
theorem dX9_keywordStart_86 : decode cX9_keywordStart 86 = .ok (.aload_n 0, 1) := by decide +kernel
theorem dX9_keywordStart_87 : decode cX9_keywordStart 87 = .ok (.iload_n 2, 1) := by decide +kernel
theorem dX9_keywordStart_88 : decode cX9_keywordStart 88 = .ok (.iload 4, 2) := by decide +kernel
theorem dX9_keywordStart_90 : decode cX9_keywordStart 90 = .ok (.ldc2_w 148, 3) := by decide +kernel
theorem dX9_keywordStart_93 : decode cX9_keywordStart 93 = .ok (.invokevirtual 109, 3) := by decide +kernel
theorem dX9_keywordStart_96 : decode cX9_keywordStart 96 = .ok (.istore 4, 2) := by decide +kernel
theorem dX9_keywordStart_98 : decode cX9_keywordStart 98 = .ok (.aload_n 0, 1) := by decide +kernel
theorem dX9_keywordStart_99 : decode cX9_keywordStart 99 = .ok (.iload_n 2, 1) := by decide +kernel
theorem dX9_keywordStart_100 : decode cX9_keywordStart 100 = .ok (.iload 4, 2) := by decide +kernel
theorem dX9_keywordStart_102 : decode cX9_keywordStart 102 = .ok (.ldc2_w 146, 3) := by decide +kernel
theorem dX9_keywordStart_105 : decode cX9_keywordStart 105 = .ok (.invokevirtual 109, 3) := by decide +kernel
theorem dX9_keywordStart_108 : decode cX9_keywordStart 108 = .ok (.ireturn, 1) := by decide +kernel
theorem dX9_keywordStart_109 : decode cX9_keywordStart 109 = .ok (.aload_n 0, 1) := by decide +kernel
theorem dX9_keywordStart_110 : decode cX9_keywordStart 110 = .ok (.iload_n 2, 1) := by decide +kernel
theorem dX9_keywordStart_111 : decode cX9_keywordStart 111 = .ok (.iload 4, 2) := by decide +kernel
theorem dX9_keywordStart_113 : decode cX9_keywordStart 113 = .ok (.ldc2_w 150, 3) := by decide +kernel
theorem dX9_keywordStart_116 : decode cX9_keywordStart 116 = .ok (.invokevirtual 109, 3) := by decide +kernel
theorem dX9_keywordStart_119 : decode cX9_keywordStart 119 = .ok (.istore 4, 2) := by decide +kernel
theorem dX9_keywordStart_121 : decode cX9_keywordStart 121 = .ok (.aload_n 0, 1) := by decide +kernel
theorem dX9_keywordStart_122 : decode cX9_keywordStart 122 = .ok (.iload_n 2, 1) := by decide +kernel
theorem dX9_keywordStart_123 : decode cX9_keywordStart 123 = .ok (.iload 4, 2) := by decide +kernel
theorem dX9_keywordStart_125 : decode cX9_keywordStart 125 = .ok (.ldc2_w 152, 3) := by decide +kernel
theorem dX9_keywordStart_128 : decode cX9_keywordStart 128 = .ok (.invokevirtual 109, 3) := by decide +kernel
theorem dX9_keywordStart_131 : decode cX9_keywordStart 131 = .ok (.ireturn, 1) := by decide +kernel
theorem dX9_keywordStart_132 : decode cX9_keywordStart 132 = .ok (.aload_n 0, 1) := by decide +kernel
theorem dX9_keywordStart_133 : decode cX9_keywordStart 133 = .ok (.iload_n 2, 1) := by decide +kernel
theorem dX9_keywordStart_134 : decode cX9_keywordStart 134 = .ok (.iload 4, 2) := by decide +kernel
theorem dX9_keywordStart_136 : decode cX9_keywordStart 136 = .ok (.ldc2_w 148, 3) := by decide +kernel
theorem dX9_keywordStart_139 : decode cX9_keywordStart 139 = .ok (.invokevirtual 109, 3) := by decide +kernel
theorem dX9_keywordStart_142 : decode cX9_keywordStart 142 = .ok (.istore 4, 2) := by decide +kernel
theorem dX9_keywordStart_144 : decode cX9_keywordStart 144 = .ok (.aload_n 0, 1) := by decide +kernel
theorem dX9_keywordStart_145 : decode cX9_keywordStart 145 = .ok (.iload_n 2, 1) := by decide +kernel
theorem dX9_keywordStart_146 : decode cX9_keywordStart 146 = .ok (.iload 4, 2) := by decide +kernel
theorem dX9_keywordStart_148 : decode cX9_keywordStart 148 = .ok (.ldc2_w 150, 3) := by decide +kernel
theorem dX9_keywordStart_151 : decode cX9_keywordStart 151 = .ok (.invokevirtual 109, 3) := by decide +kernel
theorem dX9_keywordStart_154 : decode cX9_keywordStart 154 = .ok (.istore 4, 2) := by decide +kernel
theorem dX9_keywordStart_156 : decode cX9_keywordStart 156 = .ok (.aload_n 0, 1) := by decide +kernel
theorem dX9_keywordStart_157 : decode cX9_keywordStart 157 = .ok (.iload_n 2, 1) := by decide +kernel
theorem dX9_keywordStart_158 : decode cX9_keywordStart 158 = .ok (.iload 4, 2) := by decide +kernel
theorem dX9_keywordStart_160 : decode cX9_keywordStart 160 = .ok (.ldc2_w 152, 3) := by decide +kernel
theorem dX9_keywordStart_163 : decode cX9_keywordStart 163 = .ok (.invokevirtual 109, 3) := by decide +kernel
theorem dX9_keywordStart_166 : decode cX9_keywordStart 166 = .ok (.ireturn, 1) := by decide +kernel
theorem dX9_keywordStart_167 : decode cX9_keywordStart 167 = .ok (.aload_n 0, 1) := by decide +kernel
theorem dX9_keywordStart_168 : decode cX9_keywordStart 168 = .ok (.iload_n 2, 1) := by decide +kernel
theorem dX9_keywordStart_169 : decode cX9_keywordStart 169 = .ok (.iload 4, 2) := by decide +kernel
theorem dX9_keywordStart_171 : decode cX9_keywordStart 171 = .ok (.ldc2_w 154, 3) := by decide +kernel
theorem dX9_keywordStart_174 : decode cX9_keywordStart 174 = .ok (.invokevirtual 109, 3) := by decide +kernel
theorem dX9_keywordStart_177 : decode cX9_keywordStart 177 = .ok (.ireturn, 1) := by decide +kernel
theorem dX9_keywordStart_178 : decode cX9_keywordStart 178 = .ok (.aload_n 0, 1) := by decide +kernel
theorem dX9_keywordStart_179 : decode cX9_keywordStart 179 = .ok (.iload_n 2, 1) := by decide +kernel
theorem dX9_keywordStart_180 : decode cX9_keywordStart 180 = .ok (.iload 4, 2) := by decide +kernel
theorem dX9_keywordStart_182 : decode cX9_keywordStart 182 = .ok (.ldc2_w 156, 3) := by decide +kernel
theorem dX9_keywordStart_185 : decode cX9_keywordStart 185 = .ok (.invokevirtual 109, 3) := by decide +kernel
theorem dX9_keywordStart_188 : decode cX9_keywordStart 188 = .ok (.ireturn, 1) := by decide +kernel
theorem dX9_keywordStart_189 : decode cX9_keywordStart 189 = .ok (.aload_n 0, 1) := by decide +kernel
theorem dX9_keywordStart_190 : decode cX9_keywordStart 190 = .ok (.iload_n 2, 1) := by decide +kernel
theorem dX9_keywordStart_191 : decode cX9_keywordStart 191 = .ok (.iload 4, 2) := by decide +kernel
theorem dX9_keywordStart_193 : decode cX9_keywordStart 193 = .ok (.ldc2_w 156, 3) := by decide +kernel
theorem dX9_keywordStart_196 : decode cX9_keywordStart 196 = .ok (.invokevirtual 109, 3) := by decide +kernel
theorem dX9_keywordStart_199 : decode cX9_keywordStart 199 = .ok (.istore 4, 2) := by decide +kernel
theorem dX9_keywordStart_201 : decode cX9_keywordStart 201 = .ok (.aload_n 0, 1) := by decide +kernel
theorem dX9_keywordStart_202 : decode cX9_keywordStart 202 = .ok (.iload_n 2, 1) := by decide +kernel
theorem dX9_keywordStart_203 : decode cX9_keywordStart 203 = .ok (.iload 4, 2) := by decide +kernel
theorem dX9_keywordStart_205 : decode cX9_keywordStart 205 = .ok (.ldc2_w 144, 3) := by decide +kernel
theorem dX9_keywordStart_208 : decode cX9_keywordStart 208 = .ok (.invokevirtual 109, 3) := by decide +kernel
theorem dX9_keywordStart_211 : decode cX9_keywordStart 211 = .ok (.ireturn, 1) := by decide +kernel
theorem dX9_keywordStart_212 : decode cX9_keywordStart 212 = .ok (.aload_n 0, 1) := by decide +kernel
theorem dX9_keywordStart_213 : decode cX9_keywordStart 213 = .ok (.iload_n 2, 1) := by decide +kernel
theorem dX9_keywordStart_214 : decode cX9_keywordStart 214 = .ok (.iload 4, 2) := by decide +kernel
theorem dX9_keywordStart_216 : decode cX9_keywordStart 216 = .ok (.ldc2_w 158, 3) := by decide +kernel
theorem dX9_keywordStart_219 : decode cX9_keywordStart 219 = .ok (.invokevirtual 109, 3) := by decide +kernel
theorem dX9_keywordStart_222 : decode cX9_keywordStart 222 = .ok (.ireturn, 1) := by decide +kernel
theorem dX9_keywordStart_223 : decode cX9_keywordStart 223 = .ok (.aload_n 0, 1) := by decide +kernel
theorem dX9_keywordStart_224 : decode cX9_keywordStart 224 = .ok (.iload_n 2, 1) := by decide +kernel
theorem dX9_keywordStart_225 : decode cX9_keywordStart 225 = .ok (.iload 4, 2) := by decide +kernel
theorem dX9_keywordStart_227 : decode cX9_keywordStart 227 = .ok (.ldc2_w 160, 3) := by decide +kernel
theorem dX9_keywordStart_230 : decode cX9_keywordStart 230 = .ok (.invokevirtual 109, 3) := by decide +kernel
theorem dX9_keywordStart_233 : decode cX9_keywordStart 233 = .ok (.ireturn, 1) := by decide +kernel
theorem dX9_keywordStart_234 : decode cX9_keywordStart 234 = .ok (.aload_n 0, 1) := by decide +kernel
theorem dX9_keywordStart_235 : decode cX9_keywordStart 235 = .ok (.iload_n 2, 1) := by decide +kernel
theorem dX9_keywordStart_236 : decode cX9_keywordStart 236 = .ok (.iload 4, 2) := by decide +kernel
theorem dX9_keywordStart_238 : decode cX9_keywordStart 238 = .ok (.ldc2_w 162, 3) := by decide +kernel
theorem dX9_keywordStart_241 : decode cX9_keywordStart 241 = .ok (.invokevirtual 109, 3) := by decide +kernel
theorem dX9_keywordStart_244 : decode cX9_keywordStart 244 = .ok (.ireturn, 1) := by decide +kernel
theorem dX9_keywordStart_245 : decode cX9_keywordStart 245 = .ok (.iload 4, 2) := by decide +kernel
theorem dX9_keywordStart_247 : decode cX9_keywordStart 247 = .ok (.ireturn, 1) := by decide +kernel
def fX9_keywordStart (u : fb_M) (a0 : Nat) (x1 : Int32) (x2 : Int32) (x3 : Int32) : Option Int32 :=
 (if x1 = 1 then ((fX9_before u a0 x2 x3 5140340).bind fun r71 => 
   (some r71))
  else (if x1 = 2 then ((fX9_before u a0 x2 x3 5504933058704859502).bind fun r82 => 
   (some r82))
  else (if x1 = 3 then ((fX9_before u a0 x2 x3 298256261484).bind fun r93 => 
   ((fX9_before u a0 x2 r93 5504933058704859502).bind fun r105 => 
   (some r105)))
  else (if x1 = 4 then ((fX9_before u a0 x2 x3 1416126830).bind fun r116 => 
   ((fX9_before u a0 x2 r116 20110503098738034).bind fun r128 => 
   (some r128)))
  else (if x1 = 5 then ((fX9_before u a0 x2 x3 298256261484).bind fun r139 => 
   ((fX9_before u a0 x2 r139 1416126830).bind fun r151 => 
   ((fX9_before u a0 x2 r151 20110503098738034).bind fun r163 => 
   (some r163))))
  else (if x1 = 6 then ((fX9_before u a0 x2 x3 18688899356648814).bind fun r174 => 
   (some r174))
  else (if x1 = 7 then ((fX9_before u a0 x2 x3 1316318316).bind fun r185 => 
   (some r185))
  else (if x1 = 8 then ((fX9_before u a0 x2 x3 1316318316).bind fun r196 => 
   ((fX9_before u a0 x2 r196 5140340).bind fun r208 => 
   (some r208)))
  else (if x1 = 9 then ((fX9_before u a0 x2 x3 1416787301).bind fun r219 => 
   (some r219))
  else (if x1 = 10 then ((fX9_before u a0 x2 x3 302282208101).bind fun r230 => 
   (some r230))
  else (if x1 = 11 then ((fX9_before u a0 x2 x3 76353602940019).bind fun r241 => 
   (some r241))
  else (some x3))))))))))))
set_option maxRecDepth 100000 in
set_option maxHeartbeats 4000000 in
theorem mX9_keywordStart (g : fb_G) (u : fb_M) (a0 : Nat) (x1 : Int32) (x2 : Int32) (x3 : Int32) (ha0 : a0 < fb_NT ∧ fb_sh a0 = (9, 40)) {res : Int32} (h : fX9_keywordStart u a0 x1 x2 x3 = some res) : fb_Runs g 2 48 0 0 fb_NT fb_NT yX9_keywordStart cX9_keywordStart 5 (some .int) [.ref (fb_b g + a0), .int x1, .int x2, .int x3] u (some (.int res)) u := by
  unfold fX9_keywordStart at h
  refine fb_enter (by decide) (Nat.le_of_ble_eq_true rfl) ?_
  show fb_V g RX9 cX9_keywordStart 5 (some .int) "keywordStart" (fb_room 2 48 0 0) (fb_Qm g (some (.int res)) fb_NT u 0 0) 0 0 fb_NT u 0 [(0, .ref (fb_b g + a0)), (1, .int x1), (2, .int x2), (3, .int x3)] []
  refine fb_iload_n (pc := 0) dX9_keywordStart_0 3 rfl ?_
  refine fb_istore (pc := 1) (lv' := [(4, .int x3), (0, .ref (fb_b g + a0)), (1, .int x1), (2, .int x2), (3, .int x3)]) dX9_keywordStart_1 (by decide) rfl ?_
  refine fb_iload_n (pc := 3) dX9_keywordStart_3 2 rfl ?_
  refine fb_ifE h (fun c4_1 h => ?_) (fun c4_1 h => ?_)
  · refine fb_tabIn (pc := 4) (v := 1) (tgt := 64) c4_1 dX9_keywordStart_4 (by decide) (by decide) rfl (by decide) ?_
    refine fb_aload_n (pc := 64) dX9_keywordStart_64 1 rfl ?_
    refine fb_iload_n (pc := 65) dX9_keywordStart_65 3 rfl ?_
    refine fb_iload (pc := 66) dX9_keywordStart_66 0 rfl ?_
    refine fb_ldc2 (pc := 68) (v := 5140340) dX9_keywordStart_68 lwX9_144 ?_
    refine fb_bnE h (fun r71 h71 h => ?_)
    refine fb_cV0v (pc := 71) [.int x2, .int x3, .long 5140340] dX9_keywordStart_71 (mX9_before g u a0 x2 x3 5140340 ha0 h71) ymX9_before yiX9_before ha0.1 ha0.2 ylX9_109 rfl (Nat.le_of_ble_eq_true rfl) ⟨Nat.le_of_ble_eq_true rfl, Nat.le_of_ble_eq_true rfl⟩ ⟨Nat.le_of_ble_eq_true rfl, Nat.le_of_ble_eq_true rfl⟩ ?_
    exact fb_iretR (pc := 74) h dX9_keywordStart_74
  refine fb_ifE h (fun c4_2 h => ?_) (fun c4_2 h => ?_)
  · refine fb_tabIn (pc := 4) (v := 2) (tgt := 75) c4_2 dX9_keywordStart_4 (by decide) (by decide) rfl (by decide) ?_
    refine fb_aload_n (pc := 75) dX9_keywordStart_75 1 rfl ?_
    refine fb_iload_n (pc := 76) dX9_keywordStart_76 3 rfl ?_
    refine fb_iload (pc := 77) dX9_keywordStart_77 0 rfl ?_
    refine fb_ldc2 (pc := 79) (v := 5504933058704859502) dX9_keywordStart_79 lwX9_146 ?_
    refine fb_bnE h (fun r82 h82 h => ?_)
    refine fb_cV0v (pc := 82) [.int x2, .int x3, .long 5504933058704859502] dX9_keywordStart_82 (mX9_before g u a0 x2 x3 5504933058704859502 ha0 h82) ymX9_before yiX9_before ha0.1 ha0.2 ylX9_109 rfl (Nat.le_of_ble_eq_true rfl) ⟨Nat.le_of_ble_eq_true rfl, Nat.le_of_ble_eq_true rfl⟩ ⟨Nat.le_of_ble_eq_true rfl, Nat.le_of_ble_eq_true rfl⟩ ?_
    exact fb_iretR (pc := 85) h dX9_keywordStart_85
  refine fb_ifE h (fun c4_3 h => ?_) (fun c4_3 h => ?_)
  · refine fb_tabIn (pc := 4) (v := 3) (tgt := 86) c4_3 dX9_keywordStart_4 (by decide) (by decide) rfl (by decide) ?_
    refine fb_aload_n (pc := 86) dX9_keywordStart_86 1 rfl ?_
    refine fb_iload_n (pc := 87) dX9_keywordStart_87 3 rfl ?_
    refine fb_iload (pc := 88) dX9_keywordStart_88 0 rfl ?_
    refine fb_ldc2 (pc := 90) (v := 298256261484) dX9_keywordStart_90 lwX9_148 ?_
    refine fb_bnE h (fun r93 h93 h => ?_)
    refine fb_cV0v (pc := 93) [.int x2, .int x3, .long 298256261484] dX9_keywordStart_93 (mX9_before g u a0 x2 x3 298256261484 ha0 h93) ymX9_before yiX9_before ha0.1 ha0.2 ylX9_109 rfl (Nat.le_of_ble_eq_true rfl) ⟨Nat.le_of_ble_eq_true rfl, Nat.le_of_ble_eq_true rfl⟩ ⟨Nat.le_of_ble_eq_true rfl, Nat.le_of_ble_eq_true rfl⟩ ?_
    refine fb_istore (pc := 96) (lv' := [(4, .int r93), (0, .ref (fb_b g + a0)), (1, .int x1), (2, .int x2), (3, .int x3)]) dX9_keywordStart_96 (by decide) rfl ?_
    refine fb_aload_n (pc := 98) dX9_keywordStart_98 1 rfl ?_
    refine fb_iload_n (pc := 99) dX9_keywordStart_99 3 rfl ?_
    refine fb_iload (pc := 100) dX9_keywordStart_100 0 rfl ?_
    refine fb_ldc2 (pc := 102) (v := 5504933058704859502) dX9_keywordStart_102 lwX9_146 ?_
    refine fb_bnE h (fun r105 h105 h => ?_)
    refine fb_cV0v (pc := 105) [.int x2, .int r93, .long 5504933058704859502] dX9_keywordStart_105 (mX9_before g u a0 x2 r93 5504933058704859502 ha0 h105) ymX9_before yiX9_before ha0.1 ha0.2 ylX9_109 rfl (Nat.le_of_ble_eq_true rfl) ⟨Nat.le_of_ble_eq_true rfl, Nat.le_of_ble_eq_true rfl⟩ ⟨Nat.le_of_ble_eq_true rfl, Nat.le_of_ble_eq_true rfl⟩ ?_
    exact fb_iretR (pc := 108) h dX9_keywordStart_108
  refine fb_ifE h (fun c4_4 h => ?_) (fun c4_4 h => ?_)
  · refine fb_tabIn (pc := 4) (v := 4) (tgt := 109) c4_4 dX9_keywordStart_4 (by decide) (by decide) rfl (by decide) ?_
    refine fb_aload_n (pc := 109) dX9_keywordStart_109 1 rfl ?_
    refine fb_iload_n (pc := 110) dX9_keywordStart_110 3 rfl ?_
    refine fb_iload (pc := 111) dX9_keywordStart_111 0 rfl ?_
    refine fb_ldc2 (pc := 113) (v := 1416126830) dX9_keywordStart_113 lwX9_150 ?_
    refine fb_bnE h (fun r116 h116 h => ?_)
    refine fb_cV0v (pc := 116) [.int x2, .int x3, .long 1416126830] dX9_keywordStart_116 (mX9_before g u a0 x2 x3 1416126830 ha0 h116) ymX9_before yiX9_before ha0.1 ha0.2 ylX9_109 rfl (Nat.le_of_ble_eq_true rfl) ⟨Nat.le_of_ble_eq_true rfl, Nat.le_of_ble_eq_true rfl⟩ ⟨Nat.le_of_ble_eq_true rfl, Nat.le_of_ble_eq_true rfl⟩ ?_
    refine fb_istore (pc := 119) (lv' := [(4, .int r116), (0, .ref (fb_b g + a0)), (1, .int x1), (2, .int x2), (3, .int x3)]) dX9_keywordStart_119 (by decide) rfl ?_
    refine fb_aload_n (pc := 121) dX9_keywordStart_121 1 rfl ?_
    refine fb_iload_n (pc := 122) dX9_keywordStart_122 3 rfl ?_
    refine fb_iload (pc := 123) dX9_keywordStart_123 0 rfl ?_
    refine fb_ldc2 (pc := 125) (v := 20110503098738034) dX9_keywordStart_125 lwX9_152 ?_
    refine fb_bnE h (fun r128 h128 h => ?_)
    refine fb_cV0v (pc := 128) [.int x2, .int r116, .long 20110503098738034] dX9_keywordStart_128 (mX9_before g u a0 x2 r116 20110503098738034 ha0 h128) ymX9_before yiX9_before ha0.1 ha0.2 ylX9_109 rfl (Nat.le_of_ble_eq_true rfl) ⟨Nat.le_of_ble_eq_true rfl, Nat.le_of_ble_eq_true rfl⟩ ⟨Nat.le_of_ble_eq_true rfl, Nat.le_of_ble_eq_true rfl⟩ ?_
    exact fb_iretR (pc := 131) h dX9_keywordStart_131
  refine fb_ifE h (fun c4_5 h => ?_) (fun c4_5 h => ?_)
  · refine fb_tabIn (pc := 4) (v := 5) (tgt := 132) c4_5 dX9_keywordStart_4 (by decide) (by decide) rfl (by decide) ?_
    refine fb_aload_n (pc := 132) dX9_keywordStart_132 1 rfl ?_
    refine fb_iload_n (pc := 133) dX9_keywordStart_133 3 rfl ?_
    refine fb_iload (pc := 134) dX9_keywordStart_134 0 rfl ?_
    refine fb_ldc2 (pc := 136) (v := 298256261484) dX9_keywordStart_136 lwX9_148 ?_
    refine fb_bnE h (fun r139 h139 h => ?_)
    refine fb_cV0v (pc := 139) [.int x2, .int x3, .long 298256261484] dX9_keywordStart_139 (mX9_before g u a0 x2 x3 298256261484 ha0 h139) ymX9_before yiX9_before ha0.1 ha0.2 ylX9_109 rfl (Nat.le_of_ble_eq_true rfl) ⟨Nat.le_of_ble_eq_true rfl, Nat.le_of_ble_eq_true rfl⟩ ⟨Nat.le_of_ble_eq_true rfl, Nat.le_of_ble_eq_true rfl⟩ ?_
    refine fb_istore (pc := 142) (lv' := [(4, .int r139), (0, .ref (fb_b g + a0)), (1, .int x1), (2, .int x2), (3, .int x3)]) dX9_keywordStart_142 (by decide) rfl ?_
    refine fb_aload_n (pc := 144) dX9_keywordStart_144 1 rfl ?_
    refine fb_iload_n (pc := 145) dX9_keywordStart_145 3 rfl ?_
    refine fb_iload (pc := 146) dX9_keywordStart_146 0 rfl ?_
    refine fb_ldc2 (pc := 148) (v := 1416126830) dX9_keywordStart_148 lwX9_150 ?_
    refine fb_bnE h (fun r151 h151 h => ?_)
    refine fb_cV0v (pc := 151) [.int x2, .int r139, .long 1416126830] dX9_keywordStart_151 (mX9_before g u a0 x2 r139 1416126830 ha0 h151) ymX9_before yiX9_before ha0.1 ha0.2 ylX9_109 rfl (Nat.le_of_ble_eq_true rfl) ⟨Nat.le_of_ble_eq_true rfl, Nat.le_of_ble_eq_true rfl⟩ ⟨Nat.le_of_ble_eq_true rfl, Nat.le_of_ble_eq_true rfl⟩ ?_
    refine fb_istore (pc := 154) (lv' := [(4, .int r151), (0, .ref (fb_b g + a0)), (1, .int x1), (2, .int x2), (3, .int x3)]) dX9_keywordStart_154 (by decide) rfl ?_
    refine fb_aload_n (pc := 156) dX9_keywordStart_156 1 rfl ?_
    refine fb_iload_n (pc := 157) dX9_keywordStart_157 3 rfl ?_
    refine fb_iload (pc := 158) dX9_keywordStart_158 0 rfl ?_
    refine fb_ldc2 (pc := 160) (v := 20110503098738034) dX9_keywordStart_160 lwX9_152 ?_
    refine fb_bnE h (fun r163 h163 h => ?_)
    refine fb_cV0v (pc := 163) [.int x2, .int r151, .long 20110503098738034] dX9_keywordStart_163 (mX9_before g u a0 x2 r151 20110503098738034 ha0 h163) ymX9_before yiX9_before ha0.1 ha0.2 ylX9_109 rfl (Nat.le_of_ble_eq_true rfl) ⟨Nat.le_of_ble_eq_true rfl, Nat.le_of_ble_eq_true rfl⟩ ⟨Nat.le_of_ble_eq_true rfl, Nat.le_of_ble_eq_true rfl⟩ ?_
    exact fb_iretR (pc := 166) h dX9_keywordStart_166
  refine fb_ifE h (fun c4_6 h => ?_) (fun c4_6 h => ?_)
  · refine fb_tabIn (pc := 4) (v := 6) (tgt := 167) c4_6 dX9_keywordStart_4 (by decide) (by decide) rfl (by decide) ?_
    refine fb_aload_n (pc := 167) dX9_keywordStart_167 1 rfl ?_
    refine fb_iload_n (pc := 168) dX9_keywordStart_168 3 rfl ?_
    refine fb_iload (pc := 169) dX9_keywordStart_169 0 rfl ?_
    refine fb_ldc2 (pc := 171) (v := 18688899356648814) dX9_keywordStart_171 lwX9_154 ?_
    refine fb_bnE h (fun r174 h174 h => ?_)
    refine fb_cV0v (pc := 174) [.int x2, .int x3, .long 18688899356648814] dX9_keywordStart_174 (mX9_before g u a0 x2 x3 18688899356648814 ha0 h174) ymX9_before yiX9_before ha0.1 ha0.2 ylX9_109 rfl (Nat.le_of_ble_eq_true rfl) ⟨Nat.le_of_ble_eq_true rfl, Nat.le_of_ble_eq_true rfl⟩ ⟨Nat.le_of_ble_eq_true rfl, Nat.le_of_ble_eq_true rfl⟩ ?_
    exact fb_iretR (pc := 177) h dX9_keywordStart_177
  refine fb_ifE h (fun c4_7 h => ?_) (fun c4_7 h => ?_)
  · refine fb_tabIn (pc := 4) (v := 7) (tgt := 178) c4_7 dX9_keywordStart_4 (by decide) (by decide) rfl (by decide) ?_
    refine fb_aload_n (pc := 178) dX9_keywordStart_178 1 rfl ?_
    refine fb_iload_n (pc := 179) dX9_keywordStart_179 3 rfl ?_
    refine fb_iload (pc := 180) dX9_keywordStart_180 0 rfl ?_
    refine fb_ldc2 (pc := 182) (v := 1316318316) dX9_keywordStart_182 lwX9_156 ?_
    refine fb_bnE h (fun r185 h185 h => ?_)
    refine fb_cV0v (pc := 185) [.int x2, .int x3, .long 1316318316] dX9_keywordStart_185 (mX9_before g u a0 x2 x3 1316318316 ha0 h185) ymX9_before yiX9_before ha0.1 ha0.2 ylX9_109 rfl (Nat.le_of_ble_eq_true rfl) ⟨Nat.le_of_ble_eq_true rfl, Nat.le_of_ble_eq_true rfl⟩ ⟨Nat.le_of_ble_eq_true rfl, Nat.le_of_ble_eq_true rfl⟩ ?_
    exact fb_iretR (pc := 188) h dX9_keywordStart_188
  refine fb_ifE h (fun c4_8 h => ?_) (fun c4_8 h => ?_)
  · refine fb_tabIn (pc := 4) (v := 8) (tgt := 189) c4_8 dX9_keywordStart_4 (by decide) (by decide) rfl (by decide) ?_
    refine fb_aload_n (pc := 189) dX9_keywordStart_189 1 rfl ?_
    refine fb_iload_n (pc := 190) dX9_keywordStart_190 3 rfl ?_
    refine fb_iload (pc := 191) dX9_keywordStart_191 0 rfl ?_
    refine fb_ldc2 (pc := 193) (v := 1316318316) dX9_keywordStart_193 lwX9_156 ?_
    refine fb_bnE h (fun r196 h196 h => ?_)
    refine fb_cV0v (pc := 196) [.int x2, .int x3, .long 1316318316] dX9_keywordStart_196 (mX9_before g u a0 x2 x3 1316318316 ha0 h196) ymX9_before yiX9_before ha0.1 ha0.2 ylX9_109 rfl (Nat.le_of_ble_eq_true rfl) ⟨Nat.le_of_ble_eq_true rfl, Nat.le_of_ble_eq_true rfl⟩ ⟨Nat.le_of_ble_eq_true rfl, Nat.le_of_ble_eq_true rfl⟩ ?_
    refine fb_istore (pc := 199) (lv' := [(4, .int r196), (0, .ref (fb_b g + a0)), (1, .int x1), (2, .int x2), (3, .int x3)]) dX9_keywordStart_199 (by decide) rfl ?_
    refine fb_aload_n (pc := 201) dX9_keywordStart_201 1 rfl ?_
    refine fb_iload_n (pc := 202) dX9_keywordStart_202 3 rfl ?_
    refine fb_iload (pc := 203) dX9_keywordStart_203 0 rfl ?_
    refine fb_ldc2 (pc := 205) (v := 5140340) dX9_keywordStart_205 lwX9_144 ?_
    refine fb_bnE h (fun r208 h208 h => ?_)
    refine fb_cV0v (pc := 208) [.int x2, .int r196, .long 5140340] dX9_keywordStart_208 (mX9_before g u a0 x2 r196 5140340 ha0 h208) ymX9_before yiX9_before ha0.1 ha0.2 ylX9_109 rfl (Nat.le_of_ble_eq_true rfl) ⟨Nat.le_of_ble_eq_true rfl, Nat.le_of_ble_eq_true rfl⟩ ⟨Nat.le_of_ble_eq_true rfl, Nat.le_of_ble_eq_true rfl⟩ ?_
    exact fb_iretR (pc := 211) h dX9_keywordStart_211
  refine fb_ifE h (fun c4_9 h => ?_) (fun c4_9 h => ?_)
  · refine fb_tabIn (pc := 4) (v := 9) (tgt := 212) c4_9 dX9_keywordStart_4 (by decide) (by decide) rfl (by decide) ?_
    refine fb_aload_n (pc := 212) dX9_keywordStart_212 1 rfl ?_
    refine fb_iload_n (pc := 213) dX9_keywordStart_213 3 rfl ?_
    refine fb_iload (pc := 214) dX9_keywordStart_214 0 rfl ?_
    refine fb_ldc2 (pc := 216) (v := 1416787301) dX9_keywordStart_216 lwX9_158 ?_
    refine fb_bnE h (fun r219 h219 h => ?_)
    refine fb_cV0v (pc := 219) [.int x2, .int x3, .long 1416787301] dX9_keywordStart_219 (mX9_before g u a0 x2 x3 1416787301 ha0 h219) ymX9_before yiX9_before ha0.1 ha0.2 ylX9_109 rfl (Nat.le_of_ble_eq_true rfl) ⟨Nat.le_of_ble_eq_true rfl, Nat.le_of_ble_eq_true rfl⟩ ⟨Nat.le_of_ble_eq_true rfl, Nat.le_of_ble_eq_true rfl⟩ ?_
    exact fb_iretR (pc := 222) h dX9_keywordStart_222
  refine fb_ifE h (fun c4_10 h => ?_) (fun c4_10 h => ?_)
  · refine fb_tabIn (pc := 4) (v := 10) (tgt := 223) c4_10 dX9_keywordStart_4 (by decide) (by decide) rfl (by decide) ?_
    refine fb_aload_n (pc := 223) dX9_keywordStart_223 1 rfl ?_
    refine fb_iload_n (pc := 224) dX9_keywordStart_224 3 rfl ?_
    refine fb_iload (pc := 225) dX9_keywordStart_225 0 rfl ?_
    refine fb_ldc2 (pc := 227) (v := 302282208101) dX9_keywordStart_227 lwX9_160 ?_
    refine fb_bnE h (fun r230 h230 h => ?_)
    refine fb_cV0v (pc := 230) [.int x2, .int x3, .long 302282208101] dX9_keywordStart_230 (mX9_before g u a0 x2 x3 302282208101 ha0 h230) ymX9_before yiX9_before ha0.1 ha0.2 ylX9_109 rfl (Nat.le_of_ble_eq_true rfl) ⟨Nat.le_of_ble_eq_true rfl, Nat.le_of_ble_eq_true rfl⟩ ⟨Nat.le_of_ble_eq_true rfl, Nat.le_of_ble_eq_true rfl⟩ ?_
    exact fb_iretR (pc := 233) h dX9_keywordStart_233
  refine fb_ifE h (fun c4_11 h => ?_) (fun c4_11 h => ?_)
  · refine fb_tabIn (pc := 4) (v := 11) (tgt := 234) c4_11 dX9_keywordStart_4 (by decide) (by decide) rfl (by decide) ?_
    refine fb_aload_n (pc := 234) dX9_keywordStart_234 1 rfl ?_
    refine fb_iload_n (pc := 235) dX9_keywordStart_235 3 rfl ?_
    refine fb_iload (pc := 236) dX9_keywordStart_236 0 rfl ?_
    refine fb_ldc2 (pc := 238) (v := 76353602940019) dX9_keywordStart_238 lwX9_162 ?_
    refine fb_bnE h (fun r241 h241 h => ?_)
    refine fb_cV0v (pc := 241) [.int x2, .int x3, .long 76353602940019] dX9_keywordStart_241 (mX9_before g u a0 x2 x3 76353602940019 ha0 h241) ymX9_before yiX9_before ha0.1 ha0.2 ylX9_109 rfl (Nat.le_of_ble_eq_true rfl) ⟨Nat.le_of_ble_eq_true rfl, Nat.le_of_ble_eq_true rfl⟩ ⟨Nat.le_of_ble_eq_true rfl, Nat.le_of_ble_eq_true rfl⟩ ?_
    exact fb_iretR (pc := 244) h dX9_keywordStart_244
  refine fb_tabOut (pc := 4) (tgt := 245) (by have a0 := lv_neT c4_1 (a := 1) (by decide); have a1 := lv_neT c4_2 (a := 2) (by decide); have a2 := lv_neT c4_3 (a := 3) (by decide); have a3 := lv_neT c4_4 (a := 4) (by decide); have a4 := lv_neT c4_5 (a := 5) (by decide); have a5 := lv_neT c4_6 (a := 6) (by decide); have a6 := lv_neT c4_7 (a := 7) (by decide); have a7 := lv_neT c4_8 (a := 8) (by decide); have a8 := lv_neT c4_9 (a := 9) (by decide); have a9 := lv_neT c4_10 (a := 10) (by decide); have a10 := lv_neT c4_11 (a := 11) (by decide); omega) dX9_keywordStart_4 (by decide) ?_
  refine fb_iload (pc := 245) dX9_keywordStart_245 0 rfl ?_
  exact fb_iretR (pc := 247) h dX9_keywordStart_247

theorem dX9_readPart_0 : decode cX9_readPart 0 = .ok (.iconst (-1), 1) := by decide +kernel
theorem dX9_readPart_1 : decode cX9_readPart 1 = .ok (.istore_n 3, 1) := by decide +kernel
theorem dX9_readPart_2 : decode cX9_readPart 2 = .ok (.iload_n 2, 1) := by decide +kernel
theorem dX9_readPart_3 : decode cX9_readPart 3 = .ok (.iconst 1, 1) := by decide +kernel
theorem dX9_readPart_4 : decode cX9_readPart 4 = .ok (.iadd, 1) := by decide +kernel
theorem dX9_readPart_5 : decode cX9_readPart 5 = .ok (.istore 4, 2) := by decide +kernel
theorem dX9_readPart_7 : decode cX9_readPart 7 = .ok (.iconst 0, 1) := by decide +kernel
theorem dX9_readPart_8 : decode cX9_readPart 8 = .ok (.istore 5, 2) := by decide +kernel
theorem dX9_readPart_10 : decode cX9_readPart 10 = .ok (.iload 5, 2) := by decide +kernel
theorem dX9_readPart_12 : decode cX9_readPart 12 = .ok (.bipush 11, 2) := by decide +kernel
theorem dX9_readPart_14 : decode cX9_readPart 14 = .ok (.if_icmp .gt 134, 3) := by decide +kernel
theorem dX9_readPart_17 : decode cX9_readPart 17 = .ok (.aload_n 0, 1) := by decide +kernel
theorem dX9_readPart_18 : decode cX9_readPart 18 = .ok (.iload 5, 2) := by decide +kernel
theorem dX9_readPart_20 : decode cX9_readPart 20 = .ok (.iload_n 1, 1) := by decide +kernel
theorem dX9_readPart_21 : decode cX9_readPart 21 = .ok (.iload_n 2, 1) := by decide +kernel
theorem dX9_readPart_22 : decode cX9_readPart 22 = .ok (.invokevirtual 164, 3) := by decide +kernel
theorem dX9_readPart_25 : decode cX9_readPart 25 = .ok (.istore 6, 2) := by decide +kernel
theorem dX9_readPart_27 : decode cX9_readPart 27 = .ok (.iload 5, 2) := by decide +kernel
theorem dX9_readPart_29 : decode cX9_readPart 29 = .ok (.bipush 11, 2) := by decide +kernel
theorem dX9_readPart_31 : decode cX9_readPart 31 = .ok (.if_icmp .ge 16, 3) := by decide +kernel
theorem dX9_readPart_34 : decode cX9_readPart 34 = .ok (.aload_n 0, 1) := by decide +kernel
theorem dX9_readPart_35 : decode cX9_readPart 35 = .ok (.iload_n 1, 1) := by decide +kernel
theorem dX9_readPart_36 : decode cX9_readPart 36 = .ok (.iload 6, 2) := by decide +kernel
theorem dX9_readPart_38 : decode cX9_readPart 38 = .ok (.ldc2_w 168, 3) := by decide +kernel
theorem dX9_readPart_41 : decode cX9_readPart 41 = .ok (.invokevirtual 109, 3) := by decide +kernel
theorem dX9_readPart_44 : decode cX9_readPart 44 = .ok (.goto 4, 3) := by decide +kernel
theorem dX9_readPart_47 : decode cX9_readPart 47 = .ok (.iconst (-1), 1) := by decide +kernel
theorem dX9_readPart_48 : decode cX9_readPart 48 = .ok (.istore 7, 2) := by decide +kernel
theorem dX9_readPart_50 : decode cX9_readPart 50 = .ok (.iload 6, 2) := by decide +kernel
theorem dX9_readPart_52 : decode cX9_readPart 52 = .ok (.ifCond .lt 13, 3) := by decide +kernel
theorem dX9_readPart_55 : decode cX9_readPart 55 = .ok (.aload_n 0, 1) := by decide +kernel
theorem dX9_readPart_56 : decode cX9_readPart 56 = .ok (.iload_n 1, 1) := by decide +kernel
theorem dX9_readPart_57 : decode cX9_readPart 57 = .ok (.iload 6, 2) := by decide +kernel
theorem dX9_readPart_59 : decode cX9_readPart 59 = .ok (.invokevirtual 141, 3) := by decide +kernel
theorem dX9_readPart_62 : decode cX9_readPart 62 = .ok (.goto 4, 3) := by decide +kernel
theorem dX9_readPart_65 : decode cX9_readPart 65 = .ok (.iconst (-1), 1) := by decide +kernel
theorem dX9_readPart_66 : decode cX9_readPart 66 = .ok (.istore 8, 2) := by decide +kernel
theorem dX9_readPart_68 : decode cX9_readPart 68 = .ok (.iload 7, 2) := by decide +kernel
theorem dX9_readPart_70 : decode cX9_readPart 70 = .ok (.ifCond .lt 13, 3) := by decide +kernel
theorem dX9_readPart_73 : decode cX9_readPart 73 = .ok (.aload_n 0, 1) := by decide +kernel
theorem dX9_readPart_74 : decode cX9_readPart 74 = .ok (.iload_n 1, 1) := by decide +kernel
theorem dX9_readPart_75 : decode cX9_readPart 75 = .ok (.iload 7, 2) := by decide +kernel
theorem dX9_readPart_77 : decode cX9_readPart 77 = .ok (.invokevirtual 141, 3) := by decide +kernel
theorem dX9_readPart_80 : decode cX9_readPart 80 = .ok (.goto 4, 3) := by decide +kernel
theorem dX9_readPart_83 : decode cX9_readPart 83 = .ok (.iconst (-1), 1) := by decide +kernel
theorem dX9_readPart_84 : decode cX9_readPart 84 = .ok (.istore 9, 2) := by decide +kernel
theorem dX9_readPart_86 : decode cX9_readPart 86 = .ok (.iload 8, 2) := by decide +kernel
theorem dX9_readPart_88 : decode cX9_readPart 88 = .ok (.ifCond .lt 26, 3) := by decide +kernel
theorem dX9_readPart_91 : decode cX9_readPart 91 = .ok (.iload 6, 2) := by decide +kernel
theorem dX9_readPart_93 : decode cX9_readPart 93 = .ok (.iload 4, 2) := by decide +kernel
theorem dX9_readPart_95 : decode cX9_readPart 95 = .ok (.if_icmp .ge 19, 3) := by decide +kernel
theorem dX9_readPart_98 : decode cX9_readPart 98 = .ok (.iload 8, 2) := by decide +kernel
theorem dX9_readPart_100 : decode cX9_readPart 100 = .ok (.istore_n 3, 1) := by decide +kernel
theorem dX9_readPart_101 : decode cX9_readPart 101 = .ok (.iload 6, 2) := by decide +kernel
theorem dX9_readPart_103 : decode cX9_readPart 103 = .ok (.istore 4, 2) := by decide +kernel
theorem dX9_readPart_105 : decode cX9_readPart 105 = .ok (.aload_n 0, 1) := by decide +kernel
theorem dX9_readPart_106 : decode cX9_readPart 106 = .ok (.iload 5, 2) := by decide +kernel
theorem dX9_readPart_108 : decode cX9_readPart 108 = .ok (.bipush 11, 2) := by decide +kernel
theorem dX9_readPart_110 : decode cX9_readPart 110 = .ok (.irem, 1) := by decide +kernel
theorem dX9_readPart_111 : decode cX9_readPart 111 = .ok (.putfield 170, 3) := by decide +kernel
theorem dX9_readPart_114 : decode cX9_readPart 114 = .ok (.iload 9, 2) := by decide +kernel
theorem dX9_readPart_116 : decode cX9_readPart 116 = .ok (.ifCond .lt 26, 3) := by decide +kernel
theorem dX9_readPart_119 : decode cX9_readPart 119 = .ok (.iload 7, 2) := by decide +kernel
theorem dX9_readPart_121 : decode cX9_readPart 121 = .ok (.iload 4, 2) := by decide +kernel
theorem dX9_readPart_123 : decode cX9_readPart 123 = .ok (.if_icmp .ge 19, 3) := by decide +kernel
theorem dX9_readPart_126 : decode cX9_readPart 126 = .ok (.iload 9, 2) := by decide +kernel
theorem dX9_readPart_128 : decode cX9_readPart 128 = .ok (.istore_n 3, 1) := by decide +kernel
theorem dX9_readPart_129 : decode cX9_readPart 129 = .ok (.iload 7, 2) := by decide +kernel
theorem dX9_readPart_131 : decode cX9_readPart 131 = .ok (.istore 4, 2) := by decide +kernel
theorem dX9_readPart_133 : decode cX9_readPart 133 = .ok (.aload_n 0, 1) := by decide +kernel
theorem dX9_readPart_134 : decode cX9_readPart 134 = .ok (.iload 5, 2) := by decide +kernel
theorem dX9_readPart_136 : decode cX9_readPart 136 = .ok (.bipush 11, 2) := by decide +kernel
theorem dX9_readPart_138 : decode cX9_readPart 138 = .ok (.irem, 1) := by decide +kernel
theorem dX9_readPart_139 : decode cX9_readPart 139 = .ok (.putfield 170, 3) := by decide +kernel
theorem dX9_readPart_142 : decode cX9_readPart 142 = .ok (.iinc 5 1, 3) := by decide +kernel
theorem dX9_readPart_145 : decode cX9_readPart 145 = .ok (.goto (-135), 3) := by decide +kernel
theorem dX9_readPart_148 : decode cX9_readPart 148 = .ok (.iload_n 3, 1) := by decide +kernel
theorem dX9_readPart_149 : decode cX9_readPart 149 = .ok (.ireturn, 1) := by decide +kernel
def jX9_readPart_114 (K10 : Int32 → Int32 → Int32 → fb_M → Option (Int32 × fb_M)) (a0 : Nat) (x1 : Int32) (x2 : Int32) (x3 : Int32) (x4 : Int32) (x5 : Int32) (x7 : Int32) (x9 : Int32) (u : fb_M) : Option (Int32 × fb_M) :=
 (if x9 < 0 then (K10 x3 x4 (x5 + 1) u)
  else (if x4 ≤ x7 then (K10 x3 x4 (x5 + 1) u)
   else (K10 x9 x7 (x5 + 1) (fb_wI u a0 27 (x5 - x5 / 11 * 11)))))
set_option maxRecDepth 100000 in
set_option maxHeartbeats 4000000 in
theorem tjX9_readPart_114 {g : fb_G} {res : (Int32 × fb_M)} (a0 : Nat) (x1 : Int32) (x2 : Int32) (x3 : Int32) (x4 : Int32) (x5 : Int32) (x7 : Int32) (x9 : Int32) (u : fb_M) (K10 : Int32 → Int32 → Int32 → fb_M → Option (Int32 × fb_M)) (ha0 : a0 < fb_NT ∧ fb_sh a0 = (9, 40)) (hK10 : ∀ (x3 : Int32) (x4 : Int32) (x5 : Int32) (u : fb_M) ,  K10 x3 x4 x5 u = some res → fb_V g RX9 cX9_readPart 10 (some .int) "readPart" (fb_room 3 74 0 0) (fb_Qm g (some (.int res.1)) fb_NT res.2 0 0) 0 0 fb_NT u 10 [(0, .ref (fb_b g + a0)), (1, .int x1), (2, .int x2), (3, .int x3), (4, .int x4), (5, .int x5)] []) (h : jX9_readPart_114 K10 a0 x1 x2 x3 x4 x5 x7 x9 u = some res) : fb_V g RX9 cX9_readPart 10 (some .int) "readPart" (fb_room 3 74 0 0) (fb_Qm g (some (.int res.1)) fb_NT res.2 0 0) 0 0 fb_NT u 114 [(0, .ref (fb_b g + a0)), (1, .int x1), (2, .int x2), (3, .int x3), (4, .int x4), (5, .int x5), (7, .int x7), (9, .int x9)] [] := by
  unfold jX9_readPart_114 at h
  refine fb_iload (pc := 114) dX9_readPart_114 7 rfl ?_
  refine fb_if_lt (pc := 116) (tgt := 142) h dX9_readPart_116 (by decide) (fun h => ?_) (fun h => ?_)
  · refine fb_iinc (pc := 142) (v := 1) (lv' := [(5, .int (x5 + 1)), (0, .ref (fb_b g + a0)), (1, .int x1), (2, .int x2), (3, .int x3), (4, .int x4), (7, .int x7), (9, .int x9)]) dX9_readPart_142 5 rfl fb_ki_1 (by decide) rfl ?_
    refine fb_goto (pc := 145) (tgt := 10) dX9_readPart_145 (by decide) ?_
    exact fb_sub [1, 2, 3, 4, 5, 0] rfl (hK10 x3 x4 (x5 + 1) u h)
  · refine fb_iload (pc := 119) dX9_readPart_119 6 rfl ?_
    refine fb_iload (pc := 121) dX9_readPart_121 4 rfl ?_
    refine fb_icmp_ge (pc := 123) (tgt := 142) h dX9_readPart_123 (by decide) (fun h => ?_) (fun h => ?_)
    · refine fb_iinc (pc := 142) (v := 1) (lv' := [(5, .int (x5 + 1)), (0, .ref (fb_b g + a0)), (1, .int x1), (2, .int x2), (3, .int x3), (4, .int x4), (7, .int x7), (9, .int x9)]) dX9_readPart_142 5 rfl fb_ki_1 (by decide) rfl ?_
      refine fb_goto (pc := 145) (tgt := 10) dX9_readPart_145 (by decide) ?_
      exact fb_sub [1, 2, 3, 4, 5, 0] rfl (hK10 x3 x4 (x5 + 1) u h)
    · refine fb_iload (pc := 126) dX9_readPart_126 7 rfl ?_
      refine fb_istore_n (pc := 128) (lv' := [(3, .int x9), (0, .ref (fb_b g + a0)), (1, .int x1), (2, .int x2), (4, .int x4), (5, .int x5), (7, .int x7), (9, .int x9)]) dX9_readPart_128 rfl (by decide) rfl ?_
      refine fb_iload (pc := 129) dX9_readPart_129 6 rfl ?_
      refine fb_istore (pc := 131) (lv' := [(4, .int x7), (3, .int x9), (0, .ref (fb_b g + a0)), (1, .int x1), (2, .int x2), (5, .int x5), (7, .int x7), (9, .int x9)]) dX9_readPart_131 (by decide) rfl ?_
      refine fb_aload_n (pc := 133) dX9_readPart_133 2 rfl ?_
      refine fb_iload (pc := 134) dX9_readPart_134 5 rfl ?_
      refine fb_bipush (pc := 136) (v := 11) dX9_readPart_136 fb_kb_11 ?_
      refine fb_irem (pc := 138) dX9_readPart_138 (by decide) ?_
      refine fb_putI (pc := 139) dX9_readPart_139 lkX9_170 ly_9_27 ha0.1 ha0.2 rfl rfl rfl ?_
      refine fb_iinc (pc := 142) (v := 1) (lv' := [(5, .int (x5 + 1)), (4, .int x7), (3, .int x9), (0, .ref (fb_b g + a0)), (1, .int x1), (2, .int x2), (7, .int x7), (9, .int x9)]) dX9_readPart_142 5 rfl fb_ki_1 (by decide) rfl ?_
      refine fb_goto (pc := 145) (tgt := 10) dX9_readPart_145 (by decide) ?_
      exact fb_sub [3, 4, 5, 2, 1, 0] rfl (hK10 x9 x7 (x5 + 1) (fb_wI u a0 27 (x5 - x5 / 11 * 11)) h)

def jX9_readPart_84 (K10 : Int32 → Int32 → Int32 → fb_M → Option (Int32 × fb_M)) (a0 : Nat) (x1 : Int32) (x2 : Int32) (x3 : Int32) (x4 : Int32) (x5 : Int32) (x6 : Int32) (x7 : Int32) (x8 : Int32) (k0 : Int32) (u : fb_M) : Option (Int32 × fb_M) :=
 (if x8 < 0 then (jX9_readPart_114 K10 a0 x1 x2 x3 x4 x5 x7 k0 u)
  else (if x4 ≤ x6 then (jX9_readPart_114 K10 a0 x1 x2 x3 x4 x5 x7 k0 u)
   else (jX9_readPart_114 K10 a0 x1 x2 x8 x6 x5 x7 k0 (fb_wI u a0 27 (x5 - x5 / 11 * 11)))))
set_option maxRecDepth 100000 in
set_option maxHeartbeats 4000000 in
theorem tjX9_readPart_84 {g : fb_G} {res : (Int32 × fb_M)} (a0 : Nat) (x1 : Int32) (x2 : Int32) (x3 : Int32) (x4 : Int32) (x5 : Int32) (x6 : Int32) (x7 : Int32) (x8 : Int32) (k0 : Int32) (u : fb_M) (K10 : Int32 → Int32 → Int32 → fb_M → Option (Int32 × fb_M)) (ha0 : a0 < fb_NT ∧ fb_sh a0 = (9, 40)) (hK10 : ∀ (x3 : Int32) (x4 : Int32) (x5 : Int32) (u : fb_M) ,  K10 x3 x4 x5 u = some res → fb_V g RX9 cX9_readPart 10 (some .int) "readPart" (fb_room 3 74 0 0) (fb_Qm g (some (.int res.1)) fb_NT res.2 0 0) 0 0 fb_NT u 10 [(0, .ref (fb_b g + a0)), (1, .int x1), (2, .int x2), (3, .int x3), (4, .int x4), (5, .int x5)] []) (h : jX9_readPart_84 K10 a0 x1 x2 x3 x4 x5 x6 x7 x8 k0 u = some res) : fb_V g RX9 cX9_readPart 10 (some .int) "readPart" (fb_room 3 74 0 0) (fb_Qm g (some (.int res.1)) fb_NT res.2 0 0) 0 0 fb_NT u 84 [(0, .ref (fb_b g + a0)), (1, .int x1), (2, .int x2), (3, .int x3), (4, .int x4), (5, .int x5), (6, .int x6), (7, .int x7), (8, .int x8)] [.int k0] := by
  unfold jX9_readPart_84 at h
  refine fb_istore (pc := 84) (lv' := [(9, .int k0), (0, .ref (fb_b g + a0)), (1, .int x1), (2, .int x2), (3, .int x3), (4, .int x4), (5, .int x5), (6, .int x6), (7, .int x7), (8, .int x8)]) dX9_readPart_84 (by decide) rfl ?_
  refine fb_iload (pc := 86) dX9_readPart_86 9 rfl ?_
  refine fb_if_lt (pc := 88) (tgt := 114) h dX9_readPart_88 (by decide) (fun h => ?_) (fun h => ?_)
  · exact fb_sub [1, 2, 3, 4, 5, 6, 8, 0] rfl (tjX9_readPart_114 a0 x1 x2 x3 x4 x5 x7 k0 u K10 ha0 hK10 h)
  · refine fb_iload (pc := 91) dX9_readPart_91 7 rfl ?_
    refine fb_iload (pc := 93) dX9_readPart_93 5 rfl ?_
    refine fb_icmp_ge (pc := 95) (tgt := 114) h dX9_readPart_95 (by decide) (fun h => ?_) (fun h => ?_)
    · exact fb_sub [1, 2, 3, 4, 5, 6, 8, 0] rfl (tjX9_readPart_114 a0 x1 x2 x3 x4 x5 x7 k0 u K10 ha0 hK10 h)
    · refine fb_iload (pc := 98) dX9_readPart_98 9 rfl ?_
      refine fb_istore_n (pc := 100) (lv' := [(3, .int x8), (9, .int k0), (0, .ref (fb_b g + a0)), (1, .int x1), (2, .int x2), (4, .int x4), (5, .int x5), (6, .int x6), (7, .int x7), (8, .int x8)]) dX9_readPart_100 rfl (by decide) rfl ?_
      refine fb_iload (pc := 101) dX9_readPart_101 7 rfl ?_
      refine fb_istore (pc := 103) (lv' := [(4, .int x6), (3, .int x8), (9, .int k0), (0, .ref (fb_b g + a0)), (1, .int x1), (2, .int x2), (5, .int x5), (6, .int x6), (7, .int x7), (8, .int x8)]) dX9_readPart_103 (by decide) rfl ?_
      refine fb_aload_n (pc := 105) dX9_readPart_105 3 rfl ?_
      refine fb_iload (pc := 106) dX9_readPart_106 6 rfl ?_
      refine fb_bipush (pc := 108) (v := 11) dX9_readPart_108 fb_kb_11 ?_
      refine fb_irem (pc := 110) dX9_readPart_110 (by decide) ?_
      refine fb_putI (pc := 111) dX9_readPart_111 lkX9_170 ly_9_27 ha0.1 ha0.2 rfl rfl rfl ?_
      exact fb_sub [3, 4, 5, 1, 0, 6, 8, 2] rfl (tjX9_readPart_114 a0 x1 x2 x8 x6 x5 x7 k0 (fb_wI u a0 27 (x5 - x5 / 11 * 11)) K10 ha0 hK10 h)

def jX9_readPart_66 (K10 : Int32 → Int32 → Int32 → fb_M → Option (Int32 × fb_M)) (a0 : Nat) (x1 : Int32) (x2 : Int32) (x3 : Int32) (x4 : Int32) (x5 : Int32) (x6 : Int32) (x7 : Int32) (k0 : Int32) (u : fb_M) : Option (Int32 × fb_M) :=
 (if x7 < 0 then (jX9_readPart_84 K10 a0 x1 x2 x3 x4 x5 x6 x7 k0 ((-1)) u)
  else ((fX9_leafOf u a0 x1 x7).bind fun r77 => 
   (jX9_readPart_84 K10 a0 x1 x2 x3 x4 x5 x6 x7 k0 r77 u)))
set_option maxRecDepth 100000 in
set_option maxHeartbeats 4000000 in
theorem tjX9_readPart_66 {g : fb_G} {res : (Int32 × fb_M)} (a0 : Nat) (x1 : Int32) (x2 : Int32) (x3 : Int32) (x4 : Int32) (x5 : Int32) (x6 : Int32) (x7 : Int32) (k0 : Int32) (u : fb_M) (K10 : Int32 → Int32 → Int32 → fb_M → Option (Int32 × fb_M)) (ha0 : a0 < fb_NT ∧ fb_sh a0 = (9, 40)) (hK10 : ∀ (x3 : Int32) (x4 : Int32) (x5 : Int32) (u : fb_M) ,  K10 x3 x4 x5 u = some res → fb_V g RX9 cX9_readPart 10 (some .int) "readPart" (fb_room 3 74 0 0) (fb_Qm g (some (.int res.1)) fb_NT res.2 0 0) 0 0 fb_NT u 10 [(0, .ref (fb_b g + a0)), (1, .int x1), (2, .int x2), (3, .int x3), (4, .int x4), (5, .int x5)] []) (h : jX9_readPart_66 K10 a0 x1 x2 x3 x4 x5 x6 x7 k0 u = some res) : fb_V g RX9 cX9_readPart 10 (some .int) "readPart" (fb_room 3 74 0 0) (fb_Qm g (some (.int res.1)) fb_NT res.2 0 0) 0 0 fb_NT u 66 [(0, .ref (fb_b g + a0)), (1, .int x1), (2, .int x2), (3, .int x3), (4, .int x4), (5, .int x5), (6, .int x6), (7, .int x7)] [.int k0] := by
  unfold jX9_readPart_66 at h
  refine fb_istore (pc := 66) (lv' := [(8, .int k0), (0, .ref (fb_b g + a0)), (1, .int x1), (2, .int x2), (3, .int x3), (4, .int x4), (5, .int x5), (6, .int x6), (7, .int x7)]) dX9_readPart_66 (by decide) rfl ?_
  refine fb_iload (pc := 68) dX9_readPart_68 8 rfl ?_
  refine fb_if_lt (pc := 70) (tgt := 83) h dX9_readPart_70 (by decide) (fun h => ?_) (fun h => ?_)
  · refine fb_iconst (pc := 83) (v := (-1)) dX9_readPart_83 fb_ki_m1 ?_
    exact fb_sub [1, 2, 3, 4, 5, 6, 7, 8, 0] rfl (tjX9_readPart_84 a0 x1 x2 x3 x4 x5 x6 x7 k0 ((-1)) u K10 ha0 hK10 h)
  · refine fb_aload_n (pc := 73) dX9_readPart_73 1 rfl ?_
    refine fb_iload_n (pc := 74) dX9_readPart_74 2 rfl ?_
    refine fb_iload (pc := 75) dX9_readPart_75 8 rfl ?_
    refine fb_bnE h (fun r77 h77 h => ?_)
    refine fb_cV0v (pc := 77) [.int x1, .int x7] dX9_readPart_77 (mX9_leafOf g u a0 x1 x7 ha0 h77) ymX9_leafOf yiX9_leafOf ha0.1 ha0.2 ylX9_141 rfl (Nat.le_of_ble_eq_true rfl) ⟨Nat.le_of_ble_eq_true rfl, Nat.le_of_ble_eq_true rfl⟩ ⟨Nat.le_of_ble_eq_true rfl, Nat.le_of_ble_eq_true rfl⟩ ?_
    refine fb_goto (pc := 80) (tgt := 84) dX9_readPart_80 (by decide) ?_
    exact fb_sub [1, 2, 3, 4, 5, 6, 7, 8, 0] rfl (tjX9_readPart_84 a0 x1 x2 x3 x4 x5 x6 x7 k0 r77 u K10 ha0 hK10 h)

def jX9_readPart_48 (K10 : Int32 → Int32 → Int32 → fb_M → Option (Int32 × fb_M)) (a0 : Nat) (x1 : Int32) (x2 : Int32) (x3 : Int32) (x4 : Int32) (x5 : Int32) (x6 : Int32) (k0 : Int32) (u : fb_M) : Option (Int32 × fb_M) :=
 (if x6 < 0 then (jX9_readPart_66 K10 a0 x1 x2 x3 x4 x5 x6 k0 ((-1)) u)
  else ((fX9_leafOf u a0 x1 x6).bind fun r59 => 
   (jX9_readPart_66 K10 a0 x1 x2 x3 x4 x5 x6 k0 r59 u)))
set_option maxRecDepth 100000 in
set_option maxHeartbeats 4000000 in
theorem tjX9_readPart_48 {g : fb_G} {res : (Int32 × fb_M)} (a0 : Nat) (x1 : Int32) (x2 : Int32) (x3 : Int32) (x4 : Int32) (x5 : Int32) (x6 : Int32) (k0 : Int32) (u : fb_M) (K10 : Int32 → Int32 → Int32 → fb_M → Option (Int32 × fb_M)) (ha0 : a0 < fb_NT ∧ fb_sh a0 = (9, 40)) (hK10 : ∀ (x3 : Int32) (x4 : Int32) (x5 : Int32) (u : fb_M) ,  K10 x3 x4 x5 u = some res → fb_V g RX9 cX9_readPart 10 (some .int) "readPart" (fb_room 3 74 0 0) (fb_Qm g (some (.int res.1)) fb_NT res.2 0 0) 0 0 fb_NT u 10 [(0, .ref (fb_b g + a0)), (1, .int x1), (2, .int x2), (3, .int x3), (4, .int x4), (5, .int x5)] []) (h : jX9_readPart_48 K10 a0 x1 x2 x3 x4 x5 x6 k0 u = some res) : fb_V g RX9 cX9_readPart 10 (some .int) "readPart" (fb_room 3 74 0 0) (fb_Qm g (some (.int res.1)) fb_NT res.2 0 0) 0 0 fb_NT u 48 [(0, .ref (fb_b g + a0)), (1, .int x1), (2, .int x2), (3, .int x3), (4, .int x4), (5, .int x5), (6, .int x6)] [.int k0] := by
  unfold jX9_readPart_48 at h
  refine fb_istore (pc := 48) (lv' := [(7, .int k0), (0, .ref (fb_b g + a0)), (1, .int x1), (2, .int x2), (3, .int x3), (4, .int x4), (5, .int x5), (6, .int x6)]) dX9_readPart_48 (by decide) rfl ?_
  refine fb_iload (pc := 50) dX9_readPart_50 7 rfl ?_
  refine fb_if_lt (pc := 52) (tgt := 65) h dX9_readPart_52 (by decide) (fun h => ?_) (fun h => ?_)
  · refine fb_iconst (pc := 65) (v := (-1)) dX9_readPart_65 fb_ki_m1 ?_
    exact fb_sub [1, 2, 3, 4, 5, 6, 7, 0] rfl (tjX9_readPart_66 a0 x1 x2 x3 x4 x5 x6 k0 ((-1)) u K10 ha0 hK10 h)
  · refine fb_aload_n (pc := 55) dX9_readPart_55 1 rfl ?_
    refine fb_iload_n (pc := 56) dX9_readPart_56 2 rfl ?_
    refine fb_iload (pc := 57) dX9_readPart_57 7 rfl ?_
    refine fb_bnE h (fun r59 h59 h => ?_)
    refine fb_cV0v (pc := 59) [.int x1, .int x6] dX9_readPart_59 (mX9_leafOf g u a0 x1 x6 ha0 h59) ymX9_leafOf yiX9_leafOf ha0.1 ha0.2 ylX9_141 rfl (Nat.le_of_ble_eq_true rfl) ⟨Nat.le_of_ble_eq_true rfl, Nat.le_of_ble_eq_true rfl⟩ ⟨Nat.le_of_ble_eq_true rfl, Nat.le_of_ble_eq_true rfl⟩ ?_
    refine fb_goto (pc := 62) (tgt := 66) dX9_readPart_62 (by decide) ?_
    exact fb_sub [1, 2, 3, 4, 5, 6, 7, 0] rfl (tjX9_readPart_66 a0 x1 x2 x3 x4 x5 x6 k0 r59 u K10 ha0 hK10 h)

def bX9_readPart_10 (K10 : Int32 → Int32 → Int32 → fb_M → Option (Int32 × fb_M)) (a0 : Nat) (x1 : Int32) (x2 : Int32) (x3 : Int32) (x4 : Int32) (x5 : Int32) (u : fb_M) : Option (Int32 × fb_M) :=
 (if 11 < x5 then (some (x3, u))
  else ((fX9_keywordStart u a0 x5 x1 x2).bind fun r22 => 
   (if 11 ≤ x5 then (jX9_readPart_48 K10 a0 x1 x2 x3 x4 x5 r22 ((-1)) u)
   else ((fX9_before u a0 x1 r22 18803).bind fun r41 => 
    (jX9_readPart_48 K10 a0 x1 x2 x3 x4 x5 r22 r41 u)))))
def gX9_readPart_10 (a0 : Nat) (x1 : Int32) (x2 : Int32) : Nat → Int32 → Int32 → Int32 → fb_M → Option (Int32 × fb_M)
 | 0 => fun _ _ _ _ => none
 | fu + 1 => fun x3 x4 x5 u => bX9_readPart_10 (gX9_readPart_10 a0 x1 x2 fu) a0 x1 x2 x3 x4 x5 u
set_option maxRecDepth 100000 in
set_option maxHeartbeats 4000000 in
theorem tbX9_readPart_10 {g : fb_G} {res : (Int32 × fb_M)} (a0 : Nat) (x1 : Int32) (x2 : Int32) (x3 : Int32) (x4 : Int32) (x5 : Int32) (u : fb_M) (K10 : Int32 → Int32 → Int32 → fb_M → Option (Int32 × fb_M)) (ha0 : a0 < fb_NT ∧ fb_sh a0 = (9, 40)) (hK10 : ∀ (x3 : Int32) (x4 : Int32) (x5 : Int32) (u : fb_M) ,  K10 x3 x4 x5 u = some res → fb_V g RX9 cX9_readPart 10 (some .int) "readPart" (fb_room 3 74 0 0) (fb_Qm g (some (.int res.1)) fb_NT res.2 0 0) 0 0 fb_NT u 10 [(0, .ref (fb_b g + a0)), (1, .int x1), (2, .int x2), (3, .int x3), (4, .int x4), (5, .int x5)] []) (h : bX9_readPart_10 K10 a0 x1 x2 x3 x4 x5 u = some res) : fb_V g RX9 cX9_readPart 10 (some .int) "readPart" (fb_room 3 74 0 0) (fb_Qm g (some (.int res.1)) fb_NT res.2 0 0) 0 0 fb_NT u 10 [(0, .ref (fb_b g + a0)), (1, .int x1), (2, .int x2), (3, .int x3), (4, .int x4), (5, .int x5)] [] := by
  unfold bX9_readPart_10 at h
  refine fb_iload (pc := 10) dX9_readPart_10 5 rfl ?_
  refine fb_bipush (pc := 12) (v := 11) dX9_readPart_12 fb_kb_11 ?_
  refine fb_icmp_gt (pc := 14) (tgt := 148) h dX9_readPart_14 (by decide) (fun h => ?_) (fun h => ?_)
  · refine fb_iload_n (pc := 148) dX9_readPart_148 3 rfl ?_
    exact fb_iretM (pc := 149) h dX9_readPart_149
  · refine fb_aload_n (pc := 17) dX9_readPart_17 0 rfl ?_
    refine fb_iload (pc := 18) dX9_readPart_18 5 rfl ?_
    refine fb_iload_n (pc := 20) dX9_readPart_20 1 rfl ?_
    refine fb_iload_n (pc := 21) dX9_readPart_21 2 rfl ?_
    refine fb_bnE h (fun r22 h22 h => ?_)
    refine fb_cV0v (pc := 22) [.int x5, .int x1, .int x2] dX9_readPart_22 (mX9_keywordStart g u a0 x5 x1 x2 ha0 h22) ymX9_keywordStart yiX9_keywordStart ha0.1 ha0.2 ylX9_164 rfl (Nat.le_of_ble_eq_true rfl) ⟨Nat.le_of_ble_eq_true rfl, Nat.le_of_ble_eq_true rfl⟩ ⟨Nat.le_of_ble_eq_true rfl, Nat.le_of_ble_eq_true rfl⟩ ?_
    refine fb_istore (pc := 25) (lv' := [(6, .int r22), (0, .ref (fb_b g + a0)), (1, .int x1), (2, .int x2), (3, .int x3), (4, .int x4), (5, .int x5)]) dX9_readPart_25 (by decide) rfl ?_
    refine fb_iload (pc := 27) dX9_readPart_27 6 rfl ?_
    refine fb_bipush (pc := 29) (v := 11) dX9_readPart_29 fb_kb_11 ?_
    refine fb_icmp_ge (pc := 31) (tgt := 47) h dX9_readPart_31 (by decide) (fun h => ?_) (fun h => ?_)
    · refine fb_iconst (pc := 47) (v := (-1)) dX9_readPart_47 fb_ki_m1 ?_
      exact fb_sub [1, 2, 3, 4, 5, 6, 0] rfl (tjX9_readPart_48 a0 x1 x2 x3 x4 x5 r22 ((-1)) u K10 ha0 hK10 h)
    · refine fb_aload_n (pc := 34) dX9_readPart_34 1 rfl ?_
      refine fb_iload_n (pc := 35) dX9_readPart_35 2 rfl ?_
      refine fb_iload (pc := 36) dX9_readPart_36 0 rfl ?_
      refine fb_ldc2 (pc := 38) (v := 18803) dX9_readPart_38 lwX9_168 ?_
      refine fb_bnE h (fun r41 h41 h => ?_)
      refine fb_cV0v (pc := 41) [.int x1, .int r22, .long 18803] dX9_readPart_41 (mX9_before g u a0 x1 r22 18803 ha0 h41) ymX9_before yiX9_before ha0.1 ha0.2 ylX9_109 rfl (Nat.le_of_ble_eq_true rfl) ⟨Nat.le_of_ble_eq_true rfl, Nat.le_of_ble_eq_true rfl⟩ ⟨Nat.le_of_ble_eq_true rfl, Nat.le_of_ble_eq_true rfl⟩ ?_
      refine fb_goto (pc := 44) (tgt := 48) dX9_readPart_44 (by decide) ?_
      exact fb_sub [1, 2, 3, 4, 5, 6, 0] rfl (tjX9_readPart_48 a0 x1 x2 x3 x4 x5 r22 r41 u K10 ha0 hK10 h)

theorem tgX9_readPart_10 {g : fb_G} {res : (Int32 × fb_M)} (a0 : Nat) (x1 : Int32) (x2 : Int32) (ha0 : a0 < fb_NT ∧ fb_sh a0 = (9, 40)) : ∀ (fu : Nat) (x3 : Int32) (x4 : Int32) (x5 : Int32) (u : fb_M) ,  gX9_readPart_10 a0 x1 x2 fu x3 x4 x5 u = some res → fb_V g RX9 cX9_readPart 10 (some .int) "readPart" (fb_room 3 74 0 0) (fb_Qm g (some (.int res.1)) fb_NT res.2 0 0) 0 0 fb_NT u 10 [(0, .ref (fb_b g + a0)), (1, .int x1), (2, .int x2), (3, .int x3), (4, .int x4), (5, .int x5)] [] := by
  intro fu
  induction fu with
  | zero => intro x3 x4 x5 u h; exact absurd h (by simp [gX9_readPart_10])
  | succ fu ih => intro x3 x4 x5 u h; exact tbX9_readPart_10 a0 x1 x2 x3 x4 x5 u (gX9_readPart_10 a0 x1 x2 fu) ha0 ih h
def fX9_readPart (u : fb_M) (a0 : Nat) (x1 : Int32) (x2 : Int32) : Option (Int32 × fb_M) :=
 (gX9_readPart_10 a0 x1 x2 fb_F ((-1)) (x2 + 1) 0 u)
set_option maxRecDepth 100000 in
set_option maxHeartbeats 4000000 in
theorem mX9_readPart (g : fb_G) (u : fb_M) (a0 : Nat) (x1 : Int32) (x2 : Int32) (ha0 : a0 < fb_NT ∧ fb_sh a0 = (9, 40)) {res : (Int32 × fb_M)} (h : fX9_readPart u a0 x1 x2 = some res) : fb_Runs g 3 74 0 0 fb_NT fb_NT yX9_readPart cX9_readPart 10 (some .int) [.ref (fb_b g + a0), .int x1, .int x2] u (some (.int res.1)) res.2 := by
  unfold fX9_readPart at h
  refine fb_enter (by decide) (Nat.le_of_ble_eq_true rfl) ?_
  show fb_V g RX9 cX9_readPart 10 (some .int) "readPart" (fb_room 3 74 0 0) (fb_Qm g (some (.int res.1)) fb_NT res.2 0 0) 0 0 fb_NT u 0 [(0, .ref (fb_b g + a0)), (1, .int x1), (2, .int x2)] []
  refine fb_iconst (pc := 0) (v := (-1)) dX9_readPart_0 fb_ki_m1 ?_
  refine fb_istore_n (pc := 1) (lv' := [(3, .int ((-1))), (0, .ref (fb_b g + a0)), (1, .int x1), (2, .int x2)]) dX9_readPart_1 rfl (by decide) rfl ?_
  refine fb_iload_n (pc := 2) dX9_readPart_2 3 rfl ?_
  refine fb_iconst (pc := 3) (v := 1) dX9_readPart_3 fb_ki_1 ?_
  refine fb_iadd (pc := 4) dX9_readPart_4 ?_
  refine fb_istore (pc := 5) (lv' := [(4, .int (x2 + 1)), (3, .int ((-1))), (0, .ref (fb_b g + a0)), (1, .int x1), (2, .int x2)]) dX9_readPart_5 (by decide) rfl ?_
  refine fb_iconst (pc := 7) (v := 0) dX9_readPart_7 fb_ki_0 ?_
  refine fb_istore (pc := 8) (lv' := [(5, .int 0), (4, .int (x2 + 1)), (3, .int ((-1))), (0, .ref (fb_b g + a0)), (1, .int x1), (2, .int x2)]) dX9_readPart_8 (by decide) rfl ?_
  exact fb_sub [3, 4, 5, 2, 1, 0] rfl (tgX9_readPart_10 a0 x1 x2 ha0 fb_F ((-1)) (x2 + 1) 0 u h)

theorem dX9_takePart_0 : decode cX9_takePart 0 = .ok (.aload_n 0, 1) := by decide +kernel
theorem dX9_takePart_1 : decode cX9_takePart 1 = .ok (.iload_n 1, 1) := by decide +kernel
theorem dX9_takePart_2 : decode cX9_takePart 2 = .ok (.iload_n 2, 1) := by decide +kernel
theorem dX9_takePart_3 : decode cX9_takePart 3 = .ok (.invokevirtual 173, 3) := by decide +kernel
theorem dX9_takePart_6 : decode cX9_takePart 6 = .ok (.istore_n 3, 1) := by decide +kernel
theorem dX9_takePart_7 : decode cX9_takePart 7 = .ok (.aload_n 0, 1) := by decide +kernel
theorem dX9_takePart_8 : decode cX9_takePart 8 = .ok (.aload_n 0, 1) := by decide +kernel
theorem dX9_takePart_9 : decode cX9_takePart 9 = .ok (.getfield 176, 3) := by decide +kernel
theorem dX9_takePart_12 : decode cX9_takePart 12 = .ok (.ifCond .ne 7, 3) := by decide +kernel
theorem dX9_takePart_15 : decode cX9_takePart 15 = .ok (.iload_n 3, 1) := by decide +kernel
theorem dX9_takePart_16 : decode cX9_takePart 16 = .ok (.ifCond .ge 7, 3) := by decide +kernel
theorem dX9_takePart_19 : decode cX9_takePart 19 = .ok (.iconst 1, 1) := by decide +kernel
theorem dX9_takePart_20 : decode cX9_takePart 20 = .ok (.goto 4, 3) := by decide +kernel
theorem dX9_takePart_23 : decode cX9_takePart 23 = .ok (.iconst 0, 1) := by decide +kernel
theorem dX9_takePart_24 : decode cX9_takePart 24 = .ok (.putfield 176, 3) := by decide +kernel
theorem dX9_takePart_27 : decode cX9_takePart 27 = .ok (.aload_n 0, 1) := by decide +kernel
theorem dX9_takePart_28 : decode cX9_takePart 28 = .ok (.getfield 180, 3) := by decide +kernel
theorem dX9_takePart_31 : decode cX9_takePart 31 = .ok (.bipush 6, 2) := by decide +kernel
theorem dX9_takePart_33 : decode cX9_takePart 33 = .ok (.if_icmp .ge 41, 3) := by decide +kernel
theorem dX9_takePart_36 : decode cX9_takePart 36 = .ok (.aload_n 0, 1) := by decide +kernel
theorem dX9_takePart_37 : decode cX9_takePart 37 = .ok (.getfield 53, 3) := by decide +kernel
theorem dX9_takePart_40 : decode cX9_takePart 40 = .ok (.aload_n 0, 1) := by decide +kernel
theorem dX9_takePart_41 : decode cX9_takePart 41 = .ok (.getfield 180, 3) := by decide +kernel
theorem dX9_takePart_44 : decode cX9_takePart 44 = .ok (.iload_n 3, 1) := by decide +kernel
theorem dX9_takePart_45 : decode cX9_takePart 45 = .ok (.iastore, 1) := by decide +kernel
theorem dX9_takePart_46 : decode cX9_takePart 46 = .ok (.aload_n 0, 1) := by decide +kernel
theorem dX9_takePart_47 : decode cX9_takePart 47 = .ok (.getfield 56, 3) := by decide +kernel
theorem dX9_takePart_50 : decode cX9_takePart 50 = .ok (.aload_n 0, 1) := by decide +kernel
theorem dX9_takePart_51 : decode cX9_takePart 51 = .ok (.getfield 180, 3) := by decide +kernel
theorem dX9_takePart_54 : decode cX9_takePart 54 = .ok (.aload_n 0, 1) := by decide +kernel
theorem dX9_takePart_55 : decode cX9_takePart 55 = .ok (.getfield 170, 3) := by decide +kernel
theorem dX9_takePart_58 : decode cX9_takePart 58 = .ok (.iastore, 1) := by decide +kernel
theorem dX9_takePart_59 : decode cX9_takePart 59 = .ok (.aload_n 0, 1) := by decide +kernel
theorem dX9_takePart_60 : decode cX9_takePart 60 = .ok (.getfield 59, 3) := by decide +kernel
theorem dX9_takePart_63 : decode cX9_takePart 63 = .ok (.aload_n 0, 1) := by decide +kernel
theorem dX9_takePart_64 : decode cX9_takePart 64 = .ok (.getfield 180, 3) := by decide +kernel
theorem dX9_takePart_67 : decode cX9_takePart 67 = .ok (.aload_n 0, 1) := by decide +kernel
theorem dX9_takePart_68 : decode cX9_takePart 68 = .ok (.getfield 183, 3) := by decide +kernel
theorem dX9_takePart_71 : decode cX9_takePart 71 = .ok (.iconst 1, 1) := by decide +kernel
theorem dX9_takePart_72 : decode cX9_takePart 72 = .ok (.isub, 1) := by decide +kernel
theorem dX9_takePart_73 : decode cX9_takePart 73 = .ok (.iastore, 1) := by decide +kernel
theorem dX9_takePart_74 : decode cX9_takePart 74 = .ok (.aload_n 0, 1) := by decide +kernel
theorem dX9_takePart_75 : decode cX9_takePart 75 = .ok (.dup, 1) := by decide +kernel
theorem dX9_takePart_76 : decode cX9_takePart 76 = .ok (.getfield 180, 3) := by decide +kernel
theorem dX9_takePart_79 : decode cX9_takePart 79 = .ok (.iconst 1, 1) := by decide +kernel
theorem dX9_takePart_80 : decode cX9_takePart 80 = .ok (.iadd, 1) := by decide +kernel
theorem dX9_takePart_81 : decode cX9_takePart 81 = .ok (.putfield 180, 3) := by decide +kernel
theorem dX9_takePart_84 : decode cX9_takePart 84 = .ok (.return_, 1) := by decide +kernel
def jX9_takePart_24 (a0 : Nat) (x3 : Int32) (b0 : Nat) (k1 : Int32) (u : fb_M) : Option fb_M :=
 (fb_gd (k1 = 0 ∨ k1 = 1) 
  (if 6 ≤ (fb_I (fb_wI u b0 20 k1) a0 18) then (some (fb_wI (fb_wI u b0 20 k1) a0 18 ((fb_I (fb_wI u b0 20 k1) a0 18) + 1)))
  else ((fb_R (fb_wI u b0 20 k1) a0 22).bind fun q37 => fb_gd (q37 < fb_NT ∧ (fb_sh q37).1 = 100) 
   ((fb_gd (¬ (fb_I (fb_wI u b0 20 k1) a0 18 < 0 ∨ (fb_sh q37).2 ≤ (fb_I (fb_wI u b0 20 k1) a0 18).toNatClampNeg)) 
   ((fb_R (fb_wI (fb_wI u b0 20 k1) q37 (fb_I (fb_wI u b0 20 k1) a0 18).toNatClampNeg x3) a0 23).bind fun q47 => fb_gd (q47 < fb_NT ∧ (fb_sh q47).1 = 100) 
   ((fb_gd (¬ (fb_I (fb_wI (fb_wI u b0 20 k1) q37 (fb_I (fb_wI u b0 20 k1) a0 18).toNatClampNeg x3) a0 18 < 0 ∨ (fb_sh q47).2 ≤ (fb_I (fb_wI (fb_wI u b0 20 k1) q37 (fb_I (fb_wI u b0 20 k1) a0 18).toNatClampNeg x3) a0 18).toNatClampNeg)) 
   ((fb_R (fb_wI (fb_wI (fb_wI u b0 20 k1) q37 (fb_I (fb_wI u b0 20 k1) a0 18).toNatClampNeg x3) q47 (fb_I (fb_wI (fb_wI u b0 20 k1) q37 (fb_I (fb_wI u b0 20 k1) a0 18).toNatClampNeg x3) a0 18).toNatClampNeg (fb_I (fb_wI (fb_wI u b0 20 k1) q37 (fb_I (fb_wI u b0 20 k1) a0 18).toNatClampNeg x3) a0 27)) a0 24).bind fun q60 => fb_gd (q60 < fb_NT ∧ (fb_sh q60).1 = 100) 
   ((fb_gd (¬ (fb_I (fb_wI (fb_wI (fb_wI u b0 20 k1) q37 (fb_I (fb_wI u b0 20 k1) a0 18).toNatClampNeg x3) q47 (fb_I (fb_wI (fb_wI u b0 20 k1) q37 (fb_I (fb_wI u b0 20 k1) a0 18).toNatClampNeg x3) a0 18).toNatClampNeg (fb_I (fb_wI (fb_wI u b0 20 k1) q37 (fb_I (fb_wI u b0 20 k1) a0 18).toNatClampNeg x3) a0 27)) a0 18 < 0 ∨ (fb_sh q60).2 ≤ (fb_I (fb_wI (fb_wI (fb_wI u b0 20 k1) q37 (fb_I (fb_wI u b0 20 k1) a0 18).toNatClampNeg x3) q47 (fb_I (fb_wI (fb_wI u b0 20 k1) q37 (fb_I (fb_wI u b0 20 k1) a0 18).toNatClampNeg x3) a0 18).toNatClampNeg (fb_I (fb_wI (fb_wI u b0 20 k1) q37 (fb_I (fb_wI u b0 20 k1) a0 18).toNatClampNeg x3) a0 27)) a0 18).toNatClampNeg)) 
   (some (fb_wI (fb_wI (fb_wI (fb_wI (fb_wI u b0 20 k1) q37 (fb_I (fb_wI u b0 20 k1) a0 18).toNatClampNeg x3) q47 (fb_I (fb_wI (fb_wI u b0 20 k1) q37 (fb_I (fb_wI u b0 20 k1) a0 18).toNatClampNeg x3) a0 18).toNatClampNeg (fb_I (fb_wI (fb_wI u b0 20 k1) q37 (fb_I (fb_wI u b0 20 k1) a0 18).toNatClampNeg x3) a0 27)) q60 (fb_I (fb_wI (fb_wI (fb_wI u b0 20 k1) q37 (fb_I (fb_wI u b0 20 k1) a0 18).toNatClampNeg x3) q47 (fb_I (fb_wI (fb_wI u b0 20 k1) q37 (fb_I (fb_wI u b0 20 k1) a0 18).toNatClampNeg x3) a0 18).toNatClampNeg (fb_I (fb_wI (fb_wI u b0 20 k1) q37 (fb_I (fb_wI u b0 20 k1) a0 18).toNatClampNeg x3) a0 27)) a0 18).toNatClampNeg ((fb_I (fb_wI (fb_wI (fb_wI u b0 20 k1) q37 (fb_I (fb_wI u b0 20 k1) a0 18).toNatClampNeg x3) q47 (fb_I (fb_wI (fb_wI u b0 20 k1) q37 (fb_I (fb_wI u b0 20 k1) a0 18).toNatClampNeg x3) a0 18).toNatClampNeg (fb_I (fb_wI (fb_wI u b0 20 k1) q37 (fb_I (fb_wI u b0 20 k1) a0 18).toNatClampNeg x3) a0 27)) a0 17) - 1)) a0 18 ((fb_I (fb_wI (fb_wI (fb_wI (fb_wI u b0 20 k1) q37 (fb_I (fb_wI u b0 20 k1) a0 18).toNatClampNeg x3) q47 (fb_I (fb_wI (fb_wI u b0 20 k1) q37 (fb_I (fb_wI u b0 20 k1) a0 18).toNatClampNeg x3) a0 18).toNatClampNeg (fb_I (fb_wI (fb_wI u b0 20 k1) q37 (fb_I (fb_wI u b0 20 k1) a0 18).toNatClampNeg x3) a0 27)) q60 (fb_I (fb_wI (fb_wI (fb_wI u b0 20 k1) q37 (fb_I (fb_wI u b0 20 k1) a0 18).toNatClampNeg x3) q47 (fb_I (fb_wI (fb_wI u b0 20 k1) q37 (fb_I (fb_wI u b0 20 k1) a0 18).toNatClampNeg x3) a0 18).toNatClampNeg (fb_I (fb_wI (fb_wI u b0 20 k1) q37 (fb_I (fb_wI u b0 20 k1) a0 18).toNatClampNeg x3) a0 27)) a0 18).toNatClampNeg ((fb_I (fb_wI (fb_wI (fb_wI u b0 20 k1) q37 (fb_I (fb_wI u b0 20 k1) a0 18).toNatClampNeg x3) q47 (fb_I (fb_wI (fb_wI u b0 20 k1) q37 (fb_I (fb_wI u b0 20 k1) a0 18).toNatClampNeg x3) a0 18).toNatClampNeg (fb_I (fb_wI (fb_wI u b0 20 k1) q37 (fb_I (fb_wI u b0 20 k1) a0 18).toNatClampNeg x3) a0 27)) a0 17) - 1)) a0 18) + 1))))))))))))))
set_option maxRecDepth 100000 in
set_option maxHeartbeats 4000000 in
theorem tjX9_takePart_24 {g : fb_G} {res : fb_M} (a0 : Nat) (x3 : Int32) (b0 : Nat) (k1 : Int32) (u : fb_M) (ha0 : a0 < fb_NT ∧ fb_sh a0 = (9, 40)) (hb0 : b0 < fb_NT ∧ fb_sh b0 = (9, 40)) (h : jX9_takePart_24 a0 x3 b0 k1 u = some res) : fb_V g RX9 cX9_takePart 4 none "takePart" (fb_room 4 103 0 0) (fb_Qm g none fb_NT res 0 0) 0 0 fb_NT u 24 [(0, .ref (fb_b g + a0)), (3, .int x3)] [.int k1, .ref (fb_b g + b0)] := by
  unfold jX9_takePart_24 at h
  refine fb_gdE h (fun z24 h => ?_)
  refine fb_putI (pc := 24) dX9_takePart_24 lkX9_176 ly_9_20 hb0.1 hb0.2 rfl (fb_nz z24) (fb_fz z24) ?_
  refine fb_aload_n (pc := 27) dX9_takePart_27 0 rfl ?_
  refine fb_getI (pc := 28) dX9_takePart_28 lkX9_180 ha0.1 ha0.2 rfl ?_
  refine fb_bipush (pc := 31) (v := 6) dX9_takePart_31 fb_kb_6 ?_
  refine fb_icmp_ge (pc := 33) (tgt := 74) h dX9_takePart_33 (by decide) (fun h => ?_) (fun h => ?_)
  · refine fb_aload_n (pc := 74) dX9_takePart_74 0 rfl ?_
    refine fb_dup (pc := 75) dX9_takePart_75 rfl ?_
    refine fb_getI (pc := 76) dX9_takePart_76 lkX9_180 ha0.1 ha0.2 rfl ?_
    refine fb_iconst (pc := 79) (v := 1) dX9_takePart_79 fb_ki_1 ?_
    refine fb_iadd (pc := 80) dX9_takePart_80 ?_
    refine fb_putI (pc := 81) dX9_takePart_81 lkX9_180 ly_9_18 ha0.1 ha0.2 rfl rfl rfl ?_
    exact fb_vretM (pc := 84) h dX9_takePart_84
  · refine fb_aload_n (pc := 36) dX9_takePart_36 0 rfl ?_
    refine fb_bnE h (fun q37 e37 h => fb_gdE h (fun s37 h => ?_))
    refine fb_getR (pc := 37) dX9_takePart_37 lkX9_53 ha0.1 ha0.2 (by decide) e37 ?_
    refine fb_aload_n (pc := 40) dX9_takePart_40 0 rfl ?_
    refine fb_getI (pc := 41) dX9_takePart_41 lkX9_180 ha0.1 ha0.2 rfl ?_
    refine fb_iload_n (pc := 44) dX9_takePart_44 1 rfl ?_
    refine fb_gdE h (fun i45 h => ?_)
    refine fb_iast (pc := 45) dX9_takePart_45 s37.1 (fb_eta s37.2) i45 ?_
    refine fb_aload_n (pc := 46) dX9_takePart_46 0 rfl ?_
    refine fb_bnE h (fun q47 e47 h => fb_gdE h (fun s47 h => ?_))
    refine fb_getR (pc := 47) dX9_takePart_47 lkX9_56 ha0.1 ha0.2 (by decide) e47 ?_
    refine fb_aload_n (pc := 50) dX9_takePart_50 0 rfl ?_
    refine fb_getI (pc := 51) dX9_takePart_51 lkX9_180 ha0.1 ha0.2 rfl ?_
    refine fb_aload_n (pc := 54) dX9_takePart_54 0 rfl ?_
    refine fb_getI (pc := 55) dX9_takePart_55 lkX9_170 ha0.1 ha0.2 rfl ?_
    refine fb_gdE h (fun i58 h => ?_)
    refine fb_iast (pc := 58) dX9_takePart_58 s47.1 (fb_eta s47.2) i58 ?_
    refine fb_aload_n (pc := 59) dX9_takePart_59 0 rfl ?_
    refine fb_bnE h (fun q60 e60 h => fb_gdE h (fun s60 h => ?_))
    refine fb_getR (pc := 60) dX9_takePart_60 lkX9_59 ha0.1 ha0.2 (by decide) e60 ?_
    refine fb_aload_n (pc := 63) dX9_takePart_63 0 rfl ?_
    refine fb_getI (pc := 64) dX9_takePart_64 lkX9_180 ha0.1 ha0.2 rfl ?_
    refine fb_aload_n (pc := 67) dX9_takePart_67 0 rfl ?_
    refine fb_getI (pc := 68) dX9_takePart_68 lkX9_183 ha0.1 ha0.2 rfl ?_
    refine fb_iconst (pc := 71) (v := 1) dX9_takePart_71 fb_ki_1 ?_
    refine fb_isub (pc := 72) dX9_takePart_72 ?_
    refine fb_gdE h (fun i73 h => ?_)
    refine fb_iast (pc := 73) dX9_takePart_73 s60.1 (fb_eta s60.2) i73 ?_
    refine fb_aload_n (pc := 74) dX9_takePart_74 0 rfl ?_
    refine fb_dup (pc := 75) dX9_takePart_75 rfl ?_
    refine fb_getI (pc := 76) dX9_takePart_76 lkX9_180 ha0.1 ha0.2 rfl ?_
    refine fb_iconst (pc := 79) (v := 1) dX9_takePart_79 fb_ki_1 ?_
    refine fb_iadd (pc := 80) dX9_takePart_80 ?_
    refine fb_putI (pc := 81) dX9_takePart_81 lkX9_180 ly_9_18 ha0.1 ha0.2 rfl rfl rfl ?_
    exact fb_vretM (pc := 84) h dX9_takePart_84

def fX9_takePart (u : fb_M) (a0 : Nat) (x1 : Int32) (x2 : Int32) : Option fb_M :=
 ((fX9_readPart u a0 x1 x2).bind fun r3 => 
  (if (fb_I r3.2 a0 20) = 0 then (if 0 ≤ r3.1 then (jX9_takePart_24 a0 r3.1 a0 0 r3.2)
   else (jX9_takePart_24 a0 r3.1 a0 1 r3.2))
  else (jX9_takePart_24 a0 r3.1 a0 1 r3.2)))
set_option maxRecDepth 100000 in
set_option maxHeartbeats 4000000 in
theorem mX9_takePart (g : fb_G) (u : fb_M) (a0 : Nat) (x1 : Int32) (x2 : Int32) (ha0 : a0 < fb_NT ∧ fb_sh a0 = (9, 40)) {res : fb_M} (h : fX9_takePart u a0 x1 x2 = some res) : fb_Runs g 4 103 0 0 fb_NT fb_NT yX9_takePart cX9_takePart 4 none [.ref (fb_b g + a0), .int x1, .int x2] u none res := by
  unfold fX9_takePart at h
  refine fb_enter (by decide) (Nat.le_of_ble_eq_true rfl) ?_
  show fb_V g RX9 cX9_takePart 4 none "takePart" (fb_room 4 103 0 0) (fb_Qm g none fb_NT res 0 0) 0 0 fb_NT u 0 [(0, .ref (fb_b g + a0)), (1, .int x1), (2, .int x2)] []
  refine fb_aload_n (pc := 0) dX9_takePart_0 0 rfl ?_
  refine fb_iload_n (pc := 1) dX9_takePart_1 1 rfl ?_
  refine fb_iload_n (pc := 2) dX9_takePart_2 2 rfl ?_
  refine fb_bnE h (fun r3 h3 h => ?_)
  refine fb_cV0v (pc := 3) [.int x1, .int x2] dX9_takePart_3 (mX9_readPart g u a0 x1 x2 ha0 h3) ymX9_readPart yiX9_readPart ha0.1 ha0.2 ylX9_173 rfl (Nat.le_of_ble_eq_true rfl) ⟨Nat.le_of_ble_eq_true rfl, Nat.le_of_ble_eq_true rfl⟩ ⟨Nat.le_of_ble_eq_true rfl, Nat.le_of_ble_eq_true rfl⟩ ?_
  refine fb_istore_n (pc := 6) (lv' := [(3, .int r3.1), (0, .ref (fb_b g + a0)), (1, .int x1), (2, .int x2)]) dX9_takePart_6 rfl (by decide) rfl ?_
  refine fb_aload_n (pc := 7) dX9_takePart_7 1 rfl ?_
  refine fb_aload_n (pc := 8) dX9_takePart_8 1 rfl ?_
  refine fb_getI (pc := 9) dX9_takePart_9 lkX9_176 ha0.1 ha0.2 rfl ?_
  refine fb_if_ne (pc := 12) (tgt := 19) h dX9_takePart_12 (by decide) (fun h => ?_) (fun h => ?_)
  · refine fb_iconst (pc := 19) (v := 1) dX9_takePart_19 fb_ki_1 ?_
    refine fb_goto (pc := 20) (tgt := 24) dX9_takePart_20 (by decide) ?_
    exact fb_sub [1, 0] rfl (tjX9_takePart_24 a0 r3.1 a0 1 r3.2 ha0 ha0 h)
  · refine fb_iload_n (pc := 15) dX9_takePart_15 0 rfl ?_
    refine fb_if_ge (pc := 16) (tgt := 23) h dX9_takePart_16 (by decide) (fun h => ?_) (fun h => ?_)
    · refine fb_iconst (pc := 23) (v := 0) dX9_takePart_23 fb_ki_0 ?_
      exact fb_sub [1, 0] rfl (tjX9_takePart_24 a0 r3.1 a0 0 r3.2 ha0 ha0 h)
    · refine fb_iconst (pc := 19) (v := 1) dX9_takePart_19 fb_ki_1 ?_
      refine fb_goto (pc := 20) (tgt := 24) dX9_takePart_20 (by decide) ?_
      exact fb_sub [1, 0] rfl (tjX9_takePart_24 a0 r3.1 a0 1 r3.2 ha0 ha0 h)

theorem dX9_takeAlternative_0 : decode cX9_takeAlternative 0 = .ok (.aload_n 0, 1) := by decide +kernel
theorem dX9_takeAlternative_1 : decode cX9_takeAlternative 1 = .ok (.dup, 1) := by decide +kernel
theorem dX9_takeAlternative_2 : decode cX9_takeAlternative 2 = .ok (.getfield 183, 3) := by decide +kernel
theorem dX9_takeAlternative_5 : decode cX9_takeAlternative 5 = .ok (.iconst 1, 1) := by decide +kernel
theorem dX9_takeAlternative_6 : decode cX9_takeAlternative 6 = .ok (.iadd, 1) := by decide +kernel
theorem dX9_takeAlternative_7 : decode cX9_takeAlternative 7 = .ok (.putfield 183, 3) := by decide +kernel
theorem dX9_takeAlternative_10 : decode cX9_takeAlternative 10 = .ok (.iload_n 1, 1) := by decide +kernel
theorem dX9_takeAlternative_11 : decode cX9_takeAlternative 11 = .ok (.istore_n 3, 1) := by decide +kernel
theorem dX9_takeAlternative_12 : decode cX9_takeAlternative 12 = .ok (.iload_n 1, 1) := by decide +kernel
theorem dX9_takeAlternative_13 : decode cX9_takeAlternative 13 = .ok (.istore 4, 2) := by decide +kernel
theorem dX9_takeAlternative_15 : decode cX9_takeAlternative 15 = .ok (.iload 4, 2) := by decide +kernel
theorem dX9_takeAlternative_17 : decode cX9_takeAlternative 17 = .ok (.iload_n 2, 1) := by decide +kernel
theorem dX9_takeAlternative_18 : decode cX9_takeAlternative 18 = .ok (.if_icmp .ge 56, 3) := by decide +kernel
theorem dX9_takeAlternative_21 : decode cX9_takeAlternative 21 = .ok (.aload_n 0, 1) := by decide +kernel
theorem dX9_takeAlternative_22 : decode cX9_takeAlternative 22 = .ok (.iload 4, 2) := by decide +kernel
theorem dX9_takeAlternative_24 : decode cX9_takeAlternative 24 = .ok (.iload_n 2, 1) := by decide +kernel
theorem dX9_takeAlternative_25 : decode cX9_takeAlternative 25 = .ok (.ldc2_w 186, 3) := by decide +kernel
theorem dX9_takeAlternative_28 : decode cX9_takeAlternative 28 = .ok (.invokevirtual 188, 3) := by decide +kernel
theorem dX9_takeAlternative_31 : decode cX9_takeAlternative 31 = .ok (.ifCond .eq 37, 3) := by decide +kernel
theorem dX9_takeAlternative_34 : decode cX9_takeAlternative 34 = .ok (.iload 4, 2) := by decide +kernel
theorem dX9_takeAlternative_36 : decode cX9_takeAlternative 36 = .ok (.iconst 3, 1) := by decide +kernel
theorem dX9_takeAlternative_37 : decode cX9_takeAlternative 37 = .ok (.iadd, 1) := by decide +kernel
theorem dX9_takeAlternative_38 : decode cX9_takeAlternative 38 = .ok (.iload_n 2, 1) := by decide +kernel
theorem dX9_takeAlternative_39 : decode cX9_takeAlternative 39 = .ok (.if_icmp .ge 29, 3) := by decide +kernel
theorem dX9_takeAlternative_42 : decode cX9_takeAlternative 42 = .ok (.aload_n 0, 1) := by decide +kernel
theorem dX9_takeAlternative_43 : decode cX9_takeAlternative 43 = .ok (.iload 4, 2) := by decide +kernel
theorem dX9_takeAlternative_45 : decode cX9_takeAlternative 45 = .ok (.iconst 3, 1) := by decide +kernel
theorem dX9_takeAlternative_46 : decode cX9_takeAlternative 46 = .ok (.iadd, 1) := by decide +kernel
theorem dX9_takeAlternative_47 : decode cX9_takeAlternative 47 = .ok (.invokevirtual 99, 3) := by decide +kernel
theorem dX9_takeAlternative_50 : decode cX9_takeAlternative 50 = .ok (.invokestatic 113, 3) := by decide +kernel
theorem dX9_takeAlternative_53 : decode cX9_takeAlternative 53 = .ok (.ifCond .eq 15, 3) := by decide +kernel
theorem dX9_takeAlternative_56 : decode cX9_takeAlternative 56 = .ok (.aload_n 0, 1) := by decide +kernel
theorem dX9_takeAlternative_57 : decode cX9_takeAlternative 57 = .ok (.iload_n 3, 1) := by decide +kernel
theorem dX9_takeAlternative_58 : decode cX9_takeAlternative 58 = .ok (.iload 4, 2) := by decide +kernel
theorem dX9_takeAlternative_60 : decode cX9_takeAlternative 60 = .ok (.invokevirtual 192, 3) := by decide +kernel
theorem dX9_takeAlternative_63 : decode cX9_takeAlternative 63 = .ok (.iload 4, 2) := by decide +kernel
theorem dX9_takeAlternative_65 : decode cX9_takeAlternative 65 = .ok (.iconst 3, 1) := by decide +kernel
theorem dX9_takeAlternative_66 : decode cX9_takeAlternative 66 = .ok (.iadd, 1) := by decide +kernel
theorem dX9_takeAlternative_67 : decode cX9_takeAlternative 67 = .ok (.istore_n 3, 1) := by decide +kernel
theorem dX9_takeAlternative_68 : decode cX9_takeAlternative 68 = .ok (.iinc 4 1, 3) := by decide +kernel
theorem dX9_takeAlternative_71 : decode cX9_takeAlternative 71 = .ok (.goto (-56), 3) := by decide +kernel
theorem dX9_takeAlternative_74 : decode cX9_takeAlternative 74 = .ok (.aload_n 0, 1) := by decide +kernel
theorem dX9_takeAlternative_75 : decode cX9_takeAlternative 75 = .ok (.iload_n 3, 1) := by decide +kernel
theorem dX9_takeAlternative_76 : decode cX9_takeAlternative 76 = .ok (.iload_n 2, 1) := by decide +kernel
theorem dX9_takeAlternative_77 : decode cX9_takeAlternative 77 = .ok (.invokevirtual 192, 3) := by decide +kernel
theorem dX9_takeAlternative_80 : decode cX9_takeAlternative 80 = .ok (.return_, 1) := by decide +kernel
def bX9_takeAlternative_15 (K15 : Int32 → Int32 → fb_M → Option fb_M) (a0 : Nat) (x2 : Int32) (x3 : Int32) (x4 : Int32) (u : fb_M) : Option fb_M :=
 (if x2 ≤ x4 then ((fX9_takePart u a0 x3 x2).bind fun r77 => 
   (some r77))
  else ((fX9_stands u a0 x4 x2 4288100).bind fun r28 => 
   (if r28 = 0 then (K15 x3 (x4 + 1) u)
   else (if x2 ≤ (x4 + 3) then (K15 x3 (x4 + 1) u)
    else ((fX9_at u a0 (x4 + 3)).bind fun r47 => 
     ((fX9_capital u r47).bind fun r50 => 
     (if r50 = 0 then (K15 x3 (x4 + 1) u)
     else ((fX9_takePart u a0 x3 x4).bind fun r60 => 
      (K15 (x4 + 3) (x4 + 1) r60)))))))))
def gX9_takeAlternative_15 (a0 : Nat) (x2 : Int32) : Nat → Int32 → Int32 → fb_M → Option fb_M
 | 0 => fun _ _ _ => none
 | fu + 1 => fun x3 x4 u => bX9_takeAlternative_15 (gX9_takeAlternative_15 a0 x2 fu) a0 x2 x3 x4 u
set_option maxRecDepth 100000 in
set_option maxHeartbeats 4000000 in
theorem tbX9_takeAlternative_15 {g : fb_G} {res : fb_M} (a0 : Nat) (x2 : Int32) (x3 : Int32) (x4 : Int32) (u : fb_M) (K15 : Int32 → Int32 → fb_M → Option fb_M) (ha0 : a0 < fb_NT ∧ fb_sh a0 = (9, 40)) (hK15 : ∀ (x3 : Int32) (x4 : Int32) (u : fb_M) ,  K15 x3 x4 u = some res → fb_V g RX9 cX9_takeAlternative 5 none "takeAlternative" (fb_room 5 126 0 0) (fb_Qm g none fb_NT res 0 0) 0 0 fb_NT u 15 [(0, .ref (fb_b g + a0)), (2, .int x2), (3, .int x3), (4, .int x4)] []) (h : bX9_takeAlternative_15 K15 a0 x2 x3 x4 u = some res) : fb_V g RX9 cX9_takeAlternative 5 none "takeAlternative" (fb_room 5 126 0 0) (fb_Qm g none fb_NT res 0 0) 0 0 fb_NT u 15 [(0, .ref (fb_b g + a0)), (2, .int x2), (3, .int x3), (4, .int x4)] [] := by
  unfold bX9_takeAlternative_15 at h
  refine fb_iload (pc := 15) dX9_takeAlternative_15 3 rfl ?_
  refine fb_iload_n (pc := 17) dX9_takeAlternative_17 1 rfl ?_
  refine fb_icmp_ge (pc := 18) (tgt := 74) h dX9_takeAlternative_18 (by decide) (fun h => ?_) (fun h => ?_)
  · refine fb_aload_n (pc := 74) dX9_takeAlternative_74 0 rfl ?_
    refine fb_iload_n (pc := 75) dX9_takeAlternative_75 2 rfl ?_
    refine fb_iload_n (pc := 76) dX9_takeAlternative_76 1 rfl ?_
    refine fb_bnE h (fun r77 h77 h => ?_)
    refine fb_cV0n (pc := 77) [.int x3, .int x2] dX9_takeAlternative_77 (mX9_takePart g u a0 x3 x2 ha0 h77) ymX9_takePart yiX9_takePart ha0.1 ha0.2 ylX9_192 rfl (Nat.le_of_ble_eq_true rfl) ⟨Nat.le_of_ble_eq_true rfl, Nat.le_of_ble_eq_true rfl⟩ ⟨Nat.le_of_ble_eq_true rfl, Nat.le_of_ble_eq_true rfl⟩ ?_
    exact fb_vretM (pc := 80) h dX9_takeAlternative_80
  · refine fb_aload_n (pc := 21) dX9_takeAlternative_21 0 rfl ?_
    refine fb_iload (pc := 22) dX9_takeAlternative_22 3 rfl ?_
    refine fb_iload_n (pc := 24) dX9_takeAlternative_24 1 rfl ?_
    refine fb_ldc2 (pc := 25) (v := 4288100) dX9_takeAlternative_25 lwX9_186 ?_
    refine fb_bnE h (fun r28 h28 h => ?_)
    refine fb_cV0v (pc := 28) [.int x4, .int x2, .long 4288100] dX9_takeAlternative_28 (mX9_stands g u a0 x4 x2 4288100 ha0 h28) ymX9_stands yiX9_stands ha0.1 ha0.2 ylX9_188 rfl (Nat.le_of_ble_eq_true rfl) ⟨Nat.le_of_ble_eq_true rfl, Nat.le_of_ble_eq_true rfl⟩ ⟨Nat.le_of_ble_eq_true rfl, Nat.le_of_ble_eq_true rfl⟩ ?_
    refine fb_if_eq (pc := 31) (tgt := 68) h dX9_takeAlternative_31 (by decide) (fun h => ?_) (fun h => ?_)
    · refine fb_iinc (pc := 68) (v := 1) (lv' := [(4, .int (x4 + 1)), (0, .ref (fb_b g + a0)), (2, .int x2), (3, .int x3)]) dX9_takeAlternative_68 3 rfl fb_ki_1 (by decide) rfl ?_
      refine fb_goto (pc := 71) (tgt := 15) dX9_takeAlternative_71 (by decide) ?_
      exact fb_sub [1, 2, 3, 0] rfl (hK15 x3 (x4 + 1) u h)
    · refine fb_iload (pc := 34) dX9_takeAlternative_34 3 rfl ?_
      refine fb_iconst (pc := 36) (v := 3) dX9_takeAlternative_36 fb_ki_3 ?_
      refine fb_iadd (pc := 37) dX9_takeAlternative_37 ?_
      refine fb_iload_n (pc := 38) dX9_takeAlternative_38 1 rfl ?_
      refine fb_icmp_ge (pc := 39) (tgt := 68) h dX9_takeAlternative_39 (by decide) (fun h => ?_) (fun h => ?_)
      · refine fb_iinc (pc := 68) (v := 1) (lv' := [(4, .int (x4 + 1)), (0, .ref (fb_b g + a0)), (2, .int x2), (3, .int x3)]) dX9_takeAlternative_68 3 rfl fb_ki_1 (by decide) rfl ?_
        refine fb_goto (pc := 71) (tgt := 15) dX9_takeAlternative_71 (by decide) ?_
        exact fb_sub [1, 2, 3, 0] rfl (hK15 x3 (x4 + 1) u h)
      · refine fb_aload_n (pc := 42) dX9_takeAlternative_42 0 rfl ?_
        refine fb_iload (pc := 43) dX9_takeAlternative_43 3 rfl ?_
        refine fb_iconst (pc := 45) (v := 3) dX9_takeAlternative_45 fb_ki_3 ?_
        refine fb_iadd (pc := 46) dX9_takeAlternative_46 ?_
        refine fb_bnE h (fun r47 h47 h => ?_)
        refine fb_cV0v (pc := 47) [.int (x4 + 3)] dX9_takeAlternative_47 (mX9_at g u a0 (x4 + 3) ha0 h47) ymX9_at yiX9_at ha0.1 ha0.2 ylX9_99 rfl (Nat.le_of_ble_eq_true rfl) ⟨Nat.le_of_ble_eq_true rfl, Nat.le_of_ble_eq_true rfl⟩ ⟨Nat.le_of_ble_eq_true rfl, Nat.le_of_ble_eq_true rfl⟩ ?_
        refine fb_bnE h (fun r50 h50 h => ?_)
        refine fb_cS0v (pc := 50) [.int r47] dX9_takeAlternative_50 (mX9_capital g u r47 h50) ymX9_capital ysX9_capital ylX9_113 rfl (Nat.le_of_ble_eq_true rfl) ⟨Nat.le_of_ble_eq_true rfl, Nat.le_of_ble_eq_true rfl⟩ ⟨Nat.le_of_ble_eq_true rfl, Nat.le_of_ble_eq_true rfl⟩ ?_
        refine fb_if_eq (pc := 53) (tgt := 68) h dX9_takeAlternative_53 (by decide) (fun h => ?_) (fun h => ?_)
        · refine fb_iinc (pc := 68) (v := 1) (lv' := [(4, .int (x4 + 1)), (0, .ref (fb_b g + a0)), (2, .int x2), (3, .int x3)]) dX9_takeAlternative_68 3 rfl fb_ki_1 (by decide) rfl ?_
          refine fb_goto (pc := 71) (tgt := 15) dX9_takeAlternative_71 (by decide) ?_
          exact fb_sub [1, 2, 3, 0] rfl (hK15 x3 (x4 + 1) u h)
        · refine fb_aload_n (pc := 56) dX9_takeAlternative_56 0 rfl ?_
          refine fb_iload_n (pc := 57) dX9_takeAlternative_57 2 rfl ?_
          refine fb_iload (pc := 58) dX9_takeAlternative_58 3 rfl ?_
          refine fb_bnE h (fun r60 h60 h => ?_)
          refine fb_cV0n (pc := 60) [.int x3, .int x4] dX9_takeAlternative_60 (mX9_takePart g u a0 x3 x4 ha0 h60) ymX9_takePart yiX9_takePart ha0.1 ha0.2 ylX9_192 rfl (Nat.le_of_ble_eq_true rfl) ⟨Nat.le_of_ble_eq_true rfl, Nat.le_of_ble_eq_true rfl⟩ ⟨Nat.le_of_ble_eq_true rfl, Nat.le_of_ble_eq_true rfl⟩ ?_
          refine fb_iload (pc := 63) dX9_takeAlternative_63 3 rfl ?_
          refine fb_iconst (pc := 65) (v := 3) dX9_takeAlternative_65 fb_ki_3 ?_
          refine fb_iadd (pc := 66) dX9_takeAlternative_66 ?_
          refine fb_istore_n (pc := 67) (lv' := [(3, .int (x4 + 3)), (0, .ref (fb_b g + a0)), (2, .int x2), (4, .int x4)]) dX9_takeAlternative_67 rfl (by decide) rfl ?_
          refine fb_iinc (pc := 68) (v := 1) (lv' := [(4, .int (x4 + 1)), (3, .int (x4 + 3)), (0, .ref (fb_b g + a0)), (2, .int x2)]) dX9_takeAlternative_68 3 rfl fb_ki_1 (by decide) rfl ?_
          refine fb_goto (pc := 71) (tgt := 15) dX9_takeAlternative_71 (by decide) ?_
          exact fb_sub [2, 3, 1, 0] rfl (hK15 (x4 + 3) (x4 + 1) r60 h)

theorem tgX9_takeAlternative_15 {g : fb_G} {res : fb_M} (a0 : Nat) (x2 : Int32) (ha0 : a0 < fb_NT ∧ fb_sh a0 = (9, 40)) : ∀ (fu : Nat) (x3 : Int32) (x4 : Int32) (u : fb_M) ,  gX9_takeAlternative_15 a0 x2 fu x3 x4 u = some res → fb_V g RX9 cX9_takeAlternative 5 none "takeAlternative" (fb_room 5 126 0 0) (fb_Qm g none fb_NT res 0 0) 0 0 fb_NT u 15 [(0, .ref (fb_b g + a0)), (2, .int x2), (3, .int x3), (4, .int x4)] [] := by
  intro fu
  induction fu with
  | zero => intro x3 x4 u h; exact absurd h (by simp [gX9_takeAlternative_15])
  | succ fu ih => intro x3 x4 u h; exact tbX9_takeAlternative_15 a0 x2 x3 x4 u (gX9_takeAlternative_15 a0 x2 fu) ha0 ih h
def fX9_takeAlternative (u : fb_M) (a0 : Nat) (x1 : Int32) (x2 : Int32) : Option fb_M :=
 (gX9_takeAlternative_15 a0 x2 fb_F x1 x1 (fb_wI u a0 17 ((fb_I u a0 17) + 1)))
set_option maxRecDepth 100000 in
set_option maxHeartbeats 4000000 in
theorem mX9_takeAlternative (g : fb_G) (u : fb_M) (a0 : Nat) (x1 : Int32) (x2 : Int32) (ha0 : a0 < fb_NT ∧ fb_sh a0 = (9, 40)) {res : fb_M} (h : fX9_takeAlternative u a0 x1 x2 = some res) : fb_Runs g 5 126 0 0 fb_NT fb_NT yX9_takeAlternative cX9_takeAlternative 5 none [.ref (fb_b g + a0), .int x1, .int x2] u none res := by
  unfold fX9_takeAlternative at h
  refine fb_enter (by decide) (Nat.le_of_ble_eq_true rfl) ?_
  show fb_V g RX9 cX9_takeAlternative 5 none "takeAlternative" (fb_room 5 126 0 0) (fb_Qm g none fb_NT res 0 0) 0 0 fb_NT u 0 [(0, .ref (fb_b g + a0)), (1, .int x1), (2, .int x2)] []
  refine fb_aload_n (pc := 0) dX9_takeAlternative_0 0 rfl ?_
  refine fb_dup (pc := 1) dX9_takeAlternative_1 rfl ?_
  refine fb_getI (pc := 2) dX9_takeAlternative_2 lkX9_183 ha0.1 ha0.2 rfl ?_
  refine fb_iconst (pc := 5) (v := 1) dX9_takeAlternative_5 fb_ki_1 ?_
  refine fb_iadd (pc := 6) dX9_takeAlternative_6 ?_
  refine fb_putI (pc := 7) dX9_takeAlternative_7 lkX9_183 ly_9_17 ha0.1 ha0.2 rfl rfl rfl ?_
  refine fb_iload_n (pc := 10) dX9_takeAlternative_10 1 rfl ?_
  refine fb_istore_n (pc := 11) (lv' := [(3, .int x1), (0, .ref (fb_b g + a0)), (1, .int x1), (2, .int x2)]) dX9_takeAlternative_11 rfl (by decide) rfl ?_
  refine fb_iload_n (pc := 12) dX9_takeAlternative_12 2 rfl ?_
  refine fb_istore (pc := 13) (lv' := [(4, .int x1), (3, .int x1), (0, .ref (fb_b g + a0)), (1, .int x1), (2, .int x2)]) dX9_takeAlternative_13 (by decide) rfl ?_
  exact fb_sub [2, 4, 1, 0] rfl (tgX9_takeAlternative_15 a0 x2 ha0 fb_F x1 x1 (fb_wI u a0 17 ((fb_I u a0 17) + 1)) h)

theorem dX9_size_0 : decode cX9_size 0 = .ok (.aload_n 0, 1) := by decide +kernel
theorem dX9_size_1 : decode cX9_size 1 = .ok (.getfield 260, 3) := by decide +kernel
theorem dX9_size_4 : decode cX9_size 4 = .ok (.ireturn, 1) := by decide +kernel
def fX9_size (u : fb_M) (a0 : Nat) : Option Int32 :=
 (some (fb_I u a0 28))
set_option maxRecDepth 100000 in
set_option maxHeartbeats 4000000 in
theorem mX9_size (g : fb_G) (u : fb_M) (a0 : Nat) (ha0 : a0 < fb_NT ∧ fb_sh a0 = (9, 40)) {res : Int32} (h : fX9_size u a0 = some res) : fb_Runs g 0 0 0 0 fb_NT fb_NT yX9_size cX9_size 1 (some .int) [.ref (fb_b g + a0)] u (some (.int res)) u := by
  unfold fX9_size at h
  refine fb_enter (by decide) (Nat.le_of_ble_eq_true rfl) ?_
  show fb_V g RX9 cX9_size 1 (some .int) "size" (fb_room 0 0 0 0) (fb_Qm g (some (.int res)) fb_NT u 0 0) 0 0 fb_NT u 0 [(0, .ref (fb_b g + a0))] []
  refine fb_aload_n (pc := 0) dX9_size_0 0 rfl ?_
  refine fb_getI (pc := 1) dX9_size_1 lkX9_260 ha0.1 ha0.2 rfl ?_
  exact fb_iretR (pc := 4) h dX9_size_4

/-! the JDK's own code behind String.length and String.charAt, on literals -/
abbrev cJ_coder : ByteArray := prog_14_method_152_code
def yJ_coder : MethodName := ⟨"java/lang/String", "coder", "()B"⟩
abbrev cJ_isLatin1 : ByteArray := prog_14_method_154_code
def yJ_isLatin1 : MethodName := ⟨"java/lang/String", "isLatin1", "()Z"⟩
abbrev cJ_lat : ByteArray := prog_15_method_2_code
def yJ_lat : MethodName := ⟨"java/lang/StringLatin1", "charAt", "([BI)C"⟩
abbrev cJ_ck : ByteArray := prog_14_method_155_code
def yJ_ck : MethodName := ⟨"java/lang/String", "checkIndex", "(II)V"⟩
abbrev cJ_pre : ByteArray := prog_19_method_11_code
def yJ_pre : MethodName := ⟨"jdk/internal/util/Preconditions", "checkIndex", "(IILjava/util/function/BiFunction;)I"⟩
section FBJ
variable {g : fb_G} {own : String} {cc : ByteArray} {nL : Nat} {ret : Option FieldType} {nm : String} {R : Room} {Qf : fb_QT} {k ks n : Nat} {u : fb_M} {pc : Nat} {lv : List (Nat × Value)} {st : List Value}
theorem fb_gstC {idx : Nat} (hd : decode cc pc = .ok (.getstatic idx, 3)) (hl0 : Cond.fieldLink own idx "java/lang/String" "COMPACT_STRINGS" "Z" ∈ fb_W) (kk : fb_V g own cc nL ret nm R Qf k ks n u (pc + 3) lv (.int 1 :: st)) : fb_V g own cc nL ret nm R Qf k ks n u pc lv st :=
  fun p l e s m args below meth c H locs ls hC hH hl => va_gets hC.1 hC.2.1 hC.2.2.2.2.2.2.2.2.2.2.2.2.2.2.2.1 hH.2.1 hC.2.2.2.2.2.2.1 (hC.2.2.2.2.2.1 _ hl0) (fun _ h => h) hd (kk p l e s m args below meth c H locs ls hC hH hl)
theorem fb_gstF {idx : Nat} (hd : decode cc pc = .ok (.getstatic idx, 3)) (hl0 : Cond.fieldLink own idx "jdk/internal/util/Preconditions" "SIOOBE_FORMATTER" "Ljava/util/function/BiFunction;" ∈ fb_W) (kk : ∀ v : Value, (v = .null ∨ ∃ a, v = .ref a) → fb_V g own cc nL ret nm R Qf k ks n u (pc + 3) lv (v :: st)) : fb_V g own cc nL ret nm R Qf k ks n u pc lv st := by
  intro p l e s m args below meth c H locs ls hC hH hl
  obtain ⟨v, hv, hz⟩ := hC.2.2.2.2.2.2.2.2.2.2.2.2.2.2.2.2.2
  exact va_gets hC.1 hC.2.1 hz hH.2.1 hC.2.2.2.2.2.2.1 (hC.2.2.2.2.2.1 _ hl0) (fun _ h => h) hd (kk v hv p l e s m args below meth c H locs ls hC hH hl)
theorem fb_strV {idx i : Nat} (hi : i < fb_nS) (hd : decode cc pc = .ok (.getfield idx, 3)) (hl0 : Cond.fieldLink own idx "java/lang/String" "value" "[B" ∈ fb_W) (kk : fb_V g own cc nL ret nm R Qf k ks n u (pc + 3) lv (.ref (fb_Kv g i) :: st)) : fb_V g own cc nL ret nm R Qf k ks n u pc lv (.ref (fb_K g i) :: st) :=
  fun p l e s m args below meth c H locs ls hC hH hl => vk_getf hC.1 hC.2.1 (hC.2.2.2.2.2.2.2.2.2.2.1.1 i hi).2.2.1 hH.2.1 hC.2.2.2.2.2.2.1 (hC.2.2.2.2.2.1 _ hl0) (fun _ h => h) hd (kk p l e s m args below meth c H locs ls hC hH hl)
theorem fb_strC {idx i : Nat} (hi : i < fb_nS) (hd : decode cc pc = .ok (.getfield idx, 3)) (hl0 : Cond.fieldLink own idx "java/lang/String" "coder" "B" ∈ fb_W) (kk : fb_V g own cc nL ret nm R Qf k ks n u (pc + 3) lv (.int 0 :: st)) : fb_V g own cc nL ret nm R Qf k ks n u pc lv (.ref (fb_K g i) :: st) :=
  fun p l e s m args below meth c H locs ls hC hH hl => vk_getf hC.1 hC.2.1 (hC.2.2.2.2.2.2.2.2.2.2.1.1 i hi).2.1 hH.2.1 hC.2.2.2.2.2.2.1 (hC.2.2.2.2.2.1 _ hl0) (fun _ h => h) hd (kk p l e s m args below meth c H locs ls hC hH hl)
theorem fb_strN {i : Nat} (hi : i < fb_nS) (hd : decode cc pc = .ok (.arraylength, 1)) (kk : fb_V g own cc nL ret nm R Qf k ks n u (pc + 1) lv (.int (Int32.ofNat (fb_len.getD i 0)) :: st)) : fb_V g own cc nL ret nm R Qf k ks n u pc lv (.ref (fb_Kv g i) :: st) :=
  fun p l e s m args below meth c H locs ls hC hH hl => va_tlen hC.1 hC.2.1 (hC.2.2.2.2.2.2.2.2.2.2.1.1 i hi).2.2.2 hH.2.1 rfl hd (kk p l e s m args below meth c H locs ls hC hH hl)
theorem fb_strB {i : Nat} {j : Int32} (hi : i < fb_nS) (hd : decode cc pc = .ok (.baload, 1)) (hj : ¬ (j < 0 ∨ fb_len.getD i 0 ≤ j.toNatClampNeg)) (kk : fb_V g own cc nL ret nm R Qf k ks n u (pc + 1) lv (.int ((fb_byt.getD i []).getD j.toNatClampNeg 0) :: st)) : fb_V g own cc nL ret nm R Qf k ks n u pc lv (.int j :: .ref (fb_Kv g i) :: st) :=
  fun p l e s m args below meth c H locs ls hC hH hl => va_tb hC.1 hC.2.1 (hC.2.2.2.2.2.2.2.2.2.2.1.1 i hi).2.2.2 hH.2.1 hj rfl hd (kk p l e s m args below meth c H locs ls hC hH hl)
theorem fb_ishr {x y : Int32} (hd : decode cc pc = .ok (.ishr, 1)) (kk : fb_V g own cc nL ret nm R Qf k ks n u (pc + 1) lv (.int (x >>> (y &&& 31)) :: st)) : fb_V g own cc nL ret nm R Qf k ks n u pc lv (.int y :: .int x :: st) :=
  fun p l e s m args below meth c H locs ls hC hH hl => lv_ishr hC.1 hC.2.1 hd (kk p l e s m args below meth c H locs ls hC hH hl)
end FBJ
theorem ymJ_coder : fb_Ym yJ_coder cJ_coder 1 (some .byte) 0 := ⟨(fb_inW2 117 rfl rfl), (fb_inW1 13 rfl rfl), by decide, by decide, by decide +kernel⟩
theorem yiJ_coder : Cond.instanceMethod yJ_coder ∈ fb_W ∧ Cond.selects "java/lang/String" yJ_coder yJ_coder ∈ fb_W := ⟨(fb_inW2 115 rfl rfl), (fb_inW2 116 rfl rfl)⟩
theorem ymJ_isLatin1 : fb_Ym yJ_isLatin1 cJ_isLatin1 1 (some .boolean) 0 := ⟨(fb_inW2 127 rfl rfl), (fb_inW1 13 rfl rfl), by decide, by decide, by decide +kernel⟩
theorem yiJ_isLatin1 : Cond.instanceMethod yJ_isLatin1 ∈ fb_W ∧ Cond.selects "java/lang/String" yJ_isLatin1 yJ_isLatin1 ∈ fb_W := ⟨(fb_inW2 125 rfl rfl), (fb_inW2 126 rfl rfl)⟩
theorem ymJ_lat : fb_Ym yJ_lat cJ_lat 2 (some .char) 2 := ⟨(fb_inW2 130 rfl rfl), (fb_inW1 14 rfl rfl), by decide, by decide, by decide +kernel⟩
theorem ysJ_lat : Cond.static yJ_lat ∈ fb_W := (fb_inW2 129 rfl rfl)
theorem ymJ_ck : fb_Ym yJ_ck cJ_ck 2 none 2 := ⟨(fb_inW2 133 rfl rfl), (fb_inW1 13 rfl rfl), by decide, by decide, by decide +kernel⟩
theorem ysJ_ck : Cond.static yJ_ck ∈ fb_W := (fb_inW2 132 rfl rfl)
theorem ymJ_pre : fb_Ym yJ_pre cJ_pre 3 (some .int) 3 := ⟨(fb_inW2 138 rfl rfl), (fb_inW1 15 rfl rfl), by decide, by decide, by decide +kernel⟩
theorem ysJ_pre : Cond.static yJ_pre ∈ fb_W := (fb_inW2 137 rfl rfl)
theorem dJ_coder_0 : decode cJ_coder 0 = .ok (.getstatic 38, 3) := by decide +kernel
theorem dJ_coder_3 : decode cJ_coder 3 = .ok (.ifCond .eq 10, 3) := by decide +kernel
theorem dJ_coder_6 : decode cJ_coder 6 = .ok (.aload_n 0, 1) := by decide +kernel
theorem dJ_coder_7 : decode cJ_coder 7 = .ok (.getfield 15, 3) := by decide +kernel
theorem dJ_coder_10 : decode cJ_coder 10 = .ok (.goto 4, 3) := by decide +kernel
theorem dJ_coder_14 : decode cJ_coder 14 = .ok (.ireturn, 1) := by decide +kernel
theorem m_coder (g : fb_G) (w : Nat) (hw : w < fb_nS) (u : fb_M) : fb_Runs g 0 0 0 0 fb_NT fb_NT yJ_coder cJ_coder 1 (some .byte) [.ref (fb_K g w)] u (some (.int 0)) u := by
  refine fb_enter (by decide) (Nat.le_of_ble_eq_true rfl) ?_
  show fb_V g "java/lang/String" cJ_coder 1 (some .byte) "coder" (fb_room 0 0 0 0) (fb_Qm g (some (.int 0)) fb_NT u 0 0) 0 0 fb_NT u 0 [(0, .ref (fb_K g w))] []
  refine fb_gstC (pc := 0) dJ_coder_0 (fb_inW2 118 rfl rfl) ?_
  refine fb_if_eq (pc := 3) (tgt := 13) (A := none) (B := some ()) (res := ()) (by decide) dJ_coder_3 (by decide) (fun h => by cases h) (fun h => ?_)
  refine fb_aload_n (pc := 6) dJ_coder_6 0 rfl ?_
  refine fb_strC (pc := 7) hw dJ_coder_7 (fb_inW5 4 rfl rfl) ?_
  refine fb_goto (pc := 10) (tgt := 14) dJ_coder_10 (by decide) ?_
  exact fb_zretR (pc := 14) (res := 0) rfl rfl dJ_coder_14
theorem dJ_il_0 : decode cJ_isLatin1 0 = .ok (.getstatic 38, 3) := by decide +kernel
theorem dJ_il_3 : decode cJ_isLatin1 3 = .ok (.ifCond .eq 14, 3) := by decide +kernel
theorem dJ_il_6 : decode cJ_isLatin1 6 = .ok (.aload_n 0, 1) := by decide +kernel
theorem dJ_il_7 : decode cJ_isLatin1 7 = .ok (.getfield 15, 3) := by decide +kernel
theorem dJ_il_10 : decode cJ_isLatin1 10 = .ok (.ifCond .ne 7, 3) := by decide +kernel
theorem dJ_il_13 : decode cJ_isLatin1 13 = .ok (.iconst 1, 1) := by decide +kernel
theorem dJ_il_14 : decode cJ_isLatin1 14 = .ok (.goto 4, 3) := by decide +kernel
theorem dJ_il_18 : decode cJ_isLatin1 18 = .ok (.ireturn, 1) := by decide +kernel
theorem m_isLatin1 (g : fb_G) (w : Nat) (hw : w < fb_nS) (u : fb_M) : fb_Runs g 0 0 0 0 fb_NT fb_NT yJ_isLatin1 cJ_isLatin1 1 (some .boolean) [.ref (fb_K g w)] u (some (.int 1)) u := by
  refine fb_enter (by decide) (Nat.le_of_ble_eq_true rfl) ?_
  show fb_V g "java/lang/String" cJ_isLatin1 1 (some .boolean) "isLatin1" (fb_room 0 0 0 0) (fb_Qm g (some (.int 1)) fb_NT u 0 0) 0 0 fb_NT u 0 [(0, .ref (fb_K g w))] []
  refine fb_gstC (pc := 0) dJ_il_0 (fb_inW2 118 rfl rfl) ?_
  refine fb_if_eq (pc := 3) (tgt := 17) (A := none) (B := some ()) (res := ()) (by decide) dJ_il_3 (by decide) (fun h => by cases h) (fun h => ?_)
  refine fb_aload_n (pc := 6) dJ_il_6 0 rfl ?_
  refine fb_strC (pc := 7) hw dJ_il_7 (fb_inW5 4 rfl rfl) ?_
  refine fb_if_ne (pc := 10) (tgt := 17) (A := some ()) (B := none) (res := ()) (by decide) dJ_il_10 (by decide) (fun h => by cases h) (fun h => ?_)
  refine fb_iconst (pc := 13) (v := 1) dJ_il_13 (by decide) ?_
  refine fb_goto (pc := 14) (tgt := 18) dJ_il_14 (by decide) ?_
  exact fb_zretR (pc := 18) (res := 1) rfl rfl dJ_il_18
theorem dJ_length_0 : decode cJ_length 0 = .ok (.aload_n 0, 1) := by decide +kernel
theorem dJ_length_1 : decode cJ_length 1 = .ok (.getfield 9, 3) := by decide +kernel
theorem dJ_length_4 : decode cJ_length 4 = .ok (.arraylength, 1) := by decide +kernel
theorem dJ_length_5 : decode cJ_length 5 = .ok (.aload_n 0, 1) := by decide +kernel
theorem dJ_length_6 : decode cJ_length 6 = .ok (.invokevirtual 335, 3) := by decide +kernel
theorem dJ_length_9 : decode cJ_length 9 = .ok (.ishr, 1) := by decide +kernel
theorem dJ_length_10 : decode cJ_length 10 = .ok (.ireturn, 1) := by decide +kernel
theorem fb_shr0 : ∀ w, w < fb_nS → Int32.ofNat (fb_len.getD w 0) >>> ((0 : Int32) &&& 31) = Int32.ofNat (fb_len.getD w 0) := by decide +kernel
theorem m_strlen (g : fb_G) (w : Nat) (hw : w < fb_nS) (u : fb_M) : fb_Runs g 1 22 0 0 fb_NT fb_NT yJ_length cJ_length 1 (some .int) [.ref (fb_K g w)] u (some (.int (Int32.ofNat (fb_len.getD w 0)))) u := by
  refine fb_enter (by decide) (Nat.le_of_ble_eq_true rfl) ?_
  show fb_V g "java/lang/String" cJ_length 1 (some .int) "length" (fb_room 1 22 0 0) (fb_Qm g (some (.int (Int32.ofNat (fb_len.getD w 0)))) fb_NT u 0 0) 0 0 fb_NT u 0 [(0, .ref (fb_K g w))] []
  refine fb_aload_n (pc := 0) dJ_length_0 0 rfl ?_
  refine fb_strV (pc := 1) hw dJ_length_1 (fb_inW5 3 rfl rfl) ?_
  refine fb_strN (pc := 4) hw dJ_length_4 ?_
  refine fb_aload_n (pc := 5) dJ_length_5 0 rfl ?_
  refine fb_cT0v (pc := 6) [] dJ_length_6 (m_coder g w hw u) ymJ_coder yiJ_coder hw (Or.inl (fb_inW2 114 rfl rfl)) rfl (Nat.le_of_ble_eq_true rfl) ⟨Nat.le_of_ble_eq_true rfl, Nat.le_of_ble_eq_true rfl⟩ ⟨Nat.le_of_ble_eq_true rfl, Nat.le_of_ble_eq_true rfl⟩ ?_
  refine fb_ishr (pc := 9) dJ_length_9 ?_
  exact fb_iretR (pc := 10) (congrArg some (fb_shr0 w hw)) dJ_length_10
theorem dJ_pre_0 : decode cJ_pre 0 = .ok (.iload_n 0, 1) := by decide +kernel
theorem dJ_pre_1 : decode cJ_pre 1 = .ok (.ifCond .lt 8, 3) := by decide +kernel
theorem dJ_pre_4 : decode cJ_pre 4 = .ok (.iload_n 0, 1) := by decide +kernel
theorem dJ_pre_5 : decode cJ_pre 5 = .ok (.iload_n 1, 1) := by decide +kernel
theorem dJ_pre_6 : decode cJ_pre 6 = .ok (.if_icmp .lt 10, 3) := by decide +kernel
theorem dJ_pre_16 : decode cJ_pre 16 = .ok (.iload_n 0, 1) := by decide +kernel
theorem dJ_pre_17 : decode cJ_pre 17 = .ok (.ireturn, 1) := by decide +kernel
theorem m_pre (g : fb_G) (i L : Int32) (hi : ¬ i < 0) (hl : i < L) (v : Value) (hv : v = .null ∨ ∃ a, v = .ref a) (u : fb_M) : fb_Runs g 0 0 0 0 fb_NT fb_NT yJ_pre cJ_pre 3 (some .int) [.int i, .int L, v] u (some (.int i)) u := by
  have hc : v.category = 1 := by rcases hv with rfl | ⟨a, rfl⟩ <;> rfl
  refine fb_enter (by decide) (by rcases hv with h | ⟨a, h⟩ <;> (subst h; exact Nat.le_of_ble_eq_true rfl)) ?_
  refine fb_sub (lv' := [(0, .int i), (1, .int L)]) [0, 1] rfl ?_
  show fb_V g "jdk/internal/util/Preconditions" cJ_pre 3 (some .int) "checkIndex" (fb_room 0 0 0 0) (fb_Qm g (some (.int i)) fb_NT u 0 0) 0 0 fb_NT u 0 [(0, .int i), (1, .int L)] []
  refine fb_iload_n (pc := 0) dJ_pre_0 0 rfl ?_
  refine fb_if_lt (pc := 1) (tgt := 9) (A := none) (B := some ()) (res := ()) (by rw [if_neg hi]) dJ_pre_1 (by decide) (fun h => by cases h) (fun h => ?_)
  refine fb_iload_n (pc := 4) dJ_pre_4 0 rfl ?_
  refine fb_iload_n (pc := 5) dJ_pre_5 1 rfl ?_
  refine fb_icmp_lt (pc := 6) (tgt := 16) (A := some ()) (B := none) (res := ()) (by rw [if_pos hl]) dJ_pre_6 (by decide) (fun h => ?_) (fun h => by cases h)
  refine fb_iload_n (pc := 16) dJ_pre_16 0 rfl ?_
  exact fb_iretR (pc := 17) rfl dJ_pre_17
theorem dJ_ck_0 : decode cJ_ck 0 = .ok (.iload_n 0, 1) := by decide +kernel
theorem dJ_ck_1 : decode cJ_ck 1 = .ok (.iload_n 1, 1) := by decide +kernel
theorem dJ_ck_2 : decode cJ_ck 2 = .ok (.getstatic 1053, 3) := by decide +kernel
theorem dJ_ck_5 : decode cJ_ck 5 = .ok (.invokestatic 1059, 3) := by decide +kernel
theorem dJ_ck_8 : decode cJ_ck 8 = .ok (.pop, 1) := by decide +kernel
theorem dJ_ck_9 : decode cJ_ck 9 = .ok (.return_, 1) := by decide +kernel
theorem m_ck (g : fb_G) (i L : Int32) (hi : ¬ i < 0) (hl : i < L) (u : fb_M) : fb_Runs g 1 22 0 0 fb_NT fb_NT yJ_ck cJ_ck 2 none [.int i, .int L] u none u := by
  refine fb_enter (by decide) (Nat.le_of_ble_eq_true rfl) ?_
  show fb_V g "java/lang/String" cJ_ck 2 none "checkIndex" (fb_room 1 22 0 0) (fb_Qm g none fb_NT u 0 0) 0 0 fb_NT u 0 [(0, .int i), (1, .int L)] []
  refine fb_iload_n (pc := 0) dJ_ck_0 0 rfl ?_
  refine fb_iload_n (pc := 1) dJ_ck_1 1 rfl ?_
  refine fb_gstF (pc := 2) dJ_ck_2 (fb_inW2 134 rfl rfl) (fun v hv => ?_)
  refine fb_cS0v (pc := 5) [.int i, .int L, v] dJ_ck_5 (m_pre g i L hi hl v hv u) ymJ_pre ysJ_pre (Or.inl (fb_inW2 136 rfl rfl)) rfl (Nat.le_of_ble_eq_true rfl) ⟨Nat.le_of_ble_eq_true rfl, Nat.le_of_ble_eq_true rfl⟩ ⟨Nat.le_of_ble_eq_true rfl, Nat.le_of_ble_eq_true rfl⟩ ?_
  refine fb_pop (pc := 8) dJ_ck_8 rfl ?_
  exact fb_vretM (pc := 9) rfl dJ_ck_9
theorem dJ_lat_0 : decode cJ_lat 0 = .ok (.iload_n 1, 1) := by decide +kernel
theorem dJ_lat_1 : decode cJ_lat 1 = .ok (.aload_n 0, 1) := by decide +kernel
theorem dJ_lat_2 : decode cJ_lat 2 = .ok (.arraylength, 1) := by decide +kernel
theorem dJ_lat_3 : decode cJ_lat 3 = .ok (.invokestatic 9, 3) := by decide +kernel
theorem dJ_lat_6 : decode cJ_lat 6 = .ok (.aload_n 0, 1) := by decide +kernel
theorem dJ_lat_7 : decode cJ_lat 7 = .ok (.iload_n 1, 1) := by decide +kernel
theorem dJ_lat_8 : decode cJ_lat 8 = .ok (.baload, 1) := by decide +kernel
theorem dJ_lat_9 : decode cJ_lat 9 = .ok (.sipush 255, 3) := by decide +kernel
theorem dJ_lat_12 : decode cJ_lat 12 = .ok (.iand, 1) := by decide +kernel
theorem dJ_lat_13 : decode cJ_lat 13 = .ok (.i2c, 1) := by decide +kernel
theorem dJ_lat_14 : decode cJ_lat 14 = .ok (.ireturn, 1) := by decide +kernel
theorem fb_ch255 (b : Int32) : ((b &&& 255).toUInt32 % 65536).toInt32 = b &&& 255 := by
  obtain ⟨j, hj, e⟩ := pk_andE b 8 (m := 255) (by decide)
  rw [pk_char, e, pk_tn (by omega), Nat.mod_eq_of_lt (by omega)]
theorem fb_lenlt : ∀ w, w < fb_nS → fb_len.getD w 0 < 100 := by decide +kernel
theorem m_lat (g : fb_G) (w : Nat) (hw : w < fb_nS) (i : Int32) (hi : ¬ (i < 0 ∨ fb_len.getD w 0 ≤ i.toNatClampNeg)) (u : fb_M) : fb_Runs g 2 43 0 0 fb_NT fb_NT yJ_lat cJ_lat 2 (some .char) [.ref (fb_Kv g w), .int i] u (some (.int ((fb_byt.getD w []).getD i.toNatClampNeg 0 &&& 255))) u := by
  have h1 : ¬ i < 0 := fun q => hi (Or.inl q)
  have h2 : i < Int32.ofNat (fb_len.getD w 0) := by
    have hl := fb_lenlt w hw
    obtain ⟨j, hj, e⟩ := vp_in_of (x := i) (n := fb_len.getD w 0) hi (by omega)
    rw [e]
    exact nI_lt hj (by omega)
  refine fb_enter (by decide) (Nat.le_of_ble_eq_true rfl) ?_
  show fb_V g "java/lang/StringLatin1" cJ_lat 2 (some .char) "charAt" (fb_room 2 43 0 0) (fb_Qm g (some (.int ((fb_byt.getD w []).getD i.toNatClampNeg 0 &&& 255))) fb_NT u 0 0) 0 0 fb_NT u 0 [(0, .ref (fb_Kv g w)), (1, .int i)] []
  refine fb_iload_n (pc := 0) dJ_lat_0 1 rfl ?_
  refine fb_aload_n (pc := 1) dJ_lat_1 0 rfl ?_
  refine fb_strN (pc := 2) hw dJ_lat_2 ?_
  refine fb_cS0n (pc := 3) [.int i, .int (Int32.ofNat (fb_len.getD w 0))] dJ_lat_3 (m_ck g i _ h1 h2 u) ymJ_ck ysJ_ck (Or.inl (fb_inW2 131 rfl rfl)) rfl (Nat.le_of_ble_eq_true rfl) ⟨Nat.le_of_ble_eq_true rfl, Nat.le_of_ble_eq_true rfl⟩ ⟨Nat.le_of_ble_eq_true rfl, Nat.le_of_ble_eq_true rfl⟩ ?_
  refine fb_aload_n (pc := 6) dJ_lat_6 0 rfl ?_
  refine fb_iload_n (pc := 7) dJ_lat_7 1 rfl ?_
  refine fb_strB (pc := 8) hw dJ_lat_8 hi ?_
  refine fb_sipush (pc := 9) (v := 255) dJ_lat_9 (by decide) ?_
  refine fb_iand (pc := 12) dJ_lat_12 ?_
  refine fb_i2c (pc := 13) dJ_lat_13 ?_
  exact fb_zretR (pc := 14) (pk_nc _) (congrArg some (fb_ch255 _)) dJ_lat_14
theorem dJ_charAt_0 : decode cJ_charAt 0 = .ok (.aload_n 0, 1) := by decide +kernel
theorem dJ_charAt_1 : decode cJ_charAt 1 = .ok (.invokevirtual 492, 3) := by decide +kernel
theorem dJ_charAt_4 : decode cJ_charAt 4 = .ok (.ifCond .eq 12, 3) := by decide +kernel
theorem dJ_charAt_7 : decode cJ_charAt 7 = .ok (.aload_n 0, 1) := by decide +kernel
theorem dJ_charAt_8 : decode cJ_charAt 8 = .ok (.getfield 9, 3) := by decide +kernel
theorem dJ_charAt_11 : decode cJ_charAt 11 = .ok (.iload_n 1, 1) := by decide +kernel
theorem dJ_charAt_12 : decode cJ_charAt 12 = .ok (.invokestatic 495, 3) := by decide +kernel
theorem dJ_charAt_15 : decode cJ_charAt 15 = .ok (.ireturn, 1) := by decide +kernel
theorem m_charAt (g : fb_G) (w : Nat) (hw : w < fb_nS) (i : Int32) (hi : ¬ (i < 0 ∨ fb_len.getD w 0 ≤ i.toNatClampNeg)) (u : fb_M) : fb_Runs g 3 64 0 0 fb_NT fb_NT yJ_charAt cJ_charAt 2 (some .char) [.ref (fb_K g w), .int i] u (some (.int ((fb_byt.getD w []).getD i.toNatClampNeg 0 &&& 255))) u := by
  refine fb_enter (by decide) (Nat.le_of_ble_eq_true rfl) ?_
  show fb_V g "java/lang/String" cJ_charAt 2 (some .char) "charAt" (fb_room 3 64 0 0) (fb_Qm g (some (.int ((fb_byt.getD w []).getD i.toNatClampNeg 0 &&& 255))) fb_NT u 0 0) 0 0 fb_NT u 0 [(0, .ref (fb_K g w)), (1, .int i)] []
  refine fb_aload_n (pc := 0) dJ_charAt_0 0 rfl ?_
  refine fb_cT0v (pc := 1) [] dJ_charAt_1 (m_isLatin1 g w hw u) ymJ_isLatin1 yiJ_isLatin1 hw (Or.inl (fb_inW2 124 rfl rfl)) rfl (Nat.le_of_ble_eq_true rfl) ⟨Nat.le_of_ble_eq_true rfl, Nat.le_of_ble_eq_true rfl⟩ ⟨Nat.le_of_ble_eq_true rfl, Nat.le_of_ble_eq_true rfl⟩ ?_
  refine fb_if_eq (pc := 4) (tgt := 16) (A := none) (B := some ()) (res := ()) (by decide) dJ_charAt_4 (by decide) (fun h => by cases h) (fun h => ?_)
  refine fb_aload_n (pc := 7) dJ_charAt_7 0 rfl ?_
  refine fb_strV (pc := 8) hw dJ_charAt_8 (fb_inW5 3 rfl rfl) ?_
  refine fb_iload_n (pc := 11) dJ_charAt_11 1 rfl ?_
  refine fb_cS0v (pc := 12) [.ref (fb_Kv g w), .int i] dJ_charAt_12 (m_lat g w hw i hi u) ymJ_lat ysJ_lat (Or.inl (fb_inW2 128 rfl rfl)) rfl (Nat.le_of_ble_eq_true rfl) ⟨Nat.le_of_ble_eq_true rfl, Nat.le_of_ble_eq_true rfl⟩ ⟨Nat.le_of_ble_eq_true rfl, Nat.le_of_ble_eq_true rfl⟩ ?_
  exact fb_zretR (pc := 15) (by rw [← fb_ch255]; exact pk_nc _) rfl dJ_charAt_15

section FBR
variable {g : fb_G} {own : String} {cc : ByteArray} {nL : Nat} {ret : Option FieldType} {nm : String} {R : Room} {Qf : fb_QT} {k ks n : Nat} {u : fb_M} {pc : Nat} {lv : List (Nat × Value)} {st : List Value}
theorem fb_iconst {v : Int32} {z : Int} (hd : decode cc pc = .ok (.iconst z, 1)) (hv : Int32.ofInt z = v) (kk : fb_V g own cc nL ret nm R Qf k ks n u (pc + 1) lv (.int v :: st)) : fb_V g own cc nL ret nm R Qf k ks n u pc lv st :=
  fun p l e s m args below meth c H locs ls hC hH hl => lv_iconst hC.1 hC.2.1 hd hv (kk p l e s m args below meth c H locs ls hC hH hl)
theorem fb_bipush {v : Int32} {z : Int} (hd : decode cc pc = .ok (.bipush z, 2)) (hv : (Int8.ofInt z).toInt32 = v) (kk : fb_V g own cc nL ret nm R Qf k ks n u (pc + 2) lv (.int v :: st)) : fb_V g own cc nL ret nm R Qf k ks n u pc lv st :=
  fun p l e s m args below meth c H locs ls hC hH hl => lv_bipush hC.1 hC.2.1 hd hv (kk p l e s m args below meth c H locs ls hC hH hl)
theorem fb_sipush {v : Int32} {z : Int} (hd : decode cc pc = .ok (.sipush z, 3)) (hv : (Int16.ofInt z).toInt32 = v) (kk : fb_V g own cc nL ret nm R Qf k ks n u (pc + 3) lv (.int v :: st)) : fb_V g own cc nL ret nm R Qf k ks n u pc lv st :=
  fun p l e s m args below meth c H locs ls hC hH hl => lv_sipush hC.1 hC.2.1 hd hv (kk p l e s m args below meth c H locs ls hC hH hl)
theorem fb_lconst {v : Int64} {z : Fin 2} (hd : decode cc pc = .ok (.lconst z, 1)) (hv : Int64.ofNat (z : Nat) = v) (kk : fb_V g own cc nL ret nm R Qf k ks n u (pc + 1) lv (.long v :: st)) : fb_V g own cc nL ret nm R Qf k ks n u pc lv st :=
  fun p l e s m args below meth c H locs ls hC hH hl => lv_lconst hC.1 hC.2.1 hd hv (kk p l e s m args below meth c H locs ls hC hH hl)
theorem fb_iload_n {x : Int32} {z : Fin 4} (hd : decode cc pc = .ok (.iload_n z, 1)) (q : Nat) (hq : lv[q]? = some ((z : Nat), .int x)) (kk : fb_V g own cc nL ret nm R Qf k ks n u (pc + 1) lv (.int x :: st)) : fb_V g own cc nL ret nm R Qf k ks n u pc lv st :=
  fun p l e s m args below meth c H locs ls hC hH hl => lv_iload_n hC.1 hC.2.1 hd rfl (lv_at hl q hq) (kk p l e s m args below meth c H locs ls hC hH hl)
theorem fb_iload {x : Int32} {z : Nat} (hd : decode cc pc = .ok (.iload z, 2)) (q : Nat) (hq : lv[q]? = some (z, .int x)) (kk : fb_V g own cc nL ret nm R Qf k ks n u (pc + 2) lv (.int x :: st)) : fb_V g own cc nL ret nm R Qf k ks n u pc lv st :=
  fun p l e s m args below meth c H locs ls hC hH hl => lv_iload hC.1 hC.2.1 hd (lv_at hl q hq) (kk p l e s m args below meth c H locs ls hC hH hl)
theorem fb_istore_n {x : Int32} {w : Fin 4} {z : Nat} {lv' : List (Nat × Value)} (hd : decode cc pc = .ok (.istore_n w, 1)) (hw : (w : Nat) = z) (hn : z < nL) (hq : (z, Value.int x) :: lv.filter (fun q => !(q.1 == z) && !(q.1 + 1 == z && q.2.category == 2)) = lv') (kk : fb_V g own cc nL ret nm R Qf k ks n u (pc + 1) lv' st) : fb_V g own cc nL ret nm R Qf k ks n u pc lv (.int x :: st) :=
  fun p l e s m args below meth c H locs ls hC hH hl => lv_istore_n hC.1 hC.2.1 hd hw hl hn hq fun ls' hl' => kk p l e s m args below meth c H locs ls' hC hH hl'
theorem fb_istore {x : Int32} {z : Nat} {lv' : List (Nat × Value)} (hd : decode cc pc = .ok (.istore z, 2)) (hn : z < nL) (hq : (z, Value.int x) :: lv.filter (fun q => !(q.1 == z) && !(q.1 + 1 == z && q.2.category == 2)) = lv') (kk : fb_V g own cc nL ret nm R Qf k ks n u (pc + 2) lv' st) : fb_V g own cc nL ret nm R Qf k ks n u pc lv (.int x :: st) :=
  fun p l e s m args below meth c H locs ls hC hH hl => lv_istore hC.1 hC.2.1 hd hl hn hq fun ls' hl' => kk p l e s m args below meth c H locs ls' hC hH hl'
theorem fb_lload_n {x : Int64} {z : Fin 4} (hd : decode cc pc = .ok (.lload_n z, 1)) (q : Nat) (hq : lv[q]? = some ((z : Nat), .long x)) (kk : fb_V g own cc nL ret nm R Qf k ks n u (pc + 1) lv (.long x :: st)) : fb_V g own cc nL ret nm R Qf k ks n u pc lv st :=
  fun p l e s m args below meth c H locs ls hC hH hl => lv_lload_n hC.1 hC.2.1 hd rfl (lv_at hl q hq) (kk p l e s m args below meth c H locs ls hC hH hl)
theorem fb_lload {x : Int64} {z : Nat} (hd : decode cc pc = .ok (.lload z, 2)) (q : Nat) (hq : lv[q]? = some (z, .long x)) (kk : fb_V g own cc nL ret nm R Qf k ks n u (pc + 2) lv (.long x :: st)) : fb_V g own cc nL ret nm R Qf k ks n u pc lv st :=
  fun p l e s m args below meth c H locs ls hC hH hl => lv_lload hC.1 hC.2.1 hd (lv_at hl q hq) (kk p l e s m args below meth c H locs ls hC hH hl)
theorem fb_lstore_n {x : Int64} {w : Fin 4} {z : Nat} {lv' : List (Nat × Value)} (hd : decode cc pc = .ok (.lstore_n w, 1)) (hw : (w : Nat) = z) (hn : z + 1 < nL) (hq : (z, Value.long x) :: lv.filter (fun q => !(q.1 == z) && (!(q.1 == z + 1) && !(q.1 + 1 == z && q.2.category == 2))) = lv') (kk : fb_V g own cc nL ret nm R Qf k ks n u (pc + 1) lv' st) : fb_V g own cc nL ret nm R Qf k ks n u pc lv (.long x :: st) :=
  fun p l e s m args below meth c H locs ls hC hH hl => lv_lstore_n hC.1 hC.2.1 hd hw hl hn hq fun ls' hl' => kk p l e s m args below meth c H locs ls' hC hH hl'
theorem fb_lstore {x : Int64} {z : Nat} {lv' : List (Nat × Value)} (hd : decode cc pc = .ok (.lstore z, 2)) (hn : z + 1 < nL) (hq : (z, Value.long x) :: lv.filter (fun q => !(q.1 == z) && (!(q.1 == z + 1) && !(q.1 + 1 == z && q.2.category == 2))) = lv') (kk : fb_V g own cc nL ret nm R Qf k ks n u (pc + 2) lv' st) : fb_V g own cc nL ret nm R Qf k ks n u pc lv (.long x :: st) :=
  fun p l e s m args below meth c H locs ls hC hH hl => lv_lstore hC.1 hC.2.1 hd hl hn hq fun ls' hl' => kk p l e s m args below meth c H locs ls' hC hH hl'
theorem fb_aload_n {x : Nat} {z : Fin 4} (hd : decode cc pc = .ok (.aload_n z, 1)) (q : Nat) (hq : lv[q]? = some ((z : Nat), .ref x)) (kk : fb_V g own cc nL ret nm R Qf k ks n u (pc + 1) lv (.ref x :: st)) : fb_V g own cc nL ret nm R Qf k ks n u pc lv st :=
  fun p l e s m args below meth c H locs ls hC hH hl => lv_aload_n hC.1 hC.2.1 hd rfl (lv_at hl q hq) (kk p l e s m args below meth c H locs ls hC hH hl)
theorem fb_aload {x : Nat} {z : Nat} (hd : decode cc pc = .ok (.aload z, 2)) (q : Nat) (hq : lv[q]? = some (z, .ref x)) (kk : fb_V g own cc nL ret nm R Qf k ks n u (pc + 2) lv (.ref x :: st)) : fb_V g own cc nL ret nm R Qf k ks n u pc lv st :=
  fun p l e s m args below meth c H locs ls hC hH hl => lv_aload hC.1 hC.2.1 hd (lv_at hl q hq) (kk p l e s m args below meth c H locs ls hC hH hl)
theorem fb_astore_n {x : Nat} {w : Fin 4} {z : Nat} {lv' : List (Nat × Value)} (hd : decode cc pc = .ok (.astore_n w, 1)) (hw : (w : Nat) = z) (hn : z < nL) (hq : (z, Value.ref x) :: lv.filter (fun q => !(q.1 == z) && !(q.1 + 1 == z && q.2.category == 2)) = lv') (kk : fb_V g own cc nL ret nm R Qf k ks n u (pc + 1) lv' st) : fb_V g own cc nL ret nm R Qf k ks n u pc lv (.ref x :: st) :=
  fun p l e s m args below meth c H locs ls hC hH hl => lv_astore_n hC.1 hC.2.1 hd hw hl hn hq fun ls' hl' => kk p l e s m args below meth c H locs ls' hC hH hl'
theorem fb_astore {x : Nat} {z : Nat} {lv' : List (Nat × Value)} (hd : decode cc pc = .ok (.astore z, 2)) (hn : z < nL) (hq : (z, Value.ref x) :: lv.filter (fun q => !(q.1 == z) && !(q.1 + 1 == z && q.2.category == 2)) = lv') (kk : fb_V g own cc nL ret nm R Qf k ks n u (pc + 2) lv' st) : fb_V g own cc nL ret nm R Qf k ks n u pc lv (.ref x :: st) :=
  fun p l e s m args below meth c H locs ls hC hH hl => lv_astore hC.1 hC.2.1 hd hl hn hq fun ls' hl' => kk p l e s m args below meth c H locs ls' hC hH hl'
theorem fb_iinc {x v : Int32} {z : Nat} {w : Int} {lv' : List (Nat × Value)} (hd : decode cc pc = .ok (.iinc z w, 3)) (q : Nat) (hg : lv[q]? = some (z, .int x)) (hv : Int32.ofInt w = v) (hn : z < nL) (hq : (z, Value.int (x + v)) :: lv.filter (fun q => !(q.1 == z) && !(q.1 + 1 == z && q.2.category == 2)) = lv') (kk : fb_V g own cc nL ret nm R Qf k ks n u (pc + 3) lv' st) : fb_V g own cc nL ret nm R Qf k ks n u pc lv st :=
  fun p l e s m args below meth c H locs ls hC hH hl => lv_iinc hC.1 hC.2.1 hd hl hg (by rw [hv]) hn hq fun ls' hl' => kk p l e s m args below meth c H locs ls' hC hH hl'
theorem fb_iadd {x y : Int32} (hd : decode cc pc = .ok (.iadd, 1)) (kk : fb_V g own cc nL ret nm R Qf k ks n u (pc + 1) lv (.int (x + y) :: st)) : fb_V g own cc nL ret nm R Qf k ks n u pc lv (.int y :: .int x :: st) :=
  fun p l e s m args below meth c H locs ls hC hH hl => lv_iadd hC.1 hC.2.1 hd (kk p l e s m args below meth c H locs ls hC hH hl)
theorem fb_isub {x y : Int32} (hd : decode cc pc = .ok (.isub, 1)) (kk : fb_V g own cc nL ret nm R Qf k ks n u (pc + 1) lv (.int (x - y) :: st)) : fb_V g own cc nL ret nm R Qf k ks n u pc lv (.int y :: .int x :: st) :=
  fun p l e s m args below meth c H locs ls hC hH hl => lv_isub hC.1 hC.2.1 hd (kk p l e s m args below meth c H locs ls hC hH hl)
theorem fb_imul {x y : Int32} (hd : decode cc pc = .ok (.imul, 1)) (kk : fb_V g own cc nL ret nm R Qf k ks n u (pc + 1) lv (.int (x * y) :: st)) : fb_V g own cc nL ret nm R Qf k ks n u pc lv (.int y :: .int x :: st) :=
  fun p l e s m args below meth c H locs ls hC hH hl => lv_imul hC.1 hC.2.1 hd (kk p l e s m args below meth c H locs ls hC hH hl)
theorem fb_iand {x y : Int32} (hd : decode cc pc = .ok (.iand, 1)) (kk : fb_V g own cc nL ret nm R Qf k ks n u (pc + 1) lv (.int (x &&& y) :: st)) : fb_V g own cc nL ret nm R Qf k ks n u pc lv (.int y :: .int x :: st) :=
  fun p l e s m args below meth c H locs ls hC hH hl => lv_iand hC.1 hC.2.1 hd (kk p l e s m args below meth c H locs ls hC hH hl)
theorem fb_ineg {x : Int32} (hd : decode cc pc = .ok (.ineg, 1)) (kk : fb_V g own cc nL ret nm R Qf k ks n u (pc + 1) lv (.int (-x) :: st)) : fb_V g own cc nL ret nm R Qf k ks n u pc lv (.int x :: st) :=
  fun p l e s m args below meth c H locs ls hC hH hl => lv_ineg hC.1 hC.2.1 hd (kk p l e s m args below meth c H locs ls hC hH hl)
theorem fb_land {x y : Int64} (hd : decode cc pc = .ok (.land, 1)) (kk : fb_V g own cc nL ret nm R Qf k ks n u (pc + 1) lv (.long (x &&& y) :: st)) : fb_V g own cc nL ret nm R Qf k ks n u pc lv (.long y :: .long x :: st) :=
  fun p l e s m args below meth c H locs ls hC hH hl => lv_land hC.1 hC.2.1 hd (kk p l e s m args below meth c H locs ls hC hH hl)
theorem fb_irem {x y : Int32} (hd : decode cc pc = .ok (.irem, 1)) (hne : ¬ y = 0) (kk : fb_V g own cc nL ret nm R Qf k ks n u (pc + 1) lv (.int (x - x / y * y) :: st)) : fb_V g own cc nL ret nm R Qf k ks n u pc lv (.int y :: .int x :: st) :=
  fun p l e s m args below meth c H locs ls hC hH hl => lv_irem hC.1 hC.2.1 hd hne (kk p l e s m args below meth c H locs ls hC hH hl)
theorem fb_lushr {x : Int64} {y : Int32} (hd : decode cc pc = .ok (.lushr, 1)) (kk : fb_V g own cc nL ret nm R Qf k ks n u (pc + 1) lv (.long (x.toUInt64 >>> (y.toInt64.toUInt64 &&& Int64.toUInt64 63)).toInt64 :: st)) : fb_V g own cc nL ret nm R Qf k ks n u pc lv (.int y :: .long x :: st) :=
  fun p l e s m args below meth c H locs ls hC hH hl => lv_lushr hC.1 hC.2.1 hd rfl (kk p l e s m args below meth c H locs ls hC hH hl)
theorem fb_i2l {x : Int32} (hd : decode cc pc = .ok (.i2l, 1)) (kk : fb_V g own cc nL ret nm R Qf k ks n u (pc + 1) lv (.long x.toInt64 :: st)) : fb_V g own cc nL ret nm R Qf k ks n u pc lv (.int x :: st) :=
  fun p l e s m args below meth c H locs ls hC hH hl => lv_i2l hC.1 hC.2.1 hd rfl (kk p l e s m args below meth c H locs ls hC hH hl)
theorem fb_l2i {x : Int64} (hd : decode cc pc = .ok (.l2i, 1)) (kk : fb_V g own cc nL ret nm R Qf k ks n u (pc + 1) lv (.int x.toInt32 :: st)) : fb_V g own cc nL ret nm R Qf k ks n u pc lv (.long x :: st) :=
  fun p l e s m args below meth c H locs ls hC hH hl => lv_l2i hC.1 hC.2.1 hd rfl (kk p l e s m args below meth c H locs ls hC hH hl)
theorem fb_i2c {x : Int32} (hd : decode cc pc = .ok (.i2c, 1)) (kk : fb_V g own cc nL ret nm R Qf k ks n u (pc + 1) lv (.int (x.toUInt32 % 65536).toInt32 :: st)) : fb_V g own cc nL ret nm R Qf k ks n u pc lv (.int x :: st) :=
  fun p l e s m args below meth c H locs ls hC hH hl => lv_i2c hC.1 hC.2.1 hd rfl (kk p l e s m args below meth c H locs ls hC hH hl)
theorem fb_lcmp {x y : Int64} (hd : decode cc pc = .ok (.lcmp, 1)) (kk : fb_V g own cc nL ret nm R Qf k ks n u (pc + 1) lv (.int (lg_cmp x y) :: st)) : fb_V g own cc nL ret nm R Qf k ks n u pc lv (.long y :: .long x :: st) :=
  fun p l e s m args below meth c H locs ls hC hH hl => W.lcmp hC.1 hC.2.1 hd (kk p l e s m args below meth c H locs ls hC hH hl)
theorem fb_dup {v : Value} (hd : decode cc pc = .ok (.dup, 1)) (hv : v.category = 1) (kk : fb_V g own cc nL ret nm R Qf k ks n u (pc + 1) lv (v :: v :: st)) : fb_V g own cc nL ret nm R Qf k ks n u pc lv (v :: st) :=
  fun p l e s m args below meth c H locs ls hC hH hl => lv_dup hC.1 hC.2.1 hd hv (kk p l e s m args below meth c H locs ls hC hH hl)
theorem fb_pop {v : Value} (hd : decode cc pc = .ok (.pop, 1)) (hv : v.category = 1) (kk : fb_V g own cc nL ret nm R Qf k ks n u (pc + 1) lv st) : fb_V g own cc nL ret nm R Qf k ks n u pc lv (v :: st) :=
  fun p l e s m args below meth c H locs ls hC hH hl => lv_pop hC.1 hC.2.1 hd hv (kk p l e s m args below meth c H locs ls hC hH hl)
theorem fb_ldc2 {z : Nat} {v : Int64} (hd : decode cc pc = .ok (.ldc2_w z, 3)) (hw : Cond.constantLong own z v ∈ fb_W) (kk : fb_V g own cc nL ret nm R Qf k ks n u (pc + 3) lv (.long v :: st)) : fb_V g own cc nL ret nm R Qf k ks n u pc lv st :=
  fun p l e s m args below meth c H locs ls hC hH hl => lv_ldc2 hC.1 hC.2.1 hC.2.2.2.2.2.2.1 (hC.2.2.2.2.2.1 _ hw) hd (kk p l e s m args below meth c H locs ls hC hH hl)
theorem fb_ldcI {z : Nat} {v : Int32} (hd : decode cc pc = .ok (.ldc z, 2)) (hw : Cond.constant own z v ∈ fb_W) (kk : fb_V g own cc nL ret nm R Qf k ks n u (pc + 2) lv (.int v :: st)) : fb_V g own cc nL ret nm R Qf k ks n u pc lv st :=
  fun p l e s m args below meth c H locs ls hC hH hl => lv_ldc hC.1 hC.2.1 hC.2.2.2.2.2.2.1 (hC.2.2.2.2.2.1 _ hw) hd (kk p l e s m args below meth c H locs ls hC hH hl)
theorem fb_ldcS {z i : Nat} {tx : String} (hd : decode cc pc = .ok (.ldc z, 2)) (hw : (own, z, tx, i) ∈ fb_SR) (kk : fb_V g own cc nL ret nm R Qf k ks n u (pc + 2) lv (.ref (fb_K g i) :: st)) : fb_V g own cc nL ret nm R Qf k ks n u pc lv st :=
  fun p l e s m args below meth c H locs ls hC hH hl => va_ldcS hC.1 hC.2.1 hC.2.2.2.2.2.2.1 (hC.2.2.2.2.2.2.2.2.2.2.2.1 _ hw) hd (kk p l e s m args below meth c H locs ls hC hH hl)
theorem fb_if_eq {ρ : Type} {A B : Option ρ} {res : ρ} {x : Int32} {off : Int} {tgt : Nat} (h : (if x = 0 then A else B) = some res) (hd : decode cc pc = .ok (.ifCond .eq off, 3)) (ht : (pc : Int) + off = (tgt : Int)) (kt : A = some res → fb_V g own cc nL ret nm R Qf k ks n u tgt lv st) (kf : B = some res → fb_V g own cc nL ret nm R Qf k ks n u (pc + 3) lv st) : fb_V g own cc nL ret nm R Qf k ks n u pc lv (.int x :: st) :=
  fun p l e s m args below meth c H locs ls hC hH hl => lv_if_eq hC.1 hC.2.1 hd ht (fun z => kt (by rw [if_pos z] at h; exact h) p l e s m args below meth c H locs ls hC hH hl) (fun z => kf (by rw [if_neg z] at h; exact h) p l e s m args below meth c H locs ls hC hH hl)
theorem fb_icmp_eq {ρ : Type} {A B : Option ρ} {res : ρ} {x y : Int32} {off : Int} {tgt : Nat} (h : (if x = y then A else B) = some res) (hd : decode cc pc = .ok (.if_icmp .eq off, 3)) (ht : (pc : Int) + off = (tgt : Int)) (kt : A = some res → fb_V g own cc nL ret nm R Qf k ks n u tgt lv st) (kf : B = some res → fb_V g own cc nL ret nm R Qf k ks n u (pc + 3) lv st) : fb_V g own cc nL ret nm R Qf k ks n u pc lv (.int y :: .int x :: st) :=
  fun p l e s m args below meth c H locs ls hC hH hl => lv_icmp_eq hC.1 hC.2.1 hd ht (fun z => kt (by rw [if_pos z] at h; exact h) p l e s m args below meth c H locs ls hC hH hl) (fun z => kf (by rw [if_neg z] at h; exact h) p l e s m args below meth c H locs ls hC hH hl)
theorem fb_if_ne {ρ : Type} {A B : Option ρ} {res : ρ} {x : Int32} {off : Int} {tgt : Nat} (h : (if x = 0 then A else B) = some res) (hd : decode cc pc = .ok (.ifCond .ne off, 3)) (ht : (pc : Int) + off = (tgt : Int)) (kt : B = some res → fb_V g own cc nL ret nm R Qf k ks n u tgt lv st) (kf : A = some res → fb_V g own cc nL ret nm R Qf k ks n u (pc + 3) lv st) : fb_V g own cc nL ret nm R Qf k ks n u pc lv (.int x :: st) :=
  fun p l e s m args below meth c H locs ls hC hH hl => lv_if_ne hC.1 hC.2.1 hd ht (fun z => kt (by rw [if_neg z] at h; exact h) p l e s m args below meth c H locs ls hC hH hl) (fun z => kf (by rw [if_pos z] at h; exact h) p l e s m args below meth c H locs ls hC hH hl)
theorem fb_icmp_ne {ρ : Type} {A B : Option ρ} {res : ρ} {x y : Int32} {off : Int} {tgt : Nat} (h : (if x = y then A else B) = some res) (hd : decode cc pc = .ok (.if_icmp .ne off, 3)) (ht : (pc : Int) + off = (tgt : Int)) (kt : B = some res → fb_V g own cc nL ret nm R Qf k ks n u tgt lv st) (kf : A = some res → fb_V g own cc nL ret nm R Qf k ks n u (pc + 3) lv st) : fb_V g own cc nL ret nm R Qf k ks n u pc lv (.int y :: .int x :: st) :=
  fun p l e s m args below meth c H locs ls hC hH hl => lv_icmp_ne hC.1 hC.2.1 hd ht (fun z => kt (by rw [if_neg z] at h; exact h) p l e s m args below meth c H locs ls hC hH hl) (fun z => kf (by rw [if_pos z] at h; exact h) p l e s m args below meth c H locs ls hC hH hl)
theorem fb_if_lt {ρ : Type} {A B : Option ρ} {res : ρ} {x : Int32} {off : Int} {tgt : Nat} (h : (if x < 0 then A else B) = some res) (hd : decode cc pc = .ok (.ifCond .lt off, 3)) (ht : (pc : Int) + off = (tgt : Int)) (kt : A = some res → fb_V g own cc nL ret nm R Qf k ks n u tgt lv st) (kf : B = some res → fb_V g own cc nL ret nm R Qf k ks n u (pc + 3) lv st) : fb_V g own cc nL ret nm R Qf k ks n u pc lv (.int x :: st) :=
  fun p l e s m args below meth c H locs ls hC hH hl => lv_if_lt hC.1 hC.2.1 hd ht (fun z => kt (by rw [if_pos z] at h; exact h) p l e s m args below meth c H locs ls hC hH hl) (fun z => kf (by rw [if_neg z] at h; exact h) p l e s m args below meth c H locs ls hC hH hl)
theorem fb_icmp_lt {ρ : Type} {A B : Option ρ} {res : ρ} {x y : Int32} {off : Int} {tgt : Nat} (h : (if x < y then A else B) = some res) (hd : decode cc pc = .ok (.if_icmp .lt off, 3)) (ht : (pc : Int) + off = (tgt : Int)) (kt : A = some res → fb_V g own cc nL ret nm R Qf k ks n u tgt lv st) (kf : B = some res → fb_V g own cc nL ret nm R Qf k ks n u (pc + 3) lv st) : fb_V g own cc nL ret nm R Qf k ks n u pc lv (.int y :: .int x :: st) :=
  fun p l e s m args below meth c H locs ls hC hH hl => lv_icmp_lt hC.1 hC.2.1 hd ht (fun z => kt (by rw [if_pos z] at h; exact h) p l e s m args below meth c H locs ls hC hH hl) (fun z => kf (by rw [if_neg z] at h; exact h) p l e s m args below meth c H locs ls hC hH hl)
theorem fb_if_ge {ρ : Type} {A B : Option ρ} {res : ρ} {x : Int32} {off : Int} {tgt : Nat} (h : (if 0 ≤ x then A else B) = some res) (hd : decode cc pc = .ok (.ifCond .ge off, 3)) (ht : (pc : Int) + off = (tgt : Int)) (kt : A = some res → fb_V g own cc nL ret nm R Qf k ks n u tgt lv st) (kf : B = some res → fb_V g own cc nL ret nm R Qf k ks n u (pc + 3) lv st) : fb_V g own cc nL ret nm R Qf k ks n u pc lv (.int x :: st) :=
  fun p l e s m args below meth c H locs ls hC hH hl => lv_if_ge hC.1 hC.2.1 hd ht (fun z => kt (by rw [if_pos z] at h; exact h) p l e s m args below meth c H locs ls hC hH hl) (fun z => kf (by rw [if_neg z] at h; exact h) p l e s m args below meth c H locs ls hC hH hl)
theorem fb_icmp_ge {ρ : Type} {A B : Option ρ} {res : ρ} {x y : Int32} {off : Int} {tgt : Nat} (h : (if y ≤ x then A else B) = some res) (hd : decode cc pc = .ok (.if_icmp .ge off, 3)) (ht : (pc : Int) + off = (tgt : Int)) (kt : A = some res → fb_V g own cc nL ret nm R Qf k ks n u tgt lv st) (kf : B = some res → fb_V g own cc nL ret nm R Qf k ks n u (pc + 3) lv st) : fb_V g own cc nL ret nm R Qf k ks n u pc lv (.int y :: .int x :: st) :=
  fun p l e s m args below meth c H locs ls hC hH hl => lv_icmp_ge hC.1 hC.2.1 hd ht (fun z => kt (by rw [if_pos z] at h; exact h) p l e s m args below meth c H locs ls hC hH hl) (fun z => kf (by rw [if_neg z] at h; exact h) p l e s m args below meth c H locs ls hC hH hl)
theorem fb_if_gt {ρ : Type} {A B : Option ρ} {res : ρ} {x : Int32} {off : Int} {tgt : Nat} (h : (if 0 < x then A else B) = some res) (hd : decode cc pc = .ok (.ifCond .gt off, 3)) (ht : (pc : Int) + off = (tgt : Int)) (kt : A = some res → fb_V g own cc nL ret nm R Qf k ks n u tgt lv st) (kf : B = some res → fb_V g own cc nL ret nm R Qf k ks n u (pc + 3) lv st) : fb_V g own cc nL ret nm R Qf k ks n u pc lv (.int x :: st) :=
  fun p l e s m args below meth c H locs ls hC hH hl => lv_if_gt hC.1 hC.2.1 hd ht (fun z => kt (by rw [if_pos z] at h; exact h) p l e s m args below meth c H locs ls hC hH hl) (fun z => kf (by rw [if_neg z] at h; exact h) p l e s m args below meth c H locs ls hC hH hl)
theorem fb_icmp_gt {ρ : Type} {A B : Option ρ} {res : ρ} {x y : Int32} {off : Int} {tgt : Nat} (h : (if y < x then A else B) = some res) (hd : decode cc pc = .ok (.if_icmp .gt off, 3)) (ht : (pc : Int) + off = (tgt : Int)) (kt : A = some res → fb_V g own cc nL ret nm R Qf k ks n u tgt lv st) (kf : B = some res → fb_V g own cc nL ret nm R Qf k ks n u (pc + 3) lv st) : fb_V g own cc nL ret nm R Qf k ks n u pc lv (.int y :: .int x :: st) :=
  fun p l e s m args below meth c H locs ls hC hH hl => lv_icmp_gt hC.1 hC.2.1 hd ht (fun z => kt (by rw [if_pos z] at h; exact h) p l e s m args below meth c H locs ls hC hH hl) (fun z => kf (by rw [if_neg z] at h; exact h) p l e s m args below meth c H locs ls hC hH hl)
theorem fb_if_le {ρ : Type} {A B : Option ρ} {res : ρ} {x : Int32} {off : Int} {tgt : Nat} (h : (if x ≤ 0 then A else B) = some res) (hd : decode cc pc = .ok (.ifCond .le off, 3)) (ht : (pc : Int) + off = (tgt : Int)) (kt : A = some res → fb_V g own cc nL ret nm R Qf k ks n u tgt lv st) (kf : B = some res → fb_V g own cc nL ret nm R Qf k ks n u (pc + 3) lv st) : fb_V g own cc nL ret nm R Qf k ks n u pc lv (.int x :: st) :=
  fun p l e s m args below meth c H locs ls hC hH hl => lv_if_le hC.1 hC.2.1 hd ht (fun z => kt (by rw [if_pos z] at h; exact h) p l e s m args below meth c H locs ls hC hH hl) (fun z => kf (by rw [if_neg z] at h; exact h) p l e s m args below meth c H locs ls hC hH hl)
theorem fb_icmp_le {ρ : Type} {A B : Option ρ} {res : ρ} {x y : Int32} {off : Int} {tgt : Nat} (h : (if x ≤ y then A else B) = some res) (hd : decode cc pc = .ok (.if_icmp .le off, 3)) (ht : (pc : Int) + off = (tgt : Int)) (kt : A = some res → fb_V g own cc nL ret nm R Qf k ks n u tgt lv st) (kf : B = some res → fb_V g own cc nL ret nm R Qf k ks n u (pc + 3) lv st) : fb_V g own cc nL ret nm R Qf k ks n u pc lv (.int y :: .int x :: st) :=
  fun p l e s m args below meth c H locs ls hC hH hl => lv_icmp_le hC.1 hC.2.1 hd ht (fun z => kt (by rw [if_pos z] at h; exact h) p l e s m args below meth c H locs ls hC hH hl) (fun z => kf (by rw [if_neg z] at h; exact h) p l e s m args below meth c H locs ls hC hH hl)
theorem fb_goto {off : Int} {tgt : Nat} (hd : decode cc pc = .ok (.goto off, 3)) (ht : (pc : Int) + off = (tgt : Int)) (kk : fb_V g own cc nL ret nm R Qf k ks n u tgt lv st) : fb_V g own cc nL ret nm R Qf k ks n u pc lv st :=
  fun p l e s m args below meth c H locs ls hC hH hl => lv_goto hC.1 hC.2.1 hd ht (kk p l e s m args below meth c H locs ls hC hH hl)
theorem fb_tabIn {x v : Int32} {dflt lo hi off : Int} {offs : Array Int} {len tgt : Nat} (hx : x = v) (hd : decode cc pc = .ok (.tableswitch dflt lo hi offs, len)) (h1 : ¬ v.toInt < lo) (h2 : ¬ hi < v.toInt) (ho : offs[(v.toInt - lo).toNat]? = some off) (ht : (pc : Int) + off = (tgt : Int)) (kk : fb_V g own cc nL ret nm R Qf k ks n u tgt lv st) : fb_V g own cc nL ret nm R Qf k ks n u pc lv (.int x :: st) := by
  subst hx
  exact fun p l e s m args below meth c H locs ls hC hH hl => lv_tableIn hC.1 hC.2.1 hd h1 h2 ho ht (kk p l e s m args below meth c H locs ls hC hH hl)
theorem fb_tabOut {x : Int32} {dflt lo hi : Int} {offs : Array Int} {len tgt : Nat} (hx : x.toInt < lo ∨ hi < x.toInt) (hd : decode cc pc = .ok (.tableswitch dflt lo hi offs, len)) (ht : (pc : Int) + dflt = (tgt : Int)) (kk : fb_V g own cc nL ret nm R Qf k ks n u tgt lv st) : fb_V g own cc nL ret nm R Qf k ks n u pc lv (.int x :: st) :=
  fun p l e s m args below meth c H locs ls hC hH hl => lv_tableOut hC.1 hC.2.1 hd hx ht (kk p l e s m args below meth c H locs ls hC hH hl)
theorem fb_sub {lv' : List (Nat × Value)} (is : List Nat) (hq : lv_pick lv is = lv') (kk : fb_V g own cc nL ret nm R Qf k ks n u pc lv' st) : fb_V g own cc nL ret nm R Qf k ks n u pc lv st :=
  fun p l e s m args below meth c H locs ls hC hH hl => kk p l e s m args below meth c H locs ls hC hH (lv_sub hl is hq)
theorem fb_iretM {v : Int32} {res : Int32 × fb_M} (h : some (v, u) = some res) (hd : decode cc pc = .ok (.ireturn, 1)) : fb_V g own cc nL (some .int) nm R (fb_Qm g (some (.int res.1)) n res.2 k ks) k ks n u pc lv [.int v] := by
  cases h
  exact fun p l e s m args below meth c H locs ls hC hH hl => W.iret (v := v) hC.1 hC.2.1 hC.2.2.2.1 (fun t ht hW => ⟨rfl, by rw [ht]; exact hH.1, by rw [ht]; exact hH.2.2, hH.2.1.F ht⟩) hH.2.1.2.2 hd hC.2.2.2.2.1
theorem fb_iretR {v : Int32} {res : Int32} (h : some v = some res) (hd : decode cc pc = .ok (.ireturn, 1)) : fb_V g own cc nL (some .int) nm R (fb_Qm g (some (.int res)) n u k ks) k ks n u pc lv [.int v] := by
  cases h
  exact fun p l e s m args below meth c H locs ls hC hH hl => W.iret (v := v) hC.1 hC.2.1 hC.2.2.2.1 (fun t ht hW => ⟨rfl, by rw [ht]; exact hH.1, by rw [ht]; exact hH.2.2, hH.2.1.F ht⟩) hH.2.1.2.2 hd hC.2.2.2.2.1
theorem fb_zretM {v : Int32} {ty : FieldType} {res : Int32 × fb_M} (hn : narrow ty (.int v) = .int v) (h : some (v, u) = some res) (hd : decode cc pc = .ok (.ireturn, 1)) : fb_V g own cc nL (some ty) nm R (fb_Qm g (some (.int res.1)) n res.2 k ks) k ks n u pc lv [.int v] := by
  cases h
  exact fun p l e s m args below meth c H locs ls hC hH hl => W.zret (v := v) hC.1 hC.2.1 hC.2.2.2.1 hn (fun t ht hW => ⟨rfl, by rw [ht]; exact hH.1, by rw [ht]; exact hH.2.2, hH.2.1.F ht⟩) hH.2.1.2.2 hd hC.2.2.2.2.1
theorem fb_zretR {v : Int32} {ty : FieldType} {res : Int32} (hn : narrow ty (.int v) = .int v) (h : some v = some res) (hd : decode cc pc = .ok (.ireturn, 1)) : fb_V g own cc nL (some ty) nm R (fb_Qm g (some (.int res)) n u k ks) k ks n u pc lv [.int v] := by
  cases h
  exact fun p l e s m args below meth c H locs ls hC hH hl => W.zret (v := v) hC.1 hC.2.1 hC.2.2.2.1 hn (fun t ht hW => ⟨rfl, by rw [ht]; exact hH.1, by rw [ht]; exact hH.2.2, hH.2.1.F ht⟩) hH.2.1.2.2 hd hC.2.2.2.2.1
theorem fb_lretM {v : Int64} {res : Int64 × fb_M} (h : some (v, u) = some res) (hd : decode cc pc = .ok (.lreturn, 1)) : fb_V g own cc nL (some .long) nm R (fb_Qm g (some (.long res.1)) n res.2 k ks) k ks n u pc lv [.long v] := by
  cases h
  exact fun p l e s m args below meth c H locs ls hC hH hl => W.lret (v := v) hC.1 hC.2.1 hC.2.2.2.1 (fun t ht hW => ⟨rfl, by rw [ht]; exact hH.1, by rw [ht]; exact hH.2.2, hH.2.1.F ht⟩) hH.2.1.2.2 hd hC.2.2.2.2.1
theorem fb_lretR {v : Int64} {res : Int64} (h : some v = some res) (hd : decode cc pc = .ok (.lreturn, 1)) : fb_V g own cc nL (some .long) nm R (fb_Qm g (some (.long res)) n u k ks) k ks n u pc lv [.long v] := by
  cases h
  exact fun p l e s m args below meth c H locs ls hC hH hl => W.lret (v := v) hC.1 hC.2.1 hC.2.2.2.1 (fun t ht hW => ⟨rfl, by rw [ht]; exact hH.1, by rw [ht]; exact hH.2.2, hH.2.1.F ht⟩) hH.2.1.2.2 hd hC.2.2.2.2.1
theorem fb_aretM {v : Nat} {C : String} {res : Nat × fb_M} (h : some (v, u) = some res) (hd : decode cc pc = .ok (.areturn, 1)) : fb_V g own cc nL (some (.object C)) nm R (fb_Qm g (some (.ref (fb_b g + res.1))) n res.2 k ks) k ks n u pc lv [.ref (fb_b g + v)] := by
  cases h
  exact fun p l e s m args below meth c H locs ls hC hH hl => W.aret (v := .ref (fb_b g + v)) hC.1 hC.2.1 hC.2.2.2.1 (Or.inl ⟨_, rfl⟩) (Or.inr ⟨_, rfl⟩) (fun t ht hW => ⟨rfl, by rw [ht]; exact hH.1, by rw [ht]; exact hH.2.2, hH.2.1.F ht⟩) hH.2.1.2.2 hd hC.2.2.2.2.1
theorem fb_aretR {v : Nat} {C : String} {res : Nat} (h : some v = some res) (hd : decode cc pc = .ok (.areturn, 1)) : fb_V g own cc nL (some (.object C)) nm R (fb_Qm g (some (.ref (fb_b g + res))) n u k ks) k ks n u pc lv [.ref (fb_b g + v)] := by
  cases h
  exact fun p l e s m args below meth c H locs ls hC hH hl => W.aret (v := .ref (fb_b g + v)) hC.1 hC.2.1 hC.2.2.2.1 (Or.inl ⟨_, rfl⟩) (Or.inr ⟨_, rfl⟩) (fun t ht hW => ⟨rfl, by rw [ht]; exact hH.1, by rw [ht]; exact hH.2.2, hH.2.1.F ht⟩) hH.2.1.2.2 hd hC.2.2.2.2.1
theorem fb_sretM {v : Nat} {C : String} {res : Nat × fb_M} (h : some (v, u) = some res) (hd : decode cc pc = .ok (.areturn, 1)) : fb_V g own cc nL (some (.object C)) nm R (fb_Qm g (some (.ref (fb_K g res.1))) n res.2 k ks) k ks n u pc lv [.ref (fb_K g v)] := by
  cases h
  exact fun p l e s m args below meth c H locs ls hC hH hl => W.aret (v := .ref (fb_K g v)) hC.1 hC.2.1 hC.2.2.2.1 (Or.inl ⟨_, rfl⟩) (Or.inr ⟨_, rfl⟩) (fun t ht hW => ⟨rfl, by rw [ht]; exact hH.1, by rw [ht]; exact hH.2.2, hH.2.1.F ht⟩) hH.2.1.2.2 hd hC.2.2.2.2.1
theorem fb_sretR {v : Nat} {C : String} {res : Nat} (h : some v = some res) (hd : decode cc pc = .ok (.areturn, 1)) : fb_V g own cc nL (some (.object C)) nm R (fb_Qm g (some (.ref (fb_K g res))) n u k ks) k ks n u pc lv [.ref (fb_K g v)] := by
  cases h
  exact fun p l e s m args below meth c H locs ls hC hH hl => W.aret (v := .ref (fb_K g v)) hC.1 hC.2.1 hC.2.2.2.1 (Or.inl ⟨_, rfl⟩) (Or.inr ⟨_, rfl⟩) (fun t ht hW => ⟨rfl, by rw [ht]; exact hH.1, by rw [ht]; exact hH.2.2, hH.2.1.F ht⟩) hH.2.1.2.2 hd hC.2.2.2.2.1
theorem fb_vretM {res : fb_M} (h : some u = some res) (hd : decode cc pc = .ok (.return_, 1)) : fb_V g own cc nL none nm R (fb_Qm g none n res k ks) k ks n u pc lv [] := by
  cases h
  exact fun p l e s m args below meth c H locs ls hC hH hl => W.vret hC.1 hC.2.1 hC.2.2.2.1 (fun t ht hW => ⟨rfl, by rw [ht]; exact hH.1, by rw [ht]; exact hH.2.2, hH.2.1.F ht⟩) hH.2.1.2.2 hd hC.2.2.2.2.1
def fb_Lk (own : String) (idx ci j N : Nat) : Prop := ∃ (C : String) (T : u_T), vwCl[ci]? = some (C, T, N) ∧ j < N ∧ ci < 100 ∧ (∀ w ∈ u_ws C T N, w ∈ fb_W) ∧ (Cond.fieldLink own idx (T j).1 (T j).2.1 (T j).2.2.1 ∈ fb_W ∨ ∃ host, Cond.fieldLinkNest own idx (T j).1 (T j).2.1 (T j).2.2.1 host ∈ fb_NW)
def fb_Ly (ci j N : Nat) (ty : FieldType) (fin : Bool) (decl : String) : Prop := ∃ (C : String) (T : u_T) (ty0 : Nat → FieldType), vwCl[ci]? = some (C, T, N) ∧ (∀ k, k < N → parseFieldDescriptor (T k).2.2.1 = some (ty0 k)) ∧ (∀ a, a < N → ∀ b, b < N → a ≠ b → (T a).2.1 ≠ (T b).2.1) ∧ parseFieldDescriptor (T j).2.2.1 = some ty ∧ (T j).2.2.2 = fin ∧ (T j).1 = decl
theorem fb_fvs {f : Nat → Value} {N j : Nat} (h : j < N) : ((List.range N).map f)[j]? = some (f j) := by simp [h]
theorem fb_fs_set {f f' : Nat → Value} {N j : Nat} {v : Value} (hj : f' j = v) (ho : ∀ i, i ≠ j → f' i = f i) : ((List.range N).map f).set j v = (List.range N).map f' := by
  apply List.ext_getElem?
  intro i
  by_cases hi : i < N
  · rw [fb_fvs hi, List.getElem?_set]
    by_cases hji : j = i
    · subst hji
      simp [hi, hj]
    · rw [if_neg hji, fb_fvs hi, ho i (fun q => hji q.symm)]
  · rw [List.getElem?_eq_none (by simp; omega), List.getElem?_eq_none (by simp; omega)]
theorem fb_getI {idx ci j N a : Nat} (hd : decode cc pc = .ok (.getfield idx, 3)) (hL : fb_Lk own idx ci j N) (hn : a < n) (ho : fb_sh a = (ci, N)) (hk : fb_fk ci j = 0) (kk : fb_V g own cc nL ret nm R Qf k ks n u (pc + 3) lv (.int (fb_I u a j) :: st)) : fb_V g own cc nL ret nm R Qf k ks n u pc lv (.ref (fb_b g + a) :: st) := by
  obtain ⟨C, T, h1, h2, h3, h4, h5⟩ := hL
  intro p l e s m args below meth c H locs ls hC hH hl
  have he := fb_cs_at g u hn
  rw [fb_cell_o g u ho h3] at he
  have hv : ((List.range N).map (fb_fv g u a ci))[j]? = some (.int (fb_I u a j)) := by rw [fb_fvs h2]; simp [fb_fv, hk]
  rcases h5 with h5 | ⟨host, h5⟩
  · exact va_get hC.1 hC.2.1 hC.2.2.2.2.2.1 h4 hC.2.2.2.2.2.2.1 hC.2.2.2.2.2.2.2.2.1 hH.1 a he h1 j h2 (hC.2.2.2.2.2.1 _ h5) (fun _ h => h) hv hd (kk p l e s m args below meth c H locs ls hC hH hl)
  · exact va_getN (host := host) hC.1 hC.2.1 hC.2.2.2.2.2.1 h4 hC.2.2.2.2.2.2.1 hC.2.2.2.2.2.2.2.2.1 hH.1 a he h1 j h2 (va_Nw.use rfl (hC.2.2.2.2.2.2.2.2.2.1 _ h5)) (fun _ h => h) hv hd (kk p l e s m args below meth c H locs ls hC hH hl)
theorem fb_getR {idx ci j N a q : Nat} (hd : decode cc pc = .ok (.getfield idx, 3)) (hL : fb_Lk own idx ci j N) (hn : a < n) (ho : fb_sh a = (ci, N)) (hk : ¬ fb_fk ci j = 0) (hr : fb_R u a j = some q) (kk : fb_V g own cc nL ret nm R Qf k ks n u (pc + 3) lv (.ref (fb_b g + q) :: st)) : fb_V g own cc nL ret nm R Qf k ks n u pc lv (.ref (fb_b g + a) :: st) := by
  obtain ⟨C, T, h1, h2, h3, h4, h5⟩ := hL
  intro p l e s m args below meth c H locs ls hC hH hl
  have he := fb_cs_at g u hn
  rw [fb_cell_o g u ho h3] at he
  have hv : ((List.range N).map (fb_fv g u a ci))[j]? = some (.ref (fb_b g + q)) := by rw [fb_fvs h2]; simp [fb_fv, hk, hr, fb_rv, va_rf]
  rcases h5 with h5 | ⟨host, h5⟩
  · exact va_get hC.1 hC.2.1 hC.2.2.2.2.2.1 h4 hC.2.2.2.2.2.2.1 hC.2.2.2.2.2.2.2.2.1 hH.1 a he h1 j h2 (hC.2.2.2.2.2.1 _ h5) (fun _ h => h) hv hd (kk p l e s m args below meth c H locs ls hC hH hl)
  · exact va_getN (host := host) hC.1 hC.2.1 hC.2.2.2.2.2.1 h4 hC.2.2.2.2.2.2.1 hC.2.2.2.2.2.2.2.2.1 hH.1 a he h1 j h2 (va_Nw.use rfl (hC.2.2.2.2.2.2.2.2.2.1 _ h5)) (fun _ h => h) hv hd (kk p l e s m args below meth c H locs ls hC hH hl)
theorem fb_Hp_set {g : fb_G} {n : Nat} {u u' : fb_M} {s : State} {H H' : Heap} {locs : List Loc} {a j : Nat} (hH : fb_Hp g n u s H locs) (hn : a < n) (ho : ∀ i, i ≠ a → fb_cell g u' i = fb_cell g u i) (hat : va_at (fb_D g) vwCl (fb_b g + a, fb_cell g u' a) H') (hz : H'.size = H.size) (oq : ∀ q : Nat, q ≠ fb_b g + a → H'[q]? = H[q]?) : fb_Hp g n u' s H' (locs ++ [⟨fb_b g + a, j⟩]) := by
  refine ⟨?_, hH.2.1.put hz oq (Nat.le_add_right _ _), fun hlt => hz.trans (hH.2.2 hlt)⟩
  have h1 := hH.1.set (fb_D_cs g n u) (fb_cs_at g u hn) hat oq
  rw [fb_cs_set g rfl ho] at h1
  exact h1
def fb_Lf (own : String) (idx ci j N : Nat) : Prop := ∃ (C : String) (T : u_T), vwCl[ci]? = some (C, T, N) ∧ j < N ∧ ci < 100 ∧ (∀ w ∈ u_ws C T N, w ∈ fb_W) ∧ Cond.fieldLink own idx (T j).1 (T j).2.1 (T j).2.2.1 ∈ fb_W
theorem fb_putV {idx ci j N a : Nat} {v : Value} {u' : fb_M} {ty : FieldType} {decl : String} (hd : decode cc pc = .ok (.putfield idx, 3)) (hL : fb_Lk own idx ci j N) (hY : fb_Ly ci j N ty false decl) (hn : a < n) (ho : fb_sh a = (ci, N)) (hnw : narrow ty v = v) (hft : fits ty v = true) (hv : fb_fv g u' a ci j = v) (hvo : ∀ i, i ≠ j → fb_fv g u' a ci i = fb_fv g u a ci i) (hc : ∀ i, i ≠ a → fb_cell g u' i = fb_cell g u i) (kk : fb_V g own cc nL ret nm R Qf k ks n u' (pc + 3) lv st) : fb_V g own cc nL ret nm R Qf k ks n u pc lv (v :: .ref (fb_b g + a) :: st) := by
  obtain ⟨C, T, h1, h2, h3, h4, h5⟩ := hL
  obtain ⟨C', T', ty0, g1, g2, g3, g4, g5, g6⟩ := hY
  have q0 := Option.some.inj (h1.symm.trans g1)
  simp only [Prod.mk.injEq] at q0
  obtain ⟨rfl, rfl, -⟩ := q0
  intro p l e s m args below meth c H locs ls hC hH hl
  have hC0 := hC
  obtain ⟨hx, hb, hml, hr, hlk, hts, hown, hmn, hK, hG⟩ := hC
  have he := fb_cs_at g u hn
  rw [fb_cell_o g u ho h3] at he
  have hap := va_apart (own := own) hts h4 ty0 g2 g3 hK h1
  obtain ⟨r0, h6, cell, q1, q2, q3, q4⟩ := hH.1 a _ he
  obtain rfl : r0 = (C, T, N) := Option.some.inj (h6.symm.trans h1)
  obtain ⟨hS, hfc, kC, hkC, hkind⟩ := hK.1 ci _ h1
  obtain ⟨cf, kf, fi, f, hi, hsl⟩ := hS j h2
  have hlay := hts _ (h4 _ (u_in_lay h2))
  unfold u_lay at hlay
  have hst := (u_facts hfc hkC (u_lays hts h4 h2) hi).1
  have e0 : ((List.range N).map (fb_fv g u a ci)).set j v = (List.range N).map (fb_fv g u' a ci) := fb_fs_set hv hvo
  have hlen : j < ((List.range N).map (fb_fv g u a ci)).length := by simp; exact h2
  have hend : ∀ H' : Heap, H'[fb_b g + a]? = some (cell.setSlot f.slot v) → H'.size = H.size → (∀ q, q ≠ fb_b g + a → H'[q]? = H[q]?) → W p l e R s m args below meth c H' (locs ++ [⟨fb_b g + a, f.slot⟩]) k ks (Qf s args below) (F0 m (pc + 3) ls st) := by
    intro H' e1 e2 e3
    refine kk p l e s m args below meth c H' _ ls hC0 (fb_Hp_set hH hn hc ?_ e2 e3) hl
    rw [fb_cell_o g u' ho h3, ← e0]
    rw [hsl] at e1
    exact ⟨_, h1, t_OB.to (V := updV (vp_V ((List.range N).map (fb_fv g u a ci))) j v) ⟨_, e1, q2, q3, t_set q4 hap h2 v⟩ (fun i _ => vp_updV_set hlen v i)⟩
  rw [if_neg (by rw [g5]; decide)] at hlay
  have hsd := u_store hfc hkC hkind hlay hi g4 hnw hft
  rcases h5 with h5 | ⟨host, h5⟩
  · exact W.putK hx hb (f := f) ⟨hown, hts _ h5, ⟨_, _, _, hi⟩, hst⟩ (by rw [q2]; exact hsd) q1 q3 (by rw [hsl]; exact k2_hasslot (q4 j h2)) rfl rfl hd hend
  · exact va_WputK hx hb hown (va_Nw.use rfl (hG.1 _ h5)) hi hst (by rw [q2]; exact hsd) q1 q3 (by rw [hsl]; exact k2_hasslot (q4 j h2)) rfl rfl hd hend
theorem fb_putF {idx ci j N a : Nat} {v : Value} {u' : fb_M} {ty : FieldType} {decl : String} (hd : decode cc pc = .ok (.putfield idx, 3)) (hL : fb_Lf own idx ci j N) (hY : fb_Ly ci j N ty true decl) (hnm : nm = "<init>") (hdc : decl = own) (hn : a < n) (ho : fb_sh a = (ci, N)) (hnw : narrow ty v = v) (hft : fits ty v = true) (hv : fb_fv g u' a ci j = v) (hvo : ∀ i, i ≠ j → fb_fv g u' a ci i = fb_fv g u a ci i) (hc : ∀ i, i ≠ a → fb_cell g u' i = fb_cell g u i) (kk : fb_V g own cc nL ret nm R Qf k ks n u' (pc + 3) lv st) : fb_V g own cc nL ret nm R Qf k ks n u pc lv (v :: .ref (fb_b g + a) :: st) := by
  obtain ⟨C, T, h1, h2, h3, h4, h5⟩ := hL
  obtain ⟨C', T', ty0, g1, g2, g3, g4, g5, g6⟩ := hY
  have q0 := Option.some.inj (h1.symm.trans g1)
  simp only [Prod.mk.injEq] at q0
  obtain ⟨rfl, rfl, -⟩ := q0
  intro p l e s m args below meth c H locs ls hC hH hl
  have hC0 := hC
  obtain ⟨hx, hb, hml, hr, hlk, hts, hown, hmn, hK, hG⟩ := hC
  have he := fb_cs_at g u hn
  rw [fb_cell_o g u ho h3] at he
  have hap := va_apart (own := own) hts h4 ty0 g2 g3 hK h1
  obtain ⟨r0, h6, cell, q1, q2, q3, q4⟩ := hH.1 a _ he
  obtain rfl : r0 = (C, T, N) := Option.some.inj (h6.symm.trans h1)
  obtain ⟨hS, hfc, kC, hkC, hkind⟩ := hK.1 ci _ h1
  obtain ⟨cf, kf, fi, f, hi, hsl⟩ := hS j h2
  have hlay := hts _ (h4 _ (u_in_lay h2))
  unfold u_lay at hlay
  have hst := (u_facts hfc hkC (u_lays hts h4 h2) hi).1
  have e0 : ((List.range N).map (fb_fv g u a ci)).set j v = (List.range N).map (fb_fv g u' a ci) := fb_fs_set hv hvo
  have hlen : j < ((List.range N).map (fb_fv g u a ci)).length := by simp; exact h2
  have hend : ∀ H' : Heap, H'[fb_b g + a]? = some (cell.setSlot f.slot v) → H'.size = H.size → (∀ q, q ≠ fb_b g + a → H'[q]? = H[q]?) → W p l e R s m args below meth c H' (locs ++ [⟨fb_b g + a, f.slot⟩]) k ks (Qf s args below) (F0 m (pc + 3) ls st) := by
    intro H' e1 e2 e3
    refine kk p l e s m args below meth c H' _ ls hC0 (fb_Hp_set hH hn hc ?_ e2 e3) hl
    rw [fb_cell_o g u' ho h3, ← e0]
    rw [hsl] at e1
    exact ⟨_, h1, t_OB.to (V := updV (vp_V ((List.range N).map (fb_fv g u a ci))) j v) ⟨_, e1, q2, q3, t_set q4 hap h2 v⟩ (fun i _ => vp_updV_set hlen v i)⟩
  rw [if_pos g5] at hlay
  have hcf : m.cls = cf := by
    obtain ⟨_, _, c', _, _, _, -, -, hf', -, -, -, hown2, -⟩ := Cond.laysFinal_spec hlay
    have e1 : c' = cf := by have := hi.symm.trans hf'; simp at this; exact this.1.symm
    rw [g6, hdc] at hown2
    rw [← e1]; exact Option.some.inj (hown.symm.trans hown2)
  have hsd := u_fits hfc hkC hkind (Or.inr hlay) hi g4 hnw hft
  exact W.putFinK hx hb hown (hts _ h5) hi hst hcf (hmn hnm) (by rw [q2]; exact hsd) q1 q3 (by rw [hsl]; exact k2_hasslot (q4 j h2)) rfl rfl hd hend

theorem fb_putI {idx ci j N a : Nat} {x : Int32} {ty : FieldType} {decl : String} (hd : decode cc pc = .ok (.putfield idx, 3)) (hL : fb_Lk own idx ci j N) (hY : fb_Ly ci j N ty false decl) (hn : a < n) (ho : fb_sh a = (ci, N)) (hk : fb_fk ci j = 0) (hnw : narrow ty (.int x) = .int x) (hft : fits ty (.int x) = true) (kk : fb_V g own cc nL ret nm R Qf k ks n (fb_wI u a j x) (pc + 3) lv st) : fb_V g own cc nL ret nm R Qf k ks n u pc lv (.int x :: .ref (fb_b g + a) :: st) :=
  fb_putV hd hL hY hn ho hnw hft (by simp [fb_fv, hk, fb_I, fb_wI, fb_up]) (fun i hi => by simp [fb_fv, fb_I, fb_wI, fb_up, hi, fb_R]) (fun i hi => fb_cell_wI g u x hi) kk
theorem fb_putR {idx ci j N a q : Nat} {C : String} {ty : FieldType} {decl : String} (hd : decode cc pc = .ok (.putfield idx, 3)) (hL : fb_Lk own idx ci j N) (hY : fb_Ly ci j N ty false decl) (hn : a < n) (ho : fb_sh a = (ci, N)) (hk : ¬ fb_fk ci j = 0) (hnw : narrow ty (.ref (fb_b g + q)) = .ref (fb_b g + q)) (hft : fits ty (.ref (fb_b g + q)) = true) (kk : fb_V g own cc nL ret nm R Qf k ks n (fb_wR u a j q) (pc + 3) lv st) : fb_V g own cc nL ret nm R Qf k ks n u pc lv (.ref (fb_b g + q) :: .ref (fb_b g + a) :: st) :=
  fb_putV hd hL hY hn ho hnw hft (by simp [fb_fv, hk, fb_R, fb_wR, fb_up, fb_rv, va_rf]) (fun i hi => by simp [fb_fv, fb_R, fb_wR, fb_up, hi, fb_I]) (fun i hi => fb_cell_wR g u hi) kk
theorem fb_putfI {idx ci j N a : Nat} {x : Int32} {ty : FieldType} {decl : String} (hd : decode cc pc = .ok (.putfield idx, 3)) (hL : fb_Lf own idx ci j N) (hY : fb_Ly ci j N ty true decl) (hnm : nm = "<init>") (hdc : decl = own) (hn : a < n) (ho : fb_sh a = (ci, N)) (hk : fb_fk ci j = 0) (hnw : narrow ty (.int x) = .int x) (hft : fits ty (.int x) = true) (kk : fb_V g own cc nL ret nm R Qf k ks n (fb_wI u a j x) (pc + 3) lv st) : fb_V g own cc nL ret nm R Qf k ks n u pc lv (.int x :: .ref (fb_b g + a) :: st) :=
  fb_putF hd hL hY hnm hdc hn ho hnw hft (by simp [fb_fv, hk, fb_I, fb_wI, fb_up]) (fun i hi => by simp [fb_fv, fb_I, fb_wI, fb_up, hi, fb_R]) (fun i hi => fb_cell_wI g u x hi) kk
theorem fb_putfR {idx ci j N a q : Nat} {C : String} {ty : FieldType} {decl : String} (hd : decode cc pc = .ok (.putfield idx, 3)) (hL : fb_Lf own idx ci j N) (hY : fb_Ly ci j N ty true decl) (hnm : nm = "<init>") (hdc : decl = own) (hn : a < n) (ho : fb_sh a = (ci, N)) (hk : ¬ fb_fk ci j = 0) (hnw : narrow ty (.ref (fb_b g + q)) = .ref (fb_b g + q)) (hft : fits ty (.ref (fb_b g + q)) = true) (kk : fb_V g own cc nL ret nm R Qf k ks n (fb_wR u a j q) (pc + 3) lv st) : fb_V g own cc nL ret nm R Qf k ks n u pc lv (.ref (fb_b g + q) :: .ref (fb_b g + a) :: st) :=
  fb_putF hd hL hY hnm hdc hn ho hnw hft (by simp [fb_fv, hk, fb_R, fb_wR, fb_up, fb_rv, va_rf]) (fun i hi => by simp [fb_fv, fb_R, fb_wR, fb_up, hi, fb_I]) (fun i hi => fb_cell_wR g u hi) kk
theorem fb_iald {a N : Nat} {i : Int32} (hd : decode cc pc = .ok (.iaload, 1)) (hn : a < n) (ho : fb_sh a = (100, N)) (hin : ¬ (i < 0 ∨ N ≤ i.toNatClampNeg)) (kk : fb_V g own cc nL ret nm R Qf k ks n u (pc + 1) lv (.int (fb_I u a i.toNatClampNeg) :: st)) : fb_V g own cc nL ret nm R Qf k ks n u pc lv (.int i :: .ref (fb_b g + a) :: st) := by
  intro p l e s m args below meth c H locs ls hC hH hl
  have he := fb_cs_at g u hn
  rw [fb_cell_i g u (t := 0) ho (by decide)] at he
  exact va_iald hC.1 hC.2.1 hC.2.2.2.2.2.2.2.2.1 hH.1 a 0 he (fb_tys_at g (t := 0) (by decide)) hin hd (kk p l e s m args below meth c H locs ls hC hH hl)
theorem fb_iast {a N : Nat} {i x : Int32} (hd : decode cc pc = .ok (.iastore, 1)) (hn : a < n) (ho : fb_sh a = (100, N)) (hin : ¬ (i < 0 ∨ N ≤ i.toNatClampNeg)) (kk : fb_V g own cc nL ret nm R Qf k ks n (fb_wI u a i.toNatClampNeg x) (pc + 1) lv st) : fb_V g own cc nL ret nm R Qf k ks n u pc lv (.int x :: .int i :: .ref (fb_b g + a) :: st) := by
  intro p l e s m args below meth c H locs ls hC hH hl
  have he := fb_cs_at g u hn
  rw [fb_cell_i g u (t := 0) ho (by decide)] at he
  refine W.iast hC.1 hC.2.1 (hH.1 a _ he) ((hC.2.2.2.2.2.2.2.2.1.2 0 _ (fb_tys_at g (t := 0) (by decide))).1 N (fun j => .int (fb_I u a j))) (fun q => by cases q) (by show ¬ (i < 0 ∨ (arrV _ _ _).slots.size ≤ _); rw [arrV_size]; exact hin) rfl rfl hd fun H1 e1 z1 oq => ?_
  refine kk p l e s m args below meth c H1 _ ls hC (fb_Hp_set hH hn (fun j hj => fb_cell_wI g u _ hj) ?_ z1 oq) hl
  rw [fb_cell_i g _ (t := 0) ho (by decide)]
  show H1[fb_b g + a]? = some (vp_cell _ _)
  rw [e1, vp_cell_i, vp_cell_i, arrV_store]
  congr 2
  funext q
  by_cases hq : q = i.toNatClampNeg
  · subst hq
    simp [updV, fb_I, fb_wI, fb_up, vp_nar] <;> rfl
  · simp [updV, fb_I, fb_wI, fb_up, hq]
theorem fb_cald {a N : Nat} {i : Int32} (hd : decode cc pc = .ok (.caload, 1)) (hn : a < n) (ho : fb_sh a = (101, N)) (hin : ¬ (i < 0 ∨ N ≤ i.toNatClampNeg)) (kk : fb_V g own cc nL ret nm R Qf k ks n u (pc + 1) lv (.int (fb_I u a i.toNatClampNeg) :: st)) : fb_V g own cc nL ret nm R Qf k ks n u pc lv (.int i :: .ref (fb_b g + a) :: st) := by
  intro p l e s m args below meth c H locs ls hC hH hl
  have he := fb_cs_at g u hn
  rw [fb_cell_i g u (t := 1) ho (by decide)] at he
  exact va_cald hC.1 hC.2.1 hC.2.2.2.2.2.2.2.2.1 hH.1 a 1 he (fb_tys_at g (t := 1) (by decide)) hin hd (kk p l e s m args below meth c H locs ls hC hH hl)
theorem fb_cast {a N : Nat} {i x : Int32} (hd : decode cc pc = .ok (.castore, 1)) (hn : a < n) (ho : fb_sh a = (101, N)) (hin : ¬ (i < 0 ∨ N ≤ i.toNatClampNeg)) (kk : fb_V g own cc nL ret nm R Qf k ks n (fb_wI u a i.toNatClampNeg (vp_nar .char x)) (pc + 1) lv st) : fb_V g own cc nL ret nm R Qf k ks n u pc lv (.int x :: .int i :: .ref (fb_b g + a) :: st) := by
  intro p l e s m args below meth c H locs ls hC hH hl
  have he := fb_cs_at g u hn
  rw [fb_cell_i g u (t := 1) ho (by decide)] at he
  refine W.cast hC.1 hC.2.1 (hH.1 a _ he) ((hC.2.2.2.2.2.2.2.2.1.2 1 _ (fb_tys_at g (t := 1) (by decide))).1 N (fun j => .int (fb_I u a j))) (fun q => by cases q) (by show ¬ (i < 0 ∨ (arrV _ _ _).slots.size ≤ _); rw [arrV_size]; exact hin) rfl rfl hd fun H1 e1 z1 oq => ?_
  refine kk p l e s m args below meth c H1 _ ls hC (fb_Hp_set hH hn (fun j hj => fb_cell_wI g u _ hj) ?_ z1 oq) hl
  rw [fb_cell_i g _ (t := 1) ho (by decide)]
  show H1[fb_b g + a]? = some (vp_cell _ _)
  rw [e1, vp_cell_i, vp_cell_i, arrV_store]
  congr 2
  funext q
  by_cases hq : q = i.toNatClampNeg
  · subst hq
    simp [updV, fb_I, fb_wI, fb_up, vp_nar] <;> rfl
  · simp [updV, fb_I, fb_wI, fb_up, hq]
theorem fb_zald {a N : Nat} {i : Int32} (hd : decode cc pc = .ok (.baload, 1)) (hn : a < n) (ho : fb_sh a = (102, N)) (hin : ¬ (i < 0 ∨ N ≤ i.toNatClampNeg)) (kk : fb_V g own cc nL ret nm R Qf k ks n u (pc + 1) lv (.int (fb_I u a i.toNatClampNeg) :: st)) : fb_V g own cc nL ret nm R Qf k ks n u pc lv (.int i :: .ref (fb_b g + a) :: st) := by
  intro p l e s m args below meth c H locs ls hC hH hl
  have he := fb_cs_at g u hn
  rw [fb_cell_i g u (t := 2) ho (by decide)] at he
  exact va_zald hC.1 hC.2.1 hC.2.2.2.2.2.2.2.2.1 hH.1 a 2 he (fb_tys_at g (t := 2) (by decide)) hin hd (kk p l e s m args below meth c H locs ls hC hH hl)
theorem fb_zast {a N : Nat} {i x : Int32} (hd : decode cc pc = .ok (.bastore, 1)) (hn : a < n) (ho : fb_sh a = (102, N)) (hin : ¬ (i < 0 ∨ N ≤ i.toNatClampNeg)) (kk : fb_V g own cc nL ret nm R Qf k ks n (fb_wI u a i.toNatClampNeg (vp_nar .boolean x)) (pc + 1) lv st) : fb_V g own cc nL ret nm R Qf k ks n u pc lv (.int x :: .int i :: .ref (fb_b g + a) :: st) := by
  intro p l e s m args below meth c H locs ls hC hH hl
  have he := fb_cs_at g u hn
  rw [fb_cell_i g u (t := 2) ho (by decide)] at he
  refine W.zast hC.1 hC.2.1 (hH.1 a _ he) ((hC.2.2.2.2.2.2.2.2.1.2 2 _ (fb_tys_at g (t := 2) (by decide))).1 N (fun j => .int (fb_I u a j))) (fun q => by cases q) (by show ¬ (i < 0 ∨ (arrV _ _ _).slots.size ≤ _); rw [arrV_size]; exact hin) rfl rfl hd fun H1 e1 z1 oq => ?_
  refine kk p l e s m args below meth c H1 _ ls hC (fb_Hp_set hH hn (fun j hj => fb_cell_wI g u _ hj) ?_ z1 oq) hl
  rw [fb_cell_i g _ (t := 2) ho (by decide)]
  show H1[fb_b g + a]? = some (vp_cell _ _)
  rw [e1, vp_cell_i, vp_cell_i, arrV_store]
  congr 2
  funext q
  by_cases hq : q = i.toNatClampNeg
  · subst hq
    simp [updV, fb_I, fb_wI, fb_up, vp_nar] <;> rfl
  · simp [updV, fb_I, fb_wI, fb_up, hq]
theorem fb_lald {a N : Nat} {i : Int32} (hd : decode cc pc = .ok (.laload, 1)) (hn : a < n) (ho : fb_sh a = (103, N)) (hin : ¬ (i < 0 ∨ N ≤ i.toNatClampNeg)) (kk : fb_V g own cc nL ret nm R Qf k ks n u (pc + 1) lv (.long (fb_L u a i.toNatClampNeg) :: st)) : fb_V g own cc nL ret nm R Qf k ks n u pc lv (.int i :: .ref (fb_b g + a) :: st) := by
  intro p l e s m args below meth c H locs ls hC hH hl
  have he := fb_cs_at g u hn
  rw [fb_cell_l g u ho] at he
  exact va_lald hC.1 hC.2.1 hC.2.2.2.2.2.2.2.2.1 hH.1 a 3 he (fb_tys_at g (t := 3) (by decide)) hin hd (kk p l e s m args below meth c H locs ls hC hH hl)
theorem fb_last {a N : Nat} {i : Int32} {x : Int64} (hd : decode cc pc = .ok (.lastore, 1)) (hn : a < n) (ho : fb_sh a = (103, N)) (hin : ¬ (i < 0 ∨ N ≤ i.toNatClampNeg)) (kk : fb_V g own cc nL ret nm R Qf k ks n (fb_wL u a i.toNatClampNeg x) (pc + 1) lv st) : fb_V g own cc nL ret nm R Qf k ks n u pc lv (.long x :: .int i :: .ref (fb_b g + a) :: st) := by
  intro p l e s m args below meth c H locs ls hC hH hl
  have he := fb_cs_at g u hn
  rw [fb_cell_l g u ho] at he
  refine W.last hC.1 hC.2.1 (hH.1 a _ he) ((hC.2.2.2.2.2.2.2.2.1.2 3 _ (fb_tys_at g (t := 3) (by decide))).1 N (fun j => .long (fb_L u a j))) (fun q => by cases q) (by show ¬ (i < 0 ∨ (arrV _ _ _).slots.size ≤ _); rw [arrV_size]; exact hin) rfl rfl hd fun H1 e1 z1 oq => ?_
  refine kk p l e s m args below meth c H1 _ ls hC (fb_Hp_set hH hn (fun j hj => fb_cell_wL g u _ hj) ?_ z1 oq) hl
  rw [fb_cell_l g _ ho]
  show H1[fb_b g + a]? = some (vp_cell _ _)
  rw [e1, vp_cell_l, vp_cell_l, arrV_store]
  congr 2
  funext q
  by_cases hq : q = i.toNatClampNeg
  · subst hq
    simp [updV, fb_L, fb_wL, fb_up]
  · simp [updV, fb_L, fb_wL, fb_up, hq]
theorem fb_aald {a t N q : Nat} {C : String} {i : Int32} (hd : decode cc pc = .ok (.aaload, 1)) (hn : a < n) (ho : fb_sh a = (100 + t, N)) (ht : 3 < t ∧ t < fb_nT ∧ fb_ty t = .object C) (hin : ¬ (i < 0 ∨ N ≤ i.toNatClampNeg)) (hr : fb_R u a i.toNatClampNeg = some q) (kk : fb_V g own cc nL ret nm R Qf k ks n u (pc + 1) lv (.ref (fb_b g + q) :: st)) : fb_V g own cc nL ret nm R Qf k ks n u pc lv (.int i :: .ref (fb_b g + a) :: st) := by
  intro p l e s m args below meth c H locs ls hC hH hl
  have he := fb_cs_at g u hn
  rw [fb_cell_q g u (t := t) ho ht.1] at he
  have hy := fb_tys_at g ht.2.1
  rw [ht.2.2] at hy
  have w : W p l e R s m args below meth c H locs k ks (Qf s args below) (F0 m (pc + 1) ls (va_rf (fb_rv g (fb_R u a i.toNatClampNeg)) :: st)) := by
    rw [hr]
    exact (kk p l e s m args below meth c H locs ls hC hH hl)
  exact va_aldq hC.1 hC.2.1 hC.2.2.2.2.2.2.2.2.1 hH.1 a t he hy hin hd w
theorem fb_aast {a t N q ci Nc : Nat} {C : String} {T : u_T} {i : Int32} (hd : decode cc pc = .ok (.aastore, 1)) (hn : a < n) (ho : fb_sh a = (100 + t, N)) (ht : 3 < t ∧ t < fb_nT ∧ fb_ty t = .object C) (hin : ¬ (i < 0 ∨ N ≤ i.toNatClampNeg)) (hn2 : q < n) (ho2 : fb_sh q = (ci, Nc)) (hcl : ci < 100 ∧ vwCl[ci]? = some (C, T, Nc)) (kk : fb_V g own cc nL ret nm R Qf k ks n (fb_wR u a i.toNatClampNeg q) (pc + 1) lv st) : fb_V g own cc nL ret nm R Qf k ks n u pc lv (.ref (fb_b g + q) :: .int i :: .ref (fb_b g + a) :: st) := by
  intro p l e s m args below meth c H locs ls hC hH hl
  have he := fb_cs_at g u hn
  rw [fb_cell_q g u (t := t) ho ht.1] at he
  have he2 := fb_cs_at g u hn2
  rw [fb_cell_o g u ho2 hcl.1] at he2
  have hy := fb_tys_at g ht.2.1
  rw [ht.2.2] at hy
  have hK := hC.2.2.2.2.2.2.2.2.1
  have hlt : i.toNatClampNeg < N := Nat.not_le.mp fun q => hin (Or.inr q)
  have h0 : ¬ i < 0 := fun q => hin (Or.inl q)
  obtain ⟨r', hr', cellV, g1, g2, g3, -⟩ := hH.1 q _ he2
  have hcls := (hK.1 ci _ hcl.2).2
  obtain ⟨kA, comp, k1, k2, k3, -⟩ := (hK.2 t _ hy).2
  have hcomp : comp = (fb_D g).1 ci := Option.some.inj (k3.symm.trans hcls.1)
  subst hcomp
  obtain ⟨kC, hkC, -⟩ := hcls.2
  refine W.aast hC.1 hC.2.1 (hH.1 a _ he) (fun q h => by cases h) (fun h => by cases h) k1 k2 rfl hkC ⟨h0, by show _ < (arrV _ _ _).slots.size; rw [arrV_size]; exact hlt⟩ g1 (fun q h => by rw [g3] at h; cases h) (by rw [g2]; exact hkC) (by rw [g2]; exact va_assign hcls) rfl rfl hd fun H1 e1 z1 oq => ?_
  refine kk p l e s m args below meth c H1 _ ls hC (fb_Hp_set hH hn (fun j hj => fb_cell_wR g u hj) ?_ z1 oq) hl
  rw [fb_cell_q g _ (t := t) ho ht.1]
  show H1[fb_b g + a]? = some (vp_cell _ _)
  rw [e1, vp_cell_q, vp_cell_q, arrV_store]
  congr 2
  funext q
  by_cases hq : q = i.toNatClampNeg
  · subst hq
    simp [updV, fb_R, fb_wR, fb_up, va_rf, fb_rv]
  · simp [updV, fb_R, fb_wR, fb_up, hq]
theorem fb_alen {a t N : Nat} (hd : decode cc pc = .ok (.arraylength, 1)) (hn : a < n) (ho : fb_sh a = (100 + t, N)) (ht : t < fb_nT) (kk : fb_V g own cc nL ret nm R Qf k ks n u (pc + 1) lv (.int (Int32.ofNat N) :: st)) : fb_V g own cc nL ret nm R Qf k ks n u pc lv (.ref (fb_b g + a) :: st) := by
  intro p l e s m args below meth c H locs ls hC hH hl
  have he := fb_cs_at g u hn
  have e0 : fb_cell g u a = .inl (fb_tA g t, N, fb_cont g u a t) := by
    have e : ¬ 100 + t < 100 := by omega
    simp [fb_cell, ho, e]
  rw [e0] at he
  exact va_alen hC.1 hC.2.1 hC.2.2.2.2.2.2.2.2.1 hH.1 a t he (fb_tys_at g ht) rfl hd (kk p l e s m args below meth c H locs ls hC hH hl)
theorem fb_sld {i : Int32} (hd : decode cc pc = .ok (.iaload, 1)) (hin : ¬ (i < 0 ∨ fb_sL g ≤ i.toNatClampNeg)) (kk : fb_V g own cc nL ret nm R Qf k ks n u (pc + 1) lv (.int (fb_sx g i.toNatClampNeg) :: st)) : fb_V g own cc nL ret nm R Qf k ks n u pc lv (.int i :: .ref (fb_sb g) :: st) :=
  fun p l e s m args below meth c H locs ls hC hH hl => va_sld hC.1 hC.2.1 hC.2.2.2.2.2.2.2.2.2.2.2.2.1 (Nat.lt_of_lt_of_le hC.2.2.2.2.2.2.2.2.2.2.2.2.2.1 hC.2.2.2.2.2.2.2.2.2.2.2.2.2.2.1) (fun z => absurd hC.2.2.2.2.2.2.2.2.2.2.2.2.2.1 (Nat.not_lt.mpr z)) hH.2.1 hin hd (kk p l e s m args below meth c H locs ls hC hH hl)
theorem fb_slen (hd : decode cc pc = .ok (.arraylength, 1)) (kk : fb_V g own cc nL ret nm R Qf k ks n u (pc + 1) lv (.int (Int32.ofNat (fb_sL g)) :: st)) : fb_V g own cc nL ret nm R Qf k ks n u pc lv (.ref (fb_sb g) :: st) :=
  fun p l e s m args below meth c H locs ls hC hH hl => va_slen hC.1 hC.2.1 hC.2.2.2.2.2.2.2.2.2.2.2.2.1 (Nat.lt_of_lt_of_le hC.2.2.2.2.2.2.2.2.2.2.2.2.2.1 hC.2.2.2.2.2.2.2.2.2.2.2.2.2.2.1) (fun z => absurd hC.2.2.2.2.2.2.2.2.2.2.2.2.2.1 (Nat.not_lt.mpr z)) hH.2.1 hd (kk p l e s m args below meth c H locs ls hC hH hl)
def fb_gd {ρ : Type} (c : Prop) [Decidable c] (x : Option ρ) : Option ρ := if c then x else none
theorem fb_gdE {ρ : Type} {c : Prop} [Decidable c] {x : Option ρ} {res : ρ} {P : Prop} (h : fb_gd c x = some res) (kk : c → x = some res → P) : P := by
  unfold fb_gd at h
  by_cases hc : c
  · rw [if_pos hc] at h; exact kk hc h
  · rw [if_neg hc] at h; cases h
theorem fb_bnE {α ρ : Type} {x : Option α} {f : α → Option ρ} {res : ρ} {P : Prop} (h : x.bind f = some res) (kk : ∀ a, x = some a → f a = some res → P) : P := by
  cases x with
  | none => cases h
  | some a => exact kk a rfl h
theorem fb_ifE {ρ : Type} {c : Prop} [Decidable c] {A B : Option ρ} {res : ρ} {P : Prop} (h : (if c then A else B) = some res) (k1 : c → A = some res → P) (k2 : ¬ c → B = some res → P) : P := by
  by_cases hc : c
  · rw [if_pos hc] at h; exact k1 hc h
  · rw [if_neg hc] at h; exact k2 hc h
def fb_Ym (y : MethodName) (cc : ByteArray) (mL : Nat) (ret : Option FieldType) (na : Nat) : Prop := Cond.code y cc mL ret ∈ fb_W ∧ Cond.initialized y.cls ∈ fb_W ∧ (y.cls ≠ "java/lang/invoke/MethodHandle" ∧ y.cls ≠ "java/lang/invoke/VarHandle" ∧ (parseMethodDescriptor y.desc).map (fun d => d.parameters.length) = some na)
def fb_Yi (y : MethodName) (ci : Nat) : Prop := Cond.instanceMethod y ∈ fb_W ∧ Cond.selects y.cls y y ∈ fb_W ∧ ci < 100 ∧ ∃ (T : u_T) (N : Nat), vwCl[ci]? = some (y.cls, T, N)
def fb_Yl (own : String) (idx : Nat) (y : MethodName) : Prop := Cond.methodLink own idx y ∈ fb_W ∨ ∃ host, Cond.methodLinkNest own idx y host ∈ fb_NW
theorem fb_after {p : Program} {l : Launch} {e : Env} {R : Room} {s : State} {m : MethodId} {args : Array Value} {below : List Frame} {meth : Method} {c : Code} {H : Heap} {locs : List Loc} {Q : State → Prop} {ls : Array Slot} {st0 rest : List Value} {a : Array Value} {mc1 ms1 n1 : Nat} {r1 : Option Value} {u1 : fb_M}
    (hr : va_Run p l e R s m args below meth c H locs k ks mc1 ms1 (F0 m pc ls st0) rest (fb_Q g r1 n1 u1 a) (fb_A g)) (hH : fb_Hp g n u s H locs)
    (kk : ∀ (H1 : Heap) (locs1 : List Loc), fb_Hp g n1 u1 s H1 locs1 → W p l e R s m args below meth c H1 locs1 (k + mc1) (ks + ms1) Q (F0 m (pc + 3) ls (r1.toList ++ rest))) : W p l e R s m args below meth c H locs k ks Q (F0 m pc ls st0) := by
  intro T hT X
  obtain ⟨v, st₀, t, T', L, h0, X', hL, e1, e2, ⟨hv, hP, hz, hF⟩, st⟩ := hr T hT X
  obtain rfl : v = r1 := Outcome.returned.inj hv
  rw [← e1] at hP hz
  obtain ⟨f1, f2⟩ := hF
  rw [h0, ← e1] at f1 f2
  obtain ⟨g1, g2, g3⟩ := hH.2.1
  obtain ⟨t2, a1, b1⟩ := kk T'.heap (locs ++ L) ⟨hP, ⟨Nat.le_trans g1 f1, fun q q1 q2 => (f2 q (Nat.lt_of_lt_of_le q1 g1) q2).trans (g2 q q1 q2), fun q hq => by
    rcases List.mem_append.mp hq with h | h
    · exact g3 q h
    · exact hL q h⟩, hz⟩ T' rfl X'
  exact ⟨t2, st t2 a1, b1⟩
theorem fb_pc {av : List Value} {s U : State} {H : Heap} {locs : List Loc} {own : String} {cc : ByteArray} {nL : Nat} {ret : Option FieldType} {nm : String} {p : Program} {m : MethodId} {args : Array Value} {meth : Method} {c : Code} (hC : fb_Cx g own cc nL ret nm p s m args meth c) (hH : fb_Hp g n u s H locs) (hU : U.heap = H) (hW : s.WarmedH U.vm) : va_Pc av (fb_Pre g n u) av.toArray U :=
  ⟨rfl, by rw [hU]; exact hH.1, by rw [hU]; exact hH.2.2, va_K.moved hW.alike hC.2.2.2.2.2.2.2.2.1, fb_Gl.to hC.2.2.2.2.2.2.2.2.2 hW (by rw [hU]; exact hH.2.1)⟩
theorem fb_callVv {idx : Nat} {y : MethodName} {cc1 : ByteArray} {mL1 : Nat} {ret1 : Option FieldType} {d1 lo1 mc1 ms1 n1 : Nat} {u1 : fb_M} {v1 : Value} {a ci N : Nat} {st0 : List Value} (As : List Value) (hd : decode cc pc = .ok (.invokevirtual idx, 3)) (hR : fb_Runs g d1 lo1 mc1 ms1 n n1 y cc1 mL1 ret1 (.ref (fb_b g + a) :: As) u (some v1) u1) (hm : fb_Ym y cc1 mL1 ret1 As.length) (hi : fb_Yi y ci) (hn : a < n) (ho : fb_sh a = (ci, N)) (hk : fb_Yl own idx y) (hst : st0 = As.reverse ++ .ref (fb_b g + a) :: st) (hw : (st.map fun v => v.category).sum ≤ 8) (hdd : d1 + 1 ≤ R.frames ∧ 8 + (mL1 + 11) + lo1 ≤ R.locals) (hcs : k + mc1 ≤ R.cells ∧ ks + ms1 ≤ R.slots) (kk : fb_V g own cc nL ret nm R Qf (k + mc1) (ks + ms1) n1 u1 (pc + 3) lv (v1 :: st)) : fb_V g own cc nL ret nm R Qf k ks n u pc lv st0 := by
  subst hst
  intro p l e s m args below meth c H locs ls hC hH hl
  have hts := hC.2.2.2.2.2.1
  have hS : CallFix p m c cc nL s args fb_W own := ⟨hC.1, hC.2.1, hC.2.2.1, hC.2.2.2.2.2.2.1, hts⟩
  obtain ⟨i1, i2, i3, T, N', i4⟩ := hi
  have he := fb_cs_at g u hn
  rw [fb_cell_o g u ho i3] at he
  have hp : PreV s H y.cls (fb_b g + a) (va_Pc (.ref (fb_b g + a) :: As) (fb_Pre g n u)) As := ⟨fb_blind g n u _, va_recv hC.2.2.2.2.2.2.2.2.1 hH.1 i4 he, fun U hU hW => fb_pc hC hH hU hW⟩
  have key : ∀ (H1 : Heap) (locs1 : List Loc), fb_Hp g n1 u1 s H1 locs1 → W p l e R s m args below meth c H1 locs1 (k + mc1) (ks + ms1) (Qf s args below) (F0 m (pc + 3) ls ((some v1).toList ++ st)) := fun H1 locs1 h1 => kk p l e s m args below meth c H1 locs1 ls hC h1 hl
  rcases hk with h5 | ⟨host, h5⟩
  · exact fb_after (va_runV hS (hR l) ⟨callB_of As.length hts (fb_good hm.1) rfl rfl rfl (hts _ hm.2.1) (hts _ h5) hm.2.2 hdd, hts _ i1, hts _ i2⟩ hp rfl rfl hl.1 rfl (lv_room hw) hd hcs) hH key
  · exact fb_after (va_runVN hS (hR l) ⟨va_cnB As.length hts (fb_good hm.1) rfl rfl rfl (hC.2.2.2.2.2.2.2.2.2.1 _ h5) (hts _ hm.2.1) hm.2.2 hdd, hts _ i1, hts _ i2⟩ hp rfl rfl hl.1 rfl (lv_room hw) hd hcs) hH key
theorem fb_callVn {idx : Nat} {y : MethodName} {cc1 : ByteArray} {mL1 : Nat} {ret1 : Option FieldType} {d1 lo1 mc1 ms1 n1 : Nat} {u1 : fb_M} {a ci N : Nat} {st0 : List Value} (As : List Value) (hd : decode cc pc = .ok (.invokevirtual idx, 3)) (hR : fb_Runs g d1 lo1 mc1 ms1 n n1 y cc1 mL1 ret1 (.ref (fb_b g + a) :: As) u none u1) (hm : fb_Ym y cc1 mL1 ret1 As.length) (hi : fb_Yi y ci) (hn : a < n) (ho : fb_sh a = (ci, N)) (hk : fb_Yl own idx y) (hst : st0 = As.reverse ++ .ref (fb_b g + a) :: st) (hw : (st.map fun v => v.category).sum ≤ 8) (hdd : d1 + 1 ≤ R.frames ∧ 8 + (mL1 + 11) + lo1 ≤ R.locals) (hcs : k + mc1 ≤ R.cells ∧ ks + ms1 ≤ R.slots) (kk : fb_V g own cc nL ret nm R Qf (k + mc1) (ks + ms1) n1 u1 (pc + 3) lv st) : fb_V g own cc nL ret nm R Qf k ks n u pc lv st0 := by
  subst hst
  intro p l e s m args below meth c H locs ls hC hH hl
  have hts := hC.2.2.2.2.2.1
  have hS : CallFix p m c cc nL s args fb_W own := ⟨hC.1, hC.2.1, hC.2.2.1, hC.2.2.2.2.2.2.1, hts⟩
  obtain ⟨i1, i2, i3, T, N', i4⟩ := hi
  have he := fb_cs_at g u hn
  rw [fb_cell_o g u ho i3] at he
  have hp : PreV s H y.cls (fb_b g + a) (va_Pc (.ref (fb_b g + a) :: As) (fb_Pre g n u)) As := ⟨fb_blind g n u _, va_recv hC.2.2.2.2.2.2.2.2.1 hH.1 i4 he, fun U hU hW => fb_pc hC hH hU hW⟩
  have key : ∀ (H1 : Heap) (locs1 : List Loc), fb_Hp g n1 u1 s H1 locs1 → W p l e R s m args below meth c H1 locs1 (k + mc1) (ks + ms1) (Qf s args below) (F0 m (pc + 3) ls (none.toList ++ st)) := fun H1 locs1 h1 => kk p l e s m args below meth c H1 locs1 ls hC h1 hl
  rcases hk with h5 | ⟨host, h5⟩
  · exact fb_after (va_runV hS (hR l) ⟨callB_of As.length hts (fb_good hm.1) rfl rfl rfl (hts _ hm.2.1) (hts _ h5) hm.2.2 hdd, hts _ i1, hts _ i2⟩ hp rfl rfl hl.1 rfl (lv_room hw) hd hcs) hH key
  · exact fb_after (va_runVN hS (hR l) ⟨va_cnB As.length hts (fb_good hm.1) rfl rfl rfl (hC.2.2.2.2.2.2.2.2.2.1 _ h5) (hts _ hm.2.1) hm.2.2 hdd, hts _ i1, hts _ i2⟩ hp rfl rfl hl.1 rfl (lv_room hw) hd hcs) hH key
theorem fb_callSv {idx : Nat} {y : MethodName} {cc1 : ByteArray} {mL1 : Nat} {ret1 : Option FieldType} {d1 lo1 mc1 ms1 n1 : Nat} {u1 : fb_M} {v1 : Value} {st0 : List Value} (As : List Value) (hd : decode cc pc = .ok (.invokestatic idx, 3)) (hR : fb_Runs g d1 lo1 mc1 ms1 n n1 y cc1 mL1 ret1 (As) u (some v1) u1) (hm : fb_Ym y cc1 mL1 ret1 As.length) (hi : Cond.static y ∈ fb_W) (hk : fb_Yl own idx y) (hst : st0 = As.reverse ++ st) (hw : (st.map fun v => v.category).sum ≤ 8) (hdd : d1 + 1 ≤ R.frames ∧ 8 + (mL1 + 11) + lo1 ≤ R.locals) (hcs : k + mc1 ≤ R.cells ∧ ks + ms1 ≤ R.slots) (kk : fb_V g own cc nL ret nm R Qf (k + mc1) (ks + ms1) n1 u1 (pc + 3) lv (v1 :: st)) : fb_V g own cc nL ret nm R Qf k ks n u pc lv st0 := by
  subst hst
  intro p l e s m args below meth c H locs ls hC hH hl
  have hts := hC.2.2.2.2.2.1
  have hS : CallFix p m c cc nL s args fb_W own := ⟨hC.1, hC.2.1, hC.2.2.1, hC.2.2.2.2.2.2.1, hts⟩
  have hp : PreS s H (va_Pc As (fb_Pre g n u)) As := ⟨fb_blind g n u _, fun U hU hW => fb_pc hC hH hU hW⟩
  have key : ∀ (H1 : Heap) (locs1 : List Loc), fb_Hp g n1 u1 s H1 locs1 → W p l e R s m args below meth c H1 locs1 (k + mc1) (ks + ms1) (Qf s args below) (F0 m (pc + 3) ls ((some v1).toList ++ st)) := fun H1 locs1 h1 => kk p l e s m args below meth c H1 locs1 ls hC h1 hl
  rcases hk with h5 | ⟨host, h5⟩
  · exact fb_after (va_runS hS (hR l) ⟨callB_of As.length hts (fb_good hm.1) rfl rfl rfl (hts _ hm.2.1) (hts _ h5) hm.2.2 hdd, hts _ hi⟩ hp rfl rfl hl.1 rfl (lv_room hw) hd hcs) hH key
  · exact fb_after (va_runSN hS (hR l) ⟨va_cnB As.length hts (fb_good hm.1) rfl rfl rfl (hC.2.2.2.2.2.2.2.2.2.1 _ h5) (hts _ hm.2.1) hm.2.2 hdd, hts _ hi, trivial⟩ hp rfl rfl hl.1 rfl (lv_room hw) hd hcs) hH key
theorem fb_callSn {idx : Nat} {y : MethodName} {cc1 : ByteArray} {mL1 : Nat} {ret1 : Option FieldType} {d1 lo1 mc1 ms1 n1 : Nat} {u1 : fb_M} {st0 : List Value} (As : List Value) (hd : decode cc pc = .ok (.invokestatic idx, 3)) (hR : fb_Runs g d1 lo1 mc1 ms1 n n1 y cc1 mL1 ret1 (As) u none u1) (hm : fb_Ym y cc1 mL1 ret1 As.length) (hi : Cond.static y ∈ fb_W) (hk : fb_Yl own idx y) (hst : st0 = As.reverse ++ st) (hw : (st.map fun v => v.category).sum ≤ 8) (hdd : d1 + 1 ≤ R.frames ∧ 8 + (mL1 + 11) + lo1 ≤ R.locals) (hcs : k + mc1 ≤ R.cells ∧ ks + ms1 ≤ R.slots) (kk : fb_V g own cc nL ret nm R Qf (k + mc1) (ks + ms1) n1 u1 (pc + 3) lv st) : fb_V g own cc nL ret nm R Qf k ks n u pc lv st0 := by
  subst hst
  intro p l e s m args below meth c H locs ls hC hH hl
  have hts := hC.2.2.2.2.2.1
  have hS : CallFix p m c cc nL s args fb_W own := ⟨hC.1, hC.2.1, hC.2.2.1, hC.2.2.2.2.2.2.1, hts⟩
  have hp : PreS s H (va_Pc As (fb_Pre g n u)) As := ⟨fb_blind g n u _, fun U hU hW => fb_pc hC hH hU hW⟩
  have key : ∀ (H1 : Heap) (locs1 : List Loc), fb_Hp g n1 u1 s H1 locs1 → W p l e R s m args below meth c H1 locs1 (k + mc1) (ks + ms1) (Qf s args below) (F0 m (pc + 3) ls (none.toList ++ st)) := fun H1 locs1 h1 => kk p l e s m args below meth c H1 locs1 ls hC h1 hl
  rcases hk with h5 | ⟨host, h5⟩
  · exact fb_after (va_runS hS (hR l) ⟨callB_of As.length hts (fb_good hm.1) rfl rfl rfl (hts _ hm.2.1) (hts _ h5) hm.2.2 hdd, hts _ hi⟩ hp rfl rfl hl.1 rfl (lv_room hw) hd hcs) hH key
  · exact fb_after (va_runSN hS (hR l) ⟨va_cnB As.length hts (fb_good hm.1) rfl rfl rfl (hC.2.2.2.2.2.2.2.2.2.1 _ h5) (hts _ hm.2.1) hm.2.2 hdd, hts _ hi, trivial⟩ hp rfl rfl hl.1 rfl (lv_room hw) hd hcs) hH key
theorem fb_callIn {idx : Nat} {y : MethodName} {cc1 : ByteArray} {mL1 : Nat} {d1 lo1 mc1 ms1 n1 : Nat} {u1 : fb_M} {a : Nat} {st0 : List Value} (As : List Value) (hd : decode cc pc = .ok (.invokespecial idx, 3)) (hR : fb_Runs g d1 lo1 mc1 ms1 n n1 y cc1 mL1 none (.ref (fb_b g + a) :: As) u none u1) (hm : fb_Ym y cc1 mL1 none As.length) (hi : y.name = "<init>" ∧ Cond.instanceMethod y ∈ fb_W) (hk : fb_Yl own idx y) (hst : st0 = As.reverse ++ .ref (fb_b g + a) :: st) (hw : (st.map fun v => v.category).sum ≤ 8) (hdd : d1 + 1 ≤ R.frames ∧ 8 + (mL1 + 11) + lo1 ≤ R.locals) (hcs : k + mc1 ≤ R.cells ∧ ks + ms1 ≤ R.slots) (kk : fb_V g own cc nL ret nm R Qf (k + mc1) (ks + ms1) n1 u1 (pc + 3) lv st) : fb_V g own cc nL ret nm R Qf k ks n u pc lv st0 := by
  subst hst
  intro p l e s m args below meth c H locs ls hC hH hl
  have hts := hC.2.2.2.2.2.1
  have hS : CallFix p m c cc nL s args fb_W own := ⟨hC.1, hC.2.1, hC.2.2.1, hC.2.2.2.2.2.2.1, hts⟩
  have hp : PreS s H (va_Pc (.ref (fb_b g + a) :: As) (fb_Pre g n u)) (.ref (fb_b g + a) :: As) := ⟨fb_blind g n u _, fun U hU hW => fb_pc hC hH hU hW⟩
  have key : ∀ (H1 : Heap) (locs1 : List Loc), fb_Hp g n1 u1 s H1 locs1 → W p l e R s m args below meth c H1 locs1 (k + mc1) (ks + ms1) (Qf s args below) (F0 m (pc + 3) ls (none.toList ++ st)) := fun H1 locs1 h1 => kk p l e s m args below meth c H1 locs1 ls hC h1 hl
  rcases hk with h5 | ⟨host, h5⟩
  · exact fb_after (va_runI hS (hR l) ⟨callB_of As.length hts (fb_good hm.1) rfl rfl rfl (hts _ hm.2.1) (hts _ h5) hm.2.2 hdd, hi.1, hts _ hi.2⟩ hp rfl rfl hl.1 rfl (lv_room hw) hd hcs) hH key
  · exact fb_after (va_runIN hS (hR l) ⟨va_cnB As.length hts (fb_good hm.1) rfl rfl rfl (hC.2.2.2.2.2.2.2.2.2.1 _ h5) (hts _ hm.2.1) hm.2.2 hdd, hi.1, hts _ hi.2⟩ hp rfl rfl hl.1 rfl (lv_room hw) hd hcs) hH key
theorem fb_callTv {idx : Nat} {y : MethodName} {cc1 : ByteArray} {mL1 : Nat} {ret1 : Option FieldType} {d1 lo1 mc1 ms1 n1 : Nat} {u1 : fb_M} {v1 : Value} {a : Nat} {st0 : List Value} (As : List Value) (hd : decode cc pc = .ok (.invokevirtual idx, 3)) (hR : fb_Runs g d1 lo1 mc1 ms1 n n1 y cc1 mL1 ret1 (.ref (fb_K g a) :: As) u (some v1) u1) (hm : fb_Ym y cc1 mL1 ret1 As.length) (hi : Cond.instanceMethod y ∈ fb_W ∧ Cond.selects "java/lang/String" y y ∈ fb_W) (hn : a < fb_nS) (hk : fb_Yl own idx y) (hst : st0 = As.reverse ++ .ref (fb_K g a) :: st) (hw : (st.map fun v => v.category).sum ≤ 8) (hdd : d1 + 1 ≤ R.frames ∧ 8 + (mL1 + 11) + lo1 ≤ R.locals) (hcs : k + mc1 ≤ R.cells ∧ ks + ms1 ≤ R.slots) (kk : fb_V g own cc nL ret nm R Qf (k + mc1) (ks + ms1) n1 u1 (pc + 3) lv (v1 :: st)) : fb_V g own cc nL ret nm R Qf k ks n u pc lv st0 := by
  subst hst
  intro p l e s m args below meth c H locs ls hC hH hl
  have hts := hC.2.2.2.2.2.1
  have hS : CallFix p m c cc nL s args fb_W own := ⟨hC.1, hC.2.1, hC.2.2.1, hC.2.2.2.2.2.2.1, hts⟩
  have hp : PreV s H "java/lang/String" (fb_K g a) (va_Pc (.ref (fb_K g a) :: As) (fb_Pre g n u)) As := ⟨fb_blind g n u _, vk_recv hC.2.2.2.2.2.2.2.2.2.2.1 hn hH.2.1, fun U hU hW => fb_pc hC hH hU hW⟩
  have key : ∀ (H1 : Heap) (locs1 : List Loc), fb_Hp g n1 u1 s H1 locs1 → W p l e R s m args below meth c H1 locs1 (k + mc1) (ks + ms1) (Qf s args below) (F0 m (pc + 3) ls ((some v1).toList ++ st)) := fun H1 locs1 h1 => kk p l e s m args below meth c H1 locs1 ls hC h1 hl
  rcases hk with h5 | ⟨host, h5⟩
  · exact fb_after (va_runV hS (hR l) ⟨callB_of As.length hts (fb_good hm.1) rfl rfl rfl (hts _ hm.2.1) (hts _ h5) hm.2.2 hdd, hts _ hi.1, hts _ hi.2⟩ hp rfl rfl hl.1 rfl (lv_room hw) hd hcs) hH key
  · exact fb_after (va_runVN hS (hR l) ⟨va_cnB As.length hts (fb_good hm.1) rfl rfl rfl (hC.2.2.2.2.2.2.2.2.2.1 _ h5) (hts _ hm.2.1) hm.2.2 hdd, hts _ hi.1, hts _ hi.2⟩ hp rfl rfl hl.1 rfl (lv_room hw) hd hcs) hH key
theorem fb_callTn {idx : Nat} {y : MethodName} {cc1 : ByteArray} {mL1 : Nat} {ret1 : Option FieldType} {d1 lo1 mc1 ms1 n1 : Nat} {u1 : fb_M} {a : Nat} {st0 : List Value} (As : List Value) (hd : decode cc pc = .ok (.invokevirtual idx, 3)) (hR : fb_Runs g d1 lo1 mc1 ms1 n n1 y cc1 mL1 ret1 (.ref (fb_K g a) :: As) u none u1) (hm : fb_Ym y cc1 mL1 ret1 As.length) (hi : Cond.instanceMethod y ∈ fb_W ∧ Cond.selects "java/lang/String" y y ∈ fb_W) (hn : a < fb_nS) (hk : fb_Yl own idx y) (hst : st0 = As.reverse ++ .ref (fb_K g a) :: st) (hw : (st.map fun v => v.category).sum ≤ 8) (hdd : d1 + 1 ≤ R.frames ∧ 8 + (mL1 + 11) + lo1 ≤ R.locals) (hcs : k + mc1 ≤ R.cells ∧ ks + ms1 ≤ R.slots) (kk : fb_V g own cc nL ret nm R Qf (k + mc1) (ks + ms1) n1 u1 (pc + 3) lv st) : fb_V g own cc nL ret nm R Qf k ks n u pc lv st0 := by
  subst hst
  intro p l e s m args below meth c H locs ls hC hH hl
  have hts := hC.2.2.2.2.2.1
  have hS : CallFix p m c cc nL s args fb_W own := ⟨hC.1, hC.2.1, hC.2.2.1, hC.2.2.2.2.2.2.1, hts⟩
  have hp : PreV s H "java/lang/String" (fb_K g a) (va_Pc (.ref (fb_K g a) :: As) (fb_Pre g n u)) As := ⟨fb_blind g n u _, vk_recv hC.2.2.2.2.2.2.2.2.2.2.1 hn hH.2.1, fun U hU hW => fb_pc hC hH hU hW⟩
  have key : ∀ (H1 : Heap) (locs1 : List Loc), fb_Hp g n1 u1 s H1 locs1 → W p l e R s m args below meth c H1 locs1 (k + mc1) (ks + ms1) (Qf s args below) (F0 m (pc + 3) ls (none.toList ++ st)) := fun H1 locs1 h1 => kk p l e s m args below meth c H1 locs1 ls hC h1 hl
  rcases hk with h5 | ⟨host, h5⟩
  · exact fb_after (va_runV hS (hR l) ⟨callB_of As.length hts (fb_good hm.1) rfl rfl rfl (hts _ hm.2.1) (hts _ h5) hm.2.2 hdd, hts _ hi.1, hts _ hi.2⟩ hp rfl rfl hl.1 rfl (lv_room hw) hd hcs) hH key
  · exact fb_after (va_runVN hS (hR l) ⟨va_cnB As.length hts (fb_good hm.1) rfl rfl rfl (hC.2.2.2.2.2.2.2.2.2.1 _ h5) (hts _ hm.2.1) hm.2.2 hdd, hts _ hi.1, hts _ hi.2⟩ hp rfl rfl hl.1 rfl (lv_room hw) hd hcs) hH key
theorem fb_min {idx : Nat} {x y : Int32} (hd : decode cc pc = .ok (.invokestatic idx, 3)) (hl0 : Cond.methodLink own idx Lib.Math.min.name ∈ fb_W) (h1 : Cond.static Lib.Math.min.name ∈ fb_W) (h2 : Cond.initialized "java/lang/Math" ∈ fb_W) (h3 : Cond.code Lib.Math.min.name Lib.Math.min.code 2 (some .int) ∈ fb_W) (hw : (st.map fun v => v.category).sum ≤ 8) (hdd : 1 ≤ R.frames ∧ 40 ≤ R.locals) (hcs : k ≤ R.cells ∧ ks ≤ R.slots) (kk : fb_V g own cc nL ret nm R Qf k ks n u (pc + 3) lv (.int (if y < x then y else x) :: st)) : fb_V g own cc nL ret nm R Qf k ks n u pc lv (.int y :: .int x :: st) :=
  fun p l e s m args below meth c H locs ls hC hH hl => va_mmin hC.1 hC.2.1 (hC.2.2.1.trans hl.1.symm) hC.2.2.2.2.2.2.1 (hC.2.2.2.2.2.1 _ hl0) (hC.2.2.2.2.2.1 _ h1) (hC.2.2.2.2.2.1 _ h2) (hC.2.2.2.2.2.1 _ h3) hdd.1 (by have := hdd.2; omega) hcs.1 hcs.2 hd (kk p l e s m args below meth c H locs ls hC hH hl)
theorem fb_objInit {idx a : Nat} (hd : decode cc pc = .ok (.invokespecial idx, 3)) (hl0 : Cond.methodLink own idx Lib.objectInit ∈ fb_W) (h1 : Cond.instanceMethod Lib.objectInit ∈ fb_W) (h2 : Cond.code Lib.objectInit ⟨#[0xb1]⟩ 1 none ∈ fb_W) (hw : (st.map fun v => v.category).sum ≤ 8) (hdd : 1 ≤ R.frames ∧ 40 ≤ R.locals) (kk : fb_V g own cc nL ret nm R Qf k ks n u (pc + 3) lv st) : fb_V g own cc nL ret nm R Qf k ks n u pc lv (.ref (fb_b g + a) :: st) :=
  fun p l e s m args below meth c H locs ls hC hH hl => W.objInit hC.1 hC.2.1 hC.2.2.2.2.2.2.1 (hC.2.2.2.2.2.1 _ hl0) (hC.2.2.2.2.2.1 _ h1) (hC.2.2.2.2.2.1 _ h2) rfl (hl.1.trans hC.2.2.1.symm) rfl hd hdd.1 (by have := lv_room (m := m) (pc := pc) (ls := ls) (rest := (.ref (fb_b g + a) :: st)) hw; have := hdd.2; omega) (kk p l e s m args below meth c H locs ls hC hH hl)
theorem fb_cV0v {idx : Nat} {y : MethodName} {cc1 : ByteArray} {mL1 : Nat} {ret1 : Option FieldType} {d1 lo1 : Nat} {u1 : fb_M} {v1 : Value} {a ci N : Nat} {st0 : List Value} (As : List Value) (hd : decode cc pc = .ok (.invokevirtual idx, 3)) (hR : fb_Runs g d1 lo1 0 0 n n y cc1 mL1 ret1 (.ref (fb_b g + a) :: As) u (some v1) u1) (hm : fb_Ym y cc1 mL1 ret1 As.length) (hi : fb_Yi y ci) (hn : a < n) (ho : fb_sh a = (ci, N)) (hk : fb_Yl own idx y) (hst : st0 = As.reverse ++ .ref (fb_b g + a) :: st) (hw : (st.map fun v => v.category).sum ≤ 8) (hdd : d1 + 1 ≤ R.frames ∧ 8 + (mL1 + 11) + lo1 ≤ R.locals) (hcs : k ≤ R.cells ∧ ks ≤ R.slots) (kk : fb_V g own cc nL ret nm R Qf k ks n u1 (pc + 3) lv (v1 :: st)) : fb_V g own cc nL ret nm R Qf k ks n u pc lv st0 :=
  fb_callVv As hd hR hm hi hn ho hk hst hw hdd hcs kk
theorem fb_cV0n {idx : Nat} {y : MethodName} {cc1 : ByteArray} {mL1 : Nat} {ret1 : Option FieldType} {d1 lo1 : Nat} {u1 : fb_M} {a ci N : Nat} {st0 : List Value} (As : List Value) (hd : decode cc pc = .ok (.invokevirtual idx, 3)) (hR : fb_Runs g d1 lo1 0 0 n n y cc1 mL1 ret1 (.ref (fb_b g + a) :: As) u none u1) (hm : fb_Ym y cc1 mL1 ret1 As.length) (hi : fb_Yi y ci) (hn : a < n) (ho : fb_sh a = (ci, N)) (hk : fb_Yl own idx y) (hst : st0 = As.reverse ++ .ref (fb_b g + a) :: st) (hw : (st.map fun v => v.category).sum ≤ 8) (hdd : d1 + 1 ≤ R.frames ∧ 8 + (mL1 + 11) + lo1 ≤ R.locals) (hcs : k ≤ R.cells ∧ ks ≤ R.slots) (kk : fb_V g own cc nL ret nm R Qf k ks n u1 (pc + 3) lv st) : fb_V g own cc nL ret nm R Qf k ks n u pc lv st0 :=
  fb_callVn As hd hR hm hi hn ho hk hst hw hdd hcs kk
theorem fb_cS0v {idx : Nat} {y : MethodName} {cc1 : ByteArray} {mL1 : Nat} {ret1 : Option FieldType} {d1 lo1 : Nat} {u1 : fb_M} {v1 : Value} {st0 : List Value} (As : List Value) (hd : decode cc pc = .ok (.invokestatic idx, 3)) (hR : fb_Runs g d1 lo1 0 0 n n y cc1 mL1 ret1 (As) u (some v1) u1) (hm : fb_Ym y cc1 mL1 ret1 As.length) (hi : Cond.static y ∈ fb_W) (hk : fb_Yl own idx y) (hst : st0 = As.reverse ++ st) (hw : (st.map fun v => v.category).sum ≤ 8) (hdd : d1 + 1 ≤ R.frames ∧ 8 + (mL1 + 11) + lo1 ≤ R.locals) (hcs : k ≤ R.cells ∧ ks ≤ R.slots) (kk : fb_V g own cc nL ret nm R Qf k ks n u1 (pc + 3) lv (v1 :: st)) : fb_V g own cc nL ret nm R Qf k ks n u pc lv st0 :=
  fb_callSv As hd hR hm hi hk hst hw hdd hcs kk
theorem fb_cS0n {idx : Nat} {y : MethodName} {cc1 : ByteArray} {mL1 : Nat} {ret1 : Option FieldType} {d1 lo1 : Nat} {u1 : fb_M} {st0 : List Value} (As : List Value) (hd : decode cc pc = .ok (.invokestatic idx, 3)) (hR : fb_Runs g d1 lo1 0 0 n n y cc1 mL1 ret1 (As) u none u1) (hm : fb_Ym y cc1 mL1 ret1 As.length) (hi : Cond.static y ∈ fb_W) (hk : fb_Yl own idx y) (hst : st0 = As.reverse ++ st) (hw : (st.map fun v => v.category).sum ≤ 8) (hdd : d1 + 1 ≤ R.frames ∧ 8 + (mL1 + 11) + lo1 ≤ R.locals) (hcs : k ≤ R.cells ∧ ks ≤ R.slots) (kk : fb_V g own cc nL ret nm R Qf k ks n u1 (pc + 3) lv st) : fb_V g own cc nL ret nm R Qf k ks n u pc lv st0 :=
  fb_callSn As hd hR hm hi hk hst hw hdd hcs kk
theorem fb_cT0v {idx : Nat} {y : MethodName} {cc1 : ByteArray} {mL1 : Nat} {ret1 : Option FieldType} {d1 lo1 : Nat} {u1 : fb_M} {v1 : Value} {a : Nat} {st0 : List Value} (As : List Value) (hd : decode cc pc = .ok (.invokevirtual idx, 3)) (hR : fb_Runs g d1 lo1 0 0 n n y cc1 mL1 ret1 (.ref (fb_K g a) :: As) u (some v1) u1) (hm : fb_Ym y cc1 mL1 ret1 As.length) (hi : Cond.instanceMethod y ∈ fb_W ∧ Cond.selects "java/lang/String" y y ∈ fb_W) (hn : a < fb_nS) (hk : fb_Yl own idx y) (hst : st0 = As.reverse ++ .ref (fb_K g a) :: st) (hw : (st.map fun v => v.category).sum ≤ 8) (hdd : d1 + 1 ≤ R.frames ∧ 8 + (mL1 + 11) + lo1 ≤ R.locals) (hcs : k ≤ R.cells ∧ ks ≤ R.slots) (kk : fb_V g own cc nL ret nm R Qf k ks n u1 (pc + 3) lv (v1 :: st)) : fb_V g own cc nL ret nm R Qf k ks n u pc lv st0 :=
  fb_callTv As hd hR hm hi hn hk hst hw hdd hcs kk
theorem fb_cpL_at (u : fb_M) (a b sp dp n : Nat) : fb_L (fb_cpL u a b sp dp n) b = va_cpy (fb_L u a) (fb_L u b) sp dp n := by
  funext q
  show (if b = b then va_cpy (u.2.1 a) (u.2.1 b) sp dp n else u.2.1 b) q = _
  rw [if_pos rfl]
  rfl
theorem fb_eta {a t : Nat} (h : (fb_sh a).1 = t) : fb_sh a = (t, (fb_sh a).2) := by rw [← h]
theorem fb_nz {x : Int32} (h : x = 0 ∨ x = 1) : narrow .boolean (.int x) = .int x := by rcases h with rfl | rfl <;> rfl
theorem fb_fz {x : Int32} (h : x = 0 ∨ x = 1) : fits .boolean (.int x) = true := by rcases h with rfl | rfl <;> rfl
theorem fb_nc {x : Int32} (h : vp_nar .char x = x) : narrow .char (.int x) = .int x := congrArg Value.int h
theorem fb_copyL {idx a b Na Nb : Nat} {sp dp z : Int32} (hd : decode cc pc = .ok (.invokestatic idx, 3)) (hl0 : Cond.methodLink own idx arraycopyName ∈ fb_W) (w1 : Cond.native arraycopyName ∈ fb_W) (w2 : Cond.static arraycopyName ∈ fb_W) (w3 : Cond.initialized "java/lang/System" ∈ fb_W) (hn : a < n) (ho : fb_sh a = (103, Na)) (hn2 : b < n) (ho2 : fb_sh b = (103, Nb)) (hnt : ¬ n < fb_NT) (c1 : ¬ sp < 0 ∧ ¬ dp < 0 ∧ ¬ z < 0) (c2 : sp.toNatClampNeg + z.toNatClampNeg ≤ Na ∧ dp.toNatClampNeg + z.toNatClampNeg ≤ Nb) (hw : (st.map fun v => v.category).sum ≤ 8) (hdd : 1 ≤ R.frames ∧ 80 ≤ R.locals) (hcs : k ≤ R.cells ∧ ks ≤ R.slots) (kk : fb_V g own cc nL ret nm R Qf k ks n (fb_cpL u a b sp.toNatClampNeg dp.toNatClampNeg z.toNatClampNeg) (pc + 3) lv st) : fb_V g own cc nL ret nm R Qf k ks n u pc lv (.int z :: .int dp :: .ref (fb_b g + b) :: .int sp :: .ref (fb_b g + a) :: st) := by
  intro p l e s m args below meth c H locs ls hC hH hl
  have he := fb_cs_at g u hn
  rw [fb_cell_l g u ho] at he
  have he2 := fb_cs_at g u hn2
  rw [fb_cell_l g u ho2] at he2
  have e2 : (fb_cs g n u).set b (fb_b g + b, .inl (fb_tA g 3, Nb, .inr (.inl (va_cpy (fb_L u a) (fb_L u b) sp.toNatClampNeg dp.toNatClampNeg z.toNatClampNeg)))) = fb_cs g n (fb_cpL u a b sp.toNatClampNeg dp.toNatClampNeg z.toNatClampNeg) := fb_cs_set g (by rw [fb_cell_l g _ ho2, fb_cpL_at]) (fun i hi => fb_cell_cpL g u hi)
  refine va_copyl hC.1 hC.2.1 (hC.2.2.1.trans hl.1.symm) hC.2.2.2.2.2.2.1 (hC.2.2.2.2.2.1 _ hl0) (hC.2.2.2.2.2.1 _ w1) (hC.2.2.2.2.2.1 _ w2) (hC.2.2.2.2.2.1 _ w3) hC.2.2.2.2.2.2.2.2.1 hH.1 (fb_D_cs g n u) hH.2.1 a b 3 3 he he2 (fb_tys_at g (t := 3) (by decide)) (fb_tys_at g (t := 3) (by decide)) rfl c1.1 c1.2.1 c1.2.2 c2.1 c2.2 (fun i _ => rfl) hdd.1 (by have := hdd.2; have e : nativeFrameWords "java/lang/System" "arraycopy" 5 + 11 ≤ 70 := (by decide); omega) hd (fun H1 locs1 hP hD hS => ?_)
  rw [e2] at hP
  exact kk p l e s m args below meth c H1 locs1 ls hC ⟨hP, hS, fun hlt => absurd hlt hnt⟩ hl
end FBR

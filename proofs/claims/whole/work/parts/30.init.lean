def fb_zero (u : fb_M) (n : Nat) : Prop := ∀ a, n ≤ a → (∀ j, fb_I u a j = 0) ∧ (∀ j, fb_L u a j = 0) ∧ (∀ j, fb_R u a j = none)
theorem fb_zs {u : fb_M} {n : Nat} (h : fb_zero u n) : fb_zero u (n + 1) := fun a ha => h a (by omega)
theorem fb_zm {u : fb_M} {n m : Nat} (h : fb_zero u n) (hm : n ≤ m) : fb_zero u m := fun a ha => h a (by omega)
theorem fb_zw {u : fb_M} {n a k x : Nat} (h : fb_zero u n) (ha : a < n) : fb_zero (fb_wR u a k x) n := by
  intro b hb
  refine ⟨(h b hb).1, (h b hb).2.1, fun j => ?_⟩
  have hne : b ≠ a := by omega
  show fb_up u.2.2 a k (some x) b j = none
  rw [fb_up_ne _ _ hne]
  exact (h b hb).2.2 j
theorem fb_zl {u : fb_M} {n a k : Nat} {x : Int64} (h : fb_zero u n) (ha : a < n) : fb_zero (fb_wL u a k x) n := by
  intro b hb
  refine ⟨(h b hb).1, fun j => ?_, (h b hb).2.2⟩
  have hne : b ≠ a := by omega
  show fb_up u.2.1 a k x b j = 0
  rw [fb_up_ne _ _ hne]
  exact (h b hb).2.1 j
theorem fb_z0 {g : fb_G} {u : fb_M} {n N t : Nat} (h : fb_zero u n) (ht : t < 3) : ∀ cA : ClassId, arrV cA N (fun _ => .int 0) = vp_cell cA (N, fb_cont g u n t) := by
  intro cA
  simp only [fb_cont, if_pos ht, vp_cell_i, (h n (Nat.le_refl _)).1]
theorem fb_z3 {g : fb_G} {u : fb_M} {n N : Nat} (h : fb_zero u n) : ∀ cA : ClassId, arrV cA N (fun _ => .long 0) = vp_cell cA (N, fb_cont g u n 3) := by
  intro cA
  have e : fb_cont g u n 3 = .inr (.inl (fb_L u n)) := rfl
  simp only [e, vp_cell_l, (h n (Nat.le_refl _)).2.1]
section FBI
variable {g : fb_G} {own : String} {cc : ByteArray} {nL : Nat} {ret : Option FieldType} {nm : String} {R : Room} {Qf : fb_QT} {k ks n : Nat} {u : fb_M} {pc : Nat} {lv : List (Nat × Value)} {st : List Value}
theorem fb_iincV {x v : Int32} {z : Nat} {w : Int} {lv' : List (Nat × Value)} (hd : decode cc pc = .ok (.iinc z w, 3)) (q : Nat) (hg : lv[q]? = some (z, .int x)) (hv : x + Int32.ofInt w = v) (hn : z < nL) (hq : (z, Value.int v) :: lv.filter (fun q => !(q.1 == z) && !(q.1 + 1 == z && q.2.category == 2)) = lv') (kk : fb_V g own cc nL ret nm R Qf k ks n u (pc + 3) lv' st) : fb_V g own cc nL ret nm R Qf k ks n u pc lv st :=
  fun p l e s m args below meth c H locs ls hC hH hl => lv_iinc hC.1 hC.2.1 hd hl hg hv hn hq fun ls' hl' => kk p l e s m args below meth c H locs ls' hC hH hl'
theorem fb_aastL {a t N q ci Nc j : Nat} {C : String} {T : u_T} {i : Int32} (hj : i.toNatClampNeg = j) (hd : decode cc pc = .ok (.aastore, 1)) (hn : a < n) (ho : fb_sh a = (100 + t, N)) (ht : 3 < t ∧ t < fb_nT ∧ fb_ty t = .object C) (hin : ¬ (i < 0 ∨ N ≤ i.toNatClampNeg)) (hn2 : q < n) (ho2 : fb_sh q = (ci, Nc)) (hcl : ci < 100 ∧ vwCl[ci]? = some (C, T, Nc)) (kk : fb_V g own cc nL ret nm R Qf k ks n (fb_wR u a j q) (pc + 1) lv st) : fb_V g own cc nL ret nm R Qf k ks n u pc lv (.ref (fb_b g + q) :: .int i :: .ref (fb_b g + a) :: st) := by
  subst hj
  exact fb_aast hd hn ho ht hin hn2 ho2 hcl kk
theorem fb_lastL {a N j : Nat} {i : Int32} {x : Int64} (hj : i.toNatClampNeg = j) (hd : decode cc pc = .ok (.lastore, 1)) (hn : a < n) (ho : fb_sh a = (103, N)) (hin : ¬ (i < 0 ∨ N ≤ i.toNatClampNeg)) (kk : fb_V g own cc nL ret nm R Qf k ks n (fb_wL u a j x) (pc + 1) lv st) : fb_V g own cc nL ret nm R Qf k ks n u pc lv (.long x :: .int i :: .ref (fb_b g + a) :: st) := by
  subst hj
  exact fb_last hd hn ho hin kk
theorem fb_alenL {a t N : Nat} {v : Int32} (hv : Int32.ofNat N = v) (hd : decode cc pc = .ok (.arraylength, 1)) (hn : a < n) (ho : fb_sh a = (100 + t, N)) (ht : t < fb_nT) (kk : fb_V g own cc nL ret nm R Qf k ks n u (pc + 1) lv (.int v :: st)) : fb_V g own cc nL ret nm R Qf k ks n u pc lv (.ref (fb_b g + a) :: st) := by
  subst hv
  exact fb_alen hd hn ho ht kk
end FBI
theorem dvX0 {g : fb_G} {u : fb_M} {n : Nat} (h : fb_zero u n) : ∀ j, j < 2 → defaultValue (tyX0 j) = fb_fv g u n 0 j := by
  intro j hj
  match j, hj with
  | 0, _ => show Value.null = va_rf (fb_rv g (fb_R u n 0)); rw [(h n (Nat.le_refl _)).2.2]; rfl
  | 1, _ => show Value.int 0 = Value.int (fb_I u n 1); rw [(h n (Nat.le_refl _)).1]
  | j + 2, hj => exact absurd hj (by omega)
theorem wi1X0 : Cond.instantiable RX0 2 ∈ fb_W := (fb_inW1 28 rfl rfl)
theorem wi2X0 : Cond.initialized RX0 ∈ fb_W := (fb_inW1 2 rfl rfl)
theorem dvX1 {g : fb_G} {u : fb_M} {n : Nat} (h : fb_zero u n) : ∀ j, j < 2 → defaultValue (tyX1 j) = fb_fv g u n 1 j := by
  intro j hj
  match j, hj with
  | 0, _ => show Value.int 0 = Value.int (fb_I u n 0); rw [(h n (Nat.le_refl _)).1]
  | 1, _ => show Value.null = va_rf (fb_rv g (fb_R u n 1)); rw [(h n (Nat.le_refl _)).2.2]; rfl
  | j + 2, hj => exact absurd hj (by omega)
theorem wi1X1 : Cond.instantiable RX1 2 ∈ fb_W := (fb_inW1 152 rfl rfl)
theorem wi2X1 : Cond.initialized RX1 ∈ fb_W := (fb_inW1 8 rfl rfl)
theorem dvX2 {g : fb_G} {u : fb_M} {n : Nat} (h : fb_zero u n) : ∀ j, j < 12 → defaultValue (tyX2 j) = fb_fv g u n 2 j := by
  intro j hj
  match j, hj with
  | 0, _ => show Value.int 0 = Value.int (fb_I u n 0); rw [(h n (Nat.le_refl _)).1]
  | 1, _ => show Value.int 0 = Value.int (fb_I u n 1); rw [(h n (Nat.le_refl _)).1]
  | 2, _ => show Value.int 0 = Value.int (fb_I u n 2); rw [(h n (Nat.le_refl _)).1]
  | 3, _ => show Value.int 0 = Value.int (fb_I u n 3); rw [(h n (Nat.le_refl _)).1]
  | 4, _ => show Value.int 0 = Value.int (fb_I u n 4); rw [(h n (Nat.le_refl _)).1]
  | 5, _ => show Value.int 0 = Value.int (fb_I u n 5); rw [(h n (Nat.le_refl _)).1]
  | 6, _ => show Value.int 0 = Value.int (fb_I u n 6); rw [(h n (Nat.le_refl _)).1]
  | 7, _ => show Value.null = va_rf (fb_rv g (fb_R u n 7)); rw [(h n (Nat.le_refl _)).2.2]; rfl
  | 8, _ => show Value.null = va_rf (fb_rv g (fb_R u n 8)); rw [(h n (Nat.le_refl _)).2.2]; rfl
  | 9, _ => show Value.null = va_rf (fb_rv g (fb_R u n 9)); rw [(h n (Nat.le_refl _)).2.2]; rfl
  | 10, _ => show Value.null = va_rf (fb_rv g (fb_R u n 10)); rw [(h n (Nat.le_refl _)).2.2]; rfl
  | 11, _ => show Value.null = va_rf (fb_rv g (fb_R u n 11)); rw [(h n (Nat.le_refl _)).2.2]; rfl
  | j + 12, hj => exact absurd hj (by omega)
theorem wi1X2 : Cond.instantiable RX2 12 ∈ fb_W := (fb_inW1 93 rfl rfl)
theorem wi2X2 : Cond.initialized RX2 ∈ fb_W := (fb_inW1 6 rfl rfl)
theorem dvX3 {g : fb_G} {u : fb_M} {n : Nat} (h : fb_zero u n) : ∀ j, j < 3 → defaultValue (tyX3 j) = fb_fv g u n 3 j := by
  intro j hj
  match j, hj with
  | 0, _ => show Value.null = va_rf (fb_rv g (fb_R u n 0)); rw [(h n (Nat.le_refl _)).2.2]; rfl
  | 1, _ => show Value.null = va_rf (fb_rv g (fb_R u n 1)); rw [(h n (Nat.le_refl _)).2.2]; rfl
  | 2, _ => show Value.int 0 = Value.int (fb_I u n 2); rw [(h n (Nat.le_refl _)).1]
  | j + 3, hj => exact absurd hj (by omega)
theorem wi1X3 : Cond.instantiable RX3 3 ∈ fb_W := (fb_inW1 76 rfl rfl)
theorem wi2X3 : Cond.initialized RX3 ∈ fb_W := (fb_inW1 5 rfl rfl)
theorem dvX4 {g : fb_G} {u : fb_M} {n : Nat} (h : fb_zero u n) : ∀ j, j < 2 → defaultValue (tyX4 j) = fb_fv g u n 4 j := by
  intro j hj
  match j, hj with
  | 0, _ => show Value.null = va_rf (fb_rv g (fb_R u n 0)); rw [(h n (Nat.le_refl _)).2.2]; rfl
  | 1, _ => show Value.int 0 = Value.int (fb_I u n 1); rw [(h n (Nat.le_refl _)).1]
  | j + 2, hj => exact absurd hj (by omega)
theorem wi1X4 : Cond.instantiable RX4 2 ∈ fb_W := (fb_inW1 181 rfl rfl)
theorem wi2X4 : Cond.initialized RX4 ∈ fb_W := (fb_inW1 10 rfl rfl)
theorem dvX5 {g : fb_G} {u : fb_M} {n : Nat} (h : fb_zero u n) : ∀ j, j < 4 → defaultValue (tyX5 j) = fb_fv g u n 5 j := by
  intro j hj
  match j, hj with
  | 0, _ => show Value.null = va_rf (fb_rv g (fb_R u n 0)); rw [(h n (Nat.le_refl _)).2.2]; rfl
  | 1, _ => show Value.int 0 = Value.int (fb_I u n 1); rw [(h n (Nat.le_refl _)).1]
  | 2, _ => show Value.int 0 = Value.int (fb_I u n 2); rw [(h n (Nat.le_refl _)).1]
  | 3, _ => show Value.int 0 = Value.int (fb_I u n 3); rw [(h n (Nat.le_refl _)).1]
  | j + 4, hj => exact absurd hj (by omega)
theorem wi1X5 : Cond.instantiable RX5 4 ∈ fb_W := (fb_inW1 50 rfl rfl)
theorem wi2X5 : Cond.initialized RX5 ∈ fb_W := (fb_inW1 4 rfl rfl)
theorem dvX6 {g : fb_G} {u : fb_M} {n : Nat} (h : fb_zero u n) : ∀ j, j < 2 → defaultValue (tyX6 j) = fb_fv g u n 6 j := by
  intro j hj
  match j, hj with
  | 0, _ => show Value.null = va_rf (fb_rv g (fb_R u n 0)); rw [(h n (Nat.le_refl _)).2.2]; rfl
  | 1, _ => show Value.int 0 = Value.int (fb_I u n 1); rw [(h n (Nat.le_refl _)).1]
  | j + 2, hj => exact absurd hj (by omega)
theorem wi1X6 : Cond.instantiable RX6 2 ∈ fb_W := (fb_inW1 43 rfl rfl)
theorem wi2X6 : Cond.initialized RX6 ∈ fb_W := (fb_inW1 3 rfl rfl)
theorem dvX7 {g : fb_G} {u : fb_M} {n : Nat} (h : fb_zero u n) : ∀ j, j < 2 → defaultValue (tyX7 j) = fb_fv g u n 7 j := by
  intro j hj
  match j, hj with
  | 0, _ => show Value.null = va_rf (fb_rv g (fb_R u n 0)); rw [(h n (Nat.le_refl _)).2.2]; rfl
  | 1, _ => show Value.int 0 = Value.int (fb_I u n 1); rw [(h n (Nat.le_refl _)).1]
  | j + 2, hj => exact absurd hj (by omega)
theorem wi1X7 : Cond.instantiable RX7 2 ∈ fb_W := (fb_inW1 145 rfl rfl)
theorem wi2X7 : Cond.initialized RX7 ∈ fb_W := (fb_inW1 7 rfl rfl)
theorem dvX8 {g : fb_G} {u : fb_M} {n : Nat} (h : fb_zero u n) : ∀ j, j < 12 → defaultValue (tyX8 j) = fb_fv g u n 8 j := by
  intro j hj
  match j, hj with
  | 0, _ => show Value.null = va_rf (fb_rv g (fb_R u n 0)); rw [(h n (Nat.le_refl _)).2.2]; rfl
  | 1, _ => show Value.null = va_rf (fb_rv g (fb_R u n 1)); rw [(h n (Nat.le_refl _)).2.2]; rfl
  | 2, _ => show Value.null = va_rf (fb_rv g (fb_R u n 2)); rw [(h n (Nat.le_refl _)).2.2]; rfl
  | 3, _ => show Value.null = va_rf (fb_rv g (fb_R u n 3)); rw [(h n (Nat.le_refl _)).2.2]; rfl
  | 4, _ => show Value.int 0 = Value.int (fb_I u n 4); rw [(h n (Nat.le_refl _)).1]
  | 5, _ => show Value.null = va_rf (fb_rv g (fb_R u n 5)); rw [(h n (Nat.le_refl _)).2.2]; rfl
  | 6, _ => show Value.null = va_rf (fb_rv g (fb_R u n 6)); rw [(h n (Nat.le_refl _)).2.2]; rfl
  | 7, _ => show Value.null = va_rf (fb_rv g (fb_R u n 7)); rw [(h n (Nat.le_refl _)).2.2]; rfl
  | 8, _ => show Value.int 0 = Value.int (fb_I u n 8); rw [(h n (Nat.le_refl _)).1]
  | 9, _ => show Value.null = va_rf (fb_rv g (fb_R u n 9)); rw [(h n (Nat.le_refl _)).2.2]; rfl
  | 10, _ => show Value.null = va_rf (fb_rv g (fb_R u n 10)); rw [(h n (Nat.le_refl _)).2.2]; rfl
  | 11, _ => show Value.int 0 = Value.int (fb_I u n 11); rw [(h n (Nat.le_refl _)).1]
  | j + 12, hj => exact absurd hj (by omega)
theorem wi1X8 : Cond.instantiable RX8 12 ∈ fb_W := (fb_inW1 20 rfl rfl)
theorem wi2X8 : Cond.initialized RX8 ∈ fb_W := (fb_inW1 1 rfl rfl)
theorem dvX9 {g : fb_G} {u : fb_M} {n : Nat} (h : fb_zero u n) : ∀ j, j < 40 → defaultValue (tyX9 j) = fb_fv g u n 9 j := by
  intro j hj
  match j, hj with
  | 0, _ => show Value.null = va_rf (fb_rv g (fb_R u n 0)); rw [(h n (Nat.le_refl _)).2.2]; rfl
  | 1, _ => show Value.int 0 = Value.int (fb_I u n 1); rw [(h n (Nat.le_refl _)).1]
  | 2, _ => show Value.null = va_rf (fb_rv g (fb_R u n 2)); rw [(h n (Nat.le_refl _)).2.2]; rfl
  | 3, _ => show Value.null = va_rf (fb_rv g (fb_R u n 3)); rw [(h n (Nat.le_refl _)).2.2]; rfl
  | 4, _ => show Value.int 0 = Value.int (fb_I u n 4); rw [(h n (Nat.le_refl _)).1]
  | 5, _ => show Value.int 0 = Value.int (fb_I u n 5); rw [(h n (Nat.le_refl _)).1]
  | 6, _ => show Value.null = va_rf (fb_rv g (fb_R u n 6)); rw [(h n (Nat.le_refl _)).2.2]; rfl
  | 7, _ => show Value.null = va_rf (fb_rv g (fb_R u n 7)); rw [(h n (Nat.le_refl _)).2.2]; rfl
  | 8, _ => show Value.null = va_rf (fb_rv g (fb_R u n 8)); rw [(h n (Nat.le_refl _)).2.2]; rfl
  | 9, _ => show Value.null = va_rf (fb_rv g (fb_R u n 9)); rw [(h n (Nat.le_refl _)).2.2]; rfl
  | 10, _ => show Value.null = va_rf (fb_rv g (fb_R u n 10)); rw [(h n (Nat.le_refl _)).2.2]; rfl
  | 11, _ => show Value.null = va_rf (fb_rv g (fb_R u n 11)); rw [(h n (Nat.le_refl _)).2.2]; rfl
  | 12, _ => show Value.null = va_rf (fb_rv g (fb_R u n 12)); rw [(h n (Nat.le_refl _)).2.2]; rfl
  | 13, _ => show Value.null = va_rf (fb_rv g (fb_R u n 13)); rw [(h n (Nat.le_refl _)).2.2]; rfl
  | 14, _ => show Value.null = va_rf (fb_rv g (fb_R u n 14)); rw [(h n (Nat.le_refl _)).2.2]; rfl
  | 15, _ => show Value.null = va_rf (fb_rv g (fb_R u n 15)); rw [(h n (Nat.le_refl _)).2.2]; rfl
  | 16, _ => show Value.null = va_rf (fb_rv g (fb_R u n 16)); rw [(h n (Nat.le_refl _)).2.2]; rfl
  | 17, _ => show Value.int 0 = Value.int (fb_I u n 17); rw [(h n (Nat.le_refl _)).1]
  | 18, _ => show Value.int 0 = Value.int (fb_I u n 18); rw [(h n (Nat.le_refl _)).1]
  | 19, _ => show Value.int 0 = Value.int (fb_I u n 19); rw [(h n (Nat.le_refl _)).1]
  | 20, _ => show Value.int 0 = Value.int (fb_I u n 20); rw [(h n (Nat.le_refl _)).1]
  | 21, _ => show Value.int 0 = Value.int (fb_I u n 21); rw [(h n (Nat.le_refl _)).1]
  | 22, _ => show Value.null = va_rf (fb_rv g (fb_R u n 22)); rw [(h n (Nat.le_refl _)).2.2]; rfl
  | 23, _ => show Value.null = va_rf (fb_rv g (fb_R u n 23)); rw [(h n (Nat.le_refl _)).2.2]; rfl
  | 24, _ => show Value.null = va_rf (fb_rv g (fb_R u n 24)); rw [(h n (Nat.le_refl _)).2.2]; rfl
  | 25, _ => show Value.null = va_rf (fb_rv g (fb_R u n 25)); rw [(h n (Nat.le_refl _)).2.2]; rfl
  | 26, _ => show Value.null = va_rf (fb_rv g (fb_R u n 26)); rw [(h n (Nat.le_refl _)).2.2]; rfl
  | 27, _ => show Value.int 0 = Value.int (fb_I u n 27); rw [(h n (Nat.le_refl _)).1]
  | 28, _ => show Value.int 0 = Value.int (fb_I u n 28); rw [(h n (Nat.le_refl _)).1]
  | 29, _ => show Value.null = va_rf (fb_rv g (fb_R u n 29)); rw [(h n (Nat.le_refl _)).2.2]; rfl
  | 30, _ => show Value.null = va_rf (fb_rv g (fb_R u n 30)); rw [(h n (Nat.le_refl _)).2.2]; rfl
  | 31, _ => show Value.null = va_rf (fb_rv g (fb_R u n 31)); rw [(h n (Nat.le_refl _)).2.2]; rfl
  | 32, _ => show Value.null = va_rf (fb_rv g (fb_R u n 32)); rw [(h n (Nat.le_refl _)).2.2]; rfl
  | 33, _ => show Value.null = va_rf (fb_rv g (fb_R u n 33)); rw [(h n (Nat.le_refl _)).2.2]; rfl
  | 34, _ => show Value.null = va_rf (fb_rv g (fb_R u n 34)); rw [(h n (Nat.le_refl _)).2.2]; rfl
  | 35, _ => show Value.int 0 = Value.int (fb_I u n 35); rw [(h n (Nat.le_refl _)).1]
  | 36, _ => show Value.null = va_rf (fb_rv g (fb_R u n 36)); rw [(h n (Nat.le_refl _)).2.2]; rfl
  | 37, _ => show Value.int 0 = Value.int (fb_I u n 37); rw [(h n (Nat.le_refl _)).1]
  | 38, _ => show Value.null = va_rf (fb_rv g (fb_R u n 38)); rw [(h n (Nat.le_refl _)).2.2]; rfl
  | 39, _ => show Value.null = va_rf (fb_rv g (fb_R u n 39)); rw [(h n (Nat.le_refl _)).2.2]; rfl
  | j + 40, hj => exact absurd hj (by omega)
theorem wi1X9 : Cond.instantiable RX9 40 ∈ fb_W := (fb_inW3 144 rfl rfl)
theorem wi2X9 : Cond.initialized RX9 ∈ fb_W := (fb_inW1 11 rfl rfl)
theorem wo1 : Cond.instanceMethod Lib.objectInit ∈ fb_W := (fb_inW1 25 rfl rfl)
theorem wo2 : Cond.code Lib.objectInit ⟨#[0xb1]⟩ 1 none ∈ fb_W := (fb_inW1 26 rfl rfl)
theorem wa0 : Cond.arrayClass .int ∈ fb_W := (fb_inW1 142 rfl rfl)
theorem wa1 : Cond.arrayClass .char ∈ fb_W := (fb_inW1 41 rfl rfl)
theorem wa2 : Cond.arrayClass .boolean ∈ fb_W := (fb_inW1 143 rfl rfl)
theorem wa3 : Cond.arrayClass .long ∈ fb_W := (fb_inW1 168 rfl rfl)
theorem lfX0_9 : fb_Lf RX0 9 0 0 2 := ⟨_, _, rfl, by decide, by decide, inX0, (fb_inW1 33 rfl rfl)⟩
theorem lz_0_0 : fb_Ly 0 0 2 (tyX0 0) true RX0 := ⟨_, _, tyX0, rfl, tyX0_ok, nmX0, tyX0_ok 0 (by decide), rfl, rfl⟩
theorem dX0_init_0 : decode cX0_init 0 = .ok (.aload_n 0, 1) := by decide +kernel
theorem dX0_init_1 : decode cX0_init 1 = .ok (.invokespecial 1, 3) := by decide +kernel
theorem dX0_init_4 : decode cX0_init 4 = .ok (.aload_n 0, 1) := by decide +kernel
theorem dX0_init_5 : decode cX0_init 5 = .ok (.bipush 80, 2) := by decide +kernel
theorem dX0_init_7 : decode cX0_init 7 = .ok (.newarray .char, 2) := by decide +kernel
theorem dX0_init_9 : decode cX0_init 9 = .ok (.putfield 9, 3) := by decide +kernel
theorem dX0_init_12 : decode cX0_init 12 = .ok (.return_, 1) := by decide +kernel
theorem yinX0_init : Cond.instanceMethod yX0_init ∈ fb_W := (fb_inW1 30 rfl rfl)
theorem ymX0_init : fb_Ym yX0_init cX0_init 1 none 0 := ⟨(fb_inW1 31 rfl rfl), (fb_inW1 2 rfl rfl), by decide, by decide, by decide +kernel⟩
set_option maxRecDepth 100000 in
set_option maxHeartbeats 4000000 in
theorem mX0_init (g : fb_G) (n : Nat) (u : fb_M) (a0 : Nat) (h0 : a0 < n ∧ fb_sh a0 = (0, 2)) (hz : fb_zero u n) (hlt : n + 1 ≤ fb_NT) (hs0 : fb_sh n = (101, 80)) : fb_Runs g 1 40 1 80 n (n + 1) yX0_init cX0_init 1 none [.ref (fb_b g + a0)] u none (fb_wR u a0 0 n) := by
  have hlt : n + 1 ≤ 133 := hlt
  have h00 := h0.1
  refine fb_enter (by decide) (Nat.le_of_ble_eq_true rfl) ?_
  show fb_V g RX0 cX0_init 1 none "<init>" (fb_room 1 40 1 80) (fb_Qm g none (n + 1) (fb_wR u a0 0 n) 1 80) 0 0 n u 0 [(0, .ref (fb_b g + a0))] []
  refine fb_aload_n (pc := 0) dX0_init_0 0 rfl ?_
  refine fb_objInit (pc := 1) dX0_init_1 (fb_inW1 32 rfl rfl) wo1 wo2 (Nat.le_of_ble_eq_true rfl) ⟨Nat.le_of_ble_eq_true rfl, Nat.le_of_ble_eq_true rfl⟩ ?_
  refine fb_aload_n (pc := 4) dX0_init_4 0 rfl ?_
  refine fb_bipush (pc := 5) (v := 80) dX0_init_5 (by decide) ?_
  refine fb_newA (pc := 7) (t := 1) (N := 80) dX0_init_7 (by decide) rfl (fun _ _ h => h) wa1 (by show _ < 133; omega) hs0 (fb_z0 hz (by decide)) (by decide) (by decide) (Nat.le_of_ble_eq_true rfl) (Nat.le_of_ble_eq_true rfl) ?_
  have hz5 := fb_zs hz
  refine fb_putfR (pc := 9) (C := "") dX0_init_9 lfX0_9 lz_0_0 rfl rfl (by have := h0.1; omega) h0.2 (by decide) rfl rfl ?_
  have hz7 := fb_zw (k := 0) (x := n) hz5 (show a0 < (n + 1) from (by have := h0.1; omega))
  exact fb_vretM (pc := 12) rfl dX0_init_12

theorem X0_init_z {u : fb_M} {n : Nat} {a0 : Nat} (hz : fb_zero u n) (h00 : a0 < n) : fb_zero (fb_wR u a0 0 n) (n + 1) := (fb_zw (fb_zm hz (show n ≤ (n + 1) by omega)) (by omega))
theorem lfX5_11 : fb_Lf RX5 11 5 0 4 := ⟨_, _, rfl, by decide, by decide, inX5, (fb_inW1 55 rfl rfl)⟩
theorem lz_5_0 : fb_Ly 5 0 4 (tyX5 0) true RX5 := ⟨_, _, tyX5, rfl, tyX5_ok, nmX5, tyX5_ok 0 (by decide), rfl, rfl⟩
theorem dX5_init_0 : decode cX5_init 0 = .ok (.aload_n 0, 1) := by decide +kernel
theorem dX5_init_1 : decode cX5_init 1 = .ok (.invokespecial 5, 3) := by decide +kernel
theorem dX5_init_4 : decode cX5_init 4 = .ok (.aload_n 0, 1) := by decide +kernel
theorem dX5_init_5 : decode cX5_init 5 = .ok (.bipush 38, 2) := by decide +kernel
theorem dX5_init_7 : decode cX5_init 7 = .ok (.newarray .char, 2) := by decide +kernel
theorem dX5_init_9 : decode cX5_init 9 = .ok (.putfield 11, 3) := by decide +kernel
theorem dX5_init_12 : decode cX5_init 12 = .ok (.return_, 1) := by decide +kernel
theorem yinX5_init : Cond.instanceMethod yX5_init ∈ fb_W := (fb_inW1 52 rfl rfl)
theorem ymX5_init : fb_Ym yX5_init cX5_init 1 none 0 := ⟨(fb_inW1 53 rfl rfl), (fb_inW1 4 rfl rfl), by decide, by decide, by decide +kernel⟩
set_option maxRecDepth 100000 in
set_option maxHeartbeats 4000000 in
theorem mX5_init (g : fb_G) (n : Nat) (u : fb_M) (a0 : Nat) (h0 : a0 < n ∧ fb_sh a0 = (5, 4)) (hz : fb_zero u n) (hlt : n + 1 ≤ fb_NT) (hs0 : fb_sh n = (101, 38)) : fb_Runs g 1 40 1 38 n (n + 1) yX5_init cX5_init 1 none [.ref (fb_b g + a0)] u none (fb_wR u a0 0 n) := by
  have hlt : n + 1 ≤ 133 := hlt
  have h00 := h0.1
  refine fb_enter (by decide) (Nat.le_of_ble_eq_true rfl) ?_
  show fb_V g RX5 cX5_init 1 none "<init>" (fb_room 1 40 1 38) (fb_Qm g none (n + 1) (fb_wR u a0 0 n) 1 38) 0 0 n u 0 [(0, .ref (fb_b g + a0))] []
  refine fb_aload_n (pc := 0) dX5_init_0 0 rfl ?_
  refine fb_objInit (pc := 1) dX5_init_1 (fb_inW1 54 rfl rfl) wo1 wo2 (Nat.le_of_ble_eq_true rfl) ⟨Nat.le_of_ble_eq_true rfl, Nat.le_of_ble_eq_true rfl⟩ ?_
  refine fb_aload_n (pc := 4) dX5_init_4 0 rfl ?_
  refine fb_bipush (pc := 5) (v := 38) dX5_init_5 (by decide) ?_
  refine fb_newA (pc := 7) (t := 1) (N := 38) dX5_init_7 (by decide) rfl (fun _ _ h => h) wa1 (by show _ < 133; omega) hs0 (fb_z0 hz (by decide)) (by decide) (by decide) (Nat.le_of_ble_eq_true rfl) (Nat.le_of_ble_eq_true rfl) ?_
  have hz5 := fb_zs hz
  refine fb_putfR (pc := 9) (C := "") dX5_init_9 lfX5_11 lz_5_0 rfl rfl (by have := h0.1; omega) h0.2 (by decide) rfl rfl ?_
  have hz7 := fb_zw (k := 0) (x := n) hz5 (show a0 < (n + 1) from (by have := h0.1; omega))
  exact fb_vretM (pc := 12) rfl dX5_init_12

theorem X5_init_z {u : fb_M} {n : Nat} {a0 : Nat} (hz : fb_zero u n) (h00 : a0 < n) : fb_zero (fb_wR u a0 0 n) (n + 1) := (fb_zw (fb_zm hz (show n ≤ (n + 1) by omega)) (by omega))
theorem lfX1_11 : fb_Lf RX1 11 1 1 2 := ⟨_, _, rfl, by decide, by decide, inX1, (fb_inW1 159 rfl rfl)⟩
theorem lz_1_1 : fb_Ly 1 1 2 (tyX1 1) true RX1 := ⟨_, _, tyX1, rfl, tyX1_ok, nmX1, tyX1_ok 1 (by decide), rfl, rfl⟩
theorem dX1_init_0 : decode cX1_init 0 = .ok (.aload_n 0, 1) := by decide +kernel
theorem dX1_init_1 : decode cX1_init 1 = .ok (.invokespecial 3, 3) := by decide +kernel
theorem dX1_init_4 : decode cX1_init 4 = .ok (.aload_n 0, 1) := by decide +kernel
theorem dX1_init_5 : decode cX1_init 5 = .ok (.bipush 8, 2) := by decide +kernel
theorem dX1_init_7 : decode cX1_init 7 = .ok (.newarray .long, 2) := by decide +kernel
theorem dX1_init_9 : decode cX1_init 9 = .ok (.putfield 11, 3) := by decide +kernel
theorem dX1_init_12 : decode cX1_init 12 = .ok (.return_, 1) := by decide +kernel
theorem yinX1_init : Cond.instanceMethod yX1_init ∈ fb_W := (fb_inW1 154 rfl rfl)
theorem ymX1_init : fb_Ym yX1_init cX1_init 1 none 0 := ⟨(fb_inW1 155 rfl rfl), (fb_inW1 8 rfl rfl), by decide, by decide, by decide +kernel⟩
set_option maxRecDepth 100000 in
set_option maxHeartbeats 4000000 in
theorem mX1_init (g : fb_G) (n : Nat) (u : fb_M) (a0 : Nat) (h0 : a0 < n ∧ fb_sh a0 = (1, 2)) (hz : fb_zero u n) (hlt : n + 1 ≤ fb_NT) (hs0 : fb_sh n = (103, 8)) : fb_Runs g 1 40 1 8 n (n + 1) yX1_init cX1_init 1 none [.ref (fb_b g + a0)] u none (fb_wR u a0 1 n) := by
  have hlt : n + 1 ≤ 133 := hlt
  have h00 := h0.1
  refine fb_enter (by decide) (Nat.le_of_ble_eq_true rfl) ?_
  show fb_V g RX1 cX1_init 1 none "<init>" (fb_room 1 40 1 8) (fb_Qm g none (n + 1) (fb_wR u a0 1 n) 1 8) 0 0 n u 0 [(0, .ref (fb_b g + a0))] []
  refine fb_aload_n (pc := 0) dX1_init_0 0 rfl ?_
  refine fb_objInit (pc := 1) dX1_init_1 (fb_inW1 156 rfl rfl) wo1 wo2 (Nat.le_of_ble_eq_true rfl) ⟨Nat.le_of_ble_eq_true rfl, Nat.le_of_ble_eq_true rfl⟩ ?_
  refine fb_aload_n (pc := 4) dX1_init_4 0 rfl ?_
  refine fb_bipush (pc := 5) (v := 8) dX1_init_5 (by decide) ?_
  refine fb_newA (pc := 7) (t := 3) (N := 8) dX1_init_7 (by decide) rfl (fun _ _ h => h) wa3 (by show _ < 133; omega) hs0 (fb_z3 hz) (by decide) (by decide) (Nat.le_of_ble_eq_true rfl) (Nat.le_of_ble_eq_true rfl) ?_
  have hz5 := fb_zs hz
  refine fb_putfR (pc := 9) (C := "") dX1_init_9 lfX1_11 lz_1_1 rfl rfl (by have := h0.1; omega) h0.2 (by decide) rfl rfl ?_
  have hz7 := fb_zw (k := 1) (x := n) hz5 (show a0 < (n + 1) from (by have := h0.1; omega))
  exact fb_vretM (pc := 12) rfl dX1_init_12

theorem X1_init_z {u : fb_M} {n : Nat} {a0 : Nat} (hz : fb_zero u n) (h00 : a0 < n) : fb_zero (fb_wR u a0 1 n) (n + 1) := (fb_zw (fb_zm hz (show n ≤ (n + 1) by omega)) (by omega))
theorem lfX4_11 : fb_Lf RX4 11 4 0 2 := ⟨_, _, rfl, by decide, by decide, inX4, (fb_inW1 187 rfl rfl)⟩
theorem lz_4_0 : fb_Ly 4 0 2 (tyX4 0) true RX4 := ⟨_, _, tyX4, rfl, tyX4_ok, nmX4, tyX4_ok 0 (by decide), rfl, rfl⟩
theorem dX4_init_0 : decode cX4_init 0 = .ok (.aload_n 0, 1) := by decide +kernel
theorem dX4_init_1 : decode cX4_init 1 = .ok (.invokespecial 1, 3) := by decide +kernel
theorem dX4_init_4 : decode cX4_init 4 = .ok (.aload_n 0, 1) := by decide +kernel
theorem dX4_init_5 : decode cX4_init 5 = .ok (.bipush 10, 2) := by decide +kernel
theorem dX4_init_7 : decode cX4_init 7 = .ok (.anewarray 9, 3) := by decide +kernel
theorem dX4_init_10 : decode cX4_init 10 = .ok (.putfield 11, 3) := by decide +kernel
theorem dX4_init_13 : decode cX4_init 13 = .ok (.return_, 1) := by decide +kernel
theorem yinX4_init : Cond.instanceMethod yX4_init ∈ fb_W := (fb_inW1 183 rfl rfl)
theorem ymX4_init : fb_Ym yX4_init cX4_init 1 none 0 := ⟨(fb_inW1 184 rfl rfl), (fb_inW1 10 rfl rfl), by decide, by decide, by decide +kernel⟩
set_option maxRecDepth 100000 in
set_option maxHeartbeats 4000000 in
theorem mX4_init (g : fb_G) (n : Nat) (u : fb_M) (a0 : Nat) (h0 : a0 < n ∧ fb_sh a0 = (4, 2)) (hz : fb_zero u n) (hlt : n + 1 ≤ fb_NT) (hs0 : fb_sh n = (106, 10)) : fb_Runs g 1 40 1 10 n (n + 1) yX4_init cX4_init 1 none [.ref (fb_b g + a0)] u none (fb_wR u a0 0 n) := by
  have hlt : n + 1 ≤ 133 := hlt
  have h00 := h0.1
  refine fb_enter (by decide) (Nat.le_of_ble_eq_true rfl) ?_
  show fb_V g RX4 cX4_init 1 none "<init>" (fb_room 1 40 1 10) (fb_Qm g none (n + 1) (fb_wR u a0 0 n) 1 10) 0 0 n u 0 [(0, .ref (fb_b g + a0))] []
  refine fb_aload_n (pc := 0) dX4_init_0 0 rfl ?_
  refine fb_objInit (pc := 1) dX4_init_1 (fb_inW1 185 rfl rfl) wo1 wo2 (Nat.le_of_ble_eq_true rfl) ⟨Nat.le_of_ble_eq_true rfl, Nat.le_of_ble_eq_true rfl⟩ ?_
  refine fb_aload_n (pc := 4) dX4_init_4 0 rfl ?_
  refine fb_bipush (pc := 5) (v := 10) dX4_init_5 (by decide) ?_
  refine fb_newQ (pc := 7) (t := 6) (N := 10) (C := RX1) dX4_init_7 ⟨by decide, by decide, rfl⟩ (by decide) (fb_inW1 186 rfl rfl) (by show _ < 133; omega) hs0 (hz _ (Nat.le_refl _)).2.2 (by decide) (by decide) (Nat.le_of_ble_eq_true rfl) (Nat.le_of_ble_eq_true rfl) ?_
  have hz5 := fb_zs hz
  refine fb_putfR (pc := 10) (C := "") dX4_init_10 lfX4_11 lz_4_0 rfl rfl (by have := h0.1; omega) h0.2 (by decide) rfl rfl ?_
  have hz7 := fb_zw (k := 0) (x := n) hz5 (show a0 < (n + 1) from (by have := h0.1; omega))
  exact fb_vretM (pc := 13) rfl dX4_init_13

theorem X4_init_z {u : fb_M} {n : Nat} {a0 : Nat} (hz : fb_zero u n) (h00 : a0 < n) : fb_zero (fb_wR u a0 0 n) (n + 1) := (fb_zw (fb_zm hz (show n ≤ (n + 1) by omega)) (by omega))
theorem lfX2_11 : fb_Lf RX2 11 2 7 12 := ⟨_, _, rfl, by decide, by decide, inX2, (fb_inW1 112 rfl rfl)⟩
theorem lz_2_7 : fb_Ly 2 7 12 (tyX2 7) true RX2 := ⟨_, _, tyX2, rfl, tyX2_ok, nmX2, tyX2_ok 7 (by decide), rfl, rfl⟩
theorem lfX2_15 : fb_Lf RX2 15 2 8 12 := ⟨_, _, rfl, by decide, by decide, inX2, (fb_inW1 113 rfl rfl)⟩
theorem lz_2_8 : fb_Ly 2 8 12 (tyX2 8) true RX2 := ⟨_, _, tyX2, rfl, tyX2_ok, nmX2, tyX2_ok 8 (by decide), rfl, rfl⟩
theorem lfX2_18 : fb_Lf RX2 18 2 9 12 := ⟨_, _, rfl, by decide, by decide, inX2, (fb_inW1 114 rfl rfl)⟩
theorem lz_2_9 : fb_Ly 2 9 12 (tyX2 9) true RX2 := ⟨_, _, tyX2, rfl, tyX2_ok, nmX2, tyX2_ok 9 (by decide), rfl, rfl⟩
theorem lfX2_21 : fb_Lf RX2 21 2 10 12 := ⟨_, _, rfl, by decide, by decide, inX2, (fb_inW1 115 rfl rfl)⟩
theorem lz_2_10 : fb_Ly 2 10 12 (tyX2 10) true RX2 := ⟨_, _, tyX2, rfl, tyX2_ok, nmX2, tyX2_ok 10 (by decide), rfl, rfl⟩
theorem lfX2_24 : fb_Lf RX2 24 2 11 12 := ⟨_, _, rfl, by decide, by decide, inX2, (fb_inW1 116 rfl rfl)⟩
theorem lz_2_11 : fb_Ly 2 11 12 (tyX2 11) true RX2 := ⟨_, _, tyX2, rfl, tyX2_ok, nmX2, tyX2_ok 11 (by decide), rfl, rfl⟩
theorem dX2_init_0 : decode cX2_init 0 = .ok (.aload_n 0, 1) := by decide +kernel
theorem dX2_init_1 : decode cX2_init 1 = .ok (.invokespecial 3, 3) := by decide +kernel
theorem dX2_init_4 : decode cX2_init 4 = .ok (.aload_n 0, 1) := by decide +kernel
theorem dX2_init_5 : decode cX2_init 5 = .ok (.bipush 6, 2) := by decide +kernel
theorem dX2_init_7 : decode cX2_init 7 = .ok (.newarray .int, 2) := by decide +kernel
theorem dX2_init_9 : decode cX2_init 9 = .ok (.putfield 11, 3) := by decide +kernel
theorem dX2_init_12 : decode cX2_init 12 = .ok (.aload_n 0, 1) := by decide +kernel
theorem dX2_init_13 : decode cX2_init 13 = .ok (.bipush 6, 2) := by decide +kernel
theorem dX2_init_15 : decode cX2_init 15 = .ok (.newarray .int, 2) := by decide +kernel
theorem dX2_init_17 : decode cX2_init 17 = .ok (.putfield 15, 3) := by decide +kernel
theorem dX2_init_20 : decode cX2_init 20 = .ok (.aload_n 0, 1) := by decide +kernel
theorem dX2_init_21 : decode cX2_init 21 = .ok (.bipush 6, 2) := by decide +kernel
theorem dX2_init_23 : decode cX2_init 23 = .ok (.newarray .int, 2) := by decide +kernel
theorem dX2_init_25 : decode cX2_init 25 = .ok (.putfield 18, 3) := by decide +kernel
theorem dX2_init_28 : decode cX2_init 28 = .ok (.aload_n 0, 1) := by decide +kernel
theorem dX2_init_29 : decode cX2_init 29 = .ok (.iconst 3, 1) := by decide +kernel
theorem dX2_init_30 : decode cX2_init 30 = .ok (.newarray .int, 2) := by decide +kernel
theorem dX2_init_32 : decode cX2_init 32 = .ok (.putfield 21, 3) := by decide +kernel
theorem dX2_init_35 : decode cX2_init 35 = .ok (.aload_n 0, 1) := by decide +kernel
theorem dX2_init_36 : decode cX2_init 36 = .ok (.iconst 3, 1) := by decide +kernel
theorem dX2_init_37 : decode cX2_init 37 = .ok (.newarray .boolean, 2) := by decide +kernel
theorem dX2_init_39 : decode cX2_init 39 = .ok (.putfield 24, 3) := by decide +kernel
theorem dX2_init_42 : decode cX2_init 42 = .ok (.return_, 1) := by decide +kernel
theorem yinX2_init : Cond.instanceMethod yX2_init ∈ fb_W := (fb_inW1 95 rfl rfl)
theorem ymX2_init : fb_Ym yX2_init cX2_init 1 none 0 := ⟨(fb_inW1 96 rfl rfl), (fb_inW1 6 rfl rfl), by decide, by decide, by decide +kernel⟩
set_option maxRecDepth 100000 in
set_option maxHeartbeats 4000000 in
theorem mX2_init (g : fb_G) (n : Nat) (u : fb_M) (a0 : Nat) (h0 : a0 < n ∧ fb_sh a0 = (2, 12)) (hz : fb_zero u n) (hlt : n + 5 ≤ fb_NT) (hs0 : fb_sh n = (100, 6)) (hs1 : fb_sh (n + 1) = (100, 6)) (hs2 : fb_sh (n + 1 + 1) = (100, 6)) (hs3 : fb_sh (n + 1 + 1 + 1) = (100, 3)) (hs4 : fb_sh (n + 1 + 1 + 1 + 1) = (102, 3)) : fb_Runs g 1 40 5 24 n (n + 1 + 1 + 1 + 1 + 1) yX2_init cX2_init 1 none [.ref (fb_b g + a0)] u none (fb_wR (fb_wR (fb_wR (fb_wR (fb_wR u a0 7 n) a0 8 (n + 1)) a0 9 (n + 1 + 1)) a0 10 (n + 1 + 1 + 1)) a0 11 (n + 1 + 1 + 1 + 1)) := by
  have hlt : n + 5 ≤ 133 := hlt
  have h00 := h0.1
  refine fb_enter (by decide) (Nat.le_of_ble_eq_true rfl) ?_
  show fb_V g RX2 cX2_init 1 none "<init>" (fb_room 1 40 5 24) (fb_Qm g none (n + 1 + 1 + 1 + 1 + 1) (fb_wR (fb_wR (fb_wR (fb_wR (fb_wR u a0 7 n) a0 8 (n + 1)) a0 9 (n + 1 + 1)) a0 10 (n + 1 + 1 + 1)) a0 11 (n + 1 + 1 + 1 + 1)) 5 24) 0 0 n u 0 [(0, .ref (fb_b g + a0))] []
  refine fb_aload_n (pc := 0) dX2_init_0 0 rfl ?_
  refine fb_objInit (pc := 1) dX2_init_1 (fb_inW1 97 rfl rfl) wo1 wo2 (Nat.le_of_ble_eq_true rfl) ⟨Nat.le_of_ble_eq_true rfl, Nat.le_of_ble_eq_true rfl⟩ ?_
  refine fb_aload_n (pc := 4) dX2_init_4 0 rfl ?_
  refine fb_bipush (pc := 5) (v := 6) dX2_init_5 (by decide) ?_
  refine fb_newA (pc := 7) (t := 0) (N := 6) dX2_init_7 (by decide) rfl (fun _ _ h => h) wa0 (by show _ < 133; omega) hs0 (fb_z0 hz (by decide)) (by decide) (by decide) (Nat.le_of_ble_eq_true rfl) (Nat.le_of_ble_eq_true rfl) ?_
  have hz5 := fb_zs hz
  refine fb_putfR (pc := 9) (C := "") dX2_init_9 lfX2_11 lz_2_7 rfl rfl (by have := h0.1; omega) h0.2 (by decide) rfl rfl ?_
  have hz7 := fb_zw (k := 7) (x := n) hz5 (show a0 < (n + 1) from (by have := h0.1; omega))
  refine fb_aload_n (pc := 12) dX2_init_12 0 rfl ?_
  refine fb_bipush (pc := 13) (v := 6) dX2_init_13 (by decide) ?_
  refine fb_newA (pc := 15) (t := 0) (N := 6) dX2_init_15 (by decide) rfl (fun _ _ h => h) wa0 (by show _ < 133; omega) hs1 (fb_z0 hz7 (by decide)) (by decide) (by decide) (Nat.le_of_ble_eq_true rfl) (Nat.le_of_ble_eq_true rfl) ?_
  have hz11 := fb_zs hz7
  refine fb_putfR (pc := 17) (C := "") dX2_init_17 lfX2_15 lz_2_8 rfl rfl (by have := h0.1; omega) h0.2 (by decide) rfl rfl ?_
  have hz13 := fb_zw (k := 8) (x := (n + 1)) hz11 (show a0 < (n + 1 + 1) from (by have := h0.1; omega))
  refine fb_aload_n (pc := 20) dX2_init_20 0 rfl ?_
  refine fb_bipush (pc := 21) (v := 6) dX2_init_21 (by decide) ?_
  refine fb_newA (pc := 23) (t := 0) (N := 6) dX2_init_23 (by decide) rfl (fun _ _ h => h) wa0 (by show _ < 133; omega) hs2 (fb_z0 hz13 (by decide)) (by decide) (by decide) (Nat.le_of_ble_eq_true rfl) (Nat.le_of_ble_eq_true rfl) ?_
  have hz17 := fb_zs hz13
  refine fb_putfR (pc := 25) (C := "") dX2_init_25 lfX2_18 lz_2_9 rfl rfl (by have := h0.1; omega) h0.2 (by decide) rfl rfl ?_
  have hz19 := fb_zw (k := 9) (x := (n + 1 + 1)) hz17 (show a0 < (n + 1 + 1 + 1) from (by have := h0.1; omega))
  refine fb_aload_n (pc := 28) dX2_init_28 0 rfl ?_
  refine fb_iconst (pc := 29) (v := 3) dX2_init_29 (by decide) ?_
  refine fb_newA (pc := 30) (t := 0) (N := 3) dX2_init_30 (by decide) rfl (fun _ _ h => h) wa0 (by show _ < 133; omega) hs3 (fb_z0 hz19 (by decide)) (by decide) (by decide) (Nat.le_of_ble_eq_true rfl) (Nat.le_of_ble_eq_true rfl) ?_
  have hz23 := fb_zs hz19
  refine fb_putfR (pc := 32) (C := "") dX2_init_32 lfX2_21 lz_2_10 rfl rfl (by have := h0.1; omega) h0.2 (by decide) rfl rfl ?_
  have hz25 := fb_zw (k := 10) (x := (n + 1 + 1 + 1)) hz23 (show a0 < (n + 1 + 1 + 1 + 1) from (by have := h0.1; omega))
  refine fb_aload_n (pc := 35) dX2_init_35 0 rfl ?_
  refine fb_iconst (pc := 36) (v := 3) dX2_init_36 (by decide) ?_
  refine fb_newA (pc := 37) (t := 2) (N := 3) dX2_init_37 (by decide) rfl (fun _ _ h => h) wa2 (by show _ < 133; omega) hs4 (fb_z0 hz25 (by decide)) (by decide) (by decide) (Nat.le_of_ble_eq_true rfl) (Nat.le_of_ble_eq_true rfl) ?_
  have hz29 := fb_zs hz25
  refine fb_putfR (pc := 39) (C := "") dX2_init_39 lfX2_24 lz_2_11 rfl rfl (by have := h0.1; omega) h0.2 (by decide) rfl rfl ?_
  have hz31 := fb_zw (k := 11) (x := (n + 1 + 1 + 1 + 1)) hz29 (show a0 < (n + 1 + 1 + 1 + 1 + 1) from (by have := h0.1; omega))
  exact fb_vretM (pc := 42) rfl dX2_init_42

theorem X2_init_z {u : fb_M} {n : Nat} {a0 : Nat} (hz : fb_zero u n) (h00 : a0 < n) : fb_zero (fb_wR (fb_wR (fb_wR (fb_wR (fb_wR u a0 7 n) a0 8 (n + 1)) a0 9 (n + 1 + 1)) a0 10 (n + 1 + 1 + 1)) a0 11 (n + 1 + 1 + 1 + 1)) (n + 1 + 1 + 1 + 1 + 1) := (fb_zw (fb_zw (fb_zw (fb_zw (fb_zw (fb_zm hz (show n ≤ (n + 1 + 1 + 1 + 1 + 1) by omega)) (by omega)) (by omega)) (by omega)) (by omega)) (by omega))
theorem lfX3_9 : fb_Lf RX3 9 3 0 3 := ⟨_, _, rfl, by decide, by decide, inX3, (fb_inW1 81 rfl rfl)⟩
theorem lz_3_0 : fb_Ly 3 0 3 (tyX3 0) true RX3 := ⟨_, _, tyX3, rfl, tyX3_ok, nmX3, tyX3_ok 0 (by decide), rfl, rfl⟩
theorem lfX3_15 : fb_Lf RX3 15 3 1 3 := ⟨_, _, rfl, by decide, by decide, inX3, (fb_inW1 82 rfl rfl)⟩
theorem lz_3_1 : fb_Ly 3 1 3 (tyX3 1) true RX3 := ⟨_, _, tyX3, rfl, tyX3_ok, nmX3, tyX3_ok 1 (by decide), rfl, rfl⟩
theorem dX3_init_0 : decode cX3_init 0 = .ok (.aload_n 0, 1) := by decide +kernel
theorem dX3_init_1 : decode cX3_init 1 = .ok (.invokespecial 3, 3) := by decide +kernel
theorem dX3_init_4 : decode cX3_init 4 = .ok (.aload_n 0, 1) := by decide +kernel
theorem dX3_init_5 : decode cX3_init 5 = .ok (.aload_n 1, 1) := by decide +kernel
theorem dX3_init_6 : decode cX3_init 6 = .ok (.putfield 9, 3) := by decide +kernel
theorem dX3_init_9 : decode cX3_init 9 = .ok (.aload_n 0, 1) := by decide +kernel
theorem dX3_init_10 : decode cX3_init 10 = .ok (.aload_n 2, 1) := by decide +kernel
theorem dX3_init_11 : decode cX3_init 11 = .ok (.putfield 15, 3) := by decide +kernel
theorem dX3_init_14 : decode cX3_init 14 = .ok (.return_, 1) := by decide +kernel
theorem yinX3_init : Cond.instanceMethod yX3_init ∈ fb_W := (fb_inW1 78 rfl rfl)
theorem ymX3_init : fb_Ym yX3_init cX3_init 3 none 2 := ⟨(fb_inW1 79 rfl rfl), (fb_inW1 5 rfl rfl), by decide, by decide, by decide +kernel⟩
set_option maxRecDepth 100000 in
set_option maxHeartbeats 4000000 in
theorem mX3_init (g : fb_G) (n : Nat) (u : fb_M) (a0 : Nat) (a1 : Nat) (a2 : Nat) (h0 : a0 < n ∧ fb_sh a0 = (3, 3)) (hz : fb_zero u n) (hlt : n + 0 ≤ fb_NT) : fb_Runs g 1 40 0 0 n n yX3_init cX3_init 3 none [.ref (fb_b g + a0), .ref (fb_b g + a1), .ref (fb_b g + a2)] u none (fb_wR (fb_wR u a0 0 a1) a0 1 a2) := by
  have hlt : n + 0 ≤ 133 := hlt
  have h00 := h0.1
  refine fb_enter (by decide) (Nat.le_of_ble_eq_true rfl) ?_
  show fb_V g RX3 cX3_init 3 none "<init>" (fb_room 1 40 0 0) (fb_Qm g none n (fb_wR (fb_wR u a0 0 a1) a0 1 a2) 0 0) 0 0 n u 0 [(0, .ref (fb_b g + a0)), (1, .ref (fb_b g + a1)), (2, .ref (fb_b g + a2))] []
  refine fb_aload_n (pc := 0) dX3_init_0 0 rfl ?_
  refine fb_objInit (pc := 1) dX3_init_1 (fb_inW1 80 rfl rfl) wo1 wo2 (Nat.le_of_ble_eq_true rfl) ⟨Nat.le_of_ble_eq_true rfl, Nat.le_of_ble_eq_true rfl⟩ ?_
  refine fb_aload_n (pc := 4) dX3_init_4 0 rfl ?_
  refine fb_aload_n (pc := 5) dX3_init_5 1 rfl ?_
  refine fb_putfR (pc := 6) (C := "") dX3_init_6 lfX3_9 lz_3_0 rfl rfl (by have := h0.1; omega) h0.2 (by decide) rfl rfl ?_
  have hz5 := fb_zw (k := 0) (x := a1) hz (show a0 < n from (by have := h0.1; omega))
  refine fb_aload_n (pc := 9) dX3_init_9 0 rfl ?_
  refine fb_aload_n (pc := 10) dX3_init_10 2 rfl ?_
  refine fb_putfR (pc := 11) (C := "") dX3_init_11 lfX3_15 lz_3_1 rfl rfl (by have := h0.1; omega) h0.2 (by decide) rfl rfl ?_
  have hz9 := fb_zw (k := 1) (x := a2) hz5 (show a0 < n from (by have := h0.1; omega))
  exact fb_vretM (pc := 14) rfl dX3_init_14

theorem X3_init_z {u : fb_M} {n : Nat} {a0 : Nat} (hz : fb_zero u n) (h00 : a0 < n) (a1 : Nat) (a2 : Nat) : fb_zero (fb_wR (fb_wR u a0 0 a1) a0 1 a2) n := (fb_zw (fb_zw hz (by omega)) (by omega))
theorem lfX6_11 : fb_Lf RX6 11 6 0 2 := ⟨_, _, rfl, by decide, by decide, inX6, (fb_inW1 68 rfl rfl)⟩
theorem lz_6_0 : fb_Ly 6 0 2 (tyX6 0) true RX6 := ⟨_, _, tyX6, rfl, tyX6_ok, nmX6, tyX6_ok 0 (by decide), rfl, rfl⟩
theorem ylX6_15 : fb_Yl RX6 15 yX5_init := Or.inr ⟨"FinderBook", (fb_inN1 51 rfl rfl)⟩
theorem dX6_init_0 : decode cX6_init 0 = .ok (.aload_n 0, 1) := by decide +kernel
theorem dX6_init_1 : decode cX6_init 1 = .ok (.invokespecial 1, 3) := by decide +kernel
theorem dX6_init_4 : decode cX6_init 4 = .ok (.aload_n 0, 1) := by decide +kernel
theorem dX6_init_5 : decode cX6_init 5 = .ok (.bipush 8, 2) := by decide +kernel
theorem dX6_init_7 : decode cX6_init 7 = .ok (.anewarray 9, 3) := by decide +kernel
theorem dX6_init_10 : decode cX6_init 10 = .ok (.putfield 11, 3) := by decide +kernel
theorem dX6_init_13 : decode cX6_init 13 = .ok (.iconst 0, 1) := by decide +kernel
theorem dX6_init_14 : decode cX6_init 14 = .ok (.istore_n 1, 1) := by decide +kernel
theorem dX6_init_15 : decode cX6_init 15 = .ok (.iload_n 1, 1) := by decide +kernel
theorem dX6_init_16 : decode cX6_init 16 = .ok (.bipush 8, 2) := by decide +kernel
theorem dX6_init_18 : decode cX6_init 18 = .ok (.if_icmp .ge 22, 3) := by decide +kernel
theorem dX6_init_21 : decode cX6_init 21 = .ok (.aload_n 0, 1) := by decide +kernel
theorem dX6_init_22 : decode cX6_init 22 = .ok (.getfield 11, 3) := by decide +kernel
theorem dX6_init_25 : decode cX6_init 25 = .ok (.iload_n 1, 1) := by decide +kernel
theorem dX6_init_26 : decode cX6_init 26 = .ok (.new 9, 3) := by decide +kernel
theorem dX6_init_29 : decode cX6_init 29 = .ok (.dup, 1) := by decide +kernel
theorem dX6_init_30 : decode cX6_init 30 = .ok (.invokespecial 15, 3) := by decide +kernel
theorem dX6_init_33 : decode cX6_init 33 = .ok (.aastore, 1) := by decide +kernel
theorem dX6_init_34 : decode cX6_init 34 = .ok (.iinc 1 1, 3) := by decide +kernel
theorem dX6_init_37 : decode cX6_init 37 = .ok (.goto (-22), 3) := by decide +kernel
theorem dX6_init_40 : decode cX6_init 40 = .ok (.return_, 1) := by decide +kernel
theorem yinX6_init : Cond.instanceMethod yX6_init ∈ fb_W := (fb_inW1 45 rfl rfl)
theorem ymX6_init : fb_Ym yX6_init cX6_init 2 none 0 := ⟨(fb_inW1 46 rfl rfl), (fb_inW1 3 rfl rfl), by decide, by decide, by decide +kernel⟩
def uX6_init (u : fb_M) : fb_M := (fb_wR (fb_wR (fb_wR (fb_wR (fb_wR (fb_wR (fb_wR (fb_wR (fb_wR (fb_wR (fb_wR (fb_wR (fb_wR (fb_wR (fb_wR (fb_wR (fb_wR u 3 0 4) 5 0 6) 4 0 5) 7 0 8) 4 1 7) 9 0 10) 4 2 9) 11 0 12) 4 3 11) 13 0 14) 4 4 13) 15 0 16) 4 5 15) 17 0 18) 4 6 17) 19 0 20) 4 7 19)
set_option maxRecDepth 100000 in
set_option maxHeartbeats 4000000 in
theorem mX6_init (g : fb_G) (u : fb_M) (hz : fb_zero u 4) : fb_Runs g 2 60 17 344 4 21 yX6_init cX6_init 2 none [.ref (fb_b g + 3)] u none (uX6_init u) := by
  refine fb_enter (by decide) (Nat.le_of_ble_eq_true rfl) ?_
  show fb_V g RX6 cX6_init 2 none "<init>" (fb_room 2 60 17 344) (fb_Qm g none 21 (uX6_init u) 17 344) 0 0 4 u 0 [(0, .ref (fb_b g + 3))] []
  refine fb_aload_n (pc := 0) dX6_init_0 0 rfl ?_
  refine fb_objInit (pc := 1) dX6_init_1 (fb_inW1 47 rfl rfl) wo1 wo2 (Nat.le_of_ble_eq_true rfl) ⟨Nat.le_of_ble_eq_true rfl, Nat.le_of_ble_eq_true rfl⟩ ?_
  refine fb_aload_n (pc := 4) dX6_init_4 0 rfl ?_
  refine fb_bipush (pc := 5) (v := 8) dX6_init_5 (by decide) ?_
  refine fb_newQ (pc := 7) (t := 4) (N := 8) (C := RX5) dX6_init_7 ⟨by decide, by decide, rfl⟩ (by decide) (fb_inW1 48 rfl rfl) (by decide) rfl (hz _ (Nat.le_refl _)).2.2 (by decide) (by decide) (Nat.le_of_ble_eq_true rfl) (Nat.le_of_ble_eq_true rfl) ?_
  have hz5 := fb_zs hz
  refine fb_putfR (pc := 10) (C := "") dX6_init_10 lfX6_11 lz_6_0 rfl rfl (by decide) rfl (by decide) rfl rfl ?_
  have hz7 := fb_zw (k := 0) (x := 4) hz5 (show 3 < 5 from (by decide))
  refine fb_iconst (pc := 13) (v := 0) dX6_init_13 (by decide) ?_
  refine fb_istore_n (pc := 14) (lv' := [(1, .int 0), (0, .ref (fb_b g + 3))]) dX6_init_14 rfl (by decide) rfl ?_
  refine fb_iload_n (pc := 15) dX6_init_15 0 rfl ?_
  refine fb_bipush (pc := 16) (v := 8) dX6_init_16 (by decide) ?_
  refine fb_icmp_ge (pc := 18) (tgt := 40) (A := none) (B := some ()) (res := ()) (by decide) dX6_init_18 (by decide) (fun h => by cases h) (fun h => ?_)
  refine fb_aload_n (pc := 21) dX6_init_21 1 rfl ?_
  refine fb_getR (pc := 22) (q := 4) dX6_init_22 lkX6_11 (by decide) rfl (by decide) rfl ?_
  refine fb_iload_n (pc := 25) dX6_init_25 0 rfl ?_
  refine fb_newO (pc := 26) (ci := 5) tyX5 dX6_init_26 rfl (by decide) inX5 tyX5_ok (fb_inW1 48 rfl rfl) wi1X5 wi2X5 (by decide) rfl (dvX5 hz7) (Nat.le_of_ble_eq_true rfl) (Nat.le_of_ble_eq_true rfl) ?_
  have hz17 := fb_zs hz7
  refine fb_dup (pc := 29) dX6_init_29 rfl ?_
  refine fb_callIn (pc := 30) [] dX6_init_30 (mX5_init g 6 _ 5 ⟨by decide, rfl⟩ hz17 (by decide) rfl) ymX5_init ⟨rfl, yinX5_init⟩ ylX6_15 rfl (Nat.le_of_ble_eq_true rfl) ⟨Nat.le_of_ble_eq_true rfl, Nat.le_of_ble_eq_true rfl⟩ ⟨Nat.le_of_ble_eq_true rfl, Nat.le_of_ble_eq_true rfl⟩ ?_
  have hz20 := X5_init_z (n := 6) hz17 (show 5 < 6 from by decide)
  refine fb_aastL (pc := 33) (t := 4) (j := 0) (by decide) dX6_init_33 (by decide) rfl ⟨by decide, by decide, rfl⟩ (by decide) (by decide) rfl ⟨by decide, rfl⟩ ?_
  have hz22 := fb_zw (k := 0) (x := 5) hz20 (show 4 < 7 from (by decide))
  refine fb_iincV (pc := 34) (v := 1) (lv' := [(1, .int 1), (0, .ref (fb_b g + 3))]) dX6_init_34 0 rfl (by decide) (by decide) rfl ?_
  refine fb_goto (pc := 37) (tgt := 15) dX6_init_37 (by decide) ?_
  refine fb_iload_n (pc := 15) dX6_init_15 0 rfl ?_
  refine fb_bipush (pc := 16) (v := 8) dX6_init_16 (by decide) ?_
  refine fb_icmp_ge (pc := 18) (tgt := 40) (A := none) (B := some ()) (res := ()) (by decide) dX6_init_18 (by decide) (fun h => by cases h) (fun h => ?_)
  refine fb_aload_n (pc := 21) dX6_init_21 1 rfl ?_
  refine fb_getR (pc := 22) (q := 4) dX6_init_22 lkX6_11 (by decide) rfl (by decide) rfl ?_
  refine fb_iload_n (pc := 25) dX6_init_25 0 rfl ?_
  refine fb_newO (pc := 26) (ci := 5) tyX5 dX6_init_26 rfl (by decide) inX5 tyX5_ok (fb_inW1 48 rfl rfl) wi1X5 wi2X5 (by decide) rfl (dvX5 hz22) (Nat.le_of_ble_eq_true rfl) (Nat.le_of_ble_eq_true rfl) ?_
  have hz32 := fb_zs hz22
  refine fb_dup (pc := 29) dX6_init_29 rfl ?_
  refine fb_callIn (pc := 30) [] dX6_init_30 (mX5_init g 8 _ 7 ⟨by decide, rfl⟩ hz32 (by decide) rfl) ymX5_init ⟨rfl, yinX5_init⟩ ylX6_15 rfl (Nat.le_of_ble_eq_true rfl) ⟨Nat.le_of_ble_eq_true rfl, Nat.le_of_ble_eq_true rfl⟩ ⟨Nat.le_of_ble_eq_true rfl, Nat.le_of_ble_eq_true rfl⟩ ?_
  have hz35 := X5_init_z (n := 8) hz32 (show 7 < 8 from by decide)
  refine fb_aastL (pc := 33) (t := 4) (j := 1) (by decide) dX6_init_33 (by decide) rfl ⟨by decide, by decide, rfl⟩ (by decide) (by decide) rfl ⟨by decide, rfl⟩ ?_
  have hz37 := fb_zw (k := 1) (x := 7) hz35 (show 4 < 9 from (by decide))
  refine fb_iincV (pc := 34) (v := 2) (lv' := [(1, .int 2), (0, .ref (fb_b g + 3))]) dX6_init_34 0 rfl (by decide) (by decide) rfl ?_
  refine fb_goto (pc := 37) (tgt := 15) dX6_init_37 (by decide) ?_
  refine fb_iload_n (pc := 15) dX6_init_15 0 rfl ?_
  refine fb_bipush (pc := 16) (v := 8) dX6_init_16 (by decide) ?_
  refine fb_icmp_ge (pc := 18) (tgt := 40) (A := none) (B := some ()) (res := ()) (by decide) dX6_init_18 (by decide) (fun h => by cases h) (fun h => ?_)
  refine fb_aload_n (pc := 21) dX6_init_21 1 rfl ?_
  refine fb_getR (pc := 22) (q := 4) dX6_init_22 lkX6_11 (by decide) rfl (by decide) rfl ?_
  refine fb_iload_n (pc := 25) dX6_init_25 0 rfl ?_
  refine fb_newO (pc := 26) (ci := 5) tyX5 dX6_init_26 rfl (by decide) inX5 tyX5_ok (fb_inW1 48 rfl rfl) wi1X5 wi2X5 (by decide) rfl (dvX5 hz37) (Nat.le_of_ble_eq_true rfl) (Nat.le_of_ble_eq_true rfl) ?_
  have hz47 := fb_zs hz37
  refine fb_dup (pc := 29) dX6_init_29 rfl ?_
  refine fb_callIn (pc := 30) [] dX6_init_30 (mX5_init g 10 _ 9 ⟨by decide, rfl⟩ hz47 (by decide) rfl) ymX5_init ⟨rfl, yinX5_init⟩ ylX6_15 rfl (Nat.le_of_ble_eq_true rfl) ⟨Nat.le_of_ble_eq_true rfl, Nat.le_of_ble_eq_true rfl⟩ ⟨Nat.le_of_ble_eq_true rfl, Nat.le_of_ble_eq_true rfl⟩ ?_
  have hz50 := X5_init_z (n := 10) hz47 (show 9 < 10 from by decide)
  refine fb_aastL (pc := 33) (t := 4) (j := 2) (by decide) dX6_init_33 (by decide) rfl ⟨by decide, by decide, rfl⟩ (by decide) (by decide) rfl ⟨by decide, rfl⟩ ?_
  have hz52 := fb_zw (k := 2) (x := 9) hz50 (show 4 < 11 from (by decide))
  refine fb_iincV (pc := 34) (v := 3) (lv' := [(1, .int 3), (0, .ref (fb_b g + 3))]) dX6_init_34 0 rfl (by decide) (by decide) rfl ?_
  refine fb_goto (pc := 37) (tgt := 15) dX6_init_37 (by decide) ?_
  refine fb_iload_n (pc := 15) dX6_init_15 0 rfl ?_
  refine fb_bipush (pc := 16) (v := 8) dX6_init_16 (by decide) ?_
  refine fb_icmp_ge (pc := 18) (tgt := 40) (A := none) (B := some ()) (res := ()) (by decide) dX6_init_18 (by decide) (fun h => by cases h) (fun h => ?_)
  refine fb_aload_n (pc := 21) dX6_init_21 1 rfl ?_
  refine fb_getR (pc := 22) (q := 4) dX6_init_22 lkX6_11 (by decide) rfl (by decide) rfl ?_
  refine fb_iload_n (pc := 25) dX6_init_25 0 rfl ?_
  refine fb_newO (pc := 26) (ci := 5) tyX5 dX6_init_26 rfl (by decide) inX5 tyX5_ok (fb_inW1 48 rfl rfl) wi1X5 wi2X5 (by decide) rfl (dvX5 hz52) (Nat.le_of_ble_eq_true rfl) (Nat.le_of_ble_eq_true rfl) ?_
  have hz62 := fb_zs hz52
  refine fb_dup (pc := 29) dX6_init_29 rfl ?_
  refine fb_callIn (pc := 30) [] dX6_init_30 (mX5_init g 12 _ 11 ⟨by decide, rfl⟩ hz62 (by decide) rfl) ymX5_init ⟨rfl, yinX5_init⟩ ylX6_15 rfl (Nat.le_of_ble_eq_true rfl) ⟨Nat.le_of_ble_eq_true rfl, Nat.le_of_ble_eq_true rfl⟩ ⟨Nat.le_of_ble_eq_true rfl, Nat.le_of_ble_eq_true rfl⟩ ?_
  have hz65 := X5_init_z (n := 12) hz62 (show 11 < 12 from by decide)
  refine fb_aastL (pc := 33) (t := 4) (j := 3) (by decide) dX6_init_33 (by decide) rfl ⟨by decide, by decide, rfl⟩ (by decide) (by decide) rfl ⟨by decide, rfl⟩ ?_
  have hz67 := fb_zw (k := 3) (x := 11) hz65 (show 4 < 13 from (by decide))
  refine fb_iincV (pc := 34) (v := 4) (lv' := [(1, .int 4), (0, .ref (fb_b g + 3))]) dX6_init_34 0 rfl (by decide) (by decide) rfl ?_
  refine fb_goto (pc := 37) (tgt := 15) dX6_init_37 (by decide) ?_
  refine fb_iload_n (pc := 15) dX6_init_15 0 rfl ?_
  refine fb_bipush (pc := 16) (v := 8) dX6_init_16 (by decide) ?_
  refine fb_icmp_ge (pc := 18) (tgt := 40) (A := none) (B := some ()) (res := ()) (by decide) dX6_init_18 (by decide) (fun h => by cases h) (fun h => ?_)
  refine fb_aload_n (pc := 21) dX6_init_21 1 rfl ?_
  refine fb_getR (pc := 22) (q := 4) dX6_init_22 lkX6_11 (by decide) rfl (by decide) rfl ?_
  refine fb_iload_n (pc := 25) dX6_init_25 0 rfl ?_
  refine fb_newO (pc := 26) (ci := 5) tyX5 dX6_init_26 rfl (by decide) inX5 tyX5_ok (fb_inW1 48 rfl rfl) wi1X5 wi2X5 (by decide) rfl (dvX5 hz67) (Nat.le_of_ble_eq_true rfl) (Nat.le_of_ble_eq_true rfl) ?_
  have hz77 := fb_zs hz67
  refine fb_dup (pc := 29) dX6_init_29 rfl ?_
  refine fb_callIn (pc := 30) [] dX6_init_30 (mX5_init g 14 _ 13 ⟨by decide, rfl⟩ hz77 (by decide) rfl) ymX5_init ⟨rfl, yinX5_init⟩ ylX6_15 rfl (Nat.le_of_ble_eq_true rfl) ⟨Nat.le_of_ble_eq_true rfl, Nat.le_of_ble_eq_true rfl⟩ ⟨Nat.le_of_ble_eq_true rfl, Nat.le_of_ble_eq_true rfl⟩ ?_
  have hz80 := X5_init_z (n := 14) hz77 (show 13 < 14 from by decide)
  refine fb_aastL (pc := 33) (t := 4) (j := 4) (by decide) dX6_init_33 (by decide) rfl ⟨by decide, by decide, rfl⟩ (by decide) (by decide) rfl ⟨by decide, rfl⟩ ?_
  have hz82 := fb_zw (k := 4) (x := 13) hz80 (show 4 < 15 from (by decide))
  refine fb_iincV (pc := 34) (v := 5) (lv' := [(1, .int 5), (0, .ref (fb_b g + 3))]) dX6_init_34 0 rfl (by decide) (by decide) rfl ?_
  refine fb_goto (pc := 37) (tgt := 15) dX6_init_37 (by decide) ?_
  refine fb_iload_n (pc := 15) dX6_init_15 0 rfl ?_
  refine fb_bipush (pc := 16) (v := 8) dX6_init_16 (by decide) ?_
  refine fb_icmp_ge (pc := 18) (tgt := 40) (A := none) (B := some ()) (res := ()) (by decide) dX6_init_18 (by decide) (fun h => by cases h) (fun h => ?_)
  refine fb_aload_n (pc := 21) dX6_init_21 1 rfl ?_
  refine fb_getR (pc := 22) (q := 4) dX6_init_22 lkX6_11 (by decide) rfl (by decide) rfl ?_
  refine fb_iload_n (pc := 25) dX6_init_25 0 rfl ?_
  refine fb_newO (pc := 26) (ci := 5) tyX5 dX6_init_26 rfl (by decide) inX5 tyX5_ok (fb_inW1 48 rfl rfl) wi1X5 wi2X5 (by decide) rfl (dvX5 hz82) (Nat.le_of_ble_eq_true rfl) (Nat.le_of_ble_eq_true rfl) ?_
  have hz92 := fb_zs hz82
  refine fb_dup (pc := 29) dX6_init_29 rfl ?_
  refine fb_callIn (pc := 30) [] dX6_init_30 (mX5_init g 16 _ 15 ⟨by decide, rfl⟩ hz92 (by decide) rfl) ymX5_init ⟨rfl, yinX5_init⟩ ylX6_15 rfl (Nat.le_of_ble_eq_true rfl) ⟨Nat.le_of_ble_eq_true rfl, Nat.le_of_ble_eq_true rfl⟩ ⟨Nat.le_of_ble_eq_true rfl, Nat.le_of_ble_eq_true rfl⟩ ?_
  have hz95 := X5_init_z (n := 16) hz92 (show 15 < 16 from by decide)
  refine fb_aastL (pc := 33) (t := 4) (j := 5) (by decide) dX6_init_33 (by decide) rfl ⟨by decide, by decide, rfl⟩ (by decide) (by decide) rfl ⟨by decide, rfl⟩ ?_
  have hz97 := fb_zw (k := 5) (x := 15) hz95 (show 4 < 17 from (by decide))
  refine fb_iincV (pc := 34) (v := 6) (lv' := [(1, .int 6), (0, .ref (fb_b g + 3))]) dX6_init_34 0 rfl (by decide) (by decide) rfl ?_
  refine fb_goto (pc := 37) (tgt := 15) dX6_init_37 (by decide) ?_
  refine fb_iload_n (pc := 15) dX6_init_15 0 rfl ?_
  refine fb_bipush (pc := 16) (v := 8) dX6_init_16 (by decide) ?_
  refine fb_icmp_ge (pc := 18) (tgt := 40) (A := none) (B := some ()) (res := ()) (by decide) dX6_init_18 (by decide) (fun h => by cases h) (fun h => ?_)
  refine fb_aload_n (pc := 21) dX6_init_21 1 rfl ?_
  refine fb_getR (pc := 22) (q := 4) dX6_init_22 lkX6_11 (by decide) rfl (by decide) rfl ?_
  refine fb_iload_n (pc := 25) dX6_init_25 0 rfl ?_
  refine fb_newO (pc := 26) (ci := 5) tyX5 dX6_init_26 rfl (by decide) inX5 tyX5_ok (fb_inW1 48 rfl rfl) wi1X5 wi2X5 (by decide) rfl (dvX5 hz97) (Nat.le_of_ble_eq_true rfl) (Nat.le_of_ble_eq_true rfl) ?_
  have hz107 := fb_zs hz97
  refine fb_dup (pc := 29) dX6_init_29 rfl ?_
  refine fb_callIn (pc := 30) [] dX6_init_30 (mX5_init g 18 _ 17 ⟨by decide, rfl⟩ hz107 (by decide) rfl) ymX5_init ⟨rfl, yinX5_init⟩ ylX6_15 rfl (Nat.le_of_ble_eq_true rfl) ⟨Nat.le_of_ble_eq_true rfl, Nat.le_of_ble_eq_true rfl⟩ ⟨Nat.le_of_ble_eq_true rfl, Nat.le_of_ble_eq_true rfl⟩ ?_
  have hz110 := X5_init_z (n := 18) hz107 (show 17 < 18 from by decide)
  refine fb_aastL (pc := 33) (t := 4) (j := 6) (by decide) dX6_init_33 (by decide) rfl ⟨by decide, by decide, rfl⟩ (by decide) (by decide) rfl ⟨by decide, rfl⟩ ?_
  have hz112 := fb_zw (k := 6) (x := 17) hz110 (show 4 < 19 from (by decide))
  refine fb_iincV (pc := 34) (v := 7) (lv' := [(1, .int 7), (0, .ref (fb_b g + 3))]) dX6_init_34 0 rfl (by decide) (by decide) rfl ?_
  refine fb_goto (pc := 37) (tgt := 15) dX6_init_37 (by decide) ?_
  refine fb_iload_n (pc := 15) dX6_init_15 0 rfl ?_
  refine fb_bipush (pc := 16) (v := 8) dX6_init_16 (by decide) ?_
  refine fb_icmp_ge (pc := 18) (tgt := 40) (A := none) (B := some ()) (res := ()) (by decide) dX6_init_18 (by decide) (fun h => by cases h) (fun h => ?_)
  refine fb_aload_n (pc := 21) dX6_init_21 1 rfl ?_
  refine fb_getR (pc := 22) (q := 4) dX6_init_22 lkX6_11 (by decide) rfl (by decide) rfl ?_
  refine fb_iload_n (pc := 25) dX6_init_25 0 rfl ?_
  refine fb_newO (pc := 26) (ci := 5) tyX5 dX6_init_26 rfl (by decide) inX5 tyX5_ok (fb_inW1 48 rfl rfl) wi1X5 wi2X5 (by decide) rfl (dvX5 hz112) (Nat.le_of_ble_eq_true rfl) (Nat.le_of_ble_eq_true rfl) ?_
  have hz122 := fb_zs hz112
  refine fb_dup (pc := 29) dX6_init_29 rfl ?_
  refine fb_callIn (pc := 30) [] dX6_init_30 (mX5_init g 20 _ 19 ⟨by decide, rfl⟩ hz122 (by decide) rfl) ymX5_init ⟨rfl, yinX5_init⟩ ylX6_15 rfl (Nat.le_of_ble_eq_true rfl) ⟨Nat.le_of_ble_eq_true rfl, Nat.le_of_ble_eq_true rfl⟩ ⟨Nat.le_of_ble_eq_true rfl, Nat.le_of_ble_eq_true rfl⟩ ?_
  have hz125 := X5_init_z (n := 20) hz122 (show 19 < 20 from by decide)
  refine fb_aastL (pc := 33) (t := 4) (j := 7) (by decide) dX6_init_33 (by decide) rfl ⟨by decide, by decide, rfl⟩ (by decide) (by decide) rfl ⟨by decide, rfl⟩ ?_
  have hz127 := fb_zw (k := 7) (x := 19) hz125 (show 4 < 21 from (by decide))
  refine fb_iincV (pc := 34) (v := 8) (lv' := [(1, .int 8), (0, .ref (fb_b g + 3))]) dX6_init_34 0 rfl (by decide) (by decide) rfl ?_
  refine fb_goto (pc := 37) (tgt := 15) dX6_init_37 (by decide) ?_
  refine fb_iload_n (pc := 15) dX6_init_15 0 rfl ?_
  refine fb_bipush (pc := 16) (v := 8) dX6_init_16 (by decide) ?_
  refine fb_icmp_ge (pc := 18) (tgt := 40) (A := some ()) (B := none) (res := ()) (by decide) dX6_init_18 (by decide) (fun h => ?_) (fun h => by cases h)
  exact fb_vretM (pc := 40) rfl dX6_init_40

set_option maxRecDepth 100000 in
set_option maxHeartbeats 4000000 in
theorem uX6_init_z {u : fb_M} (hz : fb_zero u 4) : fb_zero (uX6_init u) 21 := by
  have hz5 := fb_zs hz
  have hz7 := fb_zw (k := 0) (x := 4) hz5 (show 3 < 5 from (by decide))
  have hz17 := fb_zs hz7
  have hz20 := X5_init_z (n := 6) hz17 (show 5 < 6 from by decide)
  have hz22 := fb_zw (k := 0) (x := 5) hz20 (show 4 < 7 from (by decide))
  have hz32 := fb_zs hz22
  have hz35 := X5_init_z (n := 8) hz32 (show 7 < 8 from by decide)
  have hz37 := fb_zw (k := 1) (x := 7) hz35 (show 4 < 9 from (by decide))
  have hz47 := fb_zs hz37
  have hz50 := X5_init_z (n := 10) hz47 (show 9 < 10 from by decide)
  have hz52 := fb_zw (k := 2) (x := 9) hz50 (show 4 < 11 from (by decide))
  have hz62 := fb_zs hz52
  have hz65 := X5_init_z (n := 12) hz62 (show 11 < 12 from by decide)
  have hz67 := fb_zw (k := 3) (x := 11) hz65 (show 4 < 13 from (by decide))
  have hz77 := fb_zs hz67
  have hz80 := X5_init_z (n := 14) hz77 (show 13 < 14 from by decide)
  have hz82 := fb_zw (k := 4) (x := 13) hz80 (show 4 < 15 from (by decide))
  have hz92 := fb_zs hz82
  have hz95 := X5_init_z (n := 16) hz92 (show 15 < 16 from by decide)
  have hz97 := fb_zw (k := 5) (x := 15) hz95 (show 4 < 17 from (by decide))
  have hz107 := fb_zs hz97
  have hz110 := X5_init_z (n := 18) hz107 (show 17 < 18 from by decide)
  have hz112 := fb_zw (k := 6) (x := 17) hz110 (show 4 < 19 from (by decide))
  have hz122 := fb_zs hz112
  have hz125 := X5_init_z (n := 20) hz122 (show 19 < 20 from by decide)
  have hz127 := fb_zw (k := 7) (x := 19) hz125 (show 4 < 21 from (by decide))
  exact hz127
theorem lfX7_11 : fb_Lf RX7 11 7 0 2 := ⟨_, _, rfl, by decide, by decide, inX7, (fb_inW1 169 rfl rfl)⟩
theorem lz_7_0 : fb_Ly 7 0 2 (tyX7 0) true RX7 := ⟨_, _, tyX7, rfl, tyX7_ok, nmX7, tyX7_ok 0 (by decide), rfl, rfl⟩
theorem ylX7_15 : fb_Yl RX7 15 yX1_init := Or.inr ⟨"FinderBook", (fb_inN1 153 rfl rfl)⟩
theorem dX7_init_0 : decode cX7_init 0 = .ok (.aload_n 0, 1) := by decide +kernel
theorem dX7_init_1 : decode cX7_init 1 = .ok (.invokespecial 1, 3) := by decide +kernel
theorem dX7_init_4 : decode cX7_init 4 = .ok (.aload_n 0, 1) := by decide +kernel
theorem dX7_init_5 : decode cX7_init 5 = .ok (.bipush 10, 2) := by decide +kernel
theorem dX7_init_7 : decode cX7_init 7 = .ok (.anewarray 9, 3) := by decide +kernel
theorem dX7_init_10 : decode cX7_init 10 = .ok (.putfield 11, 3) := by decide +kernel
theorem dX7_init_13 : decode cX7_init 13 = .ok (.iconst 0, 1) := by decide +kernel
theorem dX7_init_14 : decode cX7_init 14 = .ok (.istore_n 1, 1) := by decide +kernel
theorem dX7_init_15 : decode cX7_init 15 = .ok (.iload_n 1, 1) := by decide +kernel
theorem dX7_init_16 : decode cX7_init 16 = .ok (.bipush 10, 2) := by decide +kernel
theorem dX7_init_18 : decode cX7_init 18 = .ok (.if_icmp .ge 22, 3) := by decide +kernel
theorem dX7_init_21 : decode cX7_init 21 = .ok (.aload_n 0, 1) := by decide +kernel
theorem dX7_init_22 : decode cX7_init 22 = .ok (.getfield 11, 3) := by decide +kernel
theorem dX7_init_25 : decode cX7_init 25 = .ok (.iload_n 1, 1) := by decide +kernel
theorem dX7_init_26 : decode cX7_init 26 = .ok (.new 9, 3) := by decide +kernel
theorem dX7_init_29 : decode cX7_init 29 = .ok (.dup, 1) := by decide +kernel
theorem dX7_init_30 : decode cX7_init 30 = .ok (.invokespecial 15, 3) := by decide +kernel
theorem dX7_init_33 : decode cX7_init 33 = .ok (.aastore, 1) := by decide +kernel
theorem dX7_init_34 : decode cX7_init 34 = .ok (.iinc 1 1, 3) := by decide +kernel
theorem dX7_init_37 : decode cX7_init 37 = .ok (.goto (-22), 3) := by decide +kernel
theorem dX7_init_40 : decode cX7_init 40 = .ok (.return_, 1) := by decide +kernel
theorem yinX7_init : Cond.instanceMethod yX7_init ∈ fb_W := (fb_inW1 147 rfl rfl)
theorem ymX7_init : fb_Ym yX7_init cX7_init 2 none 0 := ⟨(fb_inW1 148 rfl rfl), (fb_inW1 7 rfl rfl), by decide, by decide, by decide +kernel⟩
def uX7_init (u : fb_M) : fb_M := (fb_wR (fb_wR (fb_wR (fb_wR (fb_wR (fb_wR (fb_wR (fb_wR (fb_wR (fb_wR (fb_wR (fb_wR (fb_wR (fb_wR (fb_wR (fb_wR (fb_wR (fb_wR (fb_wR (fb_wR (fb_wR u 77 0 78) 79 1 80) 78 0 79) 81 1 82) 78 1 81) 83 1 84) 78 2 83) 85 1 86) 78 3 85) 87 1 88) 78 4 87) 89 1 90) 78 5 89) 91 1 92) 78 6 91) 93 1 94) 78 7 93) 95 1 96) 78 8 95) 97 1 98) 78 9 97)
set_option maxRecDepth 100000 in
set_option maxHeartbeats 4000000 in
theorem mX7_init (g : fb_G) (u : fb_M) (hz : fb_zero u 78) : fb_Runs g 2 60 21 110 78 99 yX7_init cX7_init 2 none [.ref (fb_b g + 77)] u none (uX7_init u) := by
  refine fb_enter (by decide) (Nat.le_of_ble_eq_true rfl) ?_
  show fb_V g RX7 cX7_init 2 none "<init>" (fb_room 2 60 21 110) (fb_Qm g none 99 (uX7_init u) 21 110) 0 0 78 u 0 [(0, .ref (fb_b g + 77))] []
  refine fb_aload_n (pc := 0) dX7_init_0 0 rfl ?_
  refine fb_objInit (pc := 1) dX7_init_1 (fb_inW1 149 rfl rfl) wo1 wo2 (Nat.le_of_ble_eq_true rfl) ⟨Nat.le_of_ble_eq_true rfl, Nat.le_of_ble_eq_true rfl⟩ ?_
  refine fb_aload_n (pc := 4) dX7_init_4 0 rfl ?_
  refine fb_bipush (pc := 5) (v := 10) dX7_init_5 (by decide) ?_
  refine fb_newQ (pc := 7) (t := 6) (N := 10) (C := RX1) dX7_init_7 ⟨by decide, by decide, rfl⟩ (by decide) (fb_inW1 150 rfl rfl) (by decide) rfl (hz _ (Nat.le_refl _)).2.2 (by decide) (by decide) (Nat.le_of_ble_eq_true rfl) (Nat.le_of_ble_eq_true rfl) ?_
  have hz5 := fb_zs hz
  refine fb_putfR (pc := 10) (C := "") dX7_init_10 lfX7_11 lz_7_0 rfl rfl (by decide) rfl (by decide) rfl rfl ?_
  have hz7 := fb_zw (k := 0) (x := 78) hz5 (show 77 < 79 from (by decide))
  refine fb_iconst (pc := 13) (v := 0) dX7_init_13 (by decide) ?_
  refine fb_istore_n (pc := 14) (lv' := [(1, .int 0), (0, .ref (fb_b g + 77))]) dX7_init_14 rfl (by decide) rfl ?_
  refine fb_iload_n (pc := 15) dX7_init_15 0 rfl ?_
  refine fb_bipush (pc := 16) (v := 10) dX7_init_16 (by decide) ?_
  refine fb_icmp_ge (pc := 18) (tgt := 40) (A := none) (B := some ()) (res := ()) (by decide) dX7_init_18 (by decide) (fun h => by cases h) (fun h => ?_)
  refine fb_aload_n (pc := 21) dX7_init_21 1 rfl ?_
  refine fb_getR (pc := 22) (q := 78) dX7_init_22 lkX7_11 (by decide) rfl (by decide) rfl ?_
  refine fb_iload_n (pc := 25) dX7_init_25 0 rfl ?_
  refine fb_newO (pc := 26) (ci := 1) tyX1 dX7_init_26 rfl (by decide) inX1 tyX1_ok (fb_inW1 150 rfl rfl) wi1X1 wi2X1 (by decide) rfl (dvX1 hz7) (Nat.le_of_ble_eq_true rfl) (Nat.le_of_ble_eq_true rfl) ?_
  have hz17 := fb_zs hz7
  refine fb_dup (pc := 29) dX7_init_29 rfl ?_
  refine fb_callIn (pc := 30) [] dX7_init_30 (mX1_init g 80 _ 79 ⟨by decide, rfl⟩ hz17 (by decide) rfl) ymX1_init ⟨rfl, yinX1_init⟩ ylX7_15 rfl (Nat.le_of_ble_eq_true rfl) ⟨Nat.le_of_ble_eq_true rfl, Nat.le_of_ble_eq_true rfl⟩ ⟨Nat.le_of_ble_eq_true rfl, Nat.le_of_ble_eq_true rfl⟩ ?_
  have hz20 := X1_init_z (n := 80) hz17 (show 79 < 80 from by decide)
  refine fb_aastL (pc := 33) (t := 6) (j := 0) (by decide) dX7_init_33 (by decide) rfl ⟨by decide, by decide, rfl⟩ (by decide) (by decide) rfl ⟨by decide, rfl⟩ ?_
  have hz22 := fb_zw (k := 0) (x := 79) hz20 (show 78 < 81 from (by decide))
  refine fb_iincV (pc := 34) (v := 1) (lv' := [(1, .int 1), (0, .ref (fb_b g + 77))]) dX7_init_34 0 rfl (by decide) (by decide) rfl ?_
  refine fb_goto (pc := 37) (tgt := 15) dX7_init_37 (by decide) ?_
  refine fb_iload_n (pc := 15) dX7_init_15 0 rfl ?_
  refine fb_bipush (pc := 16) (v := 10) dX7_init_16 (by decide) ?_
  refine fb_icmp_ge (pc := 18) (tgt := 40) (A := none) (B := some ()) (res := ()) (by decide) dX7_init_18 (by decide) (fun h => by cases h) (fun h => ?_)
  refine fb_aload_n (pc := 21) dX7_init_21 1 rfl ?_
  refine fb_getR (pc := 22) (q := 78) dX7_init_22 lkX7_11 (by decide) rfl (by decide) rfl ?_
  refine fb_iload_n (pc := 25) dX7_init_25 0 rfl ?_
  refine fb_newO (pc := 26) (ci := 1) tyX1 dX7_init_26 rfl (by decide) inX1 tyX1_ok (fb_inW1 150 rfl rfl) wi1X1 wi2X1 (by decide) rfl (dvX1 hz22) (Nat.le_of_ble_eq_true rfl) (Nat.le_of_ble_eq_true rfl) ?_
  have hz32 := fb_zs hz22
  refine fb_dup (pc := 29) dX7_init_29 rfl ?_
  refine fb_callIn (pc := 30) [] dX7_init_30 (mX1_init g 82 _ 81 ⟨by decide, rfl⟩ hz32 (by decide) rfl) ymX1_init ⟨rfl, yinX1_init⟩ ylX7_15 rfl (Nat.le_of_ble_eq_true rfl) ⟨Nat.le_of_ble_eq_true rfl, Nat.le_of_ble_eq_true rfl⟩ ⟨Nat.le_of_ble_eq_true rfl, Nat.le_of_ble_eq_true rfl⟩ ?_
  have hz35 := X1_init_z (n := 82) hz32 (show 81 < 82 from by decide)
  refine fb_aastL (pc := 33) (t := 6) (j := 1) (by decide) dX7_init_33 (by decide) rfl ⟨by decide, by decide, rfl⟩ (by decide) (by decide) rfl ⟨by decide, rfl⟩ ?_
  have hz37 := fb_zw (k := 1) (x := 81) hz35 (show 78 < 83 from (by decide))
  refine fb_iincV (pc := 34) (v := 2) (lv' := [(1, .int 2), (0, .ref (fb_b g + 77))]) dX7_init_34 0 rfl (by decide) (by decide) rfl ?_
  refine fb_goto (pc := 37) (tgt := 15) dX7_init_37 (by decide) ?_
  refine fb_iload_n (pc := 15) dX7_init_15 0 rfl ?_
  refine fb_bipush (pc := 16) (v := 10) dX7_init_16 (by decide) ?_
  refine fb_icmp_ge (pc := 18) (tgt := 40) (A := none) (B := some ()) (res := ()) (by decide) dX7_init_18 (by decide) (fun h => by cases h) (fun h => ?_)
  refine fb_aload_n (pc := 21) dX7_init_21 1 rfl ?_
  refine fb_getR (pc := 22) (q := 78) dX7_init_22 lkX7_11 (by decide) rfl (by decide) rfl ?_
  refine fb_iload_n (pc := 25) dX7_init_25 0 rfl ?_
  refine fb_newO (pc := 26) (ci := 1) tyX1 dX7_init_26 rfl (by decide) inX1 tyX1_ok (fb_inW1 150 rfl rfl) wi1X1 wi2X1 (by decide) rfl (dvX1 hz37) (Nat.le_of_ble_eq_true rfl) (Nat.le_of_ble_eq_true rfl) ?_
  have hz47 := fb_zs hz37
  refine fb_dup (pc := 29) dX7_init_29 rfl ?_
  refine fb_callIn (pc := 30) [] dX7_init_30 (mX1_init g 84 _ 83 ⟨by decide, rfl⟩ hz47 (by decide) rfl) ymX1_init ⟨rfl, yinX1_init⟩ ylX7_15 rfl (Nat.le_of_ble_eq_true rfl) ⟨Nat.le_of_ble_eq_true rfl, Nat.le_of_ble_eq_true rfl⟩ ⟨Nat.le_of_ble_eq_true rfl, Nat.le_of_ble_eq_true rfl⟩ ?_
  have hz50 := X1_init_z (n := 84) hz47 (show 83 < 84 from by decide)
  refine fb_aastL (pc := 33) (t := 6) (j := 2) (by decide) dX7_init_33 (by decide) rfl ⟨by decide, by decide, rfl⟩ (by decide) (by decide) rfl ⟨by decide, rfl⟩ ?_
  have hz52 := fb_zw (k := 2) (x := 83) hz50 (show 78 < 85 from (by decide))
  refine fb_iincV (pc := 34) (v := 3) (lv' := [(1, .int 3), (0, .ref (fb_b g + 77))]) dX7_init_34 0 rfl (by decide) (by decide) rfl ?_
  refine fb_goto (pc := 37) (tgt := 15) dX7_init_37 (by decide) ?_
  refine fb_iload_n (pc := 15) dX7_init_15 0 rfl ?_
  refine fb_bipush (pc := 16) (v := 10) dX7_init_16 (by decide) ?_
  refine fb_icmp_ge (pc := 18) (tgt := 40) (A := none) (B := some ()) (res := ()) (by decide) dX7_init_18 (by decide) (fun h => by cases h) (fun h => ?_)
  refine fb_aload_n (pc := 21) dX7_init_21 1 rfl ?_
  refine fb_getR (pc := 22) (q := 78) dX7_init_22 lkX7_11 (by decide) rfl (by decide) rfl ?_
  refine fb_iload_n (pc := 25) dX7_init_25 0 rfl ?_
  refine fb_newO (pc := 26) (ci := 1) tyX1 dX7_init_26 rfl (by decide) inX1 tyX1_ok (fb_inW1 150 rfl rfl) wi1X1 wi2X1 (by decide) rfl (dvX1 hz52) (Nat.le_of_ble_eq_true rfl) (Nat.le_of_ble_eq_true rfl) ?_
  have hz62 := fb_zs hz52
  refine fb_dup (pc := 29) dX7_init_29 rfl ?_
  refine fb_callIn (pc := 30) [] dX7_init_30 (mX1_init g 86 _ 85 ⟨by decide, rfl⟩ hz62 (by decide) rfl) ymX1_init ⟨rfl, yinX1_init⟩ ylX7_15 rfl (Nat.le_of_ble_eq_true rfl) ⟨Nat.le_of_ble_eq_true rfl, Nat.le_of_ble_eq_true rfl⟩ ⟨Nat.le_of_ble_eq_true rfl, Nat.le_of_ble_eq_true rfl⟩ ?_
  have hz65 := X1_init_z (n := 86) hz62 (show 85 < 86 from by decide)
  refine fb_aastL (pc := 33) (t := 6) (j := 3) (by decide) dX7_init_33 (by decide) rfl ⟨by decide, by decide, rfl⟩ (by decide) (by decide) rfl ⟨by decide, rfl⟩ ?_
  have hz67 := fb_zw (k := 3) (x := 85) hz65 (show 78 < 87 from (by decide))
  refine fb_iincV (pc := 34) (v := 4) (lv' := [(1, .int 4), (0, .ref (fb_b g + 77))]) dX7_init_34 0 rfl (by decide) (by decide) rfl ?_
  refine fb_goto (pc := 37) (tgt := 15) dX7_init_37 (by decide) ?_
  refine fb_iload_n (pc := 15) dX7_init_15 0 rfl ?_
  refine fb_bipush (pc := 16) (v := 10) dX7_init_16 (by decide) ?_
  refine fb_icmp_ge (pc := 18) (tgt := 40) (A := none) (B := some ()) (res := ()) (by decide) dX7_init_18 (by decide) (fun h => by cases h) (fun h => ?_)
  refine fb_aload_n (pc := 21) dX7_init_21 1 rfl ?_
  refine fb_getR (pc := 22) (q := 78) dX7_init_22 lkX7_11 (by decide) rfl (by decide) rfl ?_
  refine fb_iload_n (pc := 25) dX7_init_25 0 rfl ?_
  refine fb_newO (pc := 26) (ci := 1) tyX1 dX7_init_26 rfl (by decide) inX1 tyX1_ok (fb_inW1 150 rfl rfl) wi1X1 wi2X1 (by decide) rfl (dvX1 hz67) (Nat.le_of_ble_eq_true rfl) (Nat.le_of_ble_eq_true rfl) ?_
  have hz77 := fb_zs hz67
  refine fb_dup (pc := 29) dX7_init_29 rfl ?_
  refine fb_callIn (pc := 30) [] dX7_init_30 (mX1_init g 88 _ 87 ⟨by decide, rfl⟩ hz77 (by decide) rfl) ymX1_init ⟨rfl, yinX1_init⟩ ylX7_15 rfl (Nat.le_of_ble_eq_true rfl) ⟨Nat.le_of_ble_eq_true rfl, Nat.le_of_ble_eq_true rfl⟩ ⟨Nat.le_of_ble_eq_true rfl, Nat.le_of_ble_eq_true rfl⟩ ?_
  have hz80 := X1_init_z (n := 88) hz77 (show 87 < 88 from by decide)
  refine fb_aastL (pc := 33) (t := 6) (j := 4) (by decide) dX7_init_33 (by decide) rfl ⟨by decide, by decide, rfl⟩ (by decide) (by decide) rfl ⟨by decide, rfl⟩ ?_
  have hz82 := fb_zw (k := 4) (x := 87) hz80 (show 78 < 89 from (by decide))
  refine fb_iincV (pc := 34) (v := 5) (lv' := [(1, .int 5), (0, .ref (fb_b g + 77))]) dX7_init_34 0 rfl (by decide) (by decide) rfl ?_
  refine fb_goto (pc := 37) (tgt := 15) dX7_init_37 (by decide) ?_
  refine fb_iload_n (pc := 15) dX7_init_15 0 rfl ?_
  refine fb_bipush (pc := 16) (v := 10) dX7_init_16 (by decide) ?_
  refine fb_icmp_ge (pc := 18) (tgt := 40) (A := none) (B := some ()) (res := ()) (by decide) dX7_init_18 (by decide) (fun h => by cases h) (fun h => ?_)
  refine fb_aload_n (pc := 21) dX7_init_21 1 rfl ?_
  refine fb_getR (pc := 22) (q := 78) dX7_init_22 lkX7_11 (by decide) rfl (by decide) rfl ?_
  refine fb_iload_n (pc := 25) dX7_init_25 0 rfl ?_
  refine fb_newO (pc := 26) (ci := 1) tyX1 dX7_init_26 rfl (by decide) inX1 tyX1_ok (fb_inW1 150 rfl rfl) wi1X1 wi2X1 (by decide) rfl (dvX1 hz82) (Nat.le_of_ble_eq_true rfl) (Nat.le_of_ble_eq_true rfl) ?_
  have hz92 := fb_zs hz82
  refine fb_dup (pc := 29) dX7_init_29 rfl ?_
  refine fb_callIn (pc := 30) [] dX7_init_30 (mX1_init g 90 _ 89 ⟨by decide, rfl⟩ hz92 (by decide) rfl) ymX1_init ⟨rfl, yinX1_init⟩ ylX7_15 rfl (Nat.le_of_ble_eq_true rfl) ⟨Nat.le_of_ble_eq_true rfl, Nat.le_of_ble_eq_true rfl⟩ ⟨Nat.le_of_ble_eq_true rfl, Nat.le_of_ble_eq_true rfl⟩ ?_
  have hz95 := X1_init_z (n := 90) hz92 (show 89 < 90 from by decide)
  refine fb_aastL (pc := 33) (t := 6) (j := 5) (by decide) dX7_init_33 (by decide) rfl ⟨by decide, by decide, rfl⟩ (by decide) (by decide) rfl ⟨by decide, rfl⟩ ?_
  have hz97 := fb_zw (k := 5) (x := 89) hz95 (show 78 < 91 from (by decide))
  refine fb_iincV (pc := 34) (v := 6) (lv' := [(1, .int 6), (0, .ref (fb_b g + 77))]) dX7_init_34 0 rfl (by decide) (by decide) rfl ?_
  refine fb_goto (pc := 37) (tgt := 15) dX7_init_37 (by decide) ?_
  refine fb_iload_n (pc := 15) dX7_init_15 0 rfl ?_
  refine fb_bipush (pc := 16) (v := 10) dX7_init_16 (by decide) ?_
  refine fb_icmp_ge (pc := 18) (tgt := 40) (A := none) (B := some ()) (res := ()) (by decide) dX7_init_18 (by decide) (fun h => by cases h) (fun h => ?_)
  refine fb_aload_n (pc := 21) dX7_init_21 1 rfl ?_
  refine fb_getR (pc := 22) (q := 78) dX7_init_22 lkX7_11 (by decide) rfl (by decide) rfl ?_
  refine fb_iload_n (pc := 25) dX7_init_25 0 rfl ?_
  refine fb_newO (pc := 26) (ci := 1) tyX1 dX7_init_26 rfl (by decide) inX1 tyX1_ok (fb_inW1 150 rfl rfl) wi1X1 wi2X1 (by decide) rfl (dvX1 hz97) (Nat.le_of_ble_eq_true rfl) (Nat.le_of_ble_eq_true rfl) ?_
  have hz107 := fb_zs hz97
  refine fb_dup (pc := 29) dX7_init_29 rfl ?_
  refine fb_callIn (pc := 30) [] dX7_init_30 (mX1_init g 92 _ 91 ⟨by decide, rfl⟩ hz107 (by decide) rfl) ymX1_init ⟨rfl, yinX1_init⟩ ylX7_15 rfl (Nat.le_of_ble_eq_true rfl) ⟨Nat.le_of_ble_eq_true rfl, Nat.le_of_ble_eq_true rfl⟩ ⟨Nat.le_of_ble_eq_true rfl, Nat.le_of_ble_eq_true rfl⟩ ?_
  have hz110 := X1_init_z (n := 92) hz107 (show 91 < 92 from by decide)
  refine fb_aastL (pc := 33) (t := 6) (j := 6) (by decide) dX7_init_33 (by decide) rfl ⟨by decide, by decide, rfl⟩ (by decide) (by decide) rfl ⟨by decide, rfl⟩ ?_
  have hz112 := fb_zw (k := 6) (x := 91) hz110 (show 78 < 93 from (by decide))
  refine fb_iincV (pc := 34) (v := 7) (lv' := [(1, .int 7), (0, .ref (fb_b g + 77))]) dX7_init_34 0 rfl (by decide) (by decide) rfl ?_
  refine fb_goto (pc := 37) (tgt := 15) dX7_init_37 (by decide) ?_
  refine fb_iload_n (pc := 15) dX7_init_15 0 rfl ?_
  refine fb_bipush (pc := 16) (v := 10) dX7_init_16 (by decide) ?_
  refine fb_icmp_ge (pc := 18) (tgt := 40) (A := none) (B := some ()) (res := ()) (by decide) dX7_init_18 (by decide) (fun h => by cases h) (fun h => ?_)
  refine fb_aload_n (pc := 21) dX7_init_21 1 rfl ?_
  refine fb_getR (pc := 22) (q := 78) dX7_init_22 lkX7_11 (by decide) rfl (by decide) rfl ?_
  refine fb_iload_n (pc := 25) dX7_init_25 0 rfl ?_
  refine fb_newO (pc := 26) (ci := 1) tyX1 dX7_init_26 rfl (by decide) inX1 tyX1_ok (fb_inW1 150 rfl rfl) wi1X1 wi2X1 (by decide) rfl (dvX1 hz112) (Nat.le_of_ble_eq_true rfl) (Nat.le_of_ble_eq_true rfl) ?_
  have hz122 := fb_zs hz112
  refine fb_dup (pc := 29) dX7_init_29 rfl ?_
  refine fb_callIn (pc := 30) [] dX7_init_30 (mX1_init g 94 _ 93 ⟨by decide, rfl⟩ hz122 (by decide) rfl) ymX1_init ⟨rfl, yinX1_init⟩ ylX7_15 rfl (Nat.le_of_ble_eq_true rfl) ⟨Nat.le_of_ble_eq_true rfl, Nat.le_of_ble_eq_true rfl⟩ ⟨Nat.le_of_ble_eq_true rfl, Nat.le_of_ble_eq_true rfl⟩ ?_
  have hz125 := X1_init_z (n := 94) hz122 (show 93 < 94 from by decide)
  refine fb_aastL (pc := 33) (t := 6) (j := 7) (by decide) dX7_init_33 (by decide) rfl ⟨by decide, by decide, rfl⟩ (by decide) (by decide) rfl ⟨by decide, rfl⟩ ?_
  have hz127 := fb_zw (k := 7) (x := 93) hz125 (show 78 < 95 from (by decide))
  refine fb_iincV (pc := 34) (v := 8) (lv' := [(1, .int 8), (0, .ref (fb_b g + 77))]) dX7_init_34 0 rfl (by decide) (by decide) rfl ?_
  refine fb_goto (pc := 37) (tgt := 15) dX7_init_37 (by decide) ?_
  refine fb_iload_n (pc := 15) dX7_init_15 0 rfl ?_
  refine fb_bipush (pc := 16) (v := 10) dX7_init_16 (by decide) ?_
  refine fb_icmp_ge (pc := 18) (tgt := 40) (A := none) (B := some ()) (res := ()) (by decide) dX7_init_18 (by decide) (fun h => by cases h) (fun h => ?_)
  refine fb_aload_n (pc := 21) dX7_init_21 1 rfl ?_
  refine fb_getR (pc := 22) (q := 78) dX7_init_22 lkX7_11 (by decide) rfl (by decide) rfl ?_
  refine fb_iload_n (pc := 25) dX7_init_25 0 rfl ?_
  refine fb_newO (pc := 26) (ci := 1) tyX1 dX7_init_26 rfl (by decide) inX1 tyX1_ok (fb_inW1 150 rfl rfl) wi1X1 wi2X1 (by decide) rfl (dvX1 hz127) (Nat.le_of_ble_eq_true rfl) (Nat.le_of_ble_eq_true rfl) ?_
  have hz137 := fb_zs hz127
  refine fb_dup (pc := 29) dX7_init_29 rfl ?_
  refine fb_callIn (pc := 30) [] dX7_init_30 (mX1_init g 96 _ 95 ⟨by decide, rfl⟩ hz137 (by decide) rfl) ymX1_init ⟨rfl, yinX1_init⟩ ylX7_15 rfl (Nat.le_of_ble_eq_true rfl) ⟨Nat.le_of_ble_eq_true rfl, Nat.le_of_ble_eq_true rfl⟩ ⟨Nat.le_of_ble_eq_true rfl, Nat.le_of_ble_eq_true rfl⟩ ?_
  have hz140 := X1_init_z (n := 96) hz137 (show 95 < 96 from by decide)
  refine fb_aastL (pc := 33) (t := 6) (j := 8) (by decide) dX7_init_33 (by decide) rfl ⟨by decide, by decide, rfl⟩ (by decide) (by decide) rfl ⟨by decide, rfl⟩ ?_
  have hz142 := fb_zw (k := 8) (x := 95) hz140 (show 78 < 97 from (by decide))
  refine fb_iincV (pc := 34) (v := 9) (lv' := [(1, .int 9), (0, .ref (fb_b g + 77))]) dX7_init_34 0 rfl (by decide) (by decide) rfl ?_
  refine fb_goto (pc := 37) (tgt := 15) dX7_init_37 (by decide) ?_
  refine fb_iload_n (pc := 15) dX7_init_15 0 rfl ?_
  refine fb_bipush (pc := 16) (v := 10) dX7_init_16 (by decide) ?_
  refine fb_icmp_ge (pc := 18) (tgt := 40) (A := none) (B := some ()) (res := ()) (by decide) dX7_init_18 (by decide) (fun h => by cases h) (fun h => ?_)
  refine fb_aload_n (pc := 21) dX7_init_21 1 rfl ?_
  refine fb_getR (pc := 22) (q := 78) dX7_init_22 lkX7_11 (by decide) rfl (by decide) rfl ?_
  refine fb_iload_n (pc := 25) dX7_init_25 0 rfl ?_
  refine fb_newO (pc := 26) (ci := 1) tyX1 dX7_init_26 rfl (by decide) inX1 tyX1_ok (fb_inW1 150 rfl rfl) wi1X1 wi2X1 (by decide) rfl (dvX1 hz142) (Nat.le_of_ble_eq_true rfl) (Nat.le_of_ble_eq_true rfl) ?_
  have hz152 := fb_zs hz142
  refine fb_dup (pc := 29) dX7_init_29 rfl ?_
  refine fb_callIn (pc := 30) [] dX7_init_30 (mX1_init g 98 _ 97 ⟨by decide, rfl⟩ hz152 (by decide) rfl) ymX1_init ⟨rfl, yinX1_init⟩ ylX7_15 rfl (Nat.le_of_ble_eq_true rfl) ⟨Nat.le_of_ble_eq_true rfl, Nat.le_of_ble_eq_true rfl⟩ ⟨Nat.le_of_ble_eq_true rfl, Nat.le_of_ble_eq_true rfl⟩ ?_
  have hz155 := X1_init_z (n := 98) hz152 (show 97 < 98 from by decide)
  refine fb_aastL (pc := 33) (t := 6) (j := 9) (by decide) dX7_init_33 (by decide) rfl ⟨by decide, by decide, rfl⟩ (by decide) (by decide) rfl ⟨by decide, rfl⟩ ?_
  have hz157 := fb_zw (k := 9) (x := 97) hz155 (show 78 < 99 from (by decide))
  refine fb_iincV (pc := 34) (v := 10) (lv' := [(1, .int 10), (0, .ref (fb_b g + 77))]) dX7_init_34 0 rfl (by decide) (by decide) rfl ?_
  refine fb_goto (pc := 37) (tgt := 15) dX7_init_37 (by decide) ?_
  refine fb_iload_n (pc := 15) dX7_init_15 0 rfl ?_
  refine fb_bipush (pc := 16) (v := 10) dX7_init_16 (by decide) ?_
  refine fb_icmp_ge (pc := 18) (tgt := 40) (A := some ()) (B := none) (res := ()) (by decide) dX7_init_18 (by decide) (fun h => ?_) (fun h => by cases h)
  exact fb_vretM (pc := 40) rfl dX7_init_40

set_option maxRecDepth 100000 in
set_option maxHeartbeats 4000000 in
theorem uX7_init_z {u : fb_M} (hz : fb_zero u 78) : fb_zero (uX7_init u) 99 := by
  have hz5 := fb_zs hz
  have hz7 := fb_zw (k := 0) (x := 78) hz5 (show 77 < 79 from (by decide))
  have hz17 := fb_zs hz7
  have hz20 := X1_init_z (n := 80) hz17 (show 79 < 80 from by decide)
  have hz22 := fb_zw (k := 0) (x := 79) hz20 (show 78 < 81 from (by decide))
  have hz32 := fb_zs hz22
  have hz35 := X1_init_z (n := 82) hz32 (show 81 < 82 from by decide)
  have hz37 := fb_zw (k := 1) (x := 81) hz35 (show 78 < 83 from (by decide))
  have hz47 := fb_zs hz37
  have hz50 := X1_init_z (n := 84) hz47 (show 83 < 84 from by decide)
  have hz52 := fb_zw (k := 2) (x := 83) hz50 (show 78 < 85 from (by decide))
  have hz62 := fb_zs hz52
  have hz65 := X1_init_z (n := 86) hz62 (show 85 < 86 from by decide)
  have hz67 := fb_zw (k := 3) (x := 85) hz65 (show 78 < 87 from (by decide))
  have hz77 := fb_zs hz67
  have hz80 := X1_init_z (n := 88) hz77 (show 87 < 88 from by decide)
  have hz82 := fb_zw (k := 4) (x := 87) hz80 (show 78 < 89 from (by decide))
  have hz92 := fb_zs hz82
  have hz95 := X1_init_z (n := 90) hz92 (show 89 < 90 from by decide)
  have hz97 := fb_zw (k := 5) (x := 89) hz95 (show 78 < 91 from (by decide))
  have hz107 := fb_zs hz97
  have hz110 := X1_init_z (n := 92) hz107 (show 91 < 92 from by decide)
  have hz112 := fb_zw (k := 6) (x := 91) hz110 (show 78 < 93 from (by decide))
  have hz122 := fb_zs hz112
  have hz125 := X1_init_z (n := 94) hz122 (show 93 < 94 from by decide)
  have hz127 := fb_zw (k := 7) (x := 93) hz125 (show 78 < 95 from (by decide))
  have hz137 := fb_zs hz127
  have hz140 := X1_init_z (n := 96) hz137 (show 95 < 96 from by decide)
  have hz142 := fb_zw (k := 8) (x := 95) hz140 (show 78 < 97 from (by decide))
  have hz152 := fb_zs hz142
  have hz155 := X1_init_z (n := 98) hz152 (show 97 < 98 from by decide)
  have hz157 := fb_zw (k := 9) (x := 97) hz155 (show 78 < 99 from (by decide))
  exact hz157
abbrev cJ_fill : ByteArray := prog_18_method_101_code
def yJ_fill : MethodName := ⟨"java/util/Arrays", "fill", "([JJ)V"⟩
theorem dJ_fill_0 : decode cJ_fill 0 = .ok (.iconst 0, 1) := by decide +kernel
theorem dJ_fill_1 : decode cJ_fill 1 = .ok (.istore_n 3, 1) := by decide +kernel
theorem dJ_fill_2 : decode cJ_fill 2 = .ok (.aload_n 0, 1) := by decide +kernel
theorem dJ_fill_3 : decode cJ_fill 3 = .ok (.arraylength, 1) := by decide +kernel
theorem dJ_fill_4 : decode cJ_fill 4 = .ok (.istore 4, 2) := by decide +kernel
theorem dJ_fill_6 : decode cJ_fill 6 = .ok (.iload_n 3, 1) := by decide +kernel
theorem dJ_fill_7 : decode cJ_fill 7 = .ok (.iload 4, 2) := by decide +kernel
theorem dJ_fill_9 : decode cJ_fill 9 = .ok (.if_icmp .ge 13, 3) := by decide +kernel
theorem dJ_fill_12 : decode cJ_fill 12 = .ok (.aload_n 0, 1) := by decide +kernel
theorem dJ_fill_13 : decode cJ_fill 13 = .ok (.iload_n 3, 1) := by decide +kernel
theorem dJ_fill_14 : decode cJ_fill 14 = .ok (.lload_n 1, 1) := by decide +kernel
theorem dJ_fill_15 : decode cJ_fill 15 = .ok (.lastore, 1) := by decide +kernel
theorem dJ_fill_16 : decode cJ_fill 16 = .ok (.iinc 3 1, 3) := by decide +kernel
theorem dJ_fill_19 : decode cJ_fill 19 = .ok (.goto (-13), 3) := by decide +kernel
theorem dJ_fill_22 : decode cJ_fill 22 = .ok (.return_, 1) := by decide +kernel
theorem ymJ_fill : fb_Ym yJ_fill cJ_fill 5 none 2 := ⟨(fb_inW1 179 rfl rfl), (fb_inW1 9 rfl rfl), by decide, by decide, by decide +kernel⟩
theorem ysJ_fill : Cond.static yJ_fill ∈ fb_W := (fb_inW1 178 rfl rfl)
def uJ_fill (u : fb_M) : fb_M := (fb_wL (fb_wL (fb_wL (fb_wL (fb_wL (fb_wL (fb_wL (fb_wL u 99 0 3000000000) 99 1 3000000000) 99 2 3000000000) 99 3 3000000000) 99 4 3000000000) 99 5 3000000000) 99 6 3000000000) 99 7 3000000000)
set_option maxRecDepth 100000 in
set_option maxHeartbeats 4000000 in
theorem m_fill (g : fb_G) (u : fb_M) : fb_Runs g 0 0 0 0 100 100 yJ_fill cJ_fill 5 none [.ref (fb_b g + 99), .long 3000000000] u none (uJ_fill u) := by
  refine fb_enter (by decide) (Nat.le_of_ble_eq_true rfl) ?_
  show fb_V g "java/util/Arrays" cJ_fill 5 none "fill" (fb_room 0 0 0 0) (fb_Qm g none 100 (uJ_fill u) 0 0) 0 0 100 u 0 [(0, .ref (fb_b g + 99)), (1, .long 3000000000)] []
  refine fb_iconst (pc := 0) (v := 0) dJ_fill_0 (by decide) ?_
  refine fb_istore_n (pc := 1) (lv' := [(3, .int 0), (0, .ref (fb_b g + 99)), (1, .long 3000000000)]) dJ_fill_1 rfl (by decide) rfl ?_
  refine fb_aload_n (pc := 2) dJ_fill_2 1 rfl ?_
  refine fb_alenL (pc := 3) (t := 3) (v := 8) (by decide) dJ_fill_3 (by decide) rfl (by decide) ?_
  refine fb_istore (pc := 4) (lv' := [(4, .int 8), (3, .int 0), (0, .ref (fb_b g + 99)), (1, .long 3000000000)]) dJ_fill_4 (by decide) rfl ?_
  refine fb_iload_n (pc := 6) dJ_fill_6 1 rfl ?_
  refine fb_iload (pc := 7) dJ_fill_7 0 rfl ?_
  refine fb_icmp_ge (pc := 9) (tgt := 22) (A := none) (B := some ()) (res := ()) (by decide) dJ_fill_9 (by decide) (fun h => by cases h) (fun h => ?_)
  refine fb_aload_n (pc := 12) dJ_fill_12 2 rfl ?_
  refine fb_iload_n (pc := 13) dJ_fill_13 1 rfl ?_
  refine fb_lload_n (pc := 14) dJ_fill_14 3 rfl ?_
  refine fb_lastL (pc := 15) (j := 0) (by decide) dJ_fill_15 (by decide) rfl (by decide) ?_
  refine fb_iincV (pc := 16) (v := 1) (lv' := [(3, .int 1), (4, .int 8), (0, .ref (fb_b g + 99)), (1, .long 3000000000)]) dJ_fill_16 1 rfl (by decide) (by decide) rfl ?_
  refine fb_goto (pc := 19) (tgt := 6) dJ_fill_19 (by decide) ?_
  refine fb_iload_n (pc := 6) dJ_fill_6 0 rfl ?_
  refine fb_iload (pc := 7) dJ_fill_7 1 rfl ?_
  refine fb_icmp_ge (pc := 9) (tgt := 22) (A := none) (B := some ()) (res := ()) (by decide) dJ_fill_9 (by decide) (fun h => by cases h) (fun h => ?_)
  refine fb_aload_n (pc := 12) dJ_fill_12 2 rfl ?_
  refine fb_iload_n (pc := 13) dJ_fill_13 0 rfl ?_
  refine fb_lload_n (pc := 14) dJ_fill_14 3 rfl ?_
  refine fb_lastL (pc := 15) (j := 1) (by decide) dJ_fill_15 (by decide) rfl (by decide) ?_
  refine fb_iincV (pc := 16) (v := 2) (lv' := [(3, .int 2), (4, .int 8), (0, .ref (fb_b g + 99)), (1, .long 3000000000)]) dJ_fill_16 0 rfl (by decide) (by decide) rfl ?_
  refine fb_goto (pc := 19) (tgt := 6) dJ_fill_19 (by decide) ?_
  refine fb_iload_n (pc := 6) dJ_fill_6 0 rfl ?_
  refine fb_iload (pc := 7) dJ_fill_7 1 rfl ?_
  refine fb_icmp_ge (pc := 9) (tgt := 22) (A := none) (B := some ()) (res := ()) (by decide) dJ_fill_9 (by decide) (fun h => by cases h) (fun h => ?_)
  refine fb_aload_n (pc := 12) dJ_fill_12 2 rfl ?_
  refine fb_iload_n (pc := 13) dJ_fill_13 0 rfl ?_
  refine fb_lload_n (pc := 14) dJ_fill_14 3 rfl ?_
  refine fb_lastL (pc := 15) (j := 2) (by decide) dJ_fill_15 (by decide) rfl (by decide) ?_
  refine fb_iincV (pc := 16) (v := 3) (lv' := [(3, .int 3), (4, .int 8), (0, .ref (fb_b g + 99)), (1, .long 3000000000)]) dJ_fill_16 0 rfl (by decide) (by decide) rfl ?_
  refine fb_goto (pc := 19) (tgt := 6) dJ_fill_19 (by decide) ?_
  refine fb_iload_n (pc := 6) dJ_fill_6 0 rfl ?_
  refine fb_iload (pc := 7) dJ_fill_7 1 rfl ?_
  refine fb_icmp_ge (pc := 9) (tgt := 22) (A := none) (B := some ()) (res := ()) (by decide) dJ_fill_9 (by decide) (fun h => by cases h) (fun h => ?_)
  refine fb_aload_n (pc := 12) dJ_fill_12 2 rfl ?_
  refine fb_iload_n (pc := 13) dJ_fill_13 0 rfl ?_
  refine fb_lload_n (pc := 14) dJ_fill_14 3 rfl ?_
  refine fb_lastL (pc := 15) (j := 3) (by decide) dJ_fill_15 (by decide) rfl (by decide) ?_
  refine fb_iincV (pc := 16) (v := 4) (lv' := [(3, .int 4), (4, .int 8), (0, .ref (fb_b g + 99)), (1, .long 3000000000)]) dJ_fill_16 0 rfl (by decide) (by decide) rfl ?_
  refine fb_goto (pc := 19) (tgt := 6) dJ_fill_19 (by decide) ?_
  refine fb_iload_n (pc := 6) dJ_fill_6 0 rfl ?_
  refine fb_iload (pc := 7) dJ_fill_7 1 rfl ?_
  refine fb_icmp_ge (pc := 9) (tgt := 22) (A := none) (B := some ()) (res := ()) (by decide) dJ_fill_9 (by decide) (fun h => by cases h) (fun h => ?_)
  refine fb_aload_n (pc := 12) dJ_fill_12 2 rfl ?_
  refine fb_iload_n (pc := 13) dJ_fill_13 0 rfl ?_
  refine fb_lload_n (pc := 14) dJ_fill_14 3 rfl ?_
  refine fb_lastL (pc := 15) (j := 4) (by decide) dJ_fill_15 (by decide) rfl (by decide) ?_
  refine fb_iincV (pc := 16) (v := 5) (lv' := [(3, .int 5), (4, .int 8), (0, .ref (fb_b g + 99)), (1, .long 3000000000)]) dJ_fill_16 0 rfl (by decide) (by decide) rfl ?_
  refine fb_goto (pc := 19) (tgt := 6) dJ_fill_19 (by decide) ?_
  refine fb_iload_n (pc := 6) dJ_fill_6 0 rfl ?_
  refine fb_iload (pc := 7) dJ_fill_7 1 rfl ?_
  refine fb_icmp_ge (pc := 9) (tgt := 22) (A := none) (B := some ()) (res := ()) (by decide) dJ_fill_9 (by decide) (fun h => by cases h) (fun h => ?_)
  refine fb_aload_n (pc := 12) dJ_fill_12 2 rfl ?_
  refine fb_iload_n (pc := 13) dJ_fill_13 0 rfl ?_
  refine fb_lload_n (pc := 14) dJ_fill_14 3 rfl ?_
  refine fb_lastL (pc := 15) (j := 5) (by decide) dJ_fill_15 (by decide) rfl (by decide) ?_
  refine fb_iincV (pc := 16) (v := 6) (lv' := [(3, .int 6), (4, .int 8), (0, .ref (fb_b g + 99)), (1, .long 3000000000)]) dJ_fill_16 0 rfl (by decide) (by decide) rfl ?_
  refine fb_goto (pc := 19) (tgt := 6) dJ_fill_19 (by decide) ?_
  refine fb_iload_n (pc := 6) dJ_fill_6 0 rfl ?_
  refine fb_iload (pc := 7) dJ_fill_7 1 rfl ?_
  refine fb_icmp_ge (pc := 9) (tgt := 22) (A := none) (B := some ()) (res := ()) (by decide) dJ_fill_9 (by decide) (fun h => by cases h) (fun h => ?_)
  refine fb_aload_n (pc := 12) dJ_fill_12 2 rfl ?_
  refine fb_iload_n (pc := 13) dJ_fill_13 0 rfl ?_
  refine fb_lload_n (pc := 14) dJ_fill_14 3 rfl ?_
  refine fb_lastL (pc := 15) (j := 6) (by decide) dJ_fill_15 (by decide) rfl (by decide) ?_
  refine fb_iincV (pc := 16) (v := 7) (lv' := [(3, .int 7), (4, .int 8), (0, .ref (fb_b g + 99)), (1, .long 3000000000)]) dJ_fill_16 0 rfl (by decide) (by decide) rfl ?_
  refine fb_goto (pc := 19) (tgt := 6) dJ_fill_19 (by decide) ?_
  refine fb_iload_n (pc := 6) dJ_fill_6 0 rfl ?_
  refine fb_iload (pc := 7) dJ_fill_7 1 rfl ?_
  refine fb_icmp_ge (pc := 9) (tgt := 22) (A := none) (B := some ()) (res := ()) (by decide) dJ_fill_9 (by decide) (fun h => by cases h) (fun h => ?_)
  refine fb_aload_n (pc := 12) dJ_fill_12 2 rfl ?_
  refine fb_iload_n (pc := 13) dJ_fill_13 0 rfl ?_
  refine fb_lload_n (pc := 14) dJ_fill_14 3 rfl ?_
  refine fb_lastL (pc := 15) (j := 7) (by decide) dJ_fill_15 (by decide) rfl (by decide) ?_
  refine fb_iincV (pc := 16) (v := 8) (lv' := [(3, .int 8), (4, .int 8), (0, .ref (fb_b g + 99)), (1, .long 3000000000)]) dJ_fill_16 0 rfl (by decide) (by decide) rfl ?_
  refine fb_goto (pc := 19) (tgt := 6) dJ_fill_19 (by decide) ?_
  refine fb_iload_n (pc := 6) dJ_fill_6 0 rfl ?_
  refine fb_iload (pc := 7) dJ_fill_7 1 rfl ?_
  refine fb_icmp_ge (pc := 9) (tgt := 22) (A := some ()) (B := none) (res := ()) (by decide) dJ_fill_9 (by decide) (fun h => ?_) (fun h => by cases h)
  exact fb_vretM (pc := 22) rfl dJ_fill_22

theorem uJ_fill_z {u : fb_M} (hz : fb_zero u 100) : fb_zero (uJ_fill u) 100 := (fb_zl (fb_zl (fb_zl (fb_zl (fb_zl (fb_zl (fb_zl (fb_zl hz (by decide)) (by decide)) (by decide)) (by decide)) (by decide)) (by decide)) (by decide)) (by decide))
theorem ylX8_9 : fb_Yl RX8 9 yX0_init := Or.inr ⟨"FinderBook", (fb_inN1 29 rfl rfl)⟩
theorem lfX8_10 : fb_Lf RX8 10 8 0 12 := ⟨_, _, rfl, by decide, by decide, inX8, (fb_inW1 196 rfl rfl)⟩
theorem lz_8_0 : fb_Ly 8 0 12 (tyX8 0) true RX8 := ⟨_, _, tyX8, rfl, tyX8_ok, nmX8, tyX8_ok 0 (by decide), rfl, rfl⟩
theorem ylX8_18 : fb_Yl RX8 18 yX6_init := Or.inl (fb_inW1 44 rfl rfl)
theorem lfX8_19 : fb_Lf RX8 19 8 1 12 := ⟨_, _, rfl, by decide, by decide, inX8, (fb_inW1 197 rfl rfl)⟩
theorem lz_8_1 : fb_Ly 8 1 12 (tyX8 1) true RX8 := ⟨_, _, tyX8, rfl, tyX8_ok, nmX8, tyX8_ok 1 (by decide), rfl, rfl⟩
theorem ylX8_25 : fb_Yl RX8 25 yX3_init := Or.inl (fb_inW1 77 rfl rfl)
theorem lfX8_28 : fb_Lf RX8 28 8 2 12 := ⟨_, _, rfl, by decide, by decide, inX8, (fb_inW1 198 rfl rfl)⟩
theorem lz_8_2 : fb_Ly 8 2 12 (tyX8 2) true RX8 := ⟨_, _, tyX8, rfl, tyX8_ok, nmX8, tyX8_ok 2 (by decide), rfl, rfl⟩
theorem lfX8_34 : fb_Lf RX8 34 8 3 12 := ⟨_, _, rfl, by decide, by decide, inX8, (fb_inW1 199 rfl rfl)⟩
theorem lz_8_3 : fb_Ly 8 3 12 (tyX8 3) true RX8 := ⟨_, _, tyX8, rfl, tyX8_ok, nmX8, tyX8_ok 3 (by decide), rfl, rfl⟩
theorem ylX8_38 : fb_Yl RX8 38 yX2_init := Or.inr ⟨"FinderBook", (fb_inN1 94 rfl rfl)⟩
theorem ylX8_41 : fb_Yl RX8 41 yX7_init := Or.inl (fb_inW1 146 rfl rfl)
theorem lfX8_42 : fb_Lf RX8 42 8 5 12 := ⟨_, _, rfl, by decide, by decide, inX8, (fb_inW1 201 rfl rfl)⟩
theorem lz_8_5 : fb_Ly 8 5 12 (tyX8 5) true RX8 := ⟨_, _, tyX8, rfl, tyX8_ok, nmX8, tyX8_ok 5 (by decide), rfl, rfl⟩
theorem lfX8_46 : fb_Lf RX8 46 8 6 12 := ⟨_, _, rfl, by decide, by decide, inX8, (fb_inW1 202 rfl rfl)⟩
theorem lz_8_6 : fb_Ly 8 6 12 (tyX8 6) true RX8 := ⟨_, _, tyX8, rfl, tyX8_ok, nmX8, tyX8_ok 6 (by decide), rfl, rfl⟩
theorem ylX8_52 : fb_Yl RX8 52 yJ_fill := Or.inl (fb_inW1 177 rfl rfl)
theorem lfX8_58 : fb_Lf RX8 58 8 7 12 := ⟨_, _, rfl, by decide, by decide, inX8, (fb_inW1 203 rfl rfl)⟩
theorem lz_8_7 : fb_Ly 8 7 12 (tyX8 7) true RX8 := ⟨_, _, tyX8, rfl, tyX8_ok, nmX8, tyX8_ok 7 (by decide), rfl, rfl⟩
theorem ylX8_64 : fb_Yl RX8 64 yX4_init := Or.inr ⟨"FinderBook", (fb_inN1 182 rfl rfl)⟩
theorem lfX8_65 : fb_Lf RX8 65 8 9 12 := ⟨_, _, rfl, by decide, by decide, inX8, (fb_inW1 205 rfl rfl)⟩
theorem lz_8_9 : fb_Ly 8 9 12 (tyX8 9) true RX8 := ⟨_, _, tyX8, rfl, tyX8_ok, nmX8, tyX8_ok 9 (by decide), rfl, rfl⟩
theorem lfX8_69 : fb_Lf RX8 69 8 10 12 := ⟨_, _, rfl, by decide, by decide, inX8, (fb_inW1 206 rfl rfl)⟩
theorem lz_8_10 : fb_Ly 8 10 12 (tyX8 10) true RX8 := ⟨_, _, tyX8, rfl, tyX8_ok, nmX8, tyX8_ok 10 (by decide), rfl, rfl⟩
theorem dX8_init_0 : decode cX8_init 0 = .ok (.aload_n 0, 1) := by decide +kernel
theorem dX8_init_1 : decode cX8_init 1 = .ok (.invokespecial 1, 3) := by decide +kernel
theorem dX8_init_4 : decode cX8_init 4 = .ok (.aload_n 0, 1) := by decide +kernel
theorem dX8_init_5 : decode cX8_init 5 = .ok (.new 7, 3) := by decide +kernel
theorem dX8_init_8 : decode cX8_init 8 = .ok (.dup, 1) := by decide +kernel
theorem dX8_init_9 : decode cX8_init 9 = .ok (.invokespecial 9, 3) := by decide +kernel
theorem dX8_init_12 : decode cX8_init 12 = .ok (.putfield 10, 3) := by decide +kernel
theorem dX8_init_15 : decode cX8_init 15 = .ok (.aload_n 0, 1) := by decide +kernel
theorem dX8_init_16 : decode cX8_init 16 = .ok (.new 16, 3) := by decide +kernel
theorem dX8_init_19 : decode cX8_init 19 = .ok (.dup, 1) := by decide +kernel
theorem dX8_init_20 : decode cX8_init 20 = .ok (.invokespecial 18, 3) := by decide +kernel
theorem dX8_init_23 : decode cX8_init 23 = .ok (.putfield 19, 3) := by decide +kernel
theorem dX8_init_26 : decode cX8_init 26 = .ok (.aload_n 0, 1) := by decide +kernel
theorem dX8_init_27 : decode cX8_init 27 = .ok (.new 23, 3) := by decide +kernel
theorem dX8_init_30 : decode cX8_init 30 = .ok (.dup, 1) := by decide +kernel
theorem dX8_init_31 : decode cX8_init 31 = .ok (.aload_n 0, 1) := by decide +kernel
theorem dX8_init_32 : decode cX8_init 32 = .ok (.getfield 10, 3) := by decide +kernel
theorem dX8_init_35 : decode cX8_init 35 = .ok (.aload_n 0, 1) := by decide +kernel
theorem dX8_init_36 : decode cX8_init 36 = .ok (.getfield 19, 3) := by decide +kernel
theorem dX8_init_39 : decode cX8_init 39 = .ok (.invokespecial 25, 3) := by decide +kernel
theorem dX8_init_42 : decode cX8_init 42 = .ok (.putfield 28, 3) := by decide +kernel
theorem dX8_init_45 : decode cX8_init 45 = .ok (.aload_n 0, 1) := by decide +kernel
theorem dX8_init_46 : decode cX8_init 46 = .ok (.bipush 9, 2) := by decide +kernel
theorem dX8_init_48 : decode cX8_init 48 = .ok (.anewarray 32, 3) := by decide +kernel
theorem dX8_init_51 : decode cX8_init 51 = .ok (.putfield 34, 3) := by decide +kernel
theorem dX8_init_54 : decode cX8_init 54 = .ok (.iconst 0, 1) := by decide +kernel
theorem dX8_init_55 : decode cX8_init 55 = .ok (.istore_n 1, 1) := by decide +kernel
theorem dX8_init_56 : decode cX8_init 56 = .ok (.iload_n 1, 1) := by decide +kernel
theorem dX8_init_57 : decode cX8_init 57 = .ok (.aload_n 0, 1) := by decide +kernel
theorem dX8_init_58 : decode cX8_init 58 = .ok (.getfield 34, 3) := by decide +kernel
theorem dX8_init_61 : decode cX8_init 61 = .ok (.arraylength, 1) := by decide +kernel
theorem dX8_init_62 : decode cX8_init 62 = .ok (.if_icmp .ge 22, 3) := by decide +kernel
theorem dX8_init_65 : decode cX8_init 65 = .ok (.aload_n 0, 1) := by decide +kernel
theorem dX8_init_66 : decode cX8_init 66 = .ok (.getfield 34, 3) := by decide +kernel
theorem dX8_init_69 : decode cX8_init 69 = .ok (.iload_n 1, 1) := by decide +kernel
theorem dX8_init_70 : decode cX8_init 70 = .ok (.new 32, 3) := by decide +kernel
theorem dX8_init_73 : decode cX8_init 73 = .ok (.dup, 1) := by decide +kernel
theorem dX8_init_74 : decode cX8_init 74 = .ok (.invokespecial 38, 3) := by decide +kernel
theorem dX8_init_77 : decode cX8_init 77 = .ok (.aastore, 1) := by decide +kernel
theorem dX8_init_78 : decode cX8_init 78 = .ok (.iinc 1 1, 3) := by decide +kernel
theorem dX8_init_81 : decode cX8_init 81 = .ok (.goto (-25), 3) := by decide +kernel
theorem dX8_init_84 : decode cX8_init 84 = .ok (.aload_n 0, 1) := by decide +kernel
theorem dX8_init_85 : decode cX8_init 85 = .ok (.new 39, 3) := by decide +kernel
theorem dX8_init_88 : decode cX8_init 88 = .ok (.dup, 1) := by decide +kernel
theorem dX8_init_89 : decode cX8_init 89 = .ok (.invokespecial 41, 3) := by decide +kernel
theorem dX8_init_92 : decode cX8_init 92 = .ok (.putfield 42, 3) := by decide +kernel
theorem dX8_init_95 : decode cX8_init 95 = .ok (.aload_n 0, 1) := by decide +kernel
theorem dX8_init_96 : decode cX8_init 96 = .ok (.bipush 8, 2) := by decide +kernel
theorem dX8_init_98 : decode cX8_init 98 = .ok (.newarray .long, 2) := by decide +kernel
theorem dX8_init_100 : decode cX8_init 100 = .ok (.putfield 46, 3) := by decide +kernel
theorem dX8_init_103 : decode cX8_init 103 = .ok (.aload_n 0, 1) := by decide +kernel
theorem dX8_init_104 : decode cX8_init 104 = .ok (.getfield 46, 3) := by decide +kernel
theorem dX8_init_107 : decode cX8_init 107 = .ok (.ldc2_w 50, 3) := by decide +kernel
theorem dX8_init_110 : decode cX8_init 110 = .ok (.invokestatic 52, 3) := by decide +kernel
theorem dX8_init_113 : decode cX8_init 113 = .ok (.aload_n 0, 1) := by decide +kernel
theorem dX8_init_114 : decode cX8_init 114 = .ok (.bipush 12, 2) := by decide +kernel
theorem dX8_init_116 : decode cX8_init 116 = .ok (.newarray .int, 2) := by decide +kernel
theorem dX8_init_118 : decode cX8_init 118 = .ok (.putfield 58, 3) := by decide +kernel
theorem dX8_init_121 : decode cX8_init 121 = .ok (.aload_n 0, 1) := by decide +kernel
theorem dX8_init_122 : decode cX8_init 122 = .ok (.new 62, 3) := by decide +kernel
theorem dX8_init_125 : decode cX8_init 125 = .ok (.dup, 1) := by decide +kernel
theorem dX8_init_126 : decode cX8_init 126 = .ok (.invokespecial 64, 3) := by decide +kernel
theorem dX8_init_129 : decode cX8_init 129 = .ok (.putfield 65, 3) := by decide +kernel
theorem dX8_init_132 : decode cX8_init 132 = .ok (.aload_n 0, 1) := by decide +kernel
theorem dX8_init_133 : decode cX8_init 133 = .ok (.bipush 10, 2) := by decide +kernel
theorem dX8_init_135 : decode cX8_init 135 = .ok (.newarray .int, 2) := by decide +kernel
theorem dX8_init_137 : decode cX8_init 137 = .ok (.putfield 69, 3) := by decide +kernel
theorem dX8_init_140 : decode cX8_init 140 = .ok (.return_, 1) := by decide +kernel
theorem yinX8_init : Cond.instanceMethod yX8_init ∈ fb_W := (fb_inW1 22 rfl rfl)
theorem ymX8_init : fb_Ym yX8_init cX8_init 2 none 0 := ⟨(fb_inW1 23 rfl rfl), (fb_inW1 1 rfl rfl), by decide, by decide, by decide +kernel⟩
def uX8_init (u : fb_M) : fb_M := (fb_wR (fb_wR (fb_wR (fb_wR (uJ_fill (fb_wR (fb_wR (uX7_init (fb_wR (fb_wR (fb_wR (fb_wR (fb_wR (fb_wR (fb_wR (fb_wR (fb_wR (fb_wR (fb_wR (fb_wR (fb_wR (fb_wR (fb_wR (fb_wR (fb_wR (fb_wR (fb_wR (fb_wR (fb_wR (fb_wR (fb_wR (fb_wR (fb_wR (fb_wR (fb_wR (fb_wR (fb_wR (fb_wR (fb_wR (fb_wR (fb_wR (fb_wR (fb_wR (fb_wR (fb_wR (fb_wR (fb_wR (fb_wR (fb_wR (fb_wR (fb_wR (fb_wR (fb_wR (fb_wR (fb_wR (fb_wR (fb_wR (fb_wR (fb_wR (fb_wR (fb_wR (fb_wR (fb_wR (fb_wR (fb_wR (fb_wR (fb_wR (uX6_init (fb_wR (fb_wR u 1 0 2) 0 0 1)) 0 1 3) 21 0 1) 21 1 3) 0 2 21) 0 3 22) 23 7 24) 23 8 25) 23 9 26) 23 10 27) 23 11 28) 22 0 23) 29 7 30) 29 8 31) 29 9 32) 29 10 33) 29 11 34) 22 1 29) 35 7 36) 35 8 37) 35 9 38) 35 10 39) 35 11 40) 22 2 35) 41 7 42) 41 8 43) 41 9 44) 41 10 45) 41 11 46) 22 3 41) 47 7 48) 47 8 49) 47 9 50) 47 10 51) 47 11 52) 22 4 47) 53 7 54) 53 8 55) 53 9 56) 53 10 57) 53 11 58) 22 5 53) 59 7 60) 59 8 61) 59 9 62) 59 10 63) 59 11 64) 22 6 59) 65 7 66) 65 8 67) 65 9 68) 65 10 69) 65 11 70) 22 7 65) 71 7 72) 71 8 73) 71 9 74) 71 10 75) 71 11 76) 22 8 71)) 0 5 77) 0 6 99)) 0 7 100) 101 0 102) 0 9 101) 0 10 103)
set_option maxRecDepth 100000 in
set_option maxHeartbeats 4000000 in
theorem mX8_init (g : fb_G) (u : fb_M) (hz : fb_zero u 1) : fb_Runs g 3 81 103 918 1 104 yX8_init cX8_init 2 none [.ref (fb_b g + 0)] u none (uX8_init u) := by
  refine fb_enter (by decide) (Nat.le_of_ble_eq_true rfl) ?_
  show fb_V g RX8 cX8_init 2 none "<init>" (fb_room 3 81 103 918) (fb_Qm g none 104 (uX8_init u) 103 918) 0 0 1 u 0 [(0, .ref (fb_b g + 0))] []
  refine fb_aload_n (pc := 0) dX8_init_0 0 rfl ?_
  refine fb_objInit (pc := 1) dX8_init_1 (fb_inW1 24 rfl rfl) wo1 wo2 (Nat.le_of_ble_eq_true rfl) ⟨Nat.le_of_ble_eq_true rfl, Nat.le_of_ble_eq_true rfl⟩ ?_
  refine fb_aload_n (pc := 4) dX8_init_4 0 rfl ?_
  refine fb_newO (pc := 5) (ci := 0) tyX0 dX8_init_5 rfl (by decide) inX0 tyX0_ok (fb_inW1 27 rfl rfl) wi1X0 wi2X0 (by decide) rfl (dvX0 hz) (Nat.le_of_ble_eq_true rfl) (Nat.le_of_ble_eq_true rfl) ?_
  have hz4 := fb_zs hz
  refine fb_dup (pc := 8) dX8_init_8 rfl ?_
  refine fb_callIn (pc := 9) [] dX8_init_9 (mX0_init g 2 _ 1 ⟨by decide, rfl⟩ hz4 (by decide) rfl) ymX0_init ⟨rfl, yinX0_init⟩ ylX8_9 rfl (Nat.le_of_ble_eq_true rfl) ⟨Nat.le_of_ble_eq_true rfl, Nat.le_of_ble_eq_true rfl⟩ ⟨Nat.le_of_ble_eq_true rfl, Nat.le_of_ble_eq_true rfl⟩ ?_
  have hz7 := X0_init_z (n := 2) hz4 (show 1 < 2 from by decide)
  refine fb_putfR (pc := 12) (C := "") dX8_init_12 lfX8_10 lz_8_0 rfl rfl (by decide) rfl (by decide) rfl rfl ?_
  have hz9 := fb_zw (k := 0) (x := 1) hz7 (show 0 < 3 from (by decide))
  refine fb_aload_n (pc := 15) dX8_init_15 0 rfl ?_
  refine fb_newO (pc := 16) (ci := 6) tyX6 dX8_init_16 rfl (by decide) inX6 tyX6_ok (fb_inW1 42 rfl rfl) wi1X6 wi2X6 (by decide) rfl (dvX6 hz9) (Nat.le_of_ble_eq_true rfl) (Nat.le_of_ble_eq_true rfl) ?_
  have hz12 := fb_zs hz9
  refine fb_dup (pc := 19) dX8_init_19 rfl ?_
  refine fb_callIn (pc := 20) [] dX8_init_20 (mX6_init g _ hz12) ymX6_init ⟨rfl, yinX6_init⟩ ylX8_18 rfl (Nat.le_of_ble_eq_true rfl) ⟨Nat.le_of_ble_eq_true rfl, Nat.le_of_ble_eq_true rfl⟩ ⟨Nat.le_of_ble_eq_true rfl, Nat.le_of_ble_eq_true rfl⟩ ?_
  have hz15 := uX6_init_z hz12
  refine fb_putfR (pc := 23) (C := "") dX8_init_23 lfX8_19 lz_8_1 rfl rfl (by decide) rfl (by decide) rfl rfl ?_
  have hz17 := fb_zw (k := 1) (x := 3) hz15 (show 0 < 21 from (by decide))
  refine fb_aload_n (pc := 26) dX8_init_26 0 rfl ?_
  refine fb_newO (pc := 27) (ci := 3) tyX3 dX8_init_27 rfl (by decide) inX3 tyX3_ok (fb_inW1 75 rfl rfl) wi1X3 wi2X3 (by decide) rfl (dvX3 hz17) (Nat.le_of_ble_eq_true rfl) (Nat.le_of_ble_eq_true rfl) ?_
  have hz20 := fb_zs hz17
  refine fb_dup (pc := 30) dX8_init_30 rfl ?_
  refine fb_aload_n (pc := 31) dX8_init_31 0 rfl ?_
  refine fb_getR (pc := 32) (q := 1) dX8_init_32 lkX8_10 (by decide) rfl (by decide) rfl ?_
  refine fb_aload_n (pc := 35) dX8_init_35 0 rfl ?_
  refine fb_getR (pc := 36) (q := 3) dX8_init_36 lkX8_19 (by decide) rfl (by decide) rfl ?_
  refine fb_callIn (pc := 39) [.ref (fb_b g + 1), .ref (fb_b g + 3)] dX8_init_39 (mX3_init g 22 _ 21 1 3 ⟨by decide, rfl⟩ hz20 (by decide) ) ymX3_init ⟨rfl, yinX3_init⟩ ylX8_25 rfl (Nat.le_of_ble_eq_true rfl) ⟨Nat.le_of_ble_eq_true rfl, Nat.le_of_ble_eq_true rfl⟩ ⟨Nat.le_of_ble_eq_true rfl, Nat.le_of_ble_eq_true rfl⟩ ?_
  have hz27 := X3_init_z (n := 22) hz20 (show 21 < 22 from by decide) 1 3
  refine fb_putfR (pc := 42) (C := "") dX8_init_42 lfX8_28 lz_8_2 rfl rfl (by decide) rfl (by decide) rfl rfl ?_
  have hz29 := fb_zw (k := 2) (x := 21) hz27 (show 0 < 22 from (by decide))
  refine fb_aload_n (pc := 45) dX8_init_45 0 rfl ?_
  refine fb_bipush (pc := 46) (v := 9) dX8_init_46 (by decide) ?_
  refine fb_newQ (pc := 48) (t := 5) (N := 9) (C := RX2) dX8_init_48 ⟨by decide, by decide, rfl⟩ (by decide) (fb_inW1 91 rfl rfl) (by decide) rfl (hz29 _ (Nat.le_refl _)).2.2 (by decide) (by decide) (Nat.le_of_ble_eq_true rfl) (Nat.le_of_ble_eq_true rfl) ?_
  have hz33 := fb_zs hz29
  refine fb_putfR (pc := 51) (C := "") dX8_init_51 lfX8_34 lz_8_3 rfl rfl (by decide) rfl (by decide) rfl rfl ?_
  have hz35 := fb_zw (k := 3) (x := 22) hz33 (show 0 < 23 from (by decide))
  refine fb_iconst (pc := 54) (v := 0) dX8_init_54 (by decide) ?_
  refine fb_istore_n (pc := 55) (lv' := [(1, .int 0), (0, .ref (fb_b g + 0))]) dX8_init_55 rfl (by decide) rfl ?_
  refine fb_iload_n (pc := 56) dX8_init_56 0 rfl ?_
  refine fb_aload_n (pc := 57) dX8_init_57 1 rfl ?_
  refine fb_getR (pc := 58) (q := 22) dX8_init_58 lkX8_34 (by decide) rfl (by decide) rfl ?_
  refine fb_alenL (pc := 61) (t := 5) (v := 9) (by decide) dX8_init_61 (by decide) rfl (by decide) ?_
  refine fb_icmp_ge (pc := 62) (tgt := 84) (A := none) (B := some ()) (res := ()) (by decide) dX8_init_62 (by decide) (fun h => by cases h) (fun h => ?_)
  refine fb_aload_n (pc := 65) dX8_init_65 1 rfl ?_
  refine fb_getR (pc := 66) (q := 22) dX8_init_66 lkX8_34 (by decide) rfl (by decide) rfl ?_
  refine fb_iload_n (pc := 69) dX8_init_69 0 rfl ?_
  refine fb_newO (pc := 70) (ci := 2) tyX2 dX8_init_70 rfl (by decide) inX2 tyX2_ok (fb_inW1 91 rfl rfl) wi1X2 wi2X2 (by decide) rfl (dvX2 hz35) (Nat.le_of_ble_eq_true rfl) (Nat.le_of_ble_eq_true rfl) ?_
  have hz47 := fb_zs hz35
  refine fb_dup (pc := 73) dX8_init_73 rfl ?_
  refine fb_callIn (pc := 74) [] dX8_init_74 (mX2_init g 24 _ 23 ⟨by decide, rfl⟩ hz47 (by decide) rfl rfl rfl rfl rfl) ymX2_init ⟨rfl, yinX2_init⟩ ylX8_38 rfl (Nat.le_of_ble_eq_true rfl) ⟨Nat.le_of_ble_eq_true rfl, Nat.le_of_ble_eq_true rfl⟩ ⟨Nat.le_of_ble_eq_true rfl, Nat.le_of_ble_eq_true rfl⟩ ?_
  have hz50 := X2_init_z (n := 24) hz47 (show 23 < 24 from by decide)
  refine fb_aastL (pc := 77) (t := 5) (j := 0) (by decide) dX8_init_77 (by decide) rfl ⟨by decide, by decide, rfl⟩ (by decide) (by decide) rfl ⟨by decide, rfl⟩ ?_
  have hz52 := fb_zw (k := 0) (x := 23) hz50 (show 22 < 29 from (by decide))
  refine fb_iincV (pc := 78) (v := 1) (lv' := [(1, .int 1), (0, .ref (fb_b g + 0))]) dX8_init_78 0 rfl (by decide) (by decide) rfl ?_
  refine fb_goto (pc := 81) (tgt := 56) dX8_init_81 (by decide) ?_
  refine fb_iload_n (pc := 56) dX8_init_56 0 rfl ?_
  refine fb_aload_n (pc := 57) dX8_init_57 1 rfl ?_
  refine fb_getR (pc := 58) (q := 22) dX8_init_58 lkX8_34 (by decide) rfl (by decide) rfl ?_
  refine fb_alenL (pc := 61) (t := 5) (v := 9) (by decide) dX8_init_61 (by decide) rfl (by decide) ?_
  refine fb_icmp_ge (pc := 62) (tgt := 84) (A := none) (B := some ()) (res := ()) (by decide) dX8_init_62 (by decide) (fun h => by cases h) (fun h => ?_)
  refine fb_aload_n (pc := 65) dX8_init_65 1 rfl ?_
  refine fb_getR (pc := 66) (q := 22) dX8_init_66 lkX8_34 (by decide) rfl (by decide) rfl ?_
  refine fb_iload_n (pc := 69) dX8_init_69 0 rfl ?_
  refine fb_newO (pc := 70) (ci := 2) tyX2 dX8_init_70 rfl (by decide) inX2 tyX2_ok (fb_inW1 91 rfl rfl) wi1X2 wi2X2 (by decide) rfl (dvX2 hz52) (Nat.le_of_ble_eq_true rfl) (Nat.le_of_ble_eq_true rfl) ?_
  have hz64 := fb_zs hz52
  refine fb_dup (pc := 73) dX8_init_73 rfl ?_
  refine fb_callIn (pc := 74) [] dX8_init_74 (mX2_init g 30 _ 29 ⟨by decide, rfl⟩ hz64 (by decide) rfl rfl rfl rfl rfl) ymX2_init ⟨rfl, yinX2_init⟩ ylX8_38 rfl (Nat.le_of_ble_eq_true rfl) ⟨Nat.le_of_ble_eq_true rfl, Nat.le_of_ble_eq_true rfl⟩ ⟨Nat.le_of_ble_eq_true rfl, Nat.le_of_ble_eq_true rfl⟩ ?_
  have hz67 := X2_init_z (n := 30) hz64 (show 29 < 30 from by decide)
  refine fb_aastL (pc := 77) (t := 5) (j := 1) (by decide) dX8_init_77 (by decide) rfl ⟨by decide, by decide, rfl⟩ (by decide) (by decide) rfl ⟨by decide, rfl⟩ ?_
  have hz69 := fb_zw (k := 1) (x := 29) hz67 (show 22 < 35 from (by decide))
  refine fb_iincV (pc := 78) (v := 2) (lv' := [(1, .int 2), (0, .ref (fb_b g + 0))]) dX8_init_78 0 rfl (by decide) (by decide) rfl ?_
  refine fb_goto (pc := 81) (tgt := 56) dX8_init_81 (by decide) ?_
  refine fb_iload_n (pc := 56) dX8_init_56 0 rfl ?_
  refine fb_aload_n (pc := 57) dX8_init_57 1 rfl ?_
  refine fb_getR (pc := 58) (q := 22) dX8_init_58 lkX8_34 (by decide) rfl (by decide) rfl ?_
  refine fb_alenL (pc := 61) (t := 5) (v := 9) (by decide) dX8_init_61 (by decide) rfl (by decide) ?_
  refine fb_icmp_ge (pc := 62) (tgt := 84) (A := none) (B := some ()) (res := ()) (by decide) dX8_init_62 (by decide) (fun h => by cases h) (fun h => ?_)
  refine fb_aload_n (pc := 65) dX8_init_65 1 rfl ?_
  refine fb_getR (pc := 66) (q := 22) dX8_init_66 lkX8_34 (by decide) rfl (by decide) rfl ?_
  refine fb_iload_n (pc := 69) dX8_init_69 0 rfl ?_
  refine fb_newO (pc := 70) (ci := 2) tyX2 dX8_init_70 rfl (by decide) inX2 tyX2_ok (fb_inW1 91 rfl rfl) wi1X2 wi2X2 (by decide) rfl (dvX2 hz69) (Nat.le_of_ble_eq_true rfl) (Nat.le_of_ble_eq_true rfl) ?_
  have hz81 := fb_zs hz69
  refine fb_dup (pc := 73) dX8_init_73 rfl ?_
  refine fb_callIn (pc := 74) [] dX8_init_74 (mX2_init g 36 _ 35 ⟨by decide, rfl⟩ hz81 (by decide) rfl rfl rfl rfl rfl) ymX2_init ⟨rfl, yinX2_init⟩ ylX8_38 rfl (Nat.le_of_ble_eq_true rfl) ⟨Nat.le_of_ble_eq_true rfl, Nat.le_of_ble_eq_true rfl⟩ ⟨Nat.le_of_ble_eq_true rfl, Nat.le_of_ble_eq_true rfl⟩ ?_
  have hz84 := X2_init_z (n := 36) hz81 (show 35 < 36 from by decide)
  refine fb_aastL (pc := 77) (t := 5) (j := 2) (by decide) dX8_init_77 (by decide) rfl ⟨by decide, by decide, rfl⟩ (by decide) (by decide) rfl ⟨by decide, rfl⟩ ?_
  have hz86 := fb_zw (k := 2) (x := 35) hz84 (show 22 < 41 from (by decide))
  refine fb_iincV (pc := 78) (v := 3) (lv' := [(1, .int 3), (0, .ref (fb_b g + 0))]) dX8_init_78 0 rfl (by decide) (by decide) rfl ?_
  refine fb_goto (pc := 81) (tgt := 56) dX8_init_81 (by decide) ?_
  refine fb_iload_n (pc := 56) dX8_init_56 0 rfl ?_
  refine fb_aload_n (pc := 57) dX8_init_57 1 rfl ?_
  refine fb_getR (pc := 58) (q := 22) dX8_init_58 lkX8_34 (by decide) rfl (by decide) rfl ?_
  refine fb_alenL (pc := 61) (t := 5) (v := 9) (by decide) dX8_init_61 (by decide) rfl (by decide) ?_
  refine fb_icmp_ge (pc := 62) (tgt := 84) (A := none) (B := some ()) (res := ()) (by decide) dX8_init_62 (by decide) (fun h => by cases h) (fun h => ?_)
  refine fb_aload_n (pc := 65) dX8_init_65 1 rfl ?_
  refine fb_getR (pc := 66) (q := 22) dX8_init_66 lkX8_34 (by decide) rfl (by decide) rfl ?_
  refine fb_iload_n (pc := 69) dX8_init_69 0 rfl ?_
  refine fb_newO (pc := 70) (ci := 2) tyX2 dX8_init_70 rfl (by decide) inX2 tyX2_ok (fb_inW1 91 rfl rfl) wi1X2 wi2X2 (by decide) rfl (dvX2 hz86) (Nat.le_of_ble_eq_true rfl) (Nat.le_of_ble_eq_true rfl) ?_
  have hz98 := fb_zs hz86
  refine fb_dup (pc := 73) dX8_init_73 rfl ?_
  refine fb_callIn (pc := 74) [] dX8_init_74 (mX2_init g 42 _ 41 ⟨by decide, rfl⟩ hz98 (by decide) rfl rfl rfl rfl rfl) ymX2_init ⟨rfl, yinX2_init⟩ ylX8_38 rfl (Nat.le_of_ble_eq_true rfl) ⟨Nat.le_of_ble_eq_true rfl, Nat.le_of_ble_eq_true rfl⟩ ⟨Nat.le_of_ble_eq_true rfl, Nat.le_of_ble_eq_true rfl⟩ ?_
  have hz101 := X2_init_z (n := 42) hz98 (show 41 < 42 from by decide)
  refine fb_aastL (pc := 77) (t := 5) (j := 3) (by decide) dX8_init_77 (by decide) rfl ⟨by decide, by decide, rfl⟩ (by decide) (by decide) rfl ⟨by decide, rfl⟩ ?_
  have hz103 := fb_zw (k := 3) (x := 41) hz101 (show 22 < 47 from (by decide))
  refine fb_iincV (pc := 78) (v := 4) (lv' := [(1, .int 4), (0, .ref (fb_b g + 0))]) dX8_init_78 0 rfl (by decide) (by decide) rfl ?_
  refine fb_goto (pc := 81) (tgt := 56) dX8_init_81 (by decide) ?_
  refine fb_iload_n (pc := 56) dX8_init_56 0 rfl ?_
  refine fb_aload_n (pc := 57) dX8_init_57 1 rfl ?_
  refine fb_getR (pc := 58) (q := 22) dX8_init_58 lkX8_34 (by decide) rfl (by decide) rfl ?_
  refine fb_alenL (pc := 61) (t := 5) (v := 9) (by decide) dX8_init_61 (by decide) rfl (by decide) ?_
  refine fb_icmp_ge (pc := 62) (tgt := 84) (A := none) (B := some ()) (res := ()) (by decide) dX8_init_62 (by decide) (fun h => by cases h) (fun h => ?_)
  refine fb_aload_n (pc := 65) dX8_init_65 1 rfl ?_
  refine fb_getR (pc := 66) (q := 22) dX8_init_66 lkX8_34 (by decide) rfl (by decide) rfl ?_
  refine fb_iload_n (pc := 69) dX8_init_69 0 rfl ?_
  refine fb_newO (pc := 70) (ci := 2) tyX2 dX8_init_70 rfl (by decide) inX2 tyX2_ok (fb_inW1 91 rfl rfl) wi1X2 wi2X2 (by decide) rfl (dvX2 hz103) (Nat.le_of_ble_eq_true rfl) (Nat.le_of_ble_eq_true rfl) ?_
  have hz115 := fb_zs hz103
  refine fb_dup (pc := 73) dX8_init_73 rfl ?_
  refine fb_callIn (pc := 74) [] dX8_init_74 (mX2_init g 48 _ 47 ⟨by decide, rfl⟩ hz115 (by decide) rfl rfl rfl rfl rfl) ymX2_init ⟨rfl, yinX2_init⟩ ylX8_38 rfl (Nat.le_of_ble_eq_true rfl) ⟨Nat.le_of_ble_eq_true rfl, Nat.le_of_ble_eq_true rfl⟩ ⟨Nat.le_of_ble_eq_true rfl, Nat.le_of_ble_eq_true rfl⟩ ?_
  have hz118 := X2_init_z (n := 48) hz115 (show 47 < 48 from by decide)
  refine fb_aastL (pc := 77) (t := 5) (j := 4) (by decide) dX8_init_77 (by decide) rfl ⟨by decide, by decide, rfl⟩ (by decide) (by decide) rfl ⟨by decide, rfl⟩ ?_
  have hz120 := fb_zw (k := 4) (x := 47) hz118 (show 22 < 53 from (by decide))
  refine fb_iincV (pc := 78) (v := 5) (lv' := [(1, .int 5), (0, .ref (fb_b g + 0))]) dX8_init_78 0 rfl (by decide) (by decide) rfl ?_
  refine fb_goto (pc := 81) (tgt := 56) dX8_init_81 (by decide) ?_
  refine fb_iload_n (pc := 56) dX8_init_56 0 rfl ?_
  refine fb_aload_n (pc := 57) dX8_init_57 1 rfl ?_
  refine fb_getR (pc := 58) (q := 22) dX8_init_58 lkX8_34 (by decide) rfl (by decide) rfl ?_
  refine fb_alenL (pc := 61) (t := 5) (v := 9) (by decide) dX8_init_61 (by decide) rfl (by decide) ?_
  refine fb_icmp_ge (pc := 62) (tgt := 84) (A := none) (B := some ()) (res := ()) (by decide) dX8_init_62 (by decide) (fun h => by cases h) (fun h => ?_)
  refine fb_aload_n (pc := 65) dX8_init_65 1 rfl ?_
  refine fb_getR (pc := 66) (q := 22) dX8_init_66 lkX8_34 (by decide) rfl (by decide) rfl ?_
  refine fb_iload_n (pc := 69) dX8_init_69 0 rfl ?_
  refine fb_newO (pc := 70) (ci := 2) tyX2 dX8_init_70 rfl (by decide) inX2 tyX2_ok (fb_inW1 91 rfl rfl) wi1X2 wi2X2 (by decide) rfl (dvX2 hz120) (Nat.le_of_ble_eq_true rfl) (Nat.le_of_ble_eq_true rfl) ?_
  have hz132 := fb_zs hz120
  refine fb_dup (pc := 73) dX8_init_73 rfl ?_
  refine fb_callIn (pc := 74) [] dX8_init_74 (mX2_init g 54 _ 53 ⟨by decide, rfl⟩ hz132 (by decide) rfl rfl rfl rfl rfl) ymX2_init ⟨rfl, yinX2_init⟩ ylX8_38 rfl (Nat.le_of_ble_eq_true rfl) ⟨Nat.le_of_ble_eq_true rfl, Nat.le_of_ble_eq_true rfl⟩ ⟨Nat.le_of_ble_eq_true rfl, Nat.le_of_ble_eq_true rfl⟩ ?_
  have hz135 := X2_init_z (n := 54) hz132 (show 53 < 54 from by decide)
  refine fb_aastL (pc := 77) (t := 5) (j := 5) (by decide) dX8_init_77 (by decide) rfl ⟨by decide, by decide, rfl⟩ (by decide) (by decide) rfl ⟨by decide, rfl⟩ ?_
  have hz137 := fb_zw (k := 5) (x := 53) hz135 (show 22 < 59 from (by decide))
  refine fb_iincV (pc := 78) (v := 6) (lv' := [(1, .int 6), (0, .ref (fb_b g + 0))]) dX8_init_78 0 rfl (by decide) (by decide) rfl ?_
  refine fb_goto (pc := 81) (tgt := 56) dX8_init_81 (by decide) ?_
  refine fb_iload_n (pc := 56) dX8_init_56 0 rfl ?_
  refine fb_aload_n (pc := 57) dX8_init_57 1 rfl ?_
  refine fb_getR (pc := 58) (q := 22) dX8_init_58 lkX8_34 (by decide) rfl (by decide) rfl ?_
  refine fb_alenL (pc := 61) (t := 5) (v := 9) (by decide) dX8_init_61 (by decide) rfl (by decide) ?_
  refine fb_icmp_ge (pc := 62) (tgt := 84) (A := none) (B := some ()) (res := ()) (by decide) dX8_init_62 (by decide) (fun h => by cases h) (fun h => ?_)
  refine fb_aload_n (pc := 65) dX8_init_65 1 rfl ?_
  refine fb_getR (pc := 66) (q := 22) dX8_init_66 lkX8_34 (by decide) rfl (by decide) rfl ?_
  refine fb_iload_n (pc := 69) dX8_init_69 0 rfl ?_
  refine fb_newO (pc := 70) (ci := 2) tyX2 dX8_init_70 rfl (by decide) inX2 tyX2_ok (fb_inW1 91 rfl rfl) wi1X2 wi2X2 (by decide) rfl (dvX2 hz137) (Nat.le_of_ble_eq_true rfl) (Nat.le_of_ble_eq_true rfl) ?_
  have hz149 := fb_zs hz137
  refine fb_dup (pc := 73) dX8_init_73 rfl ?_
  refine fb_callIn (pc := 74) [] dX8_init_74 (mX2_init g 60 _ 59 ⟨by decide, rfl⟩ hz149 (by decide) rfl rfl rfl rfl rfl) ymX2_init ⟨rfl, yinX2_init⟩ ylX8_38 rfl (Nat.le_of_ble_eq_true rfl) ⟨Nat.le_of_ble_eq_true rfl, Nat.le_of_ble_eq_true rfl⟩ ⟨Nat.le_of_ble_eq_true rfl, Nat.le_of_ble_eq_true rfl⟩ ?_
  have hz152 := X2_init_z (n := 60) hz149 (show 59 < 60 from by decide)
  refine fb_aastL (pc := 77) (t := 5) (j := 6) (by decide) dX8_init_77 (by decide) rfl ⟨by decide, by decide, rfl⟩ (by decide) (by decide) rfl ⟨by decide, rfl⟩ ?_
  have hz154 := fb_zw (k := 6) (x := 59) hz152 (show 22 < 65 from (by decide))
  refine fb_iincV (pc := 78) (v := 7) (lv' := [(1, .int 7), (0, .ref (fb_b g + 0))]) dX8_init_78 0 rfl (by decide) (by decide) rfl ?_
  refine fb_goto (pc := 81) (tgt := 56) dX8_init_81 (by decide) ?_
  refine fb_iload_n (pc := 56) dX8_init_56 0 rfl ?_
  refine fb_aload_n (pc := 57) dX8_init_57 1 rfl ?_
  refine fb_getR (pc := 58) (q := 22) dX8_init_58 lkX8_34 (by decide) rfl (by decide) rfl ?_
  refine fb_alenL (pc := 61) (t := 5) (v := 9) (by decide) dX8_init_61 (by decide) rfl (by decide) ?_
  refine fb_icmp_ge (pc := 62) (tgt := 84) (A := none) (B := some ()) (res := ()) (by decide) dX8_init_62 (by decide) (fun h => by cases h) (fun h => ?_)
  refine fb_aload_n (pc := 65) dX8_init_65 1 rfl ?_
  refine fb_getR (pc := 66) (q := 22) dX8_init_66 lkX8_34 (by decide) rfl (by decide) rfl ?_
  refine fb_iload_n (pc := 69) dX8_init_69 0 rfl ?_
  refine fb_newO (pc := 70) (ci := 2) tyX2 dX8_init_70 rfl (by decide) inX2 tyX2_ok (fb_inW1 91 rfl rfl) wi1X2 wi2X2 (by decide) rfl (dvX2 hz154) (Nat.le_of_ble_eq_true rfl) (Nat.le_of_ble_eq_true rfl) ?_
  have hz166 := fb_zs hz154
  refine fb_dup (pc := 73) dX8_init_73 rfl ?_
  refine fb_callIn (pc := 74) [] dX8_init_74 (mX2_init g 66 _ 65 ⟨by decide, rfl⟩ hz166 (by decide) rfl rfl rfl rfl rfl) ymX2_init ⟨rfl, yinX2_init⟩ ylX8_38 rfl (Nat.le_of_ble_eq_true rfl) ⟨Nat.le_of_ble_eq_true rfl, Nat.le_of_ble_eq_true rfl⟩ ⟨Nat.le_of_ble_eq_true rfl, Nat.le_of_ble_eq_true rfl⟩ ?_
  have hz169 := X2_init_z (n := 66) hz166 (show 65 < 66 from by decide)
  refine fb_aastL (pc := 77) (t := 5) (j := 7) (by decide) dX8_init_77 (by decide) rfl ⟨by decide, by decide, rfl⟩ (by decide) (by decide) rfl ⟨by decide, rfl⟩ ?_
  have hz171 := fb_zw (k := 7) (x := 65) hz169 (show 22 < 71 from (by decide))
  refine fb_iincV (pc := 78) (v := 8) (lv' := [(1, .int 8), (0, .ref (fb_b g + 0))]) dX8_init_78 0 rfl (by decide) (by decide) rfl ?_
  refine fb_goto (pc := 81) (tgt := 56) dX8_init_81 (by decide) ?_
  refine fb_iload_n (pc := 56) dX8_init_56 0 rfl ?_
  refine fb_aload_n (pc := 57) dX8_init_57 1 rfl ?_
  refine fb_getR (pc := 58) (q := 22) dX8_init_58 lkX8_34 (by decide) rfl (by decide) rfl ?_
  refine fb_alenL (pc := 61) (t := 5) (v := 9) (by decide) dX8_init_61 (by decide) rfl (by decide) ?_
  refine fb_icmp_ge (pc := 62) (tgt := 84) (A := none) (B := some ()) (res := ()) (by decide) dX8_init_62 (by decide) (fun h => by cases h) (fun h => ?_)
  refine fb_aload_n (pc := 65) dX8_init_65 1 rfl ?_
  refine fb_getR (pc := 66) (q := 22) dX8_init_66 lkX8_34 (by decide) rfl (by decide) rfl ?_
  refine fb_iload_n (pc := 69) dX8_init_69 0 rfl ?_
  refine fb_newO (pc := 70) (ci := 2) tyX2 dX8_init_70 rfl (by decide) inX2 tyX2_ok (fb_inW1 91 rfl rfl) wi1X2 wi2X2 (by decide) rfl (dvX2 hz171) (Nat.le_of_ble_eq_true rfl) (Nat.le_of_ble_eq_true rfl) ?_
  have hz183 := fb_zs hz171
  refine fb_dup (pc := 73) dX8_init_73 rfl ?_
  refine fb_callIn (pc := 74) [] dX8_init_74 (mX2_init g 72 _ 71 ⟨by decide, rfl⟩ hz183 (by decide) rfl rfl rfl rfl rfl) ymX2_init ⟨rfl, yinX2_init⟩ ylX8_38 rfl (Nat.le_of_ble_eq_true rfl) ⟨Nat.le_of_ble_eq_true rfl, Nat.le_of_ble_eq_true rfl⟩ ⟨Nat.le_of_ble_eq_true rfl, Nat.le_of_ble_eq_true rfl⟩ ?_
  have hz186 := X2_init_z (n := 72) hz183 (show 71 < 72 from by decide)
  refine fb_aastL (pc := 77) (t := 5) (j := 8) (by decide) dX8_init_77 (by decide) rfl ⟨by decide, by decide, rfl⟩ (by decide) (by decide) rfl ⟨by decide, rfl⟩ ?_
  have hz188 := fb_zw (k := 8) (x := 71) hz186 (show 22 < 77 from (by decide))
  refine fb_iincV (pc := 78) (v := 9) (lv' := [(1, .int 9), (0, .ref (fb_b g + 0))]) dX8_init_78 0 rfl (by decide) (by decide) rfl ?_
  refine fb_goto (pc := 81) (tgt := 56) dX8_init_81 (by decide) ?_
  refine fb_iload_n (pc := 56) dX8_init_56 0 rfl ?_
  refine fb_aload_n (pc := 57) dX8_init_57 1 rfl ?_
  refine fb_getR (pc := 58) (q := 22) dX8_init_58 lkX8_34 (by decide) rfl (by decide) rfl ?_
  refine fb_alenL (pc := 61) (t := 5) (v := 9) (by decide) dX8_init_61 (by decide) rfl (by decide) ?_
  refine fb_icmp_ge (pc := 62) (tgt := 84) (A := some ()) (B := none) (res := ()) (by decide) dX8_init_62 (by decide) (fun h => ?_) (fun h => by cases h)
  refine fb_aload_n (pc := 84) dX8_init_84 1 rfl ?_
  refine fb_newO (pc := 85) (ci := 7) tyX7 dX8_init_85 rfl (by decide) inX7 tyX7_ok (fb_inW1 144 rfl rfl) wi1X7 wi2X7 (by decide) rfl (dvX7 hz188) (Nat.le_of_ble_eq_true rfl) (Nat.le_of_ble_eq_true rfl) ?_
  have hz198 := fb_zs hz188
  refine fb_dup (pc := 88) dX8_init_88 rfl ?_
  refine fb_callIn (pc := 89) [] dX8_init_89 (mX7_init g _ hz198) ymX7_init ⟨rfl, yinX7_init⟩ ylX8_41 rfl (Nat.le_of_ble_eq_true rfl) ⟨Nat.le_of_ble_eq_true rfl, Nat.le_of_ble_eq_true rfl⟩ ⟨Nat.le_of_ble_eq_true rfl, Nat.le_of_ble_eq_true rfl⟩ ?_
  have hz201 := uX7_init_z hz198
  refine fb_putfR (pc := 92) (C := "") dX8_init_92 lfX8_42 lz_8_5 rfl rfl (by decide) rfl (by decide) rfl rfl ?_
  have hz203 := fb_zw (k := 5) (x := 77) hz201 (show 0 < 99 from (by decide))
  refine fb_aload_n (pc := 95) dX8_init_95 1 rfl ?_
  refine fb_bipush (pc := 96) (v := 8) dX8_init_96 (by decide) ?_
  refine fb_newA (pc := 98) (t := 3) (N := 8) dX8_init_98 (by decide) rfl (fun _ _ h => h) wa3 (by decide) rfl (fb_z3 hz203) (by decide) (by decide) (Nat.le_of_ble_eq_true rfl) (Nat.le_of_ble_eq_true rfl) ?_
  have hz207 := fb_zs hz203
  refine fb_putfR (pc := 100) (C := "") dX8_init_100 lfX8_46 lz_8_6 rfl rfl (by decide) rfl (by decide) rfl rfl ?_
  have hz209 := fb_zw (k := 6) (x := 99) hz207 (show 0 < 100 from (by decide))
  refine fb_aload_n (pc := 103) dX8_init_103 1 rfl ?_
  refine fb_getR (pc := 104) (q := 99) dX8_init_104 lkX8_46 (by decide) rfl (by decide) rfl ?_
  refine fb_ldc2 (pc := 107) (v := 3000000000) dX8_init_107 (fb_inW1 176 rfl rfl) ?_
  refine fb_callSn (pc := 110) [.ref (fb_b g + 99), .long 3000000000] dX8_init_110 (m_fill g _) ymJ_fill ysJ_fill ylX8_52 rfl (Nat.le_of_ble_eq_true rfl) ⟨Nat.le_of_ble_eq_true rfl, Nat.le_of_ble_eq_true rfl⟩ ⟨Nat.le_of_ble_eq_true rfl, Nat.le_of_ble_eq_true rfl⟩ ?_
  have hz214 := uJ_fill_z hz209
  refine fb_aload_n (pc := 113) dX8_init_113 1 rfl ?_
  refine fb_bipush (pc := 114) (v := 12) dX8_init_114 (by decide) ?_
  refine fb_newA (pc := 116) (t := 0) (N := 12) dX8_init_116 (by decide) rfl (fun _ _ h => h) wa0 (by decide) rfl (fb_z0 hz214 (by decide)) (by decide) (by decide) (Nat.le_of_ble_eq_true rfl) (Nat.le_of_ble_eq_true rfl) ?_
  have hz218 := fb_zs hz214
  refine fb_putfR (pc := 118) (C := "") dX8_init_118 lfX8_58 lz_8_7 rfl rfl (by decide) rfl (by decide) rfl rfl ?_
  have hz220 := fb_zw (k := 7) (x := 100) hz218 (show 0 < 101 from (by decide))
  refine fb_aload_n (pc := 121) dX8_init_121 1 rfl ?_
  refine fb_newO (pc := 122) (ci := 4) tyX4 dX8_init_122 rfl (by decide) inX4 tyX4_ok (fb_inW1 180 rfl rfl) wi1X4 wi2X4 (by decide) rfl (dvX4 hz220) (Nat.le_of_ble_eq_true rfl) (Nat.le_of_ble_eq_true rfl) ?_
  have hz223 := fb_zs hz220
  refine fb_dup (pc := 125) dX8_init_125 rfl ?_
  refine fb_callIn (pc := 126) [] dX8_init_126 (mX4_init g 102 _ 101 ⟨by decide, rfl⟩ hz223 (by decide) rfl) ymX4_init ⟨rfl, yinX4_init⟩ ylX8_64 rfl (Nat.le_of_ble_eq_true rfl) ⟨Nat.le_of_ble_eq_true rfl, Nat.le_of_ble_eq_true rfl⟩ ⟨Nat.le_of_ble_eq_true rfl, Nat.le_of_ble_eq_true rfl⟩ ?_
  have hz226 := X4_init_z (n := 102) hz223 (show 101 < 102 from by decide)
  refine fb_putfR (pc := 129) (C := "") dX8_init_129 lfX8_65 lz_8_9 rfl rfl (by decide) rfl (by decide) rfl rfl ?_
  have hz228 := fb_zw (k := 9) (x := 101) hz226 (show 0 < 103 from (by decide))
  refine fb_aload_n (pc := 132) dX8_init_132 1 rfl ?_
  refine fb_bipush (pc := 133) (v := 10) dX8_init_133 (by decide) ?_
  refine fb_newA (pc := 135) (t := 0) (N := 10) dX8_init_135 (by decide) rfl (fun _ _ h => h) wa0 (by decide) rfl (fb_z0 hz228 (by decide)) (by decide) (by decide) (Nat.le_of_ble_eq_true rfl) (Nat.le_of_ble_eq_true rfl) ?_
  have hz232 := fb_zs hz228
  refine fb_putfR (pc := 137) (C := "") dX8_init_137 lfX8_69 lz_8_10 rfl rfl (by decide) rfl (by decide) rfl rfl ?_
  have hz234 := fb_zw (k := 10) (x := 103) hz232 (show 0 < 104 from (by decide))
  exact fb_vretM (pc := 140) rfl dX8_init_140

set_option maxRecDepth 100000 in
set_option maxHeartbeats 4000000 in
theorem uX8_init_z {u : fb_M} (hz : fb_zero u 1) : fb_zero (uX8_init u) 104 := by
  have hz4 := fb_zs hz
  have hz7 := X0_init_z (n := 2) hz4 (show 1 < 2 from by decide)
  have hz9 := fb_zw (k := 0) (x := 1) hz7 (show 0 < 3 from (by decide))
  have hz12 := fb_zs hz9
  have hz15 := uX6_init_z hz12
  have hz17 := fb_zw (k := 1) (x := 3) hz15 (show 0 < 21 from (by decide))
  have hz20 := fb_zs hz17
  have hz27 := X3_init_z (n := 22) hz20 (show 21 < 22 from by decide) 1 3
  have hz29 := fb_zw (k := 2) (x := 21) hz27 (show 0 < 22 from (by decide))
  have hz33 := fb_zs hz29
  have hz35 := fb_zw (k := 3) (x := 22) hz33 (show 0 < 23 from (by decide))
  have hz47 := fb_zs hz35
  have hz50 := X2_init_z (n := 24) hz47 (show 23 < 24 from by decide)
  have hz52 := fb_zw (k := 0) (x := 23) hz50 (show 22 < 29 from (by decide))
  have hz64 := fb_zs hz52
  have hz67 := X2_init_z (n := 30) hz64 (show 29 < 30 from by decide)
  have hz69 := fb_zw (k := 1) (x := 29) hz67 (show 22 < 35 from (by decide))
  have hz81 := fb_zs hz69
  have hz84 := X2_init_z (n := 36) hz81 (show 35 < 36 from by decide)
  have hz86 := fb_zw (k := 2) (x := 35) hz84 (show 22 < 41 from (by decide))
  have hz98 := fb_zs hz86
  have hz101 := X2_init_z (n := 42) hz98 (show 41 < 42 from by decide)
  have hz103 := fb_zw (k := 3) (x := 41) hz101 (show 22 < 47 from (by decide))
  have hz115 := fb_zs hz103
  have hz118 := X2_init_z (n := 48) hz115 (show 47 < 48 from by decide)
  have hz120 := fb_zw (k := 4) (x := 47) hz118 (show 22 < 53 from (by decide))
  have hz132 := fb_zs hz120
  have hz135 := X2_init_z (n := 54) hz132 (show 53 < 54 from by decide)
  have hz137 := fb_zw (k := 5) (x := 53) hz135 (show 22 < 59 from (by decide))
  have hz149 := fb_zs hz137
  have hz152 := X2_init_z (n := 60) hz149 (show 59 < 60 from by decide)
  have hz154 := fb_zw (k := 6) (x := 59) hz152 (show 22 < 65 from (by decide))
  have hz166 := fb_zs hz154
  have hz169 := X2_init_z (n := 66) hz166 (show 65 < 66 from by decide)
  have hz171 := fb_zw (k := 7) (x := 65) hz169 (show 22 < 71 from (by decide))
  have hz183 := fb_zs hz171
  have hz186 := X2_init_z (n := 72) hz183 (show 71 < 72 from by decide)
  have hz188 := fb_zw (k := 8) (x := 71) hz186 (show 22 < 77 from (by decide))
  have hz198 := fb_zs hz188
  have hz201 := uX7_init_z hz198
  have hz203 := fb_zw (k := 5) (x := 77) hz201 (show 0 < 99 from (by decide))
  have hz207 := fb_zs hz203
  have hz209 := fb_zw (k := 6) (x := 99) hz207 (show 0 < 100 from (by decide))
  have hz214 := uJ_fill_z hz209
  have hz218 := fb_zs hz214
  have hz220 := fb_zw (k := 7) (x := 100) hz218 (show 0 < 101 from (by decide))
  have hz223 := fb_zs hz220
  have hz226 := X4_init_z (n := 102) hz223 (show 101 < 102 from by decide)
  have hz228 := fb_zw (k := 9) (x := 101) hz226 (show 0 < 103 from (by decide))
  have hz232 := fb_zs hz228
  have hz234 := fb_zw (k := 10) (x := 103) hz232 (show 0 < 104 from (by decide))
  exact hz234
theorem lfX9_7 : fb_Lf RX9 7 9 0 40 := ⟨_, _, rfl, by decide, by decide, inX9, (fb_inW3 149 rfl rfl)⟩
theorem lz_9_0 : fb_Ly 9 0 40 (tyX9 0) true RX9 := ⟨_, _, tyX9, rfl, tyX9_ok, nmX9, tyX9_ok 0 (by decide), rfl, rfl⟩
theorem lfX9_13 : fb_Lf RX9 13 9 2 40 := ⟨_, _, rfl, by decide, by decide, inX9, (fb_inW3 151 rfl rfl)⟩
theorem lz_9_2 : fb_Ly 9 2 40 (tyX9 2) true RX9 := ⟨_, _, tyX9, rfl, tyX9_ok, nmX9, tyX9_ok 2 (by decide), rfl, rfl⟩
theorem lfX9_16 : fb_Lf RX9 16 9 3 40 := ⟨_, _, rfl, by decide, by decide, inX9, (fb_inW3 152 rfl rfl)⟩
theorem lz_9_3 : fb_Ly 9 3 40 (tyX9 3) true RX9 := ⟨_, _, tyX9, rfl, tyX9_ok, nmX9, tyX9_ok 3 (by decide), rfl, rfl⟩
theorem lfX9_19 : fb_Lf RX9 19 9 6 40 := ⟨_, _, rfl, by decide, by decide, inX9, (fb_inW3 155 rfl rfl)⟩
theorem lz_9_6 : fb_Ly 9 6 40 (tyX9 6) true RX9 := ⟨_, _, tyX9, rfl, tyX9_ok, nmX9, tyX9_ok 6 (by decide), rfl, rfl⟩
theorem lfX9_22 : fb_Lf RX9 22 9 7 40 := ⟨_, _, rfl, by decide, by decide, inX9, (fb_inW3 156 rfl rfl)⟩
theorem lz_9_7 : fb_Ly 9 7 40 (tyX9 7) true RX9 := ⟨_, _, tyX9, rfl, tyX9_ok, nmX9, tyX9_ok 7 (by decide), rfl, rfl⟩
theorem lfX9_25 : fb_Lf RX9 25 9 8 40 := ⟨_, _, rfl, by decide, by decide, inX9, (fb_inW3 157 rfl rfl)⟩
theorem lz_9_8 : fb_Ly 9 8 40 (tyX9 8) true RX9 := ⟨_, _, tyX9, rfl, tyX9_ok, nmX9, tyX9_ok 8 (by decide), rfl, rfl⟩
theorem lfX9_29 : fb_Lf RX9 29 9 9 40 := ⟨_, _, rfl, by decide, by decide, inX9, (fb_inW3 158 rfl rfl)⟩
theorem lz_9_9 : fb_Ly 9 9 40 (tyX9 9) true RX9 := ⟨_, _, tyX9, rfl, tyX9_ok, nmX9, tyX9_ok 9 (by decide), rfl, rfl⟩
theorem lfX9_32 : fb_Lf RX9 32 9 10 40 := ⟨_, _, rfl, by decide, by decide, inX9, (fb_inW3 159 rfl rfl)⟩
theorem lz_9_10 : fb_Ly 9 10 40 (tyX9 10) true RX9 := ⟨_, _, tyX9, rfl, tyX9_ok, nmX9, tyX9_ok 10 (by decide), rfl, rfl⟩
theorem lfX9_35 : fb_Lf RX9 35 9 11 40 := ⟨_, _, rfl, by decide, by decide, inX9, (fb_inW3 160 rfl rfl)⟩
theorem lz_9_11 : fb_Ly 9 11 40 (tyX9 11) true RX9 := ⟨_, _, tyX9, rfl, tyX9_ok, nmX9, tyX9_ok 11 (by decide), rfl, rfl⟩
theorem lfX9_38 : fb_Lf RX9 38 9 12 40 := ⟨_, _, rfl, by decide, by decide, inX9, (fb_inW3 161 rfl rfl)⟩
theorem lz_9_12 : fb_Ly 9 12 40 (tyX9 12) true RX9 := ⟨_, _, tyX9, rfl, tyX9_ok, nmX9, tyX9_ok 12 (by decide), rfl, rfl⟩
theorem lfX9_41 : fb_Lf RX9 41 9 13 40 := ⟨_, _, rfl, by decide, by decide, inX9, (fb_inW3 162 rfl rfl)⟩
theorem lz_9_13 : fb_Ly 9 13 40 (tyX9 13) true RX9 := ⟨_, _, tyX9, rfl, tyX9_ok, nmX9, tyX9_ok 13 (by decide), rfl, rfl⟩
theorem lfX9_44 : fb_Lf RX9 44 9 14 40 := ⟨_, _, rfl, by decide, by decide, inX9, (fb_inW3 163 rfl rfl)⟩
theorem lz_9_14 : fb_Ly 9 14 40 (tyX9 14) true RX9 := ⟨_, _, tyX9, rfl, tyX9_ok, nmX9, tyX9_ok 14 (by decide), rfl, rfl⟩
theorem lfX9_47 : fb_Lf RX9 47 9 15 40 := ⟨_, _, rfl, by decide, by decide, inX9, (fb_inW3 164 rfl rfl)⟩
theorem lz_9_15 : fb_Ly 9 15 40 (tyX9 15) true RX9 := ⟨_, _, tyX9, rfl, tyX9_ok, nmX9, tyX9_ok 15 (by decide), rfl, rfl⟩
theorem lfX9_50 : fb_Lf RX9 50 9 16 40 := ⟨_, _, rfl, by decide, by decide, inX9, (fb_inW3 165 rfl rfl)⟩
theorem lz_9_16 : fb_Ly 9 16 40 (tyX9 16) true RX9 := ⟨_, _, tyX9, rfl, tyX9_ok, nmX9, tyX9_ok 16 (by decide), rfl, rfl⟩
theorem lfX9_53 : fb_Lf RX9 53 9 22 40 := ⟨_, _, rfl, by decide, by decide, inX9, (fb_inW3 171 rfl rfl)⟩
theorem lz_9_22 : fb_Ly 9 22 40 (tyX9 22) true RX9 := ⟨_, _, tyX9, rfl, tyX9_ok, nmX9, tyX9_ok 22 (by decide), rfl, rfl⟩
theorem lfX9_56 : fb_Lf RX9 56 9 23 40 := ⟨_, _, rfl, by decide, by decide, inX9, (fb_inW3 172 rfl rfl)⟩
theorem lz_9_23 : fb_Ly 9 23 40 (tyX9 23) true RX9 := ⟨_, _, tyX9, rfl, tyX9_ok, nmX9, tyX9_ok 23 (by decide), rfl, rfl⟩
theorem lfX9_59 : fb_Lf RX9 59 9 24 40 := ⟨_, _, rfl, by decide, by decide, inX9, (fb_inW3 173 rfl rfl)⟩
theorem lz_9_24 : fb_Ly 9 24 40 (tyX9 24) true RX9 := ⟨_, _, tyX9, rfl, tyX9_ok, nmX9, tyX9_ok 24 (by decide), rfl, rfl⟩
theorem lfX9_62 : fb_Lf RX9 62 9 25 40 := ⟨_, _, rfl, by decide, by decide, inX9, (fb_inW3 174 rfl rfl)⟩
theorem lz_9_25 : fb_Ly 9 25 40 (tyX9 25) true RX9 := ⟨_, _, tyX9, rfl, tyX9_ok, nmX9, tyX9_ok 25 (by decide), rfl, rfl⟩
theorem lfX9_65 : fb_Lf RX9 65 9 26 40 := ⟨_, _, rfl, by decide, by decide, inX9, (fb_inW3 175 rfl rfl)⟩
theorem lz_9_26 : fb_Ly 9 26 40 (tyX9 26) true RX9 := ⟨_, _, tyX9, rfl, tyX9_ok, nmX9, tyX9_ok 26 (by decide), rfl, rfl⟩
theorem lfX9_68 : fb_Lf RX9 68 9 29 40 := ⟨_, _, rfl, by decide, by decide, inX9, (fb_inW3 178 rfl rfl)⟩
theorem lz_9_29 : fb_Ly 9 29 40 (tyX9 29) true RX9 := ⟨_, _, tyX9, rfl, tyX9_ok, nmX9, tyX9_ok 29 (by decide), rfl, rfl⟩
theorem lfX9_71 : fb_Lf RX9 71 9 30 40 := ⟨_, _, rfl, by decide, by decide, inX9, (fb_inW3 179 rfl rfl)⟩
theorem lz_9_30 : fb_Ly 9 30 40 (tyX9 30) true RX9 := ⟨_, _, tyX9, rfl, tyX9_ok, nmX9, tyX9_ok 30 (by decide), rfl, rfl⟩
theorem lfX9_74 : fb_Lf RX9 74 9 31 40 := ⟨_, _, rfl, by decide, by decide, inX9, (fb_inW3 180 rfl rfl)⟩
theorem lz_9_31 : fb_Ly 9 31 40 (tyX9 31) true RX9 := ⟨_, _, tyX9, rfl, tyX9_ok, nmX9, tyX9_ok 31 (by decide), rfl, rfl⟩
theorem lfX9_77 : fb_Lf RX9 77 9 32 40 := ⟨_, _, rfl, by decide, by decide, inX9, (fb_inW3 181 rfl rfl)⟩
theorem lz_9_32 : fb_Ly 9 32 40 (tyX9 32) true RX9 := ⟨_, _, tyX9, rfl, tyX9_ok, nmX9, tyX9_ok 32 (by decide), rfl, rfl⟩
theorem lfX9_80 : fb_Lf RX9 80 9 33 40 := ⟨_, _, rfl, by decide, by decide, inX9, (fb_inW3 182 rfl rfl)⟩
theorem lz_9_33 : fb_Ly 9 33 40 (tyX9 33) true RX9 := ⟨_, _, tyX9, rfl, tyX9_ok, nmX9, tyX9_ok 33 (by decide), rfl, rfl⟩
theorem lfX9_83 : fb_Lf RX9 83 9 34 40 := ⟨_, _, rfl, by decide, by decide, inX9, (fb_inW3 183 rfl rfl)⟩
theorem lz_9_34 : fb_Ly 9 34 40 (tyX9 34) true RX9 := ⟨_, _, tyX9, rfl, tyX9_ok, nmX9, tyX9_ok 34 (by decide), rfl, rfl⟩
theorem lfX9_86 : fb_Lf RX9 86 9 36 40 := ⟨_, _, rfl, by decide, by decide, inX9, (fb_inW3 185 rfl rfl)⟩
theorem lz_9_36 : fb_Ly 9 36 40 (tyX9 36) true RX9 := ⟨_, _, tyX9, rfl, tyX9_ok, nmX9, tyX9_ok 36 (by decide), rfl, rfl⟩
theorem lfX9_89 : fb_Lf RX9 89 9 38 40 := ⟨_, _, rfl, by decide, by decide, inX9, (fb_inW3 187 rfl rfl)⟩
theorem lz_9_38 : fb_Ly 9 38 40 (tyX9 38) true RX9 := ⟨_, _, tyX9, rfl, tyX9_ok, nmX9, tyX9_ok 38 (by decide), rfl, rfl⟩
theorem lfX9_92 : fb_Lf RX9 92 9 39 40 := ⟨_, _, rfl, by decide, by decide, inX9, (fb_inW3 188 rfl rfl)⟩
theorem lz_9_39 : fb_Ly 9 39 40 (tyX9 39) true RX9 := ⟨_, _, tyX9, rfl, tyX9_ok, nmX9, tyX9_ok 39 (by decide), rfl, rfl⟩
theorem dX9_init_0 : decode cX9_init 0 = .ok (.aload_n 0, 1) := by decide +kernel
theorem dX9_init_1 : decode cX9_init 1 = .ok (.invokespecial 1, 3) := by decide +kernel
theorem dX9_init_4 : decode cX9_init 4 = .ok (.aload_n 0, 1) := by decide +kernel
theorem dX9_init_5 : decode cX9_init 5 = .ok (.bipush 80, 2) := by decide +kernel
theorem dX9_init_7 : decode cX9_init 7 = .ok (.newarray .int, 2) := by decide +kernel
theorem dX9_init_9 : decode cX9_init 9 = .ok (.putfield 7, 3) := by decide +kernel
theorem dX9_init_12 : decode cX9_init 12 = .ok (.aload_n 0, 1) := by decide +kernel
theorem dX9_init_13 : decode cX9_init 13 = .ok (.sipush 320, 3) := by decide +kernel
theorem dX9_init_16 : decode cX9_init 16 = .ok (.newarray .int, 2) := by decide +kernel
theorem dX9_init_18 : decode cX9_init 18 = .ok (.putfield 13, 3) := by decide +kernel
theorem dX9_init_21 : decode cX9_init 21 = .ok (.aload_n 0, 1) := by decide +kernel
theorem dX9_init_22 : decode cX9_init 22 = .ok (.bipush 8, 2) := by decide +kernel
theorem dX9_init_24 : decode cX9_init 24 = .ok (.newarray .int, 2) := by decide +kernel
theorem dX9_init_26 : decode cX9_init 26 = .ok (.putfield 16, 3) := by decide +kernel
theorem dX9_init_29 : decode cX9_init 29 = .ok (.aload_n 0, 1) := by decide +kernel
theorem dX9_init_30 : decode cX9_init 30 = .ok (.bipush 8, 2) := by decide +kernel
theorem dX9_init_32 : decode cX9_init 32 = .ok (.newarray .int, 2) := by decide +kernel
theorem dX9_init_34 : decode cX9_init 34 = .ok (.putfield 19, 3) := by decide +kernel
theorem dX9_init_37 : decode cX9_init 37 = .ok (.aload_n 0, 1) := by decide +kernel
theorem dX9_init_38 : decode cX9_init 38 = .ok (.bipush 8, 2) := by decide +kernel
theorem dX9_init_40 : decode cX9_init 40 = .ok (.newarray .int, 2) := by decide +kernel
theorem dX9_init_42 : decode cX9_init 42 = .ok (.putfield 22, 3) := by decide +kernel
theorem dX9_init_45 : decode cX9_init 45 = .ok (.aload_n 0, 1) := by decide +kernel
theorem dX9_init_46 : decode cX9_init 46 = .ok (.bipush 8, 2) := by decide +kernel
theorem dX9_init_48 : decode cX9_init 48 = .ok (.newarray .boolean, 2) := by decide +kernel
theorem dX9_init_50 : decode cX9_init 50 = .ok (.putfield 25, 3) := by decide +kernel
theorem dX9_init_53 : decode cX9_init 53 = .ok (.aload_n 0, 1) := by decide +kernel
theorem dX9_init_54 : decode cX9_init 54 = .ok (.bipush 8, 2) := by decide +kernel
theorem dX9_init_56 : decode cX9_init 56 = .ok (.newarray .int, 2) := by decide +kernel
theorem dX9_init_58 : decode cX9_init 58 = .ok (.putfield 29, 3) := by decide +kernel
theorem dX9_init_61 : decode cX9_init 61 = .ok (.aload_n 0, 1) := by decide +kernel
theorem dX9_init_62 : decode cX9_init 62 = .ok (.bipush 8, 2) := by decide +kernel
theorem dX9_init_64 : decode cX9_init 64 = .ok (.newarray .int, 2) := by decide +kernel
theorem dX9_init_66 : decode cX9_init 66 = .ok (.putfield 32, 3) := by decide +kernel
theorem dX9_init_69 : decode cX9_init 69 = .ok (.aload_n 0, 1) := by decide +kernel
theorem dX9_init_70 : decode cX9_init 70 = .ok (.bipush 8, 2) := by decide +kernel
theorem dX9_init_72 : decode cX9_init 72 = .ok (.newarray .int, 2) := by decide +kernel
theorem dX9_init_74 : decode cX9_init 74 = .ok (.putfield 35, 3) := by decide +kernel
theorem dX9_init_77 : decode cX9_init 77 = .ok (.aload_n 0, 1) := by decide +kernel
theorem dX9_init_78 : decode cX9_init 78 = .ok (.bipush 48, 2) := by decide +kernel
theorem dX9_init_80 : decode cX9_init 80 = .ok (.newarray .int, 2) := by decide +kernel
theorem dX9_init_82 : decode cX9_init 82 = .ok (.putfield 38, 3) := by decide +kernel
theorem dX9_init_85 : decode cX9_init 85 = .ok (.aload_n 0, 1) := by decide +kernel
theorem dX9_init_86 : decode cX9_init 86 = .ok (.bipush 48, 2) := by decide +kernel
theorem dX9_init_88 : decode cX9_init 88 = .ok (.newarray .int, 2) := by decide +kernel
theorem dX9_init_90 : decode cX9_init 90 = .ok (.putfield 41, 3) := by decide +kernel
theorem dX9_init_93 : decode cX9_init 93 = .ok (.aload_n 0, 1) := by decide +kernel
theorem dX9_init_94 : decode cX9_init 94 = .ok (.bipush 48, 2) := by decide +kernel
theorem dX9_init_96 : decode cX9_init 96 = .ok (.newarray .int, 2) := by decide +kernel
theorem dX9_init_98 : decode cX9_init 98 = .ok (.putfield 44, 3) := by decide +kernel
theorem dX9_init_101 : decode cX9_init 101 = .ok (.aload_n 0, 1) := by decide +kernel
theorem dX9_init_102 : decode cX9_init 102 = .ok (.bipush 24, 2) := by decide +kernel
theorem dX9_init_104 : decode cX9_init 104 = .ok (.newarray .int, 2) := by decide +kernel
theorem dX9_init_106 : decode cX9_init 106 = .ok (.putfield 47, 3) := by decide +kernel
theorem dX9_init_109 : decode cX9_init 109 = .ok (.aload_n 0, 1) := by decide +kernel
theorem dX9_init_110 : decode cX9_init 110 = .ok (.bipush 24, 2) := by decide +kernel
theorem dX9_init_112 : decode cX9_init 112 = .ok (.newarray .boolean, 2) := by decide +kernel
theorem dX9_init_114 : decode cX9_init 114 = .ok (.putfield 50, 3) := by decide +kernel
theorem dX9_init_117 : decode cX9_init 117 = .ok (.aload_n 0, 1) := by decide +kernel
theorem dX9_init_118 : decode cX9_init 118 = .ok (.bipush 6, 2) := by decide +kernel
theorem dX9_init_120 : decode cX9_init 120 = .ok (.newarray .int, 2) := by decide +kernel
theorem dX9_init_122 : decode cX9_init 122 = .ok (.putfield 53, 3) := by decide +kernel
theorem dX9_init_125 : decode cX9_init 125 = .ok (.aload_n 0, 1) := by decide +kernel
theorem dX9_init_126 : decode cX9_init 126 = .ok (.bipush 6, 2) := by decide +kernel
theorem dX9_init_128 : decode cX9_init 128 = .ok (.newarray .int, 2) := by decide +kernel
theorem dX9_init_130 : decode cX9_init 130 = .ok (.putfield 56, 3) := by decide +kernel
theorem dX9_init_133 : decode cX9_init 133 = .ok (.aload_n 0, 1) := by decide +kernel
theorem dX9_init_134 : decode cX9_init 134 = .ok (.bipush 6, 2) := by decide +kernel
theorem dX9_init_136 : decode cX9_init 136 = .ok (.newarray .int, 2) := by decide +kernel
theorem dX9_init_138 : decode cX9_init 138 = .ok (.putfield 59, 3) := by decide +kernel
theorem dX9_init_141 : decode cX9_init 141 = .ok (.aload_n 0, 1) := by decide +kernel
theorem dX9_init_142 : decode cX9_init 142 = .ok (.iconst 3, 1) := by decide +kernel
theorem dX9_init_143 : decode cX9_init 143 = .ok (.newarray .int, 2) := by decide +kernel
theorem dX9_init_145 : decode cX9_init 145 = .ok (.putfield 62, 3) := by decide +kernel
theorem dX9_init_148 : decode cX9_init 148 = .ok (.aload_n 0, 1) := by decide +kernel
theorem dX9_init_149 : decode cX9_init 149 = .ok (.iconst 3, 1) := by decide +kernel
theorem dX9_init_150 : decode cX9_init 150 = .ok (.newarray .boolean, 2) := by decide +kernel
theorem dX9_init_152 : decode cX9_init 152 = .ok (.putfield 65, 3) := by decide +kernel
theorem dX9_init_155 : decode cX9_init 155 = .ok (.aload_n 0, 1) := by decide +kernel
theorem dX9_init_156 : decode cX9_init 156 = .ok (.bipush 10, 2) := by decide +kernel
theorem dX9_init_158 : decode cX9_init 158 = .ok (.newarray .int, 2) := by decide +kernel
theorem dX9_init_160 : decode cX9_init 160 = .ok (.putfield 68, 3) := by decide +kernel
theorem dX9_init_163 : decode cX9_init 163 = .ok (.aload_n 0, 1) := by decide +kernel
theorem dX9_init_164 : decode cX9_init 164 = .ok (.bipush 80, 2) := by decide +kernel
theorem dX9_init_166 : decode cX9_init 166 = .ok (.newarray .int, 2) := by decide +kernel
theorem dX9_init_168 : decode cX9_init 168 = .ok (.putfield 71, 3) := by decide +kernel
theorem dX9_init_171 : decode cX9_init 171 = .ok (.aload_n 0, 1) := by decide +kernel
theorem dX9_init_172 : decode cX9_init 172 = .ok (.bipush 80, 2) := by decide +kernel
theorem dX9_init_174 : decode cX9_init 174 = .ok (.newarray .boolean, 2) := by decide +kernel
theorem dX9_init_176 : decode cX9_init 176 = .ok (.putfield 74, 3) := by decide +kernel
theorem dX9_init_179 : decode cX9_init 179 = .ok (.aload_n 0, 1) := by decide +kernel
theorem dX9_init_180 : decode cX9_init 180 = .ok (.bipush 8, 2) := by decide +kernel
theorem dX9_init_182 : decode cX9_init 182 = .ok (.newarray .int, 2) := by decide +kernel
theorem dX9_init_184 : decode cX9_init 184 = .ok (.putfield 77, 3) := by decide +kernel
theorem dX9_init_187 : decode cX9_init 187 = .ok (.aload_n 0, 1) := by decide +kernel
theorem dX9_init_188 : decode cX9_init 188 = .ok (.bipush 8, 2) := by decide +kernel
theorem dX9_init_190 : decode cX9_init 190 = .ok (.newarray .boolean, 2) := by decide +kernel
theorem dX9_init_192 : decode cX9_init 192 = .ok (.putfield 80, 3) := by decide +kernel
theorem dX9_init_195 : decode cX9_init 195 = .ok (.aload_n 0, 1) := by decide +kernel
theorem dX9_init_196 : decode cX9_init 196 = .ok (.bipush 12, 2) := by decide +kernel
theorem dX9_init_198 : decode cX9_init 198 = .ok (.newarray .int, 2) := by decide +kernel
theorem dX9_init_200 : decode cX9_init 200 = .ok (.putfield 83, 3) := by decide +kernel
theorem dX9_init_203 : decode cX9_init 203 = .ok (.aload_n 0, 1) := by decide +kernel
theorem dX9_init_204 : decode cX9_init 204 = .ok (.bipush 10, 2) := by decide +kernel
theorem dX9_init_206 : decode cX9_init 206 = .ok (.newarray .int, 2) := by decide +kernel
theorem dX9_init_208 : decode cX9_init 208 = .ok (.putfield 86, 3) := by decide +kernel
theorem dX9_init_211 : decode cX9_init 211 = .ok (.aload_n 0, 1) := by decide +kernel
theorem dX9_init_212 : decode cX9_init 212 = .ok (.bipush 10, 2) := by decide +kernel
theorem dX9_init_214 : decode cX9_init 214 = .ok (.newarray .boolean, 2) := by decide +kernel
theorem dX9_init_216 : decode cX9_init 216 = .ok (.putfield 89, 3) := by decide +kernel
theorem dX9_init_219 : decode cX9_init 219 = .ok (.aload_n 0, 1) := by decide +kernel
theorem dX9_init_220 : decode cX9_init 220 = .ok (.bipush 10, 2) := by decide +kernel
theorem dX9_init_222 : decode cX9_init 222 = .ok (.newarray .boolean, 2) := by decide +kernel
theorem dX9_init_224 : decode cX9_init 224 = .ok (.putfield 92, 3) := by decide +kernel
theorem dX9_init_227 : decode cX9_init 227 = .ok (.return_, 1) := by decide +kernel
theorem yinX9_init : Cond.instanceMethod yX9_init ∈ fb_W := (fb_inW3 146 rfl rfl)
theorem ymX9_init : fb_Ym yX9_init cX9_init 1 none 0 := ⟨(fb_inW3 147 rfl rfl), (fb_inW1 11 rfl rfl), by decide, by decide, by decide +kernel⟩
def uX9_init (u : fb_M) : fb_M := (fb_wR (fb_wR (fb_wR (fb_wR (fb_wR (fb_wR (fb_wR (fb_wR (fb_wR (fb_wR (fb_wR (fb_wR (fb_wR (fb_wR (fb_wR (fb_wR (fb_wR (fb_wR (fb_wR (fb_wR (fb_wR (fb_wR (fb_wR (fb_wR (fb_wR (fb_wR (fb_wR (fb_wR u 104 0 105) 104 2 106) 104 3 107) 104 6 108) 104 7 109) 104 8 110) 104 9 111) 104 10 112) 104 11 113) 104 12 114) 104 13 115) 104 14 116) 104 15 117) 104 16 118) 104 22 119) 104 23 120) 104 24 121) 104 25 122) 104 26 123) 104 29 124) 104 30 125) 104 31 126) 104 32 127) 104 33 128) 104 34 129) 104 36 130) 104 38 131) 104 39 132)
set_option maxRecDepth 100000 in
set_option maxHeartbeats 4000000 in
theorem mX9_init (g : fb_G) (u : fb_M) (hz : fb_zero u 105) : fb_Runs g 1 40 28 900 105 133 yX9_init cX9_init 1 none [.ref (fb_b g + 104)] u none (uX9_init u) := by
  refine fb_enter (by decide) (Nat.le_of_ble_eq_true rfl) ?_
  show fb_V g RX9 cX9_init 1 none "<init>" (fb_room 1 40 28 900) (fb_Qm g none 133 (uX9_init u) 28 900) 0 0 105 u 0 [(0, .ref (fb_b g + 104))] []
  refine fb_aload_n (pc := 0) dX9_init_0 0 rfl ?_
  refine fb_objInit (pc := 1) dX9_init_1 (fb_inW3 148 rfl rfl) wo1 wo2 (Nat.le_of_ble_eq_true rfl) ⟨Nat.le_of_ble_eq_true rfl, Nat.le_of_ble_eq_true rfl⟩ ?_
  refine fb_aload_n (pc := 4) dX9_init_4 0 rfl ?_
  refine fb_bipush (pc := 5) (v := 80) dX9_init_5 (by decide) ?_
  refine fb_newA (pc := 7) (t := 0) (N := 80) dX9_init_7 (by decide) rfl (fun _ _ h => h) wa0 (by decide) rfl (fb_z0 hz (by decide)) (by decide) (by decide) (Nat.le_of_ble_eq_true rfl) (Nat.le_of_ble_eq_true rfl) ?_
  have hz5 := fb_zs hz
  refine fb_putfR (pc := 9) (C := "") dX9_init_9 lfX9_7 lz_9_0 rfl rfl (by decide) rfl (by decide) rfl rfl ?_
  have hz7 := fb_zw (k := 0) (x := 105) hz5 (show 104 < 106 from (by decide))
  refine fb_aload_n (pc := 12) dX9_init_12 0 rfl ?_
  refine fb_sipush (pc := 13) (v := 320) dX9_init_13 (by decide) ?_
  refine fb_newA (pc := 16) (t := 0) (N := 320) dX9_init_16 (by decide) rfl (fun _ _ h => h) wa0 (by decide) rfl (fb_z0 hz7 (by decide)) (by decide) (by decide) (Nat.le_of_ble_eq_true rfl) (Nat.le_of_ble_eq_true rfl) ?_
  have hz11 := fb_zs hz7
  refine fb_putfR (pc := 18) (C := "") dX9_init_18 lfX9_13 lz_9_2 rfl rfl (by decide) rfl (by decide) rfl rfl ?_
  have hz13 := fb_zw (k := 2) (x := 106) hz11 (show 104 < 107 from (by decide))
  refine fb_aload_n (pc := 21) dX9_init_21 0 rfl ?_
  refine fb_bipush (pc := 22) (v := 8) dX9_init_22 (by decide) ?_
  refine fb_newA (pc := 24) (t := 0) (N := 8) dX9_init_24 (by decide) rfl (fun _ _ h => h) wa0 (by decide) rfl (fb_z0 hz13 (by decide)) (by decide) (by decide) (Nat.le_of_ble_eq_true rfl) (Nat.le_of_ble_eq_true rfl) ?_
  have hz17 := fb_zs hz13
  refine fb_putfR (pc := 26) (C := "") dX9_init_26 lfX9_16 lz_9_3 rfl rfl (by decide) rfl (by decide) rfl rfl ?_
  have hz19 := fb_zw (k := 3) (x := 107) hz17 (show 104 < 108 from (by decide))
  refine fb_aload_n (pc := 29) dX9_init_29 0 rfl ?_
  refine fb_bipush (pc := 30) (v := 8) dX9_init_30 (by decide) ?_
  refine fb_newA (pc := 32) (t := 0) (N := 8) dX9_init_32 (by decide) rfl (fun _ _ h => h) wa0 (by decide) rfl (fb_z0 hz19 (by decide)) (by decide) (by decide) (Nat.le_of_ble_eq_true rfl) (Nat.le_of_ble_eq_true rfl) ?_
  have hz23 := fb_zs hz19
  refine fb_putfR (pc := 34) (C := "") dX9_init_34 lfX9_19 lz_9_6 rfl rfl (by decide) rfl (by decide) rfl rfl ?_
  have hz25 := fb_zw (k := 6) (x := 108) hz23 (show 104 < 109 from (by decide))
  refine fb_aload_n (pc := 37) dX9_init_37 0 rfl ?_
  refine fb_bipush (pc := 38) (v := 8) dX9_init_38 (by decide) ?_
  refine fb_newA (pc := 40) (t := 0) (N := 8) dX9_init_40 (by decide) rfl (fun _ _ h => h) wa0 (by decide) rfl (fb_z0 hz25 (by decide)) (by decide) (by decide) (Nat.le_of_ble_eq_true rfl) (Nat.le_of_ble_eq_true rfl) ?_
  have hz29 := fb_zs hz25
  refine fb_putfR (pc := 42) (C := "") dX9_init_42 lfX9_22 lz_9_7 rfl rfl (by decide) rfl (by decide) rfl rfl ?_
  have hz31 := fb_zw (k := 7) (x := 109) hz29 (show 104 < 110 from (by decide))
  refine fb_aload_n (pc := 45) dX9_init_45 0 rfl ?_
  refine fb_bipush (pc := 46) (v := 8) dX9_init_46 (by decide) ?_
  refine fb_newA (pc := 48) (t := 2) (N := 8) dX9_init_48 (by decide) rfl (fun _ _ h => h) wa2 (by decide) rfl (fb_z0 hz31 (by decide)) (by decide) (by decide) (Nat.le_of_ble_eq_true rfl) (Nat.le_of_ble_eq_true rfl) ?_
  have hz35 := fb_zs hz31
  refine fb_putfR (pc := 50) (C := "") dX9_init_50 lfX9_25 lz_9_8 rfl rfl (by decide) rfl (by decide) rfl rfl ?_
  have hz37 := fb_zw (k := 8) (x := 110) hz35 (show 104 < 111 from (by decide))
  refine fb_aload_n (pc := 53) dX9_init_53 0 rfl ?_
  refine fb_bipush (pc := 54) (v := 8) dX9_init_54 (by decide) ?_
  refine fb_newA (pc := 56) (t := 0) (N := 8) dX9_init_56 (by decide) rfl (fun _ _ h => h) wa0 (by decide) rfl (fb_z0 hz37 (by decide)) (by decide) (by decide) (Nat.le_of_ble_eq_true rfl) (Nat.le_of_ble_eq_true rfl) ?_
  have hz41 := fb_zs hz37
  refine fb_putfR (pc := 58) (C := "") dX9_init_58 lfX9_29 lz_9_9 rfl rfl (by decide) rfl (by decide) rfl rfl ?_
  have hz43 := fb_zw (k := 9) (x := 111) hz41 (show 104 < 112 from (by decide))
  refine fb_aload_n (pc := 61) dX9_init_61 0 rfl ?_
  refine fb_bipush (pc := 62) (v := 8) dX9_init_62 (by decide) ?_
  refine fb_newA (pc := 64) (t := 0) (N := 8) dX9_init_64 (by decide) rfl (fun _ _ h => h) wa0 (by decide) rfl (fb_z0 hz43 (by decide)) (by decide) (by decide) (Nat.le_of_ble_eq_true rfl) (Nat.le_of_ble_eq_true rfl) ?_
  have hz47 := fb_zs hz43
  refine fb_putfR (pc := 66) (C := "") dX9_init_66 lfX9_32 lz_9_10 rfl rfl (by decide) rfl (by decide) rfl rfl ?_
  have hz49 := fb_zw (k := 10) (x := 112) hz47 (show 104 < 113 from (by decide))
  refine fb_aload_n (pc := 69) dX9_init_69 0 rfl ?_
  refine fb_bipush (pc := 70) (v := 8) dX9_init_70 (by decide) ?_
  refine fb_newA (pc := 72) (t := 0) (N := 8) dX9_init_72 (by decide) rfl (fun _ _ h => h) wa0 (by decide) rfl (fb_z0 hz49 (by decide)) (by decide) (by decide) (Nat.le_of_ble_eq_true rfl) (Nat.le_of_ble_eq_true rfl) ?_
  have hz53 := fb_zs hz49
  refine fb_putfR (pc := 74) (C := "") dX9_init_74 lfX9_35 lz_9_11 rfl rfl (by decide) rfl (by decide) rfl rfl ?_
  have hz55 := fb_zw (k := 11) (x := 113) hz53 (show 104 < 114 from (by decide))
  refine fb_aload_n (pc := 77) dX9_init_77 0 rfl ?_
  refine fb_bipush (pc := 78) (v := 48) dX9_init_78 (by decide) ?_
  refine fb_newA (pc := 80) (t := 0) (N := 48) dX9_init_80 (by decide) rfl (fun _ _ h => h) wa0 (by decide) rfl (fb_z0 hz55 (by decide)) (by decide) (by decide) (Nat.le_of_ble_eq_true rfl) (Nat.le_of_ble_eq_true rfl) ?_
  have hz59 := fb_zs hz55
  refine fb_putfR (pc := 82) (C := "") dX9_init_82 lfX9_38 lz_9_12 rfl rfl (by decide) rfl (by decide) rfl rfl ?_
  have hz61 := fb_zw (k := 12) (x := 114) hz59 (show 104 < 115 from (by decide))
  refine fb_aload_n (pc := 85) dX9_init_85 0 rfl ?_
  refine fb_bipush (pc := 86) (v := 48) dX9_init_86 (by decide) ?_
  refine fb_newA (pc := 88) (t := 0) (N := 48) dX9_init_88 (by decide) rfl (fun _ _ h => h) wa0 (by decide) rfl (fb_z0 hz61 (by decide)) (by decide) (by decide) (Nat.le_of_ble_eq_true rfl) (Nat.le_of_ble_eq_true rfl) ?_
  have hz65 := fb_zs hz61
  refine fb_putfR (pc := 90) (C := "") dX9_init_90 lfX9_41 lz_9_13 rfl rfl (by decide) rfl (by decide) rfl rfl ?_
  have hz67 := fb_zw (k := 13) (x := 115) hz65 (show 104 < 116 from (by decide))
  refine fb_aload_n (pc := 93) dX9_init_93 0 rfl ?_
  refine fb_bipush (pc := 94) (v := 48) dX9_init_94 (by decide) ?_
  refine fb_newA (pc := 96) (t := 0) (N := 48) dX9_init_96 (by decide) rfl (fun _ _ h => h) wa0 (by decide) rfl (fb_z0 hz67 (by decide)) (by decide) (by decide) (Nat.le_of_ble_eq_true rfl) (Nat.le_of_ble_eq_true rfl) ?_
  have hz71 := fb_zs hz67
  refine fb_putfR (pc := 98) (C := "") dX9_init_98 lfX9_44 lz_9_14 rfl rfl (by decide) rfl (by decide) rfl rfl ?_
  have hz73 := fb_zw (k := 14) (x := 116) hz71 (show 104 < 117 from (by decide))
  refine fb_aload_n (pc := 101) dX9_init_101 0 rfl ?_
  refine fb_bipush (pc := 102) (v := 24) dX9_init_102 (by decide) ?_
  refine fb_newA (pc := 104) (t := 0) (N := 24) dX9_init_104 (by decide) rfl (fun _ _ h => h) wa0 (by decide) rfl (fb_z0 hz73 (by decide)) (by decide) (by decide) (Nat.le_of_ble_eq_true rfl) (Nat.le_of_ble_eq_true rfl) ?_
  have hz77 := fb_zs hz73
  refine fb_putfR (pc := 106) (C := "") dX9_init_106 lfX9_47 lz_9_15 rfl rfl (by decide) rfl (by decide) rfl rfl ?_
  have hz79 := fb_zw (k := 15) (x := 117) hz77 (show 104 < 118 from (by decide))
  refine fb_aload_n (pc := 109) dX9_init_109 0 rfl ?_
  refine fb_bipush (pc := 110) (v := 24) dX9_init_110 (by decide) ?_
  refine fb_newA (pc := 112) (t := 2) (N := 24) dX9_init_112 (by decide) rfl (fun _ _ h => h) wa2 (by decide) rfl (fb_z0 hz79 (by decide)) (by decide) (by decide) (Nat.le_of_ble_eq_true rfl) (Nat.le_of_ble_eq_true rfl) ?_
  have hz83 := fb_zs hz79
  refine fb_putfR (pc := 114) (C := "") dX9_init_114 lfX9_50 lz_9_16 rfl rfl (by decide) rfl (by decide) rfl rfl ?_
  have hz85 := fb_zw (k := 16) (x := 118) hz83 (show 104 < 119 from (by decide))
  refine fb_aload_n (pc := 117) dX9_init_117 0 rfl ?_
  refine fb_bipush (pc := 118) (v := 6) dX9_init_118 (by decide) ?_
  refine fb_newA (pc := 120) (t := 0) (N := 6) dX9_init_120 (by decide) rfl (fun _ _ h => h) wa0 (by decide) rfl (fb_z0 hz85 (by decide)) (by decide) (by decide) (Nat.le_of_ble_eq_true rfl) (Nat.le_of_ble_eq_true rfl) ?_
  have hz89 := fb_zs hz85
  refine fb_putfR (pc := 122) (C := "") dX9_init_122 lfX9_53 lz_9_22 rfl rfl (by decide) rfl (by decide) rfl rfl ?_
  have hz91 := fb_zw (k := 22) (x := 119) hz89 (show 104 < 120 from (by decide))
  refine fb_aload_n (pc := 125) dX9_init_125 0 rfl ?_
  refine fb_bipush (pc := 126) (v := 6) dX9_init_126 (by decide) ?_
  refine fb_newA (pc := 128) (t := 0) (N := 6) dX9_init_128 (by decide) rfl (fun _ _ h => h) wa0 (by decide) rfl (fb_z0 hz91 (by decide)) (by decide) (by decide) (Nat.le_of_ble_eq_true rfl) (Nat.le_of_ble_eq_true rfl) ?_
  have hz95 := fb_zs hz91
  refine fb_putfR (pc := 130) (C := "") dX9_init_130 lfX9_56 lz_9_23 rfl rfl (by decide) rfl (by decide) rfl rfl ?_
  have hz97 := fb_zw (k := 23) (x := 120) hz95 (show 104 < 121 from (by decide))
  refine fb_aload_n (pc := 133) dX9_init_133 0 rfl ?_
  refine fb_bipush (pc := 134) (v := 6) dX9_init_134 (by decide) ?_
  refine fb_newA (pc := 136) (t := 0) (N := 6) dX9_init_136 (by decide) rfl (fun _ _ h => h) wa0 (by decide) rfl (fb_z0 hz97 (by decide)) (by decide) (by decide) (Nat.le_of_ble_eq_true rfl) (Nat.le_of_ble_eq_true rfl) ?_
  have hz101 := fb_zs hz97
  refine fb_putfR (pc := 138) (C := "") dX9_init_138 lfX9_59 lz_9_24 rfl rfl (by decide) rfl (by decide) rfl rfl ?_
  have hz103 := fb_zw (k := 24) (x := 121) hz101 (show 104 < 122 from (by decide))
  refine fb_aload_n (pc := 141) dX9_init_141 0 rfl ?_
  refine fb_iconst (pc := 142) (v := 3) dX9_init_142 (by decide) ?_
  refine fb_newA (pc := 143) (t := 0) (N := 3) dX9_init_143 (by decide) rfl (fun _ _ h => h) wa0 (by decide) rfl (fb_z0 hz103 (by decide)) (by decide) (by decide) (Nat.le_of_ble_eq_true rfl) (Nat.le_of_ble_eq_true rfl) ?_
  have hz107 := fb_zs hz103
  refine fb_putfR (pc := 145) (C := "") dX9_init_145 lfX9_62 lz_9_25 rfl rfl (by decide) rfl (by decide) rfl rfl ?_
  have hz109 := fb_zw (k := 25) (x := 122) hz107 (show 104 < 123 from (by decide))
  refine fb_aload_n (pc := 148) dX9_init_148 0 rfl ?_
  refine fb_iconst (pc := 149) (v := 3) dX9_init_149 (by decide) ?_
  refine fb_newA (pc := 150) (t := 2) (N := 3) dX9_init_150 (by decide) rfl (fun _ _ h => h) wa2 (by decide) rfl (fb_z0 hz109 (by decide)) (by decide) (by decide) (Nat.le_of_ble_eq_true rfl) (Nat.le_of_ble_eq_true rfl) ?_
  have hz113 := fb_zs hz109
  refine fb_putfR (pc := 152) (C := "") dX9_init_152 lfX9_65 lz_9_26 rfl rfl (by decide) rfl (by decide) rfl rfl ?_
  have hz115 := fb_zw (k := 26) (x := 123) hz113 (show 104 < 124 from (by decide))
  refine fb_aload_n (pc := 155) dX9_init_155 0 rfl ?_
  refine fb_bipush (pc := 156) (v := 10) dX9_init_156 (by decide) ?_
  refine fb_newA (pc := 158) (t := 0) (N := 10) dX9_init_158 (by decide) rfl (fun _ _ h => h) wa0 (by decide) rfl (fb_z0 hz115 (by decide)) (by decide) (by decide) (Nat.le_of_ble_eq_true rfl) (Nat.le_of_ble_eq_true rfl) ?_
  have hz119 := fb_zs hz115
  refine fb_putfR (pc := 160) (C := "") dX9_init_160 lfX9_68 lz_9_29 rfl rfl (by decide) rfl (by decide) rfl rfl ?_
  have hz121 := fb_zw (k := 29) (x := 124) hz119 (show 104 < 125 from (by decide))
  refine fb_aload_n (pc := 163) dX9_init_163 0 rfl ?_
  refine fb_bipush (pc := 164) (v := 80) dX9_init_164 (by decide) ?_
  refine fb_newA (pc := 166) (t := 0) (N := 80) dX9_init_166 (by decide) rfl (fun _ _ h => h) wa0 (by decide) rfl (fb_z0 hz121 (by decide)) (by decide) (by decide) (Nat.le_of_ble_eq_true rfl) (Nat.le_of_ble_eq_true rfl) ?_
  have hz125 := fb_zs hz121
  refine fb_putfR (pc := 168) (C := "") dX9_init_168 lfX9_71 lz_9_30 rfl rfl (by decide) rfl (by decide) rfl rfl ?_
  have hz127 := fb_zw (k := 30) (x := 125) hz125 (show 104 < 126 from (by decide))
  refine fb_aload_n (pc := 171) dX9_init_171 0 rfl ?_
  refine fb_bipush (pc := 172) (v := 80) dX9_init_172 (by decide) ?_
  refine fb_newA (pc := 174) (t := 2) (N := 80) dX9_init_174 (by decide) rfl (fun _ _ h => h) wa2 (by decide) rfl (fb_z0 hz127 (by decide)) (by decide) (by decide) (Nat.le_of_ble_eq_true rfl) (Nat.le_of_ble_eq_true rfl) ?_
  have hz131 := fb_zs hz127
  refine fb_putfR (pc := 176) (C := "") dX9_init_176 lfX9_74 lz_9_31 rfl rfl (by decide) rfl (by decide) rfl rfl ?_
  have hz133 := fb_zw (k := 31) (x := 126) hz131 (show 104 < 127 from (by decide))
  refine fb_aload_n (pc := 179) dX9_init_179 0 rfl ?_
  refine fb_bipush (pc := 180) (v := 8) dX9_init_180 (by decide) ?_
  refine fb_newA (pc := 182) (t := 0) (N := 8) dX9_init_182 (by decide) rfl (fun _ _ h => h) wa0 (by decide) rfl (fb_z0 hz133 (by decide)) (by decide) (by decide) (Nat.le_of_ble_eq_true rfl) (Nat.le_of_ble_eq_true rfl) ?_
  have hz137 := fb_zs hz133
  refine fb_putfR (pc := 184) (C := "") dX9_init_184 lfX9_77 lz_9_32 rfl rfl (by decide) rfl (by decide) rfl rfl ?_
  have hz139 := fb_zw (k := 32) (x := 127) hz137 (show 104 < 128 from (by decide))
  refine fb_aload_n (pc := 187) dX9_init_187 0 rfl ?_
  refine fb_bipush (pc := 188) (v := 8) dX9_init_188 (by decide) ?_
  refine fb_newA (pc := 190) (t := 2) (N := 8) dX9_init_190 (by decide) rfl (fun _ _ h => h) wa2 (by decide) rfl (fb_z0 hz139 (by decide)) (by decide) (by decide) (Nat.le_of_ble_eq_true rfl) (Nat.le_of_ble_eq_true rfl) ?_
  have hz143 := fb_zs hz139
  refine fb_putfR (pc := 192) (C := "") dX9_init_192 lfX9_80 lz_9_33 rfl rfl (by decide) rfl (by decide) rfl rfl ?_
  have hz145 := fb_zw (k := 33) (x := 128) hz143 (show 104 < 129 from (by decide))
  refine fb_aload_n (pc := 195) dX9_init_195 0 rfl ?_
  refine fb_bipush (pc := 196) (v := 12) dX9_init_196 (by decide) ?_
  refine fb_newA (pc := 198) (t := 0) (N := 12) dX9_init_198 (by decide) rfl (fun _ _ h => h) wa0 (by decide) rfl (fb_z0 hz145 (by decide)) (by decide) (by decide) (Nat.le_of_ble_eq_true rfl) (Nat.le_of_ble_eq_true rfl) ?_
  have hz149 := fb_zs hz145
  refine fb_putfR (pc := 200) (C := "") dX9_init_200 lfX9_83 lz_9_34 rfl rfl (by decide) rfl (by decide) rfl rfl ?_
  have hz151 := fb_zw (k := 34) (x := 129) hz149 (show 104 < 130 from (by decide))
  refine fb_aload_n (pc := 203) dX9_init_203 0 rfl ?_
  refine fb_bipush (pc := 204) (v := 10) dX9_init_204 (by decide) ?_
  refine fb_newA (pc := 206) (t := 0) (N := 10) dX9_init_206 (by decide) rfl (fun _ _ h => h) wa0 (by decide) rfl (fb_z0 hz151 (by decide)) (by decide) (by decide) (Nat.le_of_ble_eq_true rfl) (Nat.le_of_ble_eq_true rfl) ?_
  have hz155 := fb_zs hz151
  refine fb_putfR (pc := 208) (C := "") dX9_init_208 lfX9_86 lz_9_36 rfl rfl (by decide) rfl (by decide) rfl rfl ?_
  have hz157 := fb_zw (k := 36) (x := 130) hz155 (show 104 < 131 from (by decide))
  refine fb_aload_n (pc := 211) dX9_init_211 0 rfl ?_
  refine fb_bipush (pc := 212) (v := 10) dX9_init_212 (by decide) ?_
  refine fb_newA (pc := 214) (t := 2) (N := 10) dX9_init_214 (by decide) rfl (fun _ _ h => h) wa2 (by decide) rfl (fb_z0 hz157 (by decide)) (by decide) (by decide) (Nat.le_of_ble_eq_true rfl) (Nat.le_of_ble_eq_true rfl) ?_
  have hz161 := fb_zs hz157
  refine fb_putfR (pc := 216) (C := "") dX9_init_216 lfX9_89 lz_9_38 rfl rfl (by decide) rfl (by decide) rfl rfl ?_
  have hz163 := fb_zw (k := 38) (x := 131) hz161 (show 104 < 132 from (by decide))
  refine fb_aload_n (pc := 219) dX9_init_219 0 rfl ?_
  refine fb_bipush (pc := 220) (v := 10) dX9_init_220 (by decide) ?_
  refine fb_newA (pc := 222) (t := 2) (N := 10) dX9_init_222 (by decide) rfl (fun _ _ h => h) wa2 (by decide) rfl (fb_z0 hz163 (by decide)) (by decide) (by decide) (Nat.le_of_ble_eq_true rfl) (Nat.le_of_ble_eq_true rfl) ?_
  have hz167 := fb_zs hz163
  refine fb_putfR (pc := 224) (C := "") dX9_init_224 lfX9_92 lz_9_39 rfl rfl (by decide) rfl (by decide) rfl rfl ?_
  have hz169 := fb_zw (k := 39) (x := 132) hz167 (show 104 < 133 from (by decide))
  exact fb_vretM (pc := 227) rfl dX9_init_227

set_option maxRecDepth 100000 in
set_option maxHeartbeats 4000000 in
theorem uX9_init_z {u : fb_M} (hz : fb_zero u 105) : fb_zero (uX9_init u) 133 := by
  have hz5 := fb_zs hz
  have hz7 := fb_zw (k := 0) (x := 105) hz5 (show 104 < 106 from (by decide))
  have hz11 := fb_zs hz7
  have hz13 := fb_zw (k := 2) (x := 106) hz11 (show 104 < 107 from (by decide))
  have hz17 := fb_zs hz13
  have hz19 := fb_zw (k := 3) (x := 107) hz17 (show 104 < 108 from (by decide))
  have hz23 := fb_zs hz19
  have hz25 := fb_zw (k := 6) (x := 108) hz23 (show 104 < 109 from (by decide))
  have hz29 := fb_zs hz25
  have hz31 := fb_zw (k := 7) (x := 109) hz29 (show 104 < 110 from (by decide))
  have hz35 := fb_zs hz31
  have hz37 := fb_zw (k := 8) (x := 110) hz35 (show 104 < 111 from (by decide))
  have hz41 := fb_zs hz37
  have hz43 := fb_zw (k := 9) (x := 111) hz41 (show 104 < 112 from (by decide))
  have hz47 := fb_zs hz43
  have hz49 := fb_zw (k := 10) (x := 112) hz47 (show 104 < 113 from (by decide))
  have hz53 := fb_zs hz49
  have hz55 := fb_zw (k := 11) (x := 113) hz53 (show 104 < 114 from (by decide))
  have hz59 := fb_zs hz55
  have hz61 := fb_zw (k := 12) (x := 114) hz59 (show 104 < 115 from (by decide))
  have hz65 := fb_zs hz61
  have hz67 := fb_zw (k := 13) (x := 115) hz65 (show 104 < 116 from (by decide))
  have hz71 := fb_zs hz67
  have hz73 := fb_zw (k := 14) (x := 116) hz71 (show 104 < 117 from (by decide))
  have hz77 := fb_zs hz73
  have hz79 := fb_zw (k := 15) (x := 117) hz77 (show 104 < 118 from (by decide))
  have hz83 := fb_zs hz79
  have hz85 := fb_zw (k := 16) (x := 118) hz83 (show 104 < 119 from (by decide))
  have hz89 := fb_zs hz85
  have hz91 := fb_zw (k := 22) (x := 119) hz89 (show 104 < 120 from (by decide))
  have hz95 := fb_zs hz91
  have hz97 := fb_zw (k := 23) (x := 120) hz95 (show 104 < 121 from (by decide))
  have hz101 := fb_zs hz97
  have hz103 := fb_zw (k := 24) (x := 121) hz101 (show 104 < 122 from (by decide))
  have hz107 := fb_zs hz103
  have hz109 := fb_zw (k := 25) (x := 122) hz107 (show 104 < 123 from (by decide))
  have hz113 := fb_zs hz109
  have hz115 := fb_zw (k := 26) (x := 123) hz113 (show 104 < 124 from (by decide))
  have hz119 := fb_zs hz115
  have hz121 := fb_zw (k := 29) (x := 124) hz119 (show 104 < 125 from (by decide))
  have hz125 := fb_zs hz121
  have hz127 := fb_zw (k := 30) (x := 125) hz125 (show 104 < 126 from (by decide))
  have hz131 := fb_zs hz127
  have hz133 := fb_zw (k := 31) (x := 126) hz131 (show 104 < 127 from (by decide))
  have hz137 := fb_zs hz133
  have hz139 := fb_zw (k := 32) (x := 127) hz137 (show 104 < 128 from (by decide))
  have hz143 := fb_zs hz139
  have hz145 := fb_zw (k := 33) (x := 128) hz143 (show 104 < 129 from (by decide))
  have hz149 := fb_zs hz145
  have hz151 := fb_zw (k := 34) (x := 129) hz149 (show 104 < 130 from (by decide))
  have hz155 := fb_zs hz151
  have hz157 := fb_zw (k := 36) (x := 130) hz155 (show 104 < 131 from (by decide))
  have hz161 := fb_zs hz157
  have hz163 := fb_zw (k := 38) (x := 131) hz161 (show 104 < 132 from (by decide))
  have hz167 := fb_zs hz163
  have hz169 := fb_zw (k := 39) (x := 132) hz167 (show 104 < 133 from (by decide))
  exact hz169

section FBA
variable {g : fb_G} {own : String} {cc : ByteArray} {nL : Nat} {ret : Option FieldType} {nm : String} {R : Room} {Qf : fb_QT} {k ks n : Nat} {u : fb_M} {pc : Nat} {lv : List (Nat × Value)} {st : List Value}
theorem fb_Hp_push {s : State} {H H1 : Heap} {locs : List Loc} (hH : fb_Hp g n u s H locs) (hlt : n < fb_NT) (hat : va_at (fb_D g) vwCl (fb_b g + n, fb_cell g u n) H1) (hz : H1.size = fb_b g + n + 1) (o1 : ∀ q : Nat, q < fb_b g + n → H1[q]? = H[q]?) : fb_Hp g (n + 1) u s H1 locs := by
  have hs := hH.2.2 hlt
  refine ⟨?_, ⟨Nat.le_trans hH.2.1.1 (by omega), fun q h1 h2 => (o1 q (by have := hH.2.1.1; omega)).trans (hH.2.1.2.1 q h1 h2), hH.2.1.2.2⟩, fun _ => by omega⟩
  rw [← fb_cs_push g n u rfl]
  refine (hH.1.kept (fun i x hx => o1 x.1 (by have := (hH.1 i x hx).lt; omega))).app (fun i x hx => ?_)
  have hi : i < 1 := (List.getElem?_eq_some_iff.mp hx).1
  rw [show i = 0 by omega] at hx
  cases hx
  exact hat
theorem fb_newO {idx ci N : Nat} {C : String} {T : u_T} (ty0 : Nat → FieldType) (hd : decode cc pc = .ok (.new idx, 3)) (hcl : vwCl[ci]? = some (C, T, N)) (hc : ci < 100) (h4 : ∀ w ∈ u_ws C T N, w ∈ fb_W) (g2 : ∀ k, k < N → parseFieldDescriptor (T k).2.2.1 = some (ty0 k)) (w1 : Cond.classLink own idx C ∈ fb_W) (w2 : Cond.instantiable C N ∈ fb_W) (w3 : Cond.initialized C ∈ fb_W) (hlt : n < fb_NT) (hsh : fb_sh n = (ci, N)) (hz : ∀ j, j < N → defaultValue (ty0 j) = fb_fv g u n ci j) (hcells : k + 1 ≤ R.cells) (hslots : ks + N ≤ R.slots)
    (kk : fb_V g own cc nL ret nm R Qf (k + 1) (ks + N) (n + 1) u (pc + 3) lv (.ref (fb_b g + n) :: st)) : fb_V g own cc nL ret nm R Qf k ks n u pc lv st := by
  intro p l e s m args below meth c H locs ls hC hH hl
  have hts := hC.2.2.2.2.2.1
  have hKn := hC.2.2.2.2.2.2.2.2.1.1 ci _ hcl
  refine W.newcK hC.1 hC.2.1 hC.2.2.2.2.2.2.1 (hts _ w1) (hts _ w2) (hts _ w3) rfl hd hcells hslots hKn.2.1 (hH.2.2 hlt) fun H1 kC hkC e1 z1 o1 => ?_
  refine kk p l e s m args below meth c H1 locs ls hC (fb_Hp_push hH hlt ?_ z1 o1) hl
  rw [fb_cell_o g u hsh hc]
  refine ⟨_, hcl, (u_born ty0 hts h4 hKn hkC e1 g2).to (fun j hj => ?_)⟩
  have hj : j < N := hj
  rw [hz j hj]
  simp [vp_V, hj]
theorem fb_newA {t N : Nat} {atype : ArrayType} {z : Int32} (hd : decode cc pc = .ok (.newarray atype, 2)) (ht : t < fb_nT) (hty : fb_ty t = newarray.typeOf atype) (hrf : ∀ (U : State) (cA : ClassId), va_RA U cA (newarray.typeOf atype) → U.vm.findClass ("[" ++ (newarray.typeOf atype).toString) = some cA) (w1 : Cond.arrayClass (newarray.typeOf atype) ∈ fb_W) (hlt : n < fb_NT) (hsh : fb_sh n = (100 + t, N)) (hz : ∀ cA : ClassId, arrV cA N (fun _ => defaultValue (newarray.typeOf atype)) = vp_cell cA (N, fb_cont g u n t)) (hN : ¬ z < 0 ∧ z.toNatClampNeg = N) (hby : N * componentBytes (newarray.typeOf atype) ≤ 536870912) (hcells : k + 1 ≤ R.cells) (hslots : ks + N ≤ R.slots)
    (kk : fb_V g own cc nL ret nm R Qf (k + 1) (ks + N) (n + 1) u (pc + 2) lv (.ref (fb_b g + n) :: st)) : fb_V g own cc nL ret nm R Qf k ks n u pc lv (.int z :: st) := by
  intro p l e s m args below meth c H locs ls hC hH hl
  have hts := hC.2.2.2.2.2.1
  refine va_newaK hC.1 hC.2.1 (hts _ w1) rfl hd rfl hN.1 hN.2 hby hcells hslots (hH.2.2 hlt) fun H1 cA e1 z1 o1 hAr hNm => ?_
  have hq := (hC.2.2.2.2.2.2.2.2.1.2 t _ (fb_tys_at g ht)).2
  have hq2 : va_RA s (fb_tA g t) (newarray.typeOf atype) := by rw [← hty]; exact hq
  have hcA : cA = fb_tA g t := Option.some.inj (hNm.symm.trans (hrf s _ hq2))
  subst hcA
  refine kk p l e s m args below meth c H1 locs ls hC (fb_Hp_push hH hlt ?_ z1 o1) hl
  have e0 : fb_cell g u n = .inl (fb_tA g t, N, fb_cont g u n t) := by
    have e : ¬ 100 + t < 100 := by omega
    simp [fb_cell, hsh, e]
  rw [e0]
  show H1[fb_b g + n]? = some (vp_cell _ _)
  rw [e1, hz]
theorem fb_newQ {t N idx : Nat} {C : String} {z : Int32} (hd : decode cc pc = .ok (.anewarray idx, 3)) (ht : 3 < t ∧ t < fb_nT ∧ fb_ty t = .object C) (hao : C ∈ fb_AOs) (w1 : Cond.classLink own idx C ∈ fb_W) (hlt : n < fb_NT) (hsh : fb_sh n = (100 + t, N)) (hz : ∀ j, fb_R u n j = none) (hN : ¬ z < 0 ∧ z.toNatClampNeg = N) (hby : N * 4 ≤ 536870912) (hcells : k + 1 ≤ R.cells) (hslots : ks + N ≤ R.slots)
    (kk : fb_V g own cc nL ret nm R Qf (k + 1) (ks + N) (n + 1) u (pc + 3) lv (.ref (fb_b g + n) :: st)) : fb_V g own cc nL ret nm R Qf k ks n u pc lv (.int z :: st) := by
  intro p l e s m args below meth c H locs ls hC hH hl
  have hts := hC.2.2.2.2.2.1
  obtain ⟨hN1, rfl⟩ := hN
  refine W.anew hC.1 hC.2.1 hC.2.2.2.2.2.2.1 (hts _ w1) (va_AO.use (hC.2.2.2.2.2.2.2.2.2.2.2.2.2.2.2.2.1 C hao)) rfl hd rfl hN1 hby hcells hslots fun cA kA comp f1 f2 f3 f4 => ?_
  have hq := (hC.2.2.2.2.2.2.2.2.1.2 t _ (fb_tys_at g ht.2.1)).2
  have hq2 : va_RA s (fb_tA g t) (.object C) := by rw [← ht.2.2]; exact hq
  obtain ⟨kA', comp', -, -, -, hnm⟩ := hq2
  have hcA : cA = fb_tA g t := Option.some.inj (f1.symm.trans hnm)
  subst hcA
  have hs := hH.2.2 hlt
  generalize hH1 : H.push ({ cls := fb_tA g t, slots := Array.replicate z.toNatClampNeg .null, vm := .none } : Cell) = H1
  have z1 : H1.size = fb_b g + n + 1 := by rw [← hH1, Array.size_push, hs]
  have e1 : H1[fb_b g + n]? = some (arrV (fb_tA g t) z.toNatClampNeg (fun _ => .null)) := by rw [← hH1, ← hs, Array.getElem?_push_size, ← arrV_new]
  have o1 : ∀ q : Nat, q < fb_b g + n → H1[q]? = H[q]? := fun q hq => by rw [← hH1, Array.getElem?_push, if_neg (by omega)]
  have hV := kk p l e s m args below meth c H1 locs ls hC (fb_Hp_push hH hlt ?_ z1 o1) hl
  · rw [← hs] at hV
    exact hV
  · rw [fb_cell_q g u hsh ht.1]
    show H1[fb_b g + n]? = some (vp_cell _ _)
    rw [e1, vp_cell_q]
    simp [hz, fb_rv, va_rf]
end FBA

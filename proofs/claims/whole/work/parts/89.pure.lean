/-! the start keeps the relation -/
theorem fb_Inv1 : fb_Inv fb_u1 := by
  refine ⟨fb_St0, ⟨0, by omega, by decide +kernel, by decide +kernel, fun i hi => absurd hi (by omega)⟩, ⟨0, by omega, by decide +kernel, by decide +kernel, fun i hi => absurd hi (by omega)⟩, ⟨0, by omega, by decide +kernel, by decide +kernel, fun i hi => absurd hi (by omega)⟩, ⟨0, fun i => i, by omega, by decide +kernel, by decide +kernel, ?_, fun i j _ _ h => h, fun i hi => absurd hi (by omega), fun i j hi => absurd hi (by omega)⟩, ?_, ⟨0, by omega, by decide +kernel, by decide +kernel, fun i hi => absurd hi (by omega)⟩, ⟨0, by omega, by decide +kernel, by decide +kernel, fun i hi => absurd hi (by omega)⟩⟩
  · have h : ∀ i, i < 10 → fb_R fb_u1 78 i = some (79 + 2 * i) := by decide +kernel
    exact fun i hi => ⟨hi, h i hi⟩
  · have h : ∀ l, l < 8 → fb_I fb_u1 128 l = 0 ∧ fb_L fb_u1 99 l = 3000000000 := by decide +kernel
    exact fun l hl => Or.inr (h l hl)
/-! the law's loop -/
theorem fb_lgs (r : Int64) : lg_cmp r r = 0 := by
  unfold lg_cmp
  rw [if_neg (Int64.lt_irrefl (a := r)), if_pos rfl]
theorem fb_end {L i : Nat} (hL : L ≤ 1536) (hi : i ≤ 1536) : (Int32.ofNat L - 3 < nI i) ↔ L < i + 3 := by
  by_cases h : 3 ≤ L
  · rw [show Int32.ofNat L - 3 = nI (L - 3) from nI_sub (a := L) (b := 3) h]
    rw [nI_ltI (by omega) (by omega)]
    omega
  · refine ⟨fun _ => by omega, fun _ => ?_⟩
    have h0 : Int32.ofNat L - 3 < 0 := by
      have : L = 0 ∨ L = 1 ∨ L = 2 := by omega
      rcases this with rfl | rfl | rfl <;> decide
    exact Int32.lt_of_lt_of_le h0 (nI_pos' (by omega))
theorem fb_loop {L : Nat} (xs : Nat → Int32) (hL : L ≤ 1536) : ∀ m i fu u, L ≤ i + 3 * m → m < fu → i ≤ 1536 → fb_Inv u → gXL_law_18 L xs 0 104 fu (nI i) u = some 1 := by
  intro m
  induction m with
  | zero =>
    intro i fu u hm hf hi hv
    obtain ⟨fu, rfl⟩ : ∃ k, fu = k + 1 := ⟨fu - 1, by omega⟩
    show bXL_law_18 L xs _ 0 104 (nI i) u = some 1
    unfold bXL_law_18
    rw [if_pos ((fb_end hL hi).mpr (by omega))]
  | succ m ih =>
    intro i fu u hm hf hi hv
    obtain ⟨fu, rfl⟩ : ∃ k, fu = k + 1 := ⟨fu - 1, by omega⟩
    show bXL_law_18 L xs _ 0 104 (nI i) u = some 1
    unfold bXL_law_18
    by_cases hend : L < i + 3
    · rw [if_pos ((fb_end hL hi).mpr hend)]
    have hK : ∀ u', fb_Inv u' → gXL_law_18 L xs 0 104 fu (nI i + 3) u' = some 1 := fun u' h => by
      rw [show nI i + 3 = nI (i + 3) from nI_add i 3]
      exact ih (i + 3) fu u' (by omega) (by omega) (by omega) h
    have G1 : ∀ (x : Option Int32), fb_gd (¬ (nI (i + 1) < 0 ∨ L ≤ (nI (i + 1)).toNatClampNeg)) x = x := fun x => fb_gix (show i + 1 < L by omega) (by omega)
    have G2 : ∀ (x : Option Int32), fb_gd (¬ (nI (i + 2) < 0 ∨ L ≤ (nI (i + 2)).toNatClampNeg)) x = x := fun x => fb_gix (show i + 2 < L by omega) (by omega)
    have hdef : ∀ y : Int32, jXL_law_192 L xs (gXL_law_18 L xs 0 104 fu) 0 104 (nI i) 0 y u = (fX8_define u 0 y).bind fun r192 => if xs (nI (i + 1)).toNatClampNeg = 0 then (fX9_define r192.2 104 0).bind fun r209 => (if r192.1 = r209.1 then gXL_law_18 L xs 0 104 fu (nI i + 3) r209.2 else some 0) else (fX9_define r192.2 104 1).bind fun r209 => (if r192.1 = r209.1 then gXL_law_18 L xs 0 104 fu (nI i + 3) r209.2 else some 0) := fun y => by
      unfold jXL_law_192 jXL_law_209
      simp only [nI_1, G1]
    rw [if_neg (fun z => hend ((fb_end hL hi).mp z)), fb_gix (show i < L by omega) (by omega)]
    simp only [nI_1, show nI i + 2 = nI (i + 2) from nI_add i 2, G1, G2]
    generalize xs (nI i).toNatClampNeg &&& 31 = k
    generalize xs (nI (i + 1)).toNatClampNeg = a at hdef ⊢
    generalize xs (nI (i + 2)).toNatClampNeg = b
    by_cases k0 : k = 0
    · obtain ⟨r, u1, u2, e1, e2, hI⟩ := op_type hv (a.toUInt32 % 65536).toInt32
      rw [if_pos k0, e1, Option.bind_some]
      dsimp only
      rw [e2, Option.bind_some]
      dsimp only
      rw [if_pos rfl]
      exact hK u2 hI
    rw [if_neg k0]
    by_cases k1 : k = 1
    · obtain ⟨u1, u2, e1, e2, hI⟩ := op_scrap hv
      rw [if_pos k1, e1, Option.bind_some, e2, Option.bind_some]
      exact hK u2 hI
    rw [if_neg k1]
    by_cases k2 : k = 2
    · obtain ⟨r, u1, u2, e1, e2, hI⟩ := op_declare hv
      rw [if_pos k2, e1, Option.bind_some]
      dsimp only
      rw [e2, Option.bind_some]
      dsimp only
      rw [if_pos rfl]
      exact hK u2 hI
    rw [if_neg k2]
    by_cases k3 : k = 3
    · obtain ⟨r, e1, e2⟩ := op_names hv
      rw [if_pos k3, e1, Option.bind_some, e2, Option.bind_some, if_pos rfl]
      exact hK u hv
    rw [if_neg k3]
    by_cases k4 : k = 4
    · rw [if_pos k4]
      by_cases a0 : a = 0
      · obtain ⟨r, u1, u2, e1, e2, hI⟩ := op_define hv (x := 0) (Or.inl rfl)
        rw [if_pos a0, hdef, e1, Option.bind_some]
        dsimp only
        rw [if_pos a0, e2, Option.bind_some]
        dsimp only
        rw [if_pos rfl]
        exact hK u2 hI
      · obtain ⟨r, u1, u2, e1, e2, hI⟩ := op_define hv (x := 1) (Or.inr rfl)
        rw [if_neg a0, hdef, e1, Option.bind_some]
        dsimp only
        rw [if_neg a0, e2, Option.bind_some]
        dsimp only
        rw [if_pos rfl]
        exact hK u2 hI
    rw [if_neg k4]
    by_cases k5 : k = 5
    · obtain ⟨r, e1, e2⟩ := op_shape hv a b
      rw [if_pos k5, e1, Option.bind_some, e2, Option.bind_some, if_pos rfl]
      exact hK u hv
    rw [if_neg k5]
    by_cases k6 : k = 6
    · obtain ⟨r, e1, e2⟩ := op_part hv a b
      rw [if_pos k6, e1, Option.bind_some, e2, Option.bind_some, if_pos rfl]
      exact hK u hv
    rw [if_neg k6]
    by_cases k7 : k = 7
    · obtain ⟨r, u1, u2, e1, e2, hI⟩ := op_fill hv a b
      rw [if_pos k7, e1, Option.bind_some]
      dsimp only
      rw [e2, Option.bind_some]
      dsimp only
      rw [if_pos rfl]
      exact hK u2 hI
    rw [if_neg k7]
    by_cases k8 : k = 8
    · obtain ⟨r, u1, u2, e1, e2, hI⟩ := op_blank hv a
      rw [if_pos k8, e1, Option.bind_some]
      dsimp only
      rw [e2, Option.bind_some]
      dsimp only
      rw [if_pos rfl]
      exact hK u2 hI
    rw [if_neg k8]
    by_cases k9 : k = 9
    · obtain ⟨r, u1, u2, e1, e2, hI⟩ := op_save hv a
      rw [if_pos k9, e1, Option.bind_some]
      dsimp only
      rw [e2, Option.bind_some]
      dsimp only
      rw [if_pos rfl]
      exact hK u2 hI
    rw [if_neg k9]
    by_cases k10 : k = 10
    · obtain ⟨r, u1, u2, e1, e2, hI⟩ := op_remove hv a
      rw [if_pos k10, e1, Option.bind_some]
      dsimp only
      rw [e2, Option.bind_some]
      dsimp only
      rw [if_pos rfl]
      exact hK u2 hI
    rw [if_neg k10]
    by_cases k11 : k = 11
    · obtain ⟨r, u1, u2, e1, e2, hI⟩ := op_arg hv a
      rw [if_pos k11, e1, Option.bind_some]
      dsimp only
      rw [e2, Option.bind_some]
      dsimp only
      rw [if_pos rfl]
      exact hK u2 hI
    rw [if_neg k11]
    by_cases k12 : k = 12
    · obtain ⟨r, u1, u2, e1, e2, hI⟩ := op_run hv a
      rw [if_pos k12, e1, Option.bind_some]
      dsimp only
      rw [e2, Option.bind_some]
      dsimp only
      rw [if_pos rfl]
      exact hK u2 hI
    rw [if_neg k12]
    by_cases k13 : k = 13
    · obtain ⟨r, e1, e2⟩ := op_results hv
      rw [if_pos k13, e1, Option.bind_some, e2, Option.bind_some, if_pos rfl]
      exact hK u hv
    rw [if_neg k13]
    by_cases k14 : k = 14
    · obtain ⟨r, e1, e2⟩ := op_result hv a
      rw [if_pos k14, e1, Option.bind_some, e2, Option.bind_some, if_pos rfl]
      exact hK u hv
    rw [if_neg k14]
    by_cases k15 : k = 15
    · obtain ⟨r, e1, e2⟩ := op_value hv a b
      rw [if_pos k15, e1, Option.bind_some, e2, Option.bind_some, if_pos (fb_lgs r)]
      exact hK u hv
    rw [if_neg k15]
    by_cases k16 : k = 16
    · obtain ⟨r, e1, e2⟩ := op_size hv
      rw [if_pos k16, e1, Option.bind_some, e2, Option.bind_some, if_pos rfl]
      exact hK u hv
    rw [if_neg k16]
    exact hK u hv
theorem fb_pure : ∀ (L : Nat) (xs : Nat → Int32), L ≤ 1536 → fXL_law L xs fb_u1 = some 1 := fun L xs hL => fb_loop xs hL 512 0 fb_F fb_u1 (by omega) (by unfold fb_F; omega) (by omega) fb_Inv1

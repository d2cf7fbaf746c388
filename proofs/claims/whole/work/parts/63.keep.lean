/-! define: the reference keeps what it has read -/
def fb_DK (F a k : Nat) : Prop := (108 ≤ a ∧ a ≤ 113 ∧ k = F) ∨ (114 ≤ a ∧ a ≤ 116 ∧ 6 * F ≤ k ∧ k < 6 * F + 6) ∨ (117 ≤ a ∧ a ≤ 118 ∧ 3 * F ≤ k ∧ k < 3 * F + 3)
theorem eKeep156 {b : fb_M} (hS : fb_St b) {F no : Nat} (hF : F < 8) (hno : no ≤ 3) (h5 : fb_I b 104 5 = nI F) (h19 : fb_I b 104 19 = nI no) (dn : Nat → Nat) (hdn : ∀ k, k < no → dn k < 2 ∧ fb_I b 123 k = nI (dn k)) :
    ∀ m k fu v, k + m = no → m < fu → fb_df b v (fb_DK F) → (∀ j, j < k → fb_I v 117 (3 * F + j) = fb_I b 122 j ∧ fb_I v 118 (3 * F + j) = fb_I b 123 j) →
    ∃ v', gX9_keepFinder_156 104 fu (nI k) v = some v' ∧ fb_df b v' (fb_DK F) ∧ (∀ j, j < no → fb_I v' 117 (3 * F + j) = fb_I b 122 j ∧ fb_I v' 118 (3 * F + j) = fb_I b 123 j) ∧ (∀ a j, ¬ (a = 117 ∨ a = 118) → fb_I v' a j = fb_I v a j) := by
  intro m
  induction m with
  | zero =>
    intro k fu v hk hf hd hj
    obtain ⟨fu, rfl⟩ : ∃ k, fu = k + 1 := ⟨fu - 1, by omega⟩
    have w19 : fb_I v 104 19 = nI no := by rw [hd.2.2 104 19 (by unfold fb_DK; omega), h19]
    refine ⟨v, ?_, hd, fun j hj2 => hj j (by omega), fun _ _ _ => rfl⟩
    show bX9_keepFinder_156 _ 104 (nI k) v = _
    unfold bX9_keepFinder_156
    rw [w19, if_pos (nI_le (by omega) (by omega))]
  | succ m ih =>
    intro k fu v hk hf hd hj
    obtain ⟨fu, rfl⟩ : ∃ k, fu = k + 1 := ⟨fu - 1, by omega⟩
    have hV := hd.St hS
    have w19 : fb_I v 104 19 = nI no := by rw [hd.2.2 104 19 (by unfold fb_DK; omega), h19]
    have w5 : fb_I v 104 5 = nI F := by rw [hd.2.2 104 5 (by unfold fb_DK; omega), h5]
    have x5 : fb_I (fb_wI v 117 (3 * F + k) (fb_I v 122 k)) 104 5 = nI F := by rw [fb_IwI_ne _ _ (by omega), w5]
    have x123 : fb_I (fb_wI v 117 (3 * F + k) (fb_I v 122 k)) 123 k = nI (dn k) := by rw [fb_IwI_ne _ _ (by omega), hd.2.2 123 k (by unfold fb_DK; omega), (hdn k (by omega)).2]
    have e : gX9_keepFinder_156 104 (fu + 1) (nI k) v = bX9_keepFinder_156 (gX9_keepFinder_156 104 fu) 104 (nI k) v := rfl
    rw [e]
    unfold bX9_keepFinder_156
    rw [w19, if_neg (nI_ge (by omega) (by omega)), hV.ld_104_15, hV.ld_104_25, fb_n122, fb_gix (show k < 3 by omega) (by omega), w5, fb_3, fb_n117, fb_gix (show 3 * F + k < 24 by omega) (by omega), nI_clamp (n := 3 * F + k) (by omega), nI_clamp (n := k) (by omega), (hV.wI _ _ _).ld_104_16, (hV.wI _ _ _).ld_104_26, fb_n123, fb_gix2 (show k < 3 by omega) (by omega), x5, fb_3, fb_n118, fb_gix (show 3 * F + k < 24 by omega) (by omega), nI_clamp (n := 3 * F + k) (by omega), x123, fb_bool (dn k) (hdn k (by omega)).1, nI_1]
    obtain ⟨v', a1, a2, a3, a4⟩ := ih (k + 1) fu (fb_wI (fb_wI v 117 (3 * F + k) (fb_I v 122 k)) 118 (3 * F + k) (nI (dn k))) (by omega) (by omega) ((hd.wI (by unfold fb_DK; omega)).wI (by unfold fb_DK; omega)) (fun j hj2 => by
      by_cases hjk : j = k
      · subst hjk
        rw [fb_IwI_eq, fb_IwI_ne _ _ (by omega), fb_IwI_eq]
        exact ⟨hd.2.2 122 j (by unfold fb_DK; omega), (hdn j (by omega)).2.symm⟩
      · rw [fb_IwI_ne _ _ (by omega), fb_IwI_ne _ _ (by omega), fb_IwI_ne _ _ (by omega), fb_IwI_ne _ _ (by omega)]
        exact hj j (by omega))
    exact ⟨v', a1, a2, a3, fun a j hh => by rw [a4 a j hh, fb_IwI_ne _ _ (by omega), fb_IwI_ne _ _ (by omega)]⟩
theorem eKeep72 {b : fb_M} (hS : fb_St b) {F np no : Nat} (hF : F < 8) (hnp : np ≤ 6) (hno : no ≤ 3) (h5 : fb_I b 104 5 = nI F) (h18 : fb_I b 104 18 = nI np) (h19 : fb_I b 104 19 = nI no) (dn : Nat → Nat) (hdn : ∀ k, k < no → dn k < 2 ∧ fb_I b 123 k = nI (dn k)) :
    ∀ m k fu v, k + m = np → m < fu → fb_df b v (fb_DK F) → (∀ j, j < k → fb_I v 114 (6 * F + j) = fb_I b 119 j ∧ fb_I v 115 (6 * F + j) = fb_I b 120 j ∧ fb_I v 116 (6 * F + j) = fb_I b 121 j) →
    ∃ v', gX9_keepFinder_72 104 fu (nI k) v = some v' ∧ fb_df b v' (fb_DK F) ∧ (∀ j, j < np → fb_I v' 114 (6 * F + j) = fb_I b 119 j ∧ fb_I v' 115 (6 * F + j) = fb_I b 120 j ∧ fb_I v' 116 (6 * F + j) = fb_I b 121 j) ∧ (∀ j, j < no → fb_I v' 117 (3 * F + j) = fb_I b 122 j ∧ fb_I v' 118 (3 * F + j) = fb_I b 123 j) ∧ (∀ a j, ¬ (114 ≤ a ∧ a ≤ 118) → fb_I v' a j = fb_I v a j) := by
  intro m
  induction m with
  | zero =>
    intro k fu v hk hf hd hj
    obtain ⟨fu, rfl⟩ : ∃ k, fu = k + 1 := ⟨fu - 1, by omega⟩
    have w18 : fb_I v 104 18 = nI np := by rw [hd.2.2 104 18 (by unfold fb_DK; omega), h18]
    obtain ⟨v', a1, a2, a3, a4⟩ := eKeep156 hS hF hno h5 h19 dn hdn no 0 fb_F v (by omega) (by unfold fb_F; omega) hd (fun j hj => by omega)
    refine ⟨v', ?_, a2, fun j hj2 => ?_, a3, fun a j hh => a4 a j (by omega)⟩
    · show bX9_keepFinder_72 _ 104 (nI k) v = _
      unfold bX9_keepFinder_72
      rw [w18, if_pos (nI_le (by omega) (by omega))]
      exact a1
    · rw [a4 114 _ (by omega), a4 115 _ (by omega), a4 116 _ (by omega)]
      exact hj j (by omega)
  | succ m ih =>
    intro k fu v hk hf hd hj
    obtain ⟨fu, rfl⟩ : ∃ k, fu = k + 1 := ⟨fu - 1, by omega⟩
    have hV := hd.St hS
    have w18 : fb_I v 104 18 = nI np := by rw [hd.2.2 104 18 (by unfold fb_DK; omega), h18]
    have w5 : fb_I v 104 5 = nI F := by rw [hd.2.2 104 5 (by unfold fb_DK; omega), h5]
    have x5 : fb_I (fb_wI v 114 (6 * F + k) (fb_I v 119 k)) 104 5 = nI F := by rw [fb_IwI_ne _ _ (by omega), w5]
    have x120 : fb_I (fb_wI v 114 (6 * F + k) (fb_I v 119 k)) 120 k = fb_I v 120 k := fb_IwI_ne _ _ (by omega)
    have y5 : fb_I (fb_wI (fb_wI v 114 (6 * F + k) (fb_I v 119 k)) 115 (6 * F + k) (fb_I v 120 k)) 104 5 = nI F := by rw [fb_IwI_ne _ _ (by omega), x5]
    have y121 : fb_I (fb_wI (fb_wI v 114 (6 * F + k) (fb_I v 119 k)) 115 (6 * F + k) (fb_I v 120 k)) 121 k = fb_I v 121 k := by rw [fb_IwI_ne _ _ (by omega), fb_IwI_ne _ _ (by omega)]
    have e : gX9_keepFinder_72 104 (fu + 1) (nI k) v = bX9_keepFinder_72 (gX9_keepFinder_72 104 fu) 104 (nI k) v := rfl
    rw [e]
    unfold bX9_keepFinder_72
    rw [w18, if_neg (nI_ge (by omega) (by omega)), hV.ld_104_12, hV.ld_104_22, fb_n119, fb_gix (show k < 6 by omega) (by omega), w5, fb_6, fb_n114, fb_gix (show 6 * F + k < 48 by omega) (by omega), nI_clamp (n := 6 * F + k) (by omega), nI_clamp (n := k) (by omega), (hV.wI _ _ _).ld_104_13, (hV.wI _ _ _).ld_104_23, fb_n120, fb_gix2 (show k < 6 by omega) (by omega), x5, fb_6, fb_n115, fb_gix (show 6 * F + k < 48 by omega) (by omega), nI_clamp (n := 6 * F + k) (by omega), x120,
      ((hV.wI _ _ _).wI _ _ _).ld_104_14, ((hV.wI _ _ _).wI _ _ _).ld_104_24, fb_n121, fb_gix2 (show k < 6 by omega) (by omega), y5, fb_6, fb_n116, fb_gix (show 6 * F + k < 48 by omega) (by omega), nI_clamp (n := 6 * F + k) (by omega), y121, nI_1]
    obtain ⟨v', a1, a2, a3, a4, a5⟩ := ih (k + 1) fu (fb_wI (fb_wI (fb_wI v 114 (6 * F + k) (fb_I v 119 k)) 115 (6 * F + k) (fb_I v 120 k)) 116 (6 * F + k) (fb_I v 121 k)) (by omega) (by omega) (((hd.wI (by unfold fb_DK; omega)).wI (by unfold fb_DK; omega)).wI (by unfold fb_DK; omega)) (fun j hj2 => by
      by_cases hjk : j = k
      · subst hjk
        rw [fb_IwI_eq, fb_IwI_ne _ _ (by omega), fb_IwI_ne _ _ (by omega), fb_IwI_eq, fb_IwI_ne _ _ (by omega), fb_IwI_eq]
        exact ⟨hd.2.2 119 j (by unfold fb_DK; omega), hd.2.2 120 j (by unfold fb_DK; omega), hd.2.2 121 j (by unfold fb_DK; omega)⟩
      · rw [fb_IwI_ne _ _ (by omega), fb_IwI_ne _ _ (by omega), fb_IwI_ne _ _ (by omega), fb_IwI_ne _ _ (by omega), fb_IwI_ne _ _ (by omega), fb_IwI_ne _ _ (by omega), fb_IwI_ne _ _ (by omega), fb_IwI_ne _ _ (by omega), fb_IwI_ne _ _ (by omega)]
        exact hj j (by omega))
    exact ⟨v', a1, a2, a3, a4, fun a j hh => by rw [a5 a j hh, fb_IwI_ne _ _ (by omega), fb_IwI_ne _ _ (by omega), fb_IwI_ne _ _ (by omega)]⟩
set_option maxHeartbeats 4000000 in
theorem eKeep {v : fb_M} (hS : fb_St v) {F na np no sg : Nat} (hF : F < 8) (hnp : np ≤ 6) (hno : no ≤ 3) (hsg : sg < 2) (h5 : fb_I v 104 5 = nI F) (h17 : fb_I v 104 17 = nI na) (h18 : fb_I v 104 18 = nI np) (h19 : fb_I v 104 19 = nI no) (dn : Nat → Nat) (hdn : ∀ k, k < no → dn k < 2 ∧ fb_I v 123 k = nI (dn k)) (x1 x2 : Int32) :
    ∃ v', fX9_keepFinder v 104 x1 x2 (nI sg) = some v' ∧ fb_df v v' (fb_DK F) ∧ (fb_I v' 108 F = x1 ∧ fb_I v' 109 F = x2 ∧ fb_I v' 110 F = nI sg ∧ fb_I v' 111 F = nI na ∧ fb_I v' 112 F = nI np ∧ fb_I v' 113 F = nI no) ∧ (∀ j, j < np → fb_I v' 114 (6 * F + j) = fb_I v 119 j ∧ fb_I v' 115 (6 * F + j) = fb_I v 120 j ∧ fb_I v' 116 (6 * F + j) = fb_I v 121 j) ∧ (∀ j, j < no → fb_I v' 117 (3 * F + j) = fb_I v 122 j ∧ fb_I v' 118 (3 * F + j) = fb_I v 123 j) := by
  obtain ⟨s1, q1⟩ : ∃ s, s = fb_wI v 108 F x1 := ⟨_, rfl⟩
  obtain ⟨s2, q2⟩ : ∃ s, s = fb_wI s1 109 F x2 := ⟨_, rfl⟩
  obtain ⟨s3, q3⟩ : ∃ s, s = fb_wI s2 110 F (nI sg) := ⟨_, rfl⟩
  obtain ⟨s4, q4⟩ : ∃ s, s = fb_wI s3 111 F (nI na) := ⟨_, rfl⟩
  obtain ⟨s5, q5⟩ : ∃ s, s = fb_wI s4 112 F (nI np) := ⟨_, rfl⟩
  obtain ⟨s6, q6⟩ : ∃ s, s = fb_wI s5 113 F (nI no) := ⟨_, rfl⟩
  have S1 : fb_St s1 := by rw [q1]; exact hS.wI _ _ _
  have S2 : fb_St s2 := by rw [q2]; exact S1.wI _ _ _
  have S3 : fb_St s3 := by rw [q3]; exact S2.wI _ _ _
  have S4 : fb_St s4 := by rw [q4]; exact S3.wI _ _ _
  have S5 : fb_St s5 := by rw [q5]; exact S4.wI _ _ _
  have S6 : fb_St s6 := by rw [q6]; exact S5.wI _ _ _
  have i1 : ∀ a k, a < 108 ∨ 113 < a → fb_I s1 a k = fb_I v a k := fun a k h => by rw [q1, fb_IwI_ne _ _ (by omega)]
  have i2 : ∀ a k, a < 108 ∨ 113 < a → fb_I s2 a k = fb_I v a k := fun a k h => by rw [q2, fb_IwI_ne _ _ (by omega), i1 a k h]
  have i3 : ∀ a k, a < 108 ∨ 113 < a → fb_I s3 a k = fb_I v a k := fun a k h => by rw [q3, fb_IwI_ne _ _ (by omega), i2 a k h]
  have i4 : ∀ a k, a < 108 ∨ 113 < a → fb_I s4 a k = fb_I v a k := fun a k h => by rw [q4, fb_IwI_ne _ _ (by omega), i3 a k h]
  have i5 : ∀ a k, a < 108 ∨ 113 < a → fb_I s5 a k = fb_I v a k := fun a k h => by rw [q5, fb_IwI_ne _ _ (by omega), i4 a k h]
  have i6 : ∀ a k, a < 108 ∨ 113 < a → fb_I s6 a k = fb_I v a k := fun a k h => by rw [q6, fb_IwI_ne _ _ (by omega), i5 a k h]
  have hd6 : fb_df v s6 (fb_DK F) := by
    rw [q6, q5, q4, q3, q2, q1]
    exact ((((((fb_df.rf v _).wI (by unfold fb_DK; omega)).wI (by unfold fb_DK; omega)).wI (by unfold fb_DK; omega)).wI (by unfold fb_DK; omega)).wI (by unfold fb_DK; omega)).wI (by unfold fb_DK; omega)
  obtain ⟨v', a1, a2, a3, a4, a5⟩ := eKeep72 S6 hF hnp hno (by rw [i6 _ _ (by omega), h5]) (by rw [i6 _ _ (by omega), h18]) (by rw [i6 _ _ (by omega), h19]) dn (fun k hk => ⟨(hdn k hk).1, by rw [i6 _ _ (by omega)]; exact (hdn k hk).2⟩) np 0 fb_F s6 (by omega) (by unfold fb_F; omega) (fb_df.rf _ _) (fun j hj => by omega)
  refine ⟨v', ?_, hd6.tr a2, ⟨?_, ?_, ?_, ?_, ?_, ?_⟩, fun j hj => ?_, fun j hj => ?_⟩
  · unfold fX9_keepFinder
    rw [hS.ld_104_6, fb_n108, h5, fb_gix hF (by omega), nI_clamp (n := F) (by omega), ← q1, S1.ld_104_7, fb_n109, i1 104 5 (by omega), h5, fb_gix hF (by omega), nI_clamp (n := F) (by omega), ← q2, S2.ld_104_8, fb_n110, i2 104 5 (by omega), h5, fb_gix hF (by omega), nI_clamp (n := F) (by omega), fb_bool sg hsg, ← q3, S3.ld_104_9, fb_n111, i3 104 5 (by omega), h5, fb_gix hF (by omega), nI_clamp (n := F) (by omega), i3 104 17 (by omega), h17, ← q4, S4.ld_104_10, fb_n112, i4 104 5 (by omega), h5, fb_gix hF (by omega), nI_clamp (n := F) (by omega), i4 104 18 (by omega), h18, ← q5, S5.ld_104_11, fb_n113, i5 104 5 (by omega), h5, fb_gix hF (by omega), nI_clamp (n := F) (by omega), i5 104 19 (by omega), h19, ← q6]
    exact a1
  · rw [a5 108 F (by omega), q6, fb_IwI_ne _ _ (by omega), q5, fb_IwI_ne _ _ (by omega), q4, fb_IwI_ne _ _ (by omega), q3, fb_IwI_ne _ _ (by omega), q2, fb_IwI_ne _ _ (by omega), q1, fb_IwI_eq]
  · rw [a5 109 F (by omega), q6, fb_IwI_ne _ _ (by omega), q5, fb_IwI_ne _ _ (by omega), q4, fb_IwI_ne _ _ (by omega), q3, fb_IwI_ne _ _ (by omega), q2, fb_IwI_eq]
  · rw [a5 110 F (by omega), q6, fb_IwI_ne _ _ (by omega), q5, fb_IwI_ne _ _ (by omega), q4, fb_IwI_ne _ _ (by omega), q3, fb_IwI_eq]
  · rw [a5 111 F (by omega), q6, fb_IwI_ne _ _ (by omega), q5, fb_IwI_ne _ _ (by omega), q4, fb_IwI_eq]
  · rw [a5 112 F (by omega), q6, fb_IwI_ne _ _ (by omega), q5, fb_IwI_eq]
  · rw [a5 113 F (by omega), q6, fb_IwI_eq]
  · rw [← i6 119 j (by omega), ← i6 120 j (by omega), ← i6 121 j (by omega)]; exact a3 j hj
  · rw [← i6 122 j (by omega), ← i6 123 j (by omega)]; exact a4 j hj

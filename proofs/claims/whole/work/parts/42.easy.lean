/-! the calls that are told in a few rows -/
theorem fb_gix2 {ρ : Type} {x : Option ρ} {i N : Nat} (hi : i < N) (hN : N < 2 ^ 31) : fb_gd (¬ (nI i < 0 ∨ N ≤ i)) x = x := fb_gdT (fun q => q.elim (nI_pos (by omega)) (by omega))
theorem fb_lt80 {n : Nat} (h : n ≤ 80) : (nI n < 80) ↔ n < 80 := nI_ltI (b := 80) (by omega) (by omega)
theorem fb_lt12 {n : Nat} (h : n ≤ 12) : (nI n < 12) ↔ n < 12 := nI_ltI (b := 12) (by omega) (by omega)
theorem fb_eq80 {n : Nat} (h : n ≤ 80) : (nI n = 80) ↔ n = 80 := nI_eq (b := 80) (by omega) (by omega)
theorem fb_eq12 {n : Nat} (h : n ≤ 12) : (nI n = 12) ↔ n = 12 := nI_eq (b := 12) (by omega) (by omega)
theorem eX0_j24 {u : fb_M} (h : fb_St u) {n : Nat} (hn : fb_I u 1 1 = nI n) (h80 : n ≤ 80) (c k : Int32) : jX0_append_24 1 c k u = some (if ¬ k = 0 ∧ n < 80 then (1, fb_wI (fb_wI u 2 n (vp_nar .char c)) 1 1 (nI (n + 1))) else (0, u)) := by
  unfold jX0_append_24
  by_cases hk : k = 0
  · simp [hk]
  · by_cases hl : n < 80
    · rw [if_neg hk, hn, if_pos ((fb_lt80 h80).mpr hl), h.ld_1_0, fb_n2, fb_gix hl (by omega), nI_clamp (by omega)]
      simp [hk, hl, fb_I_wI, hn, nI_1]
    · rw [if_neg hk, hn, if_neg (fun q => hl ((fb_lt80 h80).mp q))]
      simp [hk, hl]
theorem eX0_append {u : fb_M} (h : fb_St u) {n : Nat} (hn : fb_I u 1 1 = nI n) (h80 : n ≤ 80) (c : Int32) : fX0_append u 1 c = some (if fb_okc c ∧ n < 80 then (1, fb_wI (fb_wI u 2 n (vp_nar .char c)) 1 1 (nI (n + 1))) else (0, u)) := by
  unfold fX0_append
  rw [eX8_isLetterOrFigure]
  by_cases hA : fb_lof c
  · rw [if_pos hA]
    show jX0_append_24 1 c 1 u = _
    rw [eX0_j24 h hn h80]
    simp only [show ¬ (1 : Int32) = 0 from by decide, not_false_eq_true, true_and, show fb_okc c from Or.inl hA]
  · rw [if_neg hA]
    show (if c = 95 then _ else _) = _
    by_cases h1 : c = 95
    · rw [if_pos h1, eX0_j24 h hn h80]
      simp only [show ¬ (1 : Int32) = 0 from by decide, not_false_eq_true, true_and, show fb_okc c from Or.inr (Or.inl h1)]
    · rw [if_neg h1]
      by_cases h2 : c = 46
      · rw [if_pos h2, eX0_j24 h hn h80]
        simp only [show ¬ (1 : Int32) = 0 from by decide, not_false_eq_true, true_and, show fb_okc c from Or.inr (Or.inr h2)]
      · have hno : ¬ fb_okc c := fun q => q.elim hA (fun q => q.elim h1 h2)
        rw [if_neg h2, eX0_j24 h hn h80, if_neg (fun q => q.1 rfl), if_neg (fun q => hno q.1)]
theorem eX9_j38 {u : fb_M} (h : fb_St u) {n : Nat} (hn : fb_I u 104 1 = nI n) (h80 : n ≤ 80) (c k : Int32) : jX9_type_38 104 c k u = some (if ¬ k = 0 ∧ n < 80 then (1, fb_wI (fb_wI u 105 n c) 104 1 (nI (n + 1))) else (0, u)) := by
  unfold jX9_type_38
  by_cases hk : k = 0
  · simp [hk]
  · by_cases hl : n < 80
    · rw [if_neg hk, hn, if_neg (fun q => absurd ((fb_eq80 h80).mp q) (by omega)), h.ld_104_0, fb_n105, fb_gix hl (by omega), nI_clamp (by omega)]
      simp [hk, hl, fb_I_wI, hn, nI_1]
    · rw [if_neg hk, hn, if_pos ((fb_eq80 h80).mpr (by omega))]
      simp [hk, hl]
theorem eX9_type {u : fb_M} (h : fb_St u) {n : Nat} (hn : fb_I u 104 1 = nI n) (h80 : n ≤ 80) (c : Int32) : fX9_type u 104 c = some (if fb_okc c ∧ n < 80 then (1, fb_wI (fb_wI u 105 n c) 104 1 (nI (n + 1))) else (0, u)) := by
  have k1 : fb_okc c → jX9_type_38 104 c 1 u = some (if fb_okc c ∧ n < 80 then (1, fb_wI (fb_wI u 105 n c) 104 1 (nI (n + 1))) else (0, u)) := fun hc => by
    rw [eX9_j38 h hn h80]
    simp only [show ¬ (1 : Int32) = 0 from by decide, not_false_eq_true, true_and, hc]
  unfold fX9_type
  rw [eX9_capital, eX9_small, eX9_figure]
  by_cases hA : fb_cap c
  · rw [if_pos hA]
    exact k1 (Or.inl (Or.inl hA))
  · rw [if_neg hA]
    by_cases hB : fb_sml c
    · rw [if_pos hB]
      exact k1 (Or.inl (Or.inr (Or.inl hB)))
    · rw [if_neg hB]
      by_cases hC : fb_fig c
      · rw [if_pos hC]
        exact k1 (Or.inl (Or.inr (Or.inr hC)))
      · rw [if_neg hC]
        show (if c = 95 then _ else _) = _
        by_cases h1 : c = 95
        · rw [if_pos h1]
          exact k1 (Or.inr (Or.inl h1))
        · rw [if_neg h1]
          by_cases h2 : c = 46
          · rw [if_pos h2]
            exact k1 (Or.inr (Or.inr h2))
          · have hno : ¬ fb_okc c := fun q => q.elim (fun q => q.elim hA (fun q => q.elim hB hC)) (fun q => q.elim h1 h2)
            rw [if_neg h2, eX9_j38 h hn h80, if_neg (fun q => q.1 rfl), if_neg (fun q => hno q.1)]
theorem op_type {u : fb_M} (hv : fb_Inv u) (c : Int32) : ∃ r u1 u2, fX8_type u 0 c = some (r, u1) ∧ fX9_type u1 104 c = some (r, u2) ∧ fb_Inv u2 := by
  obtain ⟨hS, ⟨n, h80, hn, hm, hc⟩, hL, hF, hE, hO, hA, hR⟩ := hv
  by_cases hq : fb_okc c ∧ n < 80
  · have e1 : fX8_type u 0 c = some (1, fb_wI (fb_wI u 2 n (vp_nar .char c)) 1 1 (nI (n + 1))) := by
      unfold fX8_type
      rw [hS.ld_0_0, eX0_append hS hn h80, if_pos hq]
      rfl
    have e2 := eX9_type (u := fb_wI (fb_wI u 2 n (vp_nar .char c)) 1 1 (nI (n + 1))) hS (n := n) hm h80 c
    rw [if_pos hq] at e2
    refine ⟨_, _, _, e1, e2, hS, ⟨n + 1, by omega, rfl, rfl, fun i hi => ?_⟩, hL.fr ?_ rfl, hF.fr ?_ rfl rfl, hE.fr ?_ rfl, hO.fr ?_, hA.fr ?_ rfl rfl, hR.fr ?_ rfl rfl⟩
    · simp only [fb_I_wI]
      by_cases hin : i = n
      · subst hin
        simp [fb_okc_char hq.1]
        exact hq.1
      · simp [hin]
        exact hc i (by omega)
    all_goals exact ((((fb_kp.rf u _).wI (by decide)).wI (by decide)).wI (by decide)).wI (by decide)
  · have e1 : fX8_type u 0 c = some (0, u) := by
      unfold fX8_type
      rw [hS.ld_0_0, eX0_append hS hn h80, if_neg hq]
      rfl
    have e2 := eX9_type (u := u) hS (n := n) hm h80 c
    rw [if_neg hq] at e2
    exact ⟨_, _, _, e1, e2, hS, ⟨n, h80, hn, hm, hc⟩, hL, hF, hE, hO, hA, hR⟩
theorem op_scrap {u : fb_M} (hv : fb_Inv u) : ∃ u1 u2, fX8_scrap u 0 = some u1 ∧ fX9_scrap u1 104 = some u2 ∧ fb_Inv u2 := by
  obtain ⟨hS, ⟨n, h80, hn, hm, hc⟩, hL, hF, hE, hO, hA, hR⟩ := hv
  refine ⟨fb_wI u 1 1 0, fb_wI (fb_wI u 1 1 0) 104 1 0, ?_, rfl, hS, ⟨0, by omega, rfl, rfl, fun i hi => by omega⟩, hL.fr ?_ rfl, hF.fr ?_ rfl rfl, hE.fr ?_ rfl, hO.fr ?_, hA.fr ?_ rfl rfl, hR.fr ?_ rfl rfl⟩
  · unfold fX8_scrap
    rw [hS.ld_0_0]
    rfl
  all_goals exact ((fb_kp.rf u _).wI (by decide)).wI (by decide)
theorem op_arg {u : fb_M} (hv : fb_Inv u) (c : Int32) : ∃ r u1 u2, fX8_arg u 0 c = some (r, u1) ∧ fX9_arg u1 104 c = some (r, u2) ∧ fb_Inv u2 := by
  obtain ⟨hS, hT, hL, hF, hE, hO, ⟨n, h12, hn, hm, hc⟩, hR⟩ := hv
  by_cases hl : n < 12
  · have e1 : fX8_arg u 0 c = some (1, fb_wI (fb_wI u 100 n c) 0 8 (nI (n + 1))) := by
      unfold fX8_arg
      rw [hn, if_pos ((fb_lt12 h12).mpr hl), hS.ld_0_7, fb_n100, fb_gix hl (by omega), nI_clamp (by omega)]
      simp [fb_I_wI, hn, nI_1]
    have e2 : fX9_arg (fb_wI (fb_wI u 100 n c) 0 8 (nI (n + 1))) 104 c = some (1, fb_wI (fb_wI (fb_wI (fb_wI u 100 n c) 0 8 (nI (n + 1))) 129 n c) 104 35 (nI (n + 1))) := by
      unfold fX9_arg
      have hm' : fb_I (fb_wI (fb_wI u 100 n c) 0 8 (nI (n + 1))) 104 35 = nI n := hm
      rw [hm', if_neg (fun q => absurd ((fb_eq12 h12).mp q) (by omega)), fb_St.ld_104_34 (u := fb_wI (fb_wI u 100 n c) 0 8 (nI (n + 1))) hS, fb_n129, fb_gix hl (by omega), nI_clamp (by omega)]
      simp [fb_I_wI, hm, nI_1]
    refine ⟨_, _, _, e1, e2, hS, hT.fr ?_ rfl, hL.fr ?_ rfl, hF.fr ?_ rfl rfl, hE.fr ?_ rfl, hO.fr ?_, ⟨n + 1, by omega, rfl, rfl, fun i hi => ?_⟩, hR.fr ?_ rfl rfl⟩
    rotate_left 5
    · simp only [fb_I_wI]
      by_cases hin : i = n
      · subst hin
        simp
      · simp [hin]
        exact hc i (by omega)
    all_goals exact ((((fb_kp.rf u _).wI (by decide)).wI (by decide)).wI (by decide)).wI (by decide)
  · have e1 : fX8_arg u 0 c = some (0, u) := by
      unfold fX8_arg
      rw [hn, if_neg (fun q => hl ((fb_lt12 h12).mp q))]
    have e2 : fX9_arg u 104 c = some (0, u) := by
      unfold fX9_arg
      rw [hm, if_pos ((fb_eq12 h12).mpr (by omega))]
    exact ⟨_, _, _, e1, e2, hS, hT, hL, hF, hE, hO, ⟨n, h12, hn, hm, hc⟩, hR⟩
theorem op_results {u : fb_M} (hv : fb_Inv u) : ∃ r, fX8_results u 0 = some r ∧ fX9_results u 104 = some r := by
  obtain ⟨hS, hT, hL, hF, hE, hO, hA, ⟨n, h10, hn, hm, hc⟩⟩ := hv
  exact ⟨nI n, by unfold fX8_results; rw [hn], by unfold fX9_results; rw [hm]⟩
theorem op_size {u : fb_M} (hv : fb_Inv u) : ∃ r, fX8_size u 0 = some r ∧ fX9_size u 104 = some r := by
  obtain ⟨hS, hT, hL, hF, ⟨n, p, h10, hn, hm, -⟩, hO, hA, hR⟩ := hv
  exact ⟨nI n, by unfold fX8_size fX7_count; rw [hS.ld_0_5]; simp [hn], by unfold fX9_size; rw [hm]⟩
theorem op_result {u : fb_M} (hv : fb_Inv u) (k : Int32) : ∃ r, fX8_result u 0 k = some r ∧ fX9_result u 104 k = some r := by
  obtain ⟨hS, hT, hL, hF, hE, hO, hA, ⟨n, h10, hn, hm, hc⟩⟩ := hv
  unfold fX8_result fX9_result
  rw [hn, hm]
  rcases pk_ix k (n := n) (by omega) with h | h | ⟨j, hj, rfl⟩
  · exact ⟨0, by rw [if_pos h], by rw [if_pos h]⟩
  · by_cases h0 : k < 0
    · exact ⟨0, by rw [if_pos h0], by rw [if_pos h0]⟩
    · exact ⟨0, by rw [if_neg h0, if_pos h], by rw [if_neg h0, if_neg (Int32.not_lt.mpr h)]⟩
  · refine ⟨fb_I u 103 j, ?_, ?_⟩
    · rw [if_neg (nI_pos (by omega)), if_neg (nI_ge hj (by omega)), hS.ld_0_10, fb_n103, fb_gix (show j < 10 by omega) (by omega), nI_clamp (by omega)]
    · rw [if_neg (nI_pos (by omega)), if_pos (nI_lt hj (by omega)), hS.ld_104_36, fb_n130, fb_gix (show j < 10 by omega) (by omega), nI_clamp (by omega), hc j hj]
/-- is it a leaf's number -/
theorem eX6_has {u : fb_M} {n : Nat} (hn : fb_I u 3 1 = nI n) (h8 : n ≤ 8) (k : Int32) : (∃ j, j < n ∧ k = nI j ∧ fX6_has u 3 k = some 1) ∨ ((k < 0 ∨ nI n ≤ k) ∧ fX6_has u 3 k = some 0) := by
  unfold fX6_has
  rw [hn]
  rcases pk_ix k (n := n) (by omega) with h | h | ⟨j, hj, rfl⟩
  · exact Or.inr ⟨Or.inl h, by rw [if_pos h]⟩
  · refine Or.inr ⟨Or.inr h, ?_⟩
    by_cases h0 : k < 0
    · rw [if_pos h0]
    · rw [if_neg h0, if_pos h]
  · exact Or.inl ⟨j, hj, rfl, by rw [if_neg (nI_pos (by omega)), if_neg (nI_ge hj (by omega))]⟩
theorem eX9_isLeaf {u : fb_M} {n : Nat} (hn : fb_I u 104 4 = nI n) (h8 : n ≤ 8) {k : Int32} : (∀ j, j < n → k = nI j → fX9_isLeaf u 104 k = some 1) ∧ ((k < 0 ∨ nI n ≤ k) → fX9_isLeaf u 104 k = some 0) := by
  unfold fX9_isLeaf
  rw [hn]
  refine ⟨fun j hj hk => ?_, fun h => ?_⟩
  · subst hk
    rw [if_neg (nI_pos (by omega)), if_neg (nI_ge hj (by omega))]
  · by_cases h0 : k < 0
    · rw [if_pos h0]
    · rw [if_neg h0, if_pos (h.resolve_left h0)]
theorem op_fill {u : fb_M} (hv : fb_Inv u) (k c : Int32) : ∃ r u1 u2, fX8_fill u 0 k c = some (r, u1) ∧ fX9_fill u1 104 k c = some (r, u2) ∧ fb_Inv u2 := by
  obtain ⟨hS, hT, hL, hF, hE, hO, hA, hR⟩ := hv
  have hL0 := hL
  obtain ⟨n, h8, hn, hm, hc⟩ := hL
  rcases eX6_has hn h8 k with ⟨j, hj, rfl, hh⟩ | ⟨hk, hh⟩
  · have e1 : fX8_fill u 0 (nI j) c = some (1, fb_wL u 99 j c.toInt64) := by
      unfold fX8_fill fX8_enter
      rw [hS.ld_0_1, hh]
      show ((Option.bind (fb_R u 0 6) _).bind _) = _
      rw [hS.ld_0_6, fb_n99, fb_gix (show j < 8 by omega) (by omega), nI_clamp (by omega)]
      rfl
    have e2 : fX9_fill (fb_wL u 99 j c.toInt64) 104 (nI j) c = some (1, fb_wI (fb_wI (fb_wL u 99 j c.toInt64) 127 j c) 128 j 1) := by
      unfold fX9_fill
      rw [(eX9_isLeaf (u := fb_wL u 99 j c.toInt64) (n := n) hm h8).1 j hj rfl]
      show (Option.bind (fb_R (fb_wL u 99 j c.toInt64) 104 32) _) = _
      rw [fb_St.ld_104_32 (u := fb_wL u 99 j c.toInt64) hS, fb_n127, fb_gix (show j < 8 by omega) (by omega), nI_clamp (by omega), fb_St.ld_104_33 (u := fb_wI (fb_wL u 99 j c.toInt64) 127 j c) hS, fb_n128]
      rw [fb_gix2 (show j < 8 by omega) (by omega)]
      rfl
    refine ⟨_, _, _, e1, e2, hS, hT.fr ?_ rfl, hL0.fr ?_ rfl, hF.fr ?_ rfl rfl, hE.fr ?_ rfl, fun l hl => ?_, hA.fr ?_ rfl rfl, hR.fr ?_ rfl rfl⟩
    rotate_left 4
    · have h0 := hO l hl
      simp only [fb_I_wI, fb_L_wI, fb_L_wL, fb_I_wL]
      by_cases hin : l = j
      · subst hin
        simp [fb_vr]
      · simp [hin]
        exact h0
    all_goals exact (((fb_kp.rf u _).wL (by decide)).wI (by decide)).wI (by decide)
  · have e1 : fX8_fill u 0 k c = some (0, u) := by
      unfold fX8_fill fX8_enter
      rw [hS.ld_0_1, hh]
      rfl
    have e2 : fX9_fill u 104 k c = some (0, u) := by
      unfold fX9_fill
      rw [(eX9_isLeaf hm h8).2 hk]
      rfl
    exact ⟨_, _, _, e1, e2, hS, hT, hL0, hF, hE, hO, hA, hR⟩
theorem op_blank {u : fb_M} (hv : fb_Inv u) (k : Int32) : ∃ r u1 u2, fX8_blank u 0 k = some (r, u1) ∧ fX9_blank u1 104 k = some (r, u2) ∧ fb_Inv u2 := by
  obtain ⟨hS, hT, hL, hF, hE, hO, hA, hR⟩ := hv
  have hL0 := hL
  obtain ⟨n, h8, hn, hm, hc⟩ := hL
  rcases eX6_has hn h8 k with ⟨j, hj, rfl, hh⟩ | ⟨hk, hh⟩
  · have e1 : fX8_blank u 0 (nI j) = some (1, fb_wL u 99 j 3000000000) := by
      unfold fX8_blank fX8_enter
      rw [hS.ld_0_1, hh]
      show ((Option.bind (fb_R u 0 6) _).bind _) = _
      rw [hS.ld_0_6, fb_n99, fb_gix (show j < 8 by omega) (by omega), nI_clamp (by omega)]
      rfl
    have e2 : fX9_blank (fb_wL u 99 j 3000000000) 104 (nI j) = some (1, fb_wI (fb_wL u 99 j 3000000000) 128 j 0) := by
      unfold fX9_blank
      rw [(eX9_isLeaf (u := fb_wL u 99 j 3000000000) (n := n) hm h8).1 j hj rfl]
      show (Option.bind (fb_R (fb_wL u 99 j 3000000000) 104 33) _) = _
      rw [fb_St.ld_104_33 (u := fb_wL u 99 j 3000000000) hS, fb_n128, fb_gix (show j < 8 by omega) (by omega), nI_clamp (by omega)]
      rfl
    refine ⟨_, _, _, e1, e2, hS, hT.fr ?_ rfl, hL0.fr ?_ rfl, hF.fr ?_ rfl rfl, hE.fr ?_ rfl, fun l hl => ?_, hA.fr ?_ rfl rfl, hR.fr ?_ rfl rfl⟩
    rotate_left 4
    · have h0 := hO l hl
      simp only [fb_I_wI, fb_L_wI, fb_L_wL, fb_I_wL]
      by_cases hin : l = j
      · subst hin
        simp [fb_vr]
      · simp [hin]
        exact h0
    all_goals exact ((fb_kp.rf u _).wL (by decide)).wI (by decide)
  · have e1 : fX8_blank u 0 k = some (0, u) := by
      unfold fX8_blank fX8_enter
      rw [hS.ld_0_1, hh]
      rfl
    have e2 : fX9_blank u 104 k = some (0, u) := by
      unfold fX9_blank
      rw [(eX9_isLeaf hm h8).2 hk]
      rfl
    exact ⟨_, _, _, e1, e2, hS, hT, hL0, hF, hE, hO, hA, hR⟩

/-! define: what stands behind By -/
theorem fb_RL.mv {u w v w' v' : fb_M} {n N f na np d : Nat} (h : fb_RL u n N f w v na np d) (hw : fb_df w w' (fb_DC2 f)) (hv : fb_df v v' fb_DM2) : fb_RL u n N f w' v' na np d := by
  obtain ⟨hW, hV, h20, ⟨w3, v17⟩, ⟨w4, v18⟩, lf, wd, at_, w5, c1, c2, c3, c4, c5⟩ := h
  refine ⟨hW.tr (hw.mo (fun a k q => by unfold fb_DC2 at q; omega)), hV.dM2 hv, by rw [hv.2.2 104 20 (by unfold fb_DM2; omega), h20], ⟨by rw [hw.2.2 _ 3 (by unfold fb_DC2; omega), w3], by rw [hv.2.2 104 17 (by unfold fb_DM2; omega), v17]⟩, ⟨by rw [hw.2.2 _ 4 (by unfold fb_DC2; omega), w4], by rw [hv.2.2 104 18 (by unfold fb_DM2; omega), v18]⟩, lf, wd, at_, by rw [hw.2.2 _ 5 (by unfold fb_DC2; omega), w5], c1, fun k hk hk6 => ?_, c3, c4, c5⟩
  rw [hw.2.2 (24 + 6 * f) k (by unfold fb_DC2; omega), hw.2.2 (25 + 6 * f) k (by unfold fb_DC2; omega), hw.2.2 (26 + 6 * f) k (by unfold fb_DC2; omega), hv.2.2 119 k (by unfold fb_DM2; omega), hv.2.2 120 k (by unfold fb_DM2; omega), hv.2.2 121 k (by unfold fb_DM2; omega)]
  exact c2 k hk hk6
theorem fb_RO.mv {u w v w' v' : fb_M} {n N f no : Nat} (h : fb_RO u n N f w v no) (hw : fb_df w w' (fb_DC f)) (hv : fb_df v v' fb_DM) : fb_RO u n N f w' v' no := by
  obtain ⟨hW, hV, h21, ⟨w6, v19⟩, lo, dn, c1, c2⟩ := h
  refine ⟨hW.tr (hw.mo (fun a k q => by unfold fb_DC at q; omega)), hV.df hv (by unfold fb_DM; omega) (by unfold fb_DM; omega) (fun a k h1 h2 => by unfold fb_DM; omega), by rw [hv.2.2 104 21 (by unfold fb_DM; omega), h21], ⟨by rw [hw.2.2 _ 6 (by unfold fb_DC; omega), w6], by rw [hv.2.2 104 19 (by unfold fb_DM; omega), v19]⟩, lo, dn, c1, fun k hk hk3 => ?_⟩
  rw [hw.2.2 (27 + 6 * f) k (by unfold fb_DC; omega), hw.2.2 (28 + 6 * f) k (by unfold fb_DC; omega), hv.2.2 122 k (by unfold fb_DM; omega), hv.2.2 123 k (by unfold fb_DM; omega)]
  exact c2 k hk hk3
theorem eLong {w : fb_M} {a np no : Nat} (hnp : np < 2 ^ 20) (hno : no < 2 ^ 20) (h4 : fb_I w a 4 = nI np) (h6 : fb_I w a 6 = nI no) : jX3_read_110 a w = some (if 6 < np ∨ 3 < no then -5 else 0, w) := by
  unfold jX3_read_110 fX2_isTooLong
  rw [h4, h6]
  by_cases hp : 6 < np
  · rw [if_pos (show (6 : Int32) < nI np from nI_lt (a := 6) hp (by omega)), Option.bind_some, if_neg fb_10, if_pos (Or.inl hp)]
  · rw [if_neg (show ¬ (6 : Int32) < nI np from nI_nlt (a := 6) (by omega) (by omega))]
    by_cases ho : 3 < no
    · rw [if_neg (show ¬ nI no ≤ (3 : Int32) from nI_ge (a := 3) ho (by omega)), Option.bind_some, if_neg fb_10, if_pos (Or.inr ho)]
    · rw [if_pos (show nI no ≤ (3 : Int32) from nI_le (b := 3) (by omega) (by omega)), Option.bind_some, if_pos rfl, if_neg (fun q => q.elim hp ho)]
def fb_cls (w : fb_M) (a : Nat) (fr E n : Nat) : Option (Int32 × fb_M) :=
  (fX3_readCondition w 21 a (nI fr) (nI E)).bind fun r75 => if r75.1 = 0 then some (-3, r75.2) else if nI n ≤ nI E then jX3_read_110 a r75.2 else (fX3_readOrders r75.2 21 a (nI E + Int32.ofNat (fb_len.getD 7 0)) (nI n)).bind fun r101 => if r101.1 = 0 then some (-4, r101.2) else jX3_read_110 a r101.2
theorem eRest {u w v : fb_M} {n N f : Nat} (hB : fb_B u n N) (hf : f < 9) {fr E : Nat} (hfE : fr ≤ E) (hEn : E ≤ n) (hE7 : E < n → 7 + E ≤ n) (hL : fb_RL u n N f w v 0 0 0) (hO : fb_RO u n N f w v 0) :
    ∃ r w' v', fb_cls w (23 + 6 * f) fr E n = some (r, w') ∧ jX9_readRest_56 104 (nI fr) (nI E) v = some v' ∧ fb_df w w' (fun a k => fb_DC f a k ∨ fb_DC2 f a k) ∧ fb_df v v' (fun a k => fb_DM a k ∨ fb_DM2 a k) ∧
      ((r = -3 ∧ fb_I v' 104 20 = 1) ∨ (r = -4 ∧ fb_I v' 104 20 = 0 ∧ fb_I v' 104 21 = 1) ∨ (∃ na np no, r = (if 6 < np ∨ 3 < no then -5 else 0) ∧ fb_RL u n N f w' v' na np 0 ∧ fb_RO u n N f w' v' no ∧ np < 2 ^ 20 ∧ no < 2 ^ 20)) := by
  have h80 := hB.2.1.1
  obtain ⟨rc, w1, v1, na, np, c1, c2, c3, c4, c5, c6⟩ : ∃ rc w1 v1 na np, fX3_readCondition w 21 (23 + 6 * f) (nI fr) (nI E) = some (rc, w1) ∧ jX9_readRest_56 104 (nI fr) (nI E) v = jX9_readRest_67 104 (nI E) v1 ∧ ((rc = 1 ∧ fb_RL u n N f w1 v1 na np 0) ∨ (rc = 0 ∧ fb_BM u n N v1 na np)) ∧ np < 2 ^ 20 ∧ fb_df w w1 (fb_DC f) ∧ fb_df v v1 fb_DM := by
    by_cases hlt : fr < E
    · obtain ⟨r, w1, v1, na, np, a1, a2, a3, a4, a5, a6⟩ := eConL hB hf hlt hEn (E - fr) fr fr fb_F fb_F w v 0 0 (by omega) (by unfold fb_F; omega) (by unfold fb_F; omega) (by omega) (Or.inl (Nat.le_refl _)) hL (by omega)
      refine ⟨r, w1, v1, na, np, a1, ?_, a3, by omega, a5, a6⟩
      unfold jX9_readRest_56
      rw [if_neg (nI_ge hlt (by omega)), show fX9_takeCondition v 104 (nI fr) (nI E) = some v1 from a2, Option.bind_some]
    · have hfE2 : fr = E := by omega
      subst hfE2
      refine ⟨1, w, v, 0, 0, ?_, ?_, Or.inl ⟨rfl, hL⟩, by omega, fb_df.rf _ _, fb_df.rf _ _⟩
      · show bX3_readCondition_6 _ 21 (23 + 6 * f) (nI fr) (nI fr) (nI fr) (nI fr) w = _
        unfold bX3_readCondition_6
        rw [if_pos (nI_le (Nat.le_refl _) (by omega)), if_pos rfl]
      · unfold jX9_readRest_56
        rw [if_pos (nI_le (Nat.le_refl _) (by omega))]
  have hO1 := hO.mv c5 c6
  have hV1 : fb_Vc u n N v1 := hO1.2.1
  obtain ⟨ro, w2, v2, no, d1, d2, d3, d4, d5, d6⟩ : ∃ ro w2 v2 no, (if nI n ≤ nI E then some (1, w1) else fX3_readOrders w1 21 (23 + 6 * f) (nI E + Int32.ofNat (fb_len.getD 7 0)) (nI n)) = some (ro, w2) ∧ jX9_readRest_67 104 (nI E) v1 = some v2 ∧ ((ro = 1 ∧ fb_RO u n N f w2 v2 no) ∨ (ro = 0 ∧ fb_BO u n N v2 no ∧ E < n)) ∧ no < 2 ^ 20 ∧ fb_df w1 w2 (fb_DC2 f) ∧ fb_df v1 v2 fb_DM2 := by
    have n1 : fb_I v1 104 1 = nI n := hV1.2.1.2.2.1
    unfold jX9_readRest_67
    rw [n1]
    by_cases hlt : E < n
    · have h7 := hE7 hlt
      obtain ⟨r, w2, v2, no, a1, a2, a3, a4, a5, a6⟩ := eOrders hB hf (show E + 7 ≤ n by omega) (Nat.le_refl n) hO1 (by omega)
      rw [if_neg (nI_ge hlt (by omega)), if_neg (nI_ge hlt (by omega)), show nI E + Int32.ofNat (fb_len.getD 7 0) = nI (E + 7) from nI_add E 7, show nI E + 7 = nI (E + 7) from nI_add E 7, a1, a2]
      exact ⟨r, w2, v2, no, rfl, rfl, a3.imp id (fun q => ⟨q.1, q.2, hlt⟩), a6, a4, a5⟩
    · rw [if_pos (nI_le (by omega) (by omega)), if_pos (nI_le (by omega) (by omega))]
      exact ⟨1, w1, v1, 0, rfl, rfl, Or.inl ⟨rfl, hO1⟩, by omega, fb_df.rf _ _, fb_df.rf _ _⟩
  have hdv : fb_df v v2 (fun a k => fb_DM a k ∨ fb_DM2 a k) := (c6.mo (fun a k q => Or.inl q)).tr (d6.mo (fun a k q => Or.inr q))
  have hdw : fb_df w w2 (fun a k => fb_DC f a k ∨ fb_DC2 f a k) := (c5.mo (fun a k q => Or.inl q)).tr (d5.mo (fun a k q => Or.inr q))
  rcases c3 with ⟨rfl, hL1⟩ | ⟨rfl, hM1⟩
  · rcases d3 with ⟨rfl, hO2⟩ | ⟨rfl, hM2, hEn2⟩
    · have hL2 := hL1.mv d5 d6
      refine ⟨_, w2, v2, ?_, by rw [c2, d2], hdw, hdv, Or.inr (Or.inr ⟨na, np, no, rfl, hL2, hO2, c4, d4⟩)⟩
      have hl := eLong (a := 23 + 6 * f) c4 d4 hL2.2.2.2.2.1.1 hO2.2.2.2.1.1
      unfold fb_cls
      rw [c1, Option.bind_some]
      refine (if_neg fb_10).trans ?_
      by_cases hlt : nI n ≤ nI E
      · rw [if_pos hlt] at d1 ⊢
        cases d1
        exact hl
      · rw [if_neg hlt] at d1 ⊢
        show ((fX3_readOrders w1 21 (23 + 6 * f) (nI E + Int32.ofNat (fb_len.getD 7 0)) (nI n)).bind fun r101 => if r101.1 = 0 then some (-4, r101.2) else jX3_read_110 (23 + 6 * f) r101.2) = _
        rw [d1, Option.bind_some]
        exact (if_neg fb_10).trans hl
    · refine ⟨-4, w2, v2, ?_, by rw [c2, d2], hdw, hdv, Or.inr (Or.inl ⟨rfl, ?_, hM2.2.1⟩)⟩
      · unfold fb_cls
        rw [c1, Option.bind_some]
        refine (if_neg fb_10).trans ?_
        have hlt : ¬ nI n ≤ nI E := nI_ge hEn2 (by omega)
        rw [if_neg hlt] at d1 ⊢
        show ((fX3_readOrders w1 21 (23 + 6 * f) (nI E + Int32.ofNat (fb_len.getD 7 0)) (nI n)).bind fun r101 => if r101.1 = 0 then some (-4, r101.2) else jX3_read_110 (23 + 6 * f) r101.2) = _
        rw [d1, Option.bind_some]
        exact if_pos rfl
      · rw [d6.2.2 104 20 (by unfold fb_DM2; omega)]; exact hL1.2.2.1
  · refine ⟨-3, w1, v2, ?_, by rw [c2, d2], c5.mo (fun a k q => Or.inl q), hdv, Or.inl ⟨rfl, ?_⟩⟩
    · unfold fb_cls
      rw [c1, Option.bind_some]
      exact if_pos rfl
    · rw [d6.2.2 104 20 (by unfold fb_DM2; omega)]; exact hM1.2.1

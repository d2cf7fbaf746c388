/-! define: a part is put down -/
theorem eAdd42 {w : fb_M} {a np t kk : Nat} (h4 : fb_I w a 4 = nI np) (h5 : fb_I w a 5 = nI t) (hk : kk ≤ 10) : jX2_addPart_42 a (nI kk) w = some (fb_wI (fb_wI w a 4 (nI (np + 1))) a 5 (nI (t + fb_tk kk))) := by
  unfold jX2_addPart_42
  rw [h4, nI_1, eX10_argumentsTaken _ hk, Option.bind_some, fb_IwI_ne _ _ (by omega), h5, nI_add]
theorem eAddPart {w : fb_M} (hS : fb_St w) {f : Nat} (hf : f < 9) {np na t l kk : Nat} (hnp : np < 2 ^ 20) (h3 : fb_I w (23 + 6 * f) 3 = nI na) (h4 : fb_I w (23 + 6 * f) 4 = nI np) (h5 : fb_I w (23 + 6 * f) 5 = nI t) (hk : kk ≤ 10) :
    ∃ w', fX2_addPart w (23 + 6 * f) (nI l) (nI kk) = some w' ∧ fb_df w w' (fun a k => (a = 23 + 6 * f ∧ (k = 4 ∨ k = 5)) ∨ ((a = 24 + 6 * f ∨ a = 25 + 6 * f ∨ a = 26 + 6 * f) ∧ k = np)) ∧ fb_I w' (23 + 6 * f) 4 = nI (np + 1) ∧ fb_I w' (23 + 6 * f) 5 = nI (t + fb_tk kk) ∧ (np < 6 → fb_I w' (24 + 6 * f) np = nI l ∧ fb_I w' (25 + 6 * f) np = nI kk ∧ fb_I w' (26 + 6 * f) np = nI na) := by
  unfold fX2_addPart
  by_cases h6 : 6 ≤ np
  · rw [h4, if_pos (show (6 : Int32) ≤ nI np from nI_le (a := 6) h6 (by omega)), eAdd42 h4 h5 hk]
    refine ⟨_, rfl, ?_, ?_, ?_, fun h => absurd h (by omega)⟩
    · exact ((fb_df.rf w _).wI (Or.inl ⟨rfl, Or.inl rfl⟩)).wI (Or.inl ⟨rfl, Or.inr rfl⟩)
    · rw [fb_IwI_ne _ _ (by omega), fb_IwI_eq]
    · rw [fb_IwI_eq]
  · have I1 : fb_I (fb_wI w (24 + 6 * f) np (nI l)) (23 + 6 * f) 4 = nI np := by rw [fb_IwI_ne _ _ (by omega), h4]
    have I2 : fb_I (fb_wI (fb_wI w (24 + 6 * f) np (nI l)) (25 + 6 * f) np (nI kk)) (23 + 6 * f) 4 = nI np := by rw [fb_IwI_ne _ _ (by omega), I1]
    have I3 : fb_I (fb_wI (fb_wI w (24 + 6 * f) np (nI l)) (25 + 6 * f) np (nI kk)) (23 + 6 * f) 3 = nI na := by rw [fb_IwI_ne _ _ (by omega), fb_IwI_ne _ _ (by omega), h3]
    have I4 : fb_I (fb_wI (fb_wI (fb_wI w (24 + 6 * f) np (nI l)) (25 + 6 * f) np (nI kk)) (26 + 6 * f) np (nI na)) (23 + 6 * f) 4 = nI np := by rw [fb_IwI_ne _ _ (by omega), I2]
    have I5 : fb_I (fb_wI (fb_wI (fb_wI w (24 + 6 * f) np (nI l)) (25 + 6 * f) np (nI kk)) (26 + 6 * f) np (nI na)) (23 + 6 * f) 5 = nI t := by rw [fb_IwI_ne _ _ (by omega), fb_IwI_ne _ _ (by omega), fb_IwI_ne _ _ (by omega), h5]
    rw [h4, if_neg (show ¬ (6 : Int32) ≤ nI np from nI_ge (b := 6) (by omega) (by omega)), hS.ld_fpl hf, fb_n_fpl f hf, fb_gix (show np < 6 by omega) (by omega), nI_clamp (n := np) (by omega), (hS.wI _ _ _).ld_fpk hf, fb_n_fpk f hf, I1, fb_gix (show np < 6 by omega) (by omega), nI_clamp (n := np) (by omega), ((hS.wI _ _ _).wI _ _ _).ld_fpa hf, fb_n_fpa f hf, I2, fb_gix (show np < 6 by omega) (by omega), nI_clamp (n := np) (by omega), I3, eAdd42 I4 I5 hk]
    refine ⟨_, rfl, ?_, ?_, ?_, fun h => ⟨?_, ?_, ?_⟩⟩
    · refine fb_df.wI (fb_df.wI (fb_df.wI (fb_df.wI (fb_df.wI (fb_df.rf w _) ?_) ?_) ?_) ?_) ?_
      · exact Or.inr ⟨Or.inl rfl, rfl⟩
      · exact Or.inr ⟨Or.inr (Or.inl rfl), rfl⟩
      · exact Or.inr ⟨Or.inr (Or.inr rfl), rfl⟩
      · exact Or.inl ⟨rfl, Or.inl rfl⟩
      · exact Or.inl ⟨rfl, Or.inr rfl⟩
    · rw [fb_IwI_ne _ _ (by omega), fb_IwI_eq]
    · rw [fb_IwI_eq]
    · rw [fb_IwI_ne _ _ (by omega), fb_IwI_ne _ _ (by omega), fb_IwI_ne _ _ (by omega), fb_IwI_ne _ _ (by omega), fb_IwI_eq]
    · rw [fb_IwI_ne _ _ (by omega), fb_IwI_ne _ _ (by omega), fb_IwI_ne _ _ (by omega), fb_IwI_eq]
    · rw [fb_IwI_ne _ _ (by omega), fb_IwI_ne _ _ (by omega), fb_IwI_eq]
def fb_DP (np a k : Nat) : Prop := (a = 104 ∧ (k = 18 ∨ k = 20 ∨ k = 27)) ∨ ((a = 119 ∨ a = 120 ∨ a = 121) ∧ k = np)
theorem eTake24 {v : fb_M} (hS : fb_St v) {np na : Nat} (hnp : np < 2 ^ 20) (hna : 0 < na) (h17 : fb_I v 104 17 = nI na) (h18 : fb_I v 104 18 = nI np) {b x : Int32} (hb : b = 0 ∨ b = 1) :
    ∃ v', jX9_takePart_24 104 x 104 b v = some v' ∧ fb_df v v' (fb_DP np) ∧ fb_I v' 104 18 = nI (np + 1) ∧ fb_I v' 104 20 = b ∧ (np < 6 → fb_I v' 119 np = x ∧ fb_I v' 120 np = fb_I v 104 27 ∧ fb_I v' 121 np = nI (na - 1)) := by
  unfold jX9_takePart_24
  have I0 : fb_I (fb_wI v 104 20 b) 104 18 = nI np := by rw [fb_IwI_ne _ _ (by omega), h18]
  by_cases h6 : 6 ≤ np
  · rw [fb_gdT hb, I0, if_pos (show (6 : Int32) ≤ nI np from nI_le (a := 6) h6 (by omega)), nI_1]
    refine ⟨_, rfl, ?_, ?_, ?_, fun h => absurd h (by omega)⟩
    · exact ((fb_df.rf v _).wI (Or.inl ⟨rfl, Or.inr (Or.inl rfl)⟩)).wI (Or.inl ⟨rfl, Or.inl rfl⟩)
    · rw [fb_IwI_eq]
    · rw [fb_IwI_ne _ _ (by omega), fb_IwI_eq]
  · have I1 : fb_I (fb_wI (fb_wI v 104 20 b) 119 np x) 104 18 = nI np := by rw [fb_IwI_ne _ _ (by omega), I0]
    have I2 : fb_I (fb_wI (fb_wI v 104 20 b) 119 np x) 104 27 = fb_I v 104 27 := by rw [fb_IwI_ne _ _ (by omega), fb_IwI_ne _ _ (by omega)]
    have I3 : fb_I (fb_wI (fb_wI (fb_wI v 104 20 b) 119 np x) 120 np (fb_I v 104 27)) 104 18 = nI np := by rw [fb_IwI_ne _ _ (by omega), I1]
    have I4 : fb_I (fb_wI (fb_wI (fb_wI v 104 20 b) 119 np x) 120 np (fb_I v 104 27)) 104 17 = nI na := by rw [fb_IwI_ne _ _ (by omega), fb_IwI_ne _ _ (by omega), fb_IwI_ne _ _ (by omega), h17]
    have I5 : fb_I (fb_wI (fb_wI (fb_wI (fb_wI v 104 20 b) 119 np x) 120 np (fb_I v 104 27)) 121 np (nI (na - 1))) 104 18 = nI np := by rw [fb_IwI_ne _ _ (by omega), I3]
    rw [fb_gdT hb, I0, if_neg (show ¬ (6 : Int32) ≤ nI np from nI_ge (b := 6) (by omega) (by omega)), (hS.wI _ _ _).ld_104_22, fb_n119, fb_gix (show np < 6 by omega) (by omega), nI_clamp (n := np) (by omega), ((hS.wI _ _ _).wI _ _ _).ld_104_23, fb_n120, I1, fb_gix (show np < 6 by omega) (by omega), nI_clamp (n := np) (by omega), I2, (((hS.wI _ _ _).wI _ _ _).wI _ _ _).ld_104_24, fb_n121, I3, fb_gix (show np < 6 by omega) (by omega), nI_clamp (n := np) (by omega), I4, show nI na - 1 = nI (na - 1) from nI_sub (b := 1) hna, I5, nI_1]
    refine ⟨_, rfl, ?_, ?_, ?_, fun h => ⟨?_, ?_, ?_⟩⟩
    · refine fb_df.wI (fb_df.wI (fb_df.wI (fb_df.wI (fb_df.wI (fb_df.rf v _) ?_) ?_) ?_) ?_) ?_
      · exact Or.inl ⟨rfl, Or.inr (Or.inl rfl)⟩
      · exact Or.inr ⟨Or.inl rfl, rfl⟩
      · exact Or.inr ⟨Or.inr (Or.inl rfl), rfl⟩
      · exact Or.inr ⟨Or.inr (Or.inr rfl), rfl⟩
      · exact Or.inl ⟨rfl, Or.inl rfl⟩
    · rw [fb_IwI_eq]
    · rw [fb_IwI_ne _ _ (by omega), fb_IwI_ne _ _ (by omega), fb_IwI_ne _ _ (by omega), fb_IwI_ne _ _ (by omega), fb_IwI_eq]
    · rw [fb_IwI_ne _ _ (by omega), fb_IwI_ne _ _ (by omega), fb_IwI_ne _ _ (by omega), fb_IwI_eq]
    · rw [fb_IwI_ne _ _ (by omega), fb_IwI_ne _ _ (by omega), fb_IwI_eq]
    · rw [fb_IwI_ne _ _ (by omega), fb_IwI_eq]
theorem fb_Vc.dP {u v w : fb_M} {n N np : Nat} (h : fb_Vc u n N v) (hd : fb_df v w (fb_DP np)) : fb_Vc u n N w := h.df hd (by unfold fb_DP; omega) (by unfold fb_DP; omega) (fun a k h1 h2 => by unfold fb_DP; omega)
theorem eTakePart {u v : fb_M} {n N : Nat} (hB : fb_B u n N) (h : fb_Vc u n N v) {fr e np na : Nat} (hfe : fr ≤ e) (he : e ≤ n) (hnp : np < 2 ^ 20) (hna : 0 < na) (h17 : fb_I v 104 17 = nI na) (h18 : fb_I v 104 18 = nI np) :
    ∃ v', fX9_takePart v 104 (nI fr) (nI e) = some v' ∧ fb_df v v' (fb_DP np) ∧ fb_I v' 104 18 = nI (np + 1) ∧ ((¬ fb_I v 104 20 = 0 ∨ fb_pt u n fr e = none) → fb_I v' 104 20 = 1) ∧ (∀ l kk, fb_pt u n fr e = some (l, kk) → fb_I v 104 20 = 0 → fb_I v' 104 20 = 0 ∧ (np < 6 → fb_I v' 119 np = nI l ∧ fb_I v' 120 np = nI kk ∧ fb_I v' 121 np = nI (na - 1))) := by
  obtain ⟨v1, a1, a2, a3⟩ := eRp hB h hfe he
  have hV1 := h.d27 a2
  have b17 : fb_I v1 104 17 = nI na := by rw [a2.2.2 104 17 (by unfold fb_27; omega), h17]
  have b18 : fb_I v1 104 18 = nI np := by rw [a2.2.2 104 18 (by unfold fb_27; omega), h18]
  have b20 : fb_I v1 104 20 = fb_I v 104 20 := a2.2.2 104 20 (by unfold fb_27; omega)
  have hd : fb_df v v1 (fb_DP np) := a2.mo (fun a k q => Or.inl ⟨q.1, Or.inr (Or.inr q.2)⟩)
  obtain ⟨X, hX⟩ : ∃ X, X = fb_on (Option.map (·.1) (fb_pt u n fr e)) := ⟨_, rfl⟩
  rw [← hX] at a1
  have e1 : fX9_takePart v 104 (nI fr) (nI e) = if fb_I v1 104 20 = 0 then (if 0 ≤ X then jX9_takePart_24 104 X 104 0 v1 else jX9_takePart_24 104 X 104 1 v1) else jX9_takePart_24 104 X 104 1 v1 := by unfold fX9_takePart; rw [a1]; rfl
  rw [e1]
  by_cases h0 : fb_I v 104 20 = 0
  · rw [if_pos (show fb_I v1 104 20 = 0 from b20.trans h0)]
    cases hp : fb_pt u n fr e with
    | none =>
      rw [hp] at hX
      have hX : X = -1 := hX
      subst hX
      rw [if_neg (show ¬ (0 : Int32) ≤ -1 by decide)]
      obtain ⟨v', c1, c2, c3, c4, c5⟩ := eTake24 hV1.1 hnp hna b17 b18 (b := 1) (x := -1) (Or.inr rfl)
      exact ⟨v', c1, hd.tr c2, c3, fun _ => c4, fun l kk q => by cases q⟩
    | some r =>
      obtain ⟨l, kk⟩ := r
      have hl := fb_pt_in hB hfe he hp
      rw [hp] at hX
      have hX : X = nI l := hX
      subst hX
      rw [if_pos (show (0 : Int32) ≤ nI l from nI_pos' (by omega))]
      obtain ⟨v', c1, c2, c3, c4, c5⟩ := eTake24 hV1.1 hnp hna b17 b18 (b := 0) (x := nI l) (Or.inl rfl)
      refine ⟨v', c1, hd.tr c2, c3, fun q => ?_, fun l' kk' q _ => ?_⟩
      · rcases q with q | q
        · exact absurd h0 q
        · cases q
      · cases q
        refine ⟨c4, fun h6 => ⟨(c5 h6).1, ?_, (c5 h6).2.2⟩⟩
        rw [(c5 h6).2.1, a3 l kk hp]
  · rw [if_neg (show ¬ fb_I v1 104 20 = 0 from fun q => h0 (b20.symm.trans q))]
    obtain ⟨v', c1, c2, c3, c4, c5⟩ := eTake24 hV1.1 hnp hna b17 b18 (b := 1) (x := X) (Or.inr rfl)
    exact ⟨v', c1, hd.tr c2, c3, fun _ => c4, fun l kk _ q => absurd q h0⟩

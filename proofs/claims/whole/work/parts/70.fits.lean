/-! run: the two ways to say that an entity fits -/
theorem eFits18 {v : fb_M} (hV : fb_St v) {f na np : Nat} {lf wd at_ : Nat → Nat} (hf : f < 8) (hP : fb_FQ v f na np lf wd at_) {e : Nat} (he : e < 10) {full val : Nat → Int32} (hr : ∀ l, l < 8 → (full l = 0 ∨ full l = 1) ∧ fb_I v 126 (8 * e + l) = full l ∧ fb_I v 125 (8 * e + l) = val l) {ag : Nat → Int32} (hg : ∀ i, i < fb_tks wd np → i < 12 ∧ fb_I v 129 i = ag i) :
    ∀ m a fu x, a + m = na → m < fu → (x = 0 ∨ x = 1) → gX9_fits_18 104 (nI f) (nI e) v fu x (nI a) = some (fb_an (fun k => fb_hw (wd k) (full (lf k)) (val (lf k)) (ag (fb_tks wd k)) (ag (fb_tks wd k + 1))) at_ np m a x) := by
  obtain ⟨hnp, hna, h112, h111, hp⟩ := id hP
  intro m
  induction m with
  | zero =>
    intro a fu x ha hfu hx
    obtain ⟨fu, rfl⟩ : ∃ k, fu = k + 1 := ⟨fu - 1, by omega⟩
    show bX9_fits_18 _ 104 (nI f) (nI e) x (nI a) v = _
    unfold bX9_fits_18
    rw [hV.ld_104_9, fb_n111, fb_gix hf (by omega), nI_clamp (n := f) (by omega), h111, if_pos (nI_le (by omega) (by omega)), fb_gdT hx]
    rfl
  | succ m ih =>
    intro a fu x ha hfu hx
    obtain ⟨fu, rfl⟩ : ∃ k, fu = k + 1 := ⟨fu - 1, by omega⟩
    have e0 : gX9_fits_18 104 (nI f) (nI e) v (fu + 1) x (nI a) = bX9_fits_18 (gX9_fits_18 104 (nI f) (nI e) v fu) 104 (nI f) (nI e) x (nI a) v := rfl
    rw [e0]
    unfold bX9_fits_18
    rw [hV.ld_104_9, fb_n111, fb_gix hf (by omega), nI_clamp (n := f) (by omega), h111, if_neg (nI_ge (by omega) (by omega)), show gX9_fits_38 (gX9_fits_18 104 (nI f) (nI e) v fu) 104 (nI f) (nI e) x (nI a) v fb_F 1 0 0 = _ from eFits38 hV hf hP he hr hg (gX9_fits_18 104 (nI f) (nI e) v fu) x (a := a) (by omega) np 0 fb_F 1 (by omega) (by unfold fb_F; omega) (Or.inr rfl), fb_an]
    refine ih (a + 1) fu _ (by omega) (by omega) ?_
    split
    · split
      · exact Or.inl rfl
      · exact Or.inr rfl
    · exact Or.inr rfl
theorem eFitsM {v : fb_M} (hV : fb_St v) {f na np : Nat} {lf wd at_ : Nat → Nat} (hf : f < 8) (hP : fb_FQ v f na np lf wd at_) {e : Nat} (he : e < 10) {full val : Nat → Int32} (hr : ∀ l, l < 8 → (full l = 0 ∨ full l = 1) ∧ fb_I v 126 (8 * e + l) = full l ∧ fb_I v 125 (8 * e + l) = val l) {ag : Nat → Int32} (hg : ∀ i, i < fb_tks wd np → i < 12 ∧ fb_I v 129 i = ag i) :
    fX9_fits v 104 (nI f) (nI e) = some (fb_an (fun k => fb_hw (wd k) (full (lf k)) (val (lf k)) (ag (fb_tks wd k)) (ag (fb_tks wd k + 1))) at_ np na 0 (if na = 0 then 1 else 0)) := by
  obtain ⟨hnp, hna, h112, h111, hp⟩ := id hP
  unfold fX9_fits
  rw [hV.ld_104_9, fb_n111, fb_gix hf (by omega), nI_clamp (n := f) (by omega), h111]
  by_cases h0 : na = 0
  · rw [if_pos (show nI na = 0 by rw [h0]; decide), if_pos h0]
    exact eFits18 hV hf hP he hr hg na 0 fb_F 1 (by omega) (by unfold fb_F; omega) (Or.inr rfl)
  · rw [if_neg (nI_ne0 (by omega) (by omega)), if_neg h0]
    exact eFits18 hV hf hP he hr hg na 0 fb_F 0 (by omega) (by unfold fb_F; omega) (Or.inl rfl)

/-! run: the two ways to say that an entity fits -/
theorem eFits18 {v : fb_M} (hV : fb_St v) {f na np : Nat} {lf wd at_ : Nat → Nat} (hf : f < 8) (hP : fb_FQ v f na np lf wd at_) {e : Nat} (he : e < 10) {full val : Nat → Int32} (hr : ∀ l, l < 8 → (full l = 0 ∨ full l = 1) ∧ fb_I v 126 (8 * e + l) = full l ∧ fb_I v 125 (8 * e + l) = val l) {ag : Nat → Int32} (hg : ∀ i, i < fb_tks wd np → i < 12 ∧ fb_I v 129 i = ag i) :
    ∀ m a fu x, a + m = na → m < fu → (x = 0 ∨ x = 1) → gX9_fits_18 104 (nI f) (nI e) v fu x (nI a) = some (fb_an (fun k => fb_hw (wd k) (full (lf k)) (val (lf k)) (ag (fb_tks wd k)) (ag (fb_tks wd k + 1))) at_ np m a x) := by
  obtain ⟨hnp, hna, h112, h111, hp⟩ := id hP
  intro m
  induction m with
  | zero =>
    intro a fu x ha hfu hx
    obtain ⟨fu, rfl⟩ : ∃ k, fu = k + 1 := ⟨fu - 1, by omega⟩
    show bX9_fits_18 _ 104 (nI f) (nI e) x (nI a) v = _
    unfold bX9_fits_18
    rw [hV.ld_104_9, fb_n111, fb_gix hf (by omega), nI_clamp (n := f) (by omega), h111, if_pos (nI_le (by omega) (by omega)), fb_gdT hx]
    rfl
  | succ m ih =>
    intro a fu x ha hfu hx
    obtain ⟨fu, rfl⟩ : ∃ k, fu = k + 1 := ⟨fu - 1, by omega⟩
    have e0 : gX9_fits_18 104 (nI f) (nI e) v (fu + 1) x (nI a) = bX9_fits_18 (gX9_fits_18 104 (nI f) (nI e) v fu) 104 (nI f) (nI e) x (nI a) v := rfl
    rw [e0]
    unfold bX9_fits_18
    rw [hV.ld_104_9, fb_n111, fb_gix hf (by omega), nI_clamp (n := f) (by omega), h111, if_neg (nI_ge (by omega) (by omega)), show gX9_fits_38 (gX9_fits_18 104 (nI f) (nI e) v fu) 104 (nI f) (nI e) x (nI a) v fb_F 1 0 0 = _ from eFits38 hV hf hP he hr hg (gX9_fits_18 104 (nI f) (nI e) v fu) x (a := a) (by omega) np 0 fb_F 1 (by omega) (by unfold fb_F; omega) (Or.inr rfl), fb_an]
    refine ih (a + 1) fu _ (by omega) (by omega) ?_
    split
    · split
      · exact Or.inl rfl
      · exact Or.inr rfl
    · exact Or.inr rfl
theorem eFitsM {v : fb_M} (hV : fb_St v) {f na np : Nat} {lf wd at_ : Nat → Nat} (hf : f < 8) (hP : fb_FQ v f na np lf wd at_) {e : Nat} (he : e < 10) {full val : Nat → Int32} (hr : ∀ l, l < 8 → (full l = 0 ∨ full l = 1) ∧ fb_I v 126 (8 * e + l) = full l ∧ fb_I v 125 (8 * e + l) = val l) {ag : Nat → Int32} (hg : ∀ i, i < fb_tks wd np → i < 12 ∧ fb_I v 129 i = ag i) :
    fX9_fits v 104 (nI f) (nI e) = some (fb_an (fun k => fb_hw (wd k) (full (lf k)) (val (lf k)) (ag (fb_tks wd k)) (ag (fb_tks wd k + 1))) at_ np na 0 (if na = 0 then 1 else 0)) := by
  obtain ⟨hnp, hna, h112, h111, hp⟩ := id hP
  unfold fX9_fits
  rw [hV.ld_104_9, fb_n111, fb_gix hf (by omega), nI_clamp (n := f) (by omega), h111]
  by_cases h0 : na = 0
  · rw [if_pos (show nI na = 0 by rw [h0]; decide), if_pos h0]
    exact eFits18 hV hf hP he hr hg na 0 fb_F 1 (by omega) (by unfold fb_F; omega) (Or.inr rfl)
  · rw [if_neg (nI_ne0 (by omega) (by omega)), if_neg h0]
    exact eFits18 hV hf hP he hr hg na 0 fb_F 0 (by omega) (by unfold fb_F; omega) (Or.inl rfl)
theorem fb_al_v {h : Nat → Int32} {at_ : Nat → Nat} {a : Nat} (h01 : ∀ k, h k = 0 ∨ h k = 1) : ∀ m k x, (x = 0 ∨ x = 1) → (fb_al h at_ a m k x = 0 ∨ fb_al h at_ a m k x = 1) ∧ (¬ fb_al h at_ a m k x = 0 ↔ ¬ x = 0 ∧ ∀ j, k ≤ j → j < k + m → at_ j = a → ¬ h j = 0)
  | 0, k, x, hx => ⟨hx, fun q => ⟨q, fun j h1 h2 => by omega⟩, fun q => q.1⟩
  | m + 1, k, x, hx => by
    rw [fb_al]
    have hy : (if x = 0 then (0 : Int32) else if at_ k = a then h k else 1) = 0 ∨ (if x = 0 then (0 : Int32) else if at_ k = a then h k else 1) = 1 := by
      split
      · exact Or.inl rfl
      · split
        · exact h01 k
        · exact Or.inr rfl
    obtain ⟨i1, i2⟩ := fb_al_v (at_ := at_) (a := a) h01 m (k + 1) _ hy
    refine ⟨i1, i2.trans ⟨fun q => ?_, fun q => ?_⟩⟩
    · obtain ⟨q1, q2⟩ := q
      by_cases hx0 : x = 0
      · rw [if_pos hx0] at q1; exact absurd rfl q1
      · rw [if_neg hx0] at q1
        refine ⟨hx0, fun j h1 h2 h3 => ?_⟩
        by_cases hjk : j = k
        · subst hjk; rw [if_pos h3] at q1; exact q1
        · exact q2 j (by omega) (by omega) h3
    · refine ⟨?_, fun j h1 h2 h3 => q.2 j (by omega) (by omega) h3⟩
      rw [if_neg q.1]
      by_cases hka : at_ k = a
      · rw [if_pos hka]; exact q.2 k (Nat.le_refl _) (by omega) hka
      · rw [if_neg hka]; exact fb_10
theorem fb_an_v {h : Nat → Int32} {at_ : Nat → Nat} {np : Nat} (h01 : ∀ k, h k = 0 ∨ h k = 1) : ∀ m a x, (x = 0 ∨ x = 1) → (fb_an h at_ np m a x = 0 ∨ fb_an h at_ np m a x = 1) ∧ (¬ fb_an h at_ np m a x = 0 ↔ ¬ x = 0 ∨ ∃ b, a ≤ b ∧ b < a + m ∧ ∀ j, j < np → at_ j = b → ¬ h j = 0)
  | 0, a, x, hx => ⟨hx, fun q => Or.inl q, fun q => q.elim id (fun ⟨b, h1, h2, _⟩ => by omega)⟩
  | m + 1, a, x, hx => by
    rw [fb_an]
    have hy : (if x = 0 then (if fb_al h at_ a np 0 1 = 0 then (0 : Int32) else 1) else 1) = 0 ∨ (if x = 0 then (if fb_al h at_ a np 0 1 = 0 then (0 : Int32) else 1) else 1) = 1 := by
      split
      · split
        · exact Or.inl rfl
        · exact Or.inr rfl
      · exact Or.inr rfl
    obtain ⟨i1, i2⟩ := fb_an_v (at_ := at_) (np := np) h01 m (a + 1) _ hy
    obtain ⟨-, l2⟩ := fb_al_v (at_ := at_) (a := a) h01 np 0 1 (Or.inr rfl)
    refine ⟨i1, i2.trans ⟨fun q => ?_, fun q => ?_⟩⟩
    · rcases q with q | ⟨b, q1, q2, q3⟩
      · by_cases hx0 : x = 0
        · rw [if_pos hx0] at q
          by_cases hl : fb_al h at_ a np 0 1 = 0
          · rw [if_pos hl] at q; exact absurd rfl q
          · exact Or.inr ⟨a, Nat.le_refl _, by omega, fun j h1 h2 => (l2.mp hl).2 j (by omega) (by omega) h2⟩
        · exact Or.inl hx0
      · exact Or.inr ⟨b, by omega, by omega, q3⟩
    · by_cases hx0 : x = 0
      · rcases q with q | ⟨b, q1, q2, q3⟩
        · exact absurd hx0 q
        · by_cases hba : b = a
          · subst hba
            left
            rw [if_pos hx0, if_neg (l2.mpr ⟨fb_10, fun j _ h2 h3 => q3 j (by omega) h3⟩)]
            exact fb_10
          · exact Or.inr ⟨b, by omega, by omega, q3⟩
      · left
        rw [if_neg hx0]; exact fb_10

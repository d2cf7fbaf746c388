/-! run: which of two entities comes first, by the reference -/
def fb_GQ (v : fb_M) (f no : Nat) (lo dn : Nat → Nat) : Prop := no ≤ 3 ∧ fb_I v 113 f = nI no ∧ ∀ k, k < no → (lo k < 8 ∧ fb_I v 117 (3 * f + k) = nI (lo k)) ∧ (dn k < 2 ∧ fb_I v 118 (3 * f + k) = nI (dn k))
theorem fb_kyv {f v : Int32} (h : ¬ f = 0) : fb_ky f v = v.toInt := if_neg h
theorem fb_ky0 {f v : Int32} (h : f = 0) : fb_ky f v = -9223372036854775808 := if_pos h
theorem fb_i32 (v : Int32) : -9223372036854775808 < v.toInt := by
  have := Int32.le_toInt v
  omega
theorem eCmpL {v : fb_M} (hV : fb_St v) {f no : Nat} {lo dn : Nat → Nat} (hf : f < 8) (hP : fb_GQ v f no lo dn) {d e : Nat} (hd : d < 10) (he : e < 10) {A B : Nat → Int} (hA : ∀ k, k < no → A k = fb_sk (dn k) (fb_I v 126 (8 * d + lo k)) (fb_I v 125 (8 * d + lo k))) (hB : ∀ k, k < no → B k = fb_sk (dn k) (fb_I v 126 (8 * e + lo k)) (fb_I v 125 (8 * e + lo k))) :
    ∀ m i fu, i + m = no → m < fu → gX9_compare_3 104 (nI f) (nI d) (nI e) v fu (nI i) = some (fb_cp A B m i) := by
  obtain ⟨hno, h113, hk⟩ := hP
  intro m
  induction m with
  | zero =>
    intro i fu hi hfu
    obtain ⟨fu, rfl⟩ : ∃ k, fu = k + 1 := ⟨fu - 1, by omega⟩
    show bX9_compare_3 _ 104 (nI f) (nI d) (nI e) (nI i) v = _
    unfold bX9_compare_3
    rw [hV.ld_104_11, fb_n113, fb_gix hf (by omega), nI_clamp (n := f) (by omega), h113, if_pos (nI_le (by omega) (by omega)), fb_cp]
  | succ m ih =>
    intro i fu hi hfu
    obtain ⟨fu, rfl⟩ : ∃ k, fu = k + 1 := ⟨fu - 1, by omega⟩
    obtain ⟨⟨l8, hl⟩, ⟨d2, hdn⟩⟩ := hk i (by omega)
    have e0 : gX9_compare_3 104 (nI f) (nI d) (nI e) v (fu + 1) (nI i) = bX9_compare_3 (gX9_compare_3 104 (nI f) (nI d) (nI e) v fu) 104 (nI f) (nI d) (nI e) (nI i) v := rfl
    have hj : ∀ c : Int32, jX9_compare_135 (gX9_compare_3 104 (nI f) (nI d) (nI e) v fu) 104 (nI f) (nI d) (nI e) (nI i) c v = if c = 0 then some (fb_cp A B m (i + 1)) else if dn i = 0 then some c else some (-c) := by
      intro c
      unfold jX9_compare_135
      by_cases hc : c = 0
      · rw [if_pos hc, if_pos hc, nI_1]; exact ih (i + 1) fu (by omega) (by omega)
      · rw [if_neg hc, if_neg hc, hV.ld_104_16, fb_n118, fb_3, fb_gix (show 3 * f + i < 24 by omega) (by omega), nI_clamp (n := 3 * f + i) (by omega), hdn]
        rcases (show dn i = 0 ∨ dn i = 1 by omega) with q | q
        · rw [if_pos (show nI (dn i) = 0 by rw [q]; decide), if_pos q]
        · rw [if_neg (show ¬ nI (dn i) = 0 by rw [q]; decide), if_neg (by omega)]
    rw [e0]
    unfold bX9_compare_3
    rw [hV.ld_104_11, fb_n113, fb_gix hf (by omega), nI_clamp (n := f) (by omega), h113, if_neg (nI_ge (by omega) (by omega)), hV.ld_104_15, fb_n117, fb_3, fb_gix (show 3 * f + i < 24 by omega) (by omega), nI_clamp (n := 3 * f + i) (by omega), hl, hV.ld_104_15, fb_n117, fb_gix2 (show 3 * f + i < 24 by omega) (by omega), hl, hV.ld_104_31, fb_n126, fb_8, fb_8, fb_gix (show 8 * d + lo i < 80 by omega) (by omega), nI_clamp (n := 8 * d + lo i) (by omega), hV.ld_104_31, fb_n126, fb_gix (show 8 * e + lo i < 80 by omega) (by omega), nI_clamp (n := 8 * e + lo i) (by omega), hV.ld_104_31, fb_n126, fb_gix2 (show 8 * e + lo i < 80 by omega) (by omega), hV.ld_104_30, fb_n125, fb_gix2 (show 8 * d + lo i < 80 by omega) (by omega), hV.ld_104_30, fb_n125, fb_gix2 (show 8 * e + lo i < 80 by omega) (by omega), hV.ld_104_30, fb_n125, fb_gix2 (show 8 * d + lo i < 80 by omega) (by omega), hV.ld_104_30, fb_n125, fb_gix2 (show 8 * e + lo i < 80 by omega) (by omega), hj, hj, hj, fb_cp, hA i (by omega), hB i (by omega)]
    unfold fb_sk
    generalize fb_I v 126 (8 * d + lo i) = f1
    generalize fb_I v 126 (8 * e + lo i) = f2
    generalize fb_I v 125 (8 * d + lo i) = v1
    generalize fb_I v 125 (8 * e + lo i) = v2
    have t1 := fb_i32 v1
    have t2 := fb_i32 v2
    have hfin : ∀ (x y : Int) (c : Int32), ((c = 0 ∧ x = y) ∨ (c = -1 ∧ x < y) ∨ (c = 1 ∧ y < x)) → (if c = 0 then some (fb_cp A B m (i + 1)) else if dn i = 0 then some c else some (-c)) = some (if (if dn i = 0 then x else -x) = (if dn i = 0 then y else -y) then fb_cp A B m (i + 1) else if (if dn i = 0 then x else -x) < (if dn i = 0 then y else -y) then -1 else 1) := by
      intro x y c h
      rcases (show dn i = 0 ∨ dn i = 1 by omega) with q | q
      · rw [if_pos q, if_pos q, if_pos q]
        rcases h with ⟨rfl, h⟩ | ⟨rfl, h⟩ | ⟨rfl, h⟩
        · rw [if_pos rfl, if_pos h]
        · rw [if_neg (by decide), if_neg (by omega), if_pos h]
        · rw [if_neg (by decide), if_neg (by omega), if_neg (by omega)]
      · rw [if_neg (show ¬ dn i = 0 by omega), if_neg (show ¬ dn i = 0 by omega), if_neg (show ¬ dn i = 0 by omega)]
        rcases h with ⟨rfl, h⟩ | ⟨rfl, h⟩ | ⟨rfl, h⟩
        · rw [if_pos rfl, if_pos (by omega)]
        · rw [if_neg (by decide), if_neg (by omega), if_neg (by omega)]; rfl
        · rw [if_neg (by decide), if_neg (by omega), if_pos (by omega)]
    by_cases h1 : f1 = 0
    · rw [if_pos h1, fb_ky0 h1]
      by_cases h2 : f2 = 0
      · rw [if_pos h2, fb_ky0 h2]
        exact hfin _ _ 0 (Or.inl ⟨rfl, rfl⟩)
      · rw [if_neg h2, fb_kyv h2]
        exact hfin _ _ (-1) (Or.inr (Or.inl ⟨rfl, t2⟩))
    · rw [if_neg h1, fb_kyv h1]
      by_cases h2 : f2 = 0
      · rw [if_pos h2, fb_ky0 h2]
        exact hfin _ _ 1 (Or.inr (Or.inr ⟨rfl, t1⟩))
      · rw [if_neg h2, fb_kyv h2]
        by_cases h3 : v2 ≤ v1
        · rw [if_pos h3]
          by_cases h4 : v1 ≤ v2
          · rw [if_pos h4]
            exact hfin _ _ 0 (Or.inl ⟨rfl, by have := Int32.le_iff_toInt_le.mp h3; have := Int32.le_iff_toInt_le.mp h4; omega⟩)
          · rw [if_neg h4]
            exact hfin _ _ 1 (Or.inr (Or.inr ⟨rfl, Int.not_le.mp (fun q => h4 (Int32.le_iff_toInt_le.mpr q))⟩))
        · rw [if_neg h3]
          exact hfin _ _ (-1) (Or.inr (Or.inl ⟨rfl, Int.not_le.mp (fun q => h3 (Int32.le_iff_toInt_le.mpr q))⟩))

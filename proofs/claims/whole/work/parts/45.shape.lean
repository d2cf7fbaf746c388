/-! what is asked of a finder: shape, part -/
theorem eX9_takes (u : fb_M) {w : Nat} (hw : w ≤ 10) : fX9_takes u (nI w) = some (nI (fb_tk w)) := by
  unfold fX9_takes fb_tk
  by_cases h : w = 6
  · subst h; rfl
  · rw [if_neg (show ¬ nI w = 6 from fun q => h ((nI_eq (b := 6) (by omega) (by omega)).mp q)), if_neg h]
    by_cases h2 : w < 6
    · rw [if_pos (show nI w ≤ 6 from nI_le (b := 6) (by omega) (by omega)), if_pos h2]; rfl
    · rw [if_neg (show ¬ nI w ≤ 6 from nI_ge (a := 6) (by omega) (by omega)), if_neg h2]; rfl
theorem eX10_argumentsTaken (u : fb_M) {w : Nat} (hw : w ≤ 10) : fX10_argumentsTaken u (nI w) = some (nI (fb_tk w)) := by
  unfold fX10_argumentsTaken fb_tk
  by_cases h : w = 6
  · subst h; rfl
  · rw [if_neg (show ¬ nI w = 6 from fun q => h ((nI_eq (b := 6) (by omega) (by omega)).mp q)), if_neg h]
    by_cases h2 : w < 6
    · rw [if_neg (show ¬ (6 : Int32) ≤ nI w from nI_ge (b := 6) (by omega) (by omega)), if_pos h2]; rfl
    · rw [if_pos (show (6 : Int32) ≤ nI w from nI_le (a := 6) (by omega) (by omega)), if_neg h2]; rfl
theorem fb_6 (e l : Nat) : (6 : Int32) * nI e + nI l = nI (6 * e + l) := by
  rw [show (6 : Int32) = nI 6 from rfl, pk_mul, nI_add]
theorem fb_3 (e l : Nat) : (3 : Int32) * nI e + nI l = nI (3 * e + l) := by
  rw [show (3 : Int32) = nI 3 from rfl, pk_mul, nI_add]
theorem eX9_takesAllL {u : fb_M} (hS : fb_St u) {f np : Nat} (hf : f < 8) (hnp : np ≤ 6) {wd : Nat → Nat} (h1 : fb_I u 112 f = nI np) (h2 : ∀ k, k < np → wd k ≤ 10 ∧ fb_I u 115 (6 * f + k) = nI (wd k)) : ∀ m k fu, k + m = np → m < fu → gX9_takesAll_4 104 (nI f) u fu (nI (fb_tks wd k)) (nI k) = some (nI (fb_tks wd np)) := by
  intro m
  induction m with
  | zero =>
    intro k fu hk hfu
    obtain ⟨fu, rfl⟩ : ∃ k, fu = k + 1 := ⟨fu - 1, by omega⟩
    show bX9_takesAll_4 _ 104 (nI f) _ (nI k) u = _
    unfold bX9_takesAll_4
    rw [hS.ld_104_10, fb_n112, fb_gix hf (by omega), nI_clamp (n := f) (by omega), h1, if_pos (nI_le (by omega) (by omega)), show k = np by omega]
  | succ m ih =>
    intro k fu hk hfu
    obtain ⟨fu, rfl⟩ : ∃ k, fu = k + 1 := ⟨fu - 1, by omega⟩
    show bX9_takesAll_4 _ 104 (nI f) _ (nI k) u = _
    unfold bX9_takesAll_4
    rw [hS.ld_104_10, fb_n112, fb_gix hf (by omega), nI_clamp (n := f) (by omega), h1, if_neg (nI_ge (by omega) (by omega)), hS.ld_104_13, fb_n115, fb_6, fb_gix (show 6 * f + k < 48 by omega) (by omega), nI_clamp (n := 6 * f + k) (by omega), (h2 k (by omega)).2, eX9_takes u (h2 k (by omega)).1, Option.bind_some, nI_add, nI_1]
    exact ih (k + 1) fu (by omega) (by omega)
theorem eX9_takesAll {u : fb_M} (hS : fb_St u) {f np : Nat} (hf : f < 8) (hnp : np ≤ 6) {wd : Nat → Nat} (h1 : fb_I u 112 f = nI np) (h2 : ∀ k, k < np → wd k ≤ 10 ∧ fb_I u 115 (6 * f + k) = nI (wd k)) : fX9_takesAll u 104 (nI f) = some (nI (fb_tks wd np)) :=
  eX9_takesAllL hS hf hnp h1 h2 np 0 fb_F (by omega) (by unfold fb_F; omega)
theorem eX8_isFinder {u : fb_M} {n : Nat} (hn : fb_I u 0 4 = nI n) (h8 : n ≤ 8) (k : Int32) : (∃ j, j < n ∧ k = nI j ∧ fX8_isFinder u 0 k = some 1) ∨ ((k < 0 ∨ nI n ≤ k) ∧ fX8_isFinder u 0 k = some 0) := by
  unfold fX8_isFinder
  rw [hn]
  rcases pk_ix k (n := n) (by omega) with h | h | ⟨j, hj, rfl⟩
  · exact Or.inr ⟨Or.inl h, by rw [if_pos h]⟩
  · refine Or.inr ⟨Or.inr h, ?_⟩
    by_cases h0 : k < 0
    · rw [if_pos h0]
    · rw [if_neg h0, if_pos h]
  · exact Or.inl ⟨j, hj, rfl, by rw [if_neg (nI_pos (by omega)), if_neg (nI_ge hj (by omega))]⟩
theorem op_shape {u : fb_M} (hv : fb_Inv u) (x k : Int32) : ∃ r, fX8_shape u 0 x k = some r ∧ fX9_shape u 104 x k = some r := by
  obtain ⟨hS, hT, hL, ⟨n, h8, hn, hm, hf⟩, hE, hO, hA, hR⟩ := hv
  rcases eX8_isFinder hn h8 x with ⟨j, hj, rfl, hh⟩ | ⟨hk, hh⟩
  · obtain ⟨s, lim, sg, na, np, no, lf, wd, at_, lo, dn, b1, b2, b3, b4, b5, b6, ⟨c1, d1⟩, ⟨c2, d2⟩, ⟨c3, d3⟩, ⟨c4, d4⟩, ⟨c5, d5⟩, c6, ⟨c7, d7⟩, hp, -⟩ := hf j hj
    have e1 : fX8_shape u 0 (nI j) k = (fX2_measure u (23 + 6 * j) k).bind fun r15 => some r15 := by
      unfold fX8_shape
      rw [hh, Option.bind_some, if_neg (by decide), hS.ld_0_3, fb_n22, fb_gix (show j < 9 by omega) (by omega), nI_clamp (n := j) (by omega), hS.ld_find (show j < 9 by omega)]
    rw [e1]
    unfold fX2_measure fX9_shape
    rw [if_neg (nI_pos (by omega)), hm, if_pos (nI_lt hj (by omega)), c1, c2, c4, c5, c6, c7, hS.ld_104_6, hS.ld_104_7, hS.ld_104_9, hS.ld_104_10, hS.ld_104_11, fb_n108, fb_n109, fb_n111, fb_n112, fb_n113, fb_gix (show j < 8 by omega) (by omega), fb_gix (show j < 8 by omega) (by omega), fb_gix (show j < 8 by omega) (by omega), fb_gix (show j < 8 by omega) (by omega), fb_gix (show j < 8 by omega) (by omega), nI_clamp (n := j) (by omega), d1, d2, d4, d5, d7, eX9_takesAll hS (show j < 8 by omega) b5 d5 (fun k hk => ⟨(hp k hk).2.1.1, (hp k hk).2.1.2.2⟩)]
    by_cases h0 : k = 0
    · exact ⟨_, by rw [if_pos h0]; rfl, by rw [if_pos h0]⟩
    by_cases h1 : k = 1
    · exact ⟨_, by rw [if_neg h0, if_pos h1]; rfl, by rw [if_neg h0, if_pos h1]⟩
    by_cases h2 : k = 2
    · exact ⟨_, by rw [if_neg h0, if_neg h1, if_pos h2]; rfl, by rw [if_neg h0, if_neg h1, if_pos h2]⟩
    by_cases h3 : k = 3
    · exact ⟨_, by rw [if_neg h0, if_neg h1, if_neg h2, if_pos h3]; rfl, by rw [if_neg h0, if_neg h1, if_neg h2, if_pos h3]⟩
    by_cases h4 : k = 4
    · exact ⟨_, by rw [if_neg h0, if_neg h1, if_neg h2, if_neg h3, if_pos h4]; rfl, by rw [if_neg h0, if_neg h1, if_neg h2, if_neg h3, if_pos h4]; rfl⟩
    by_cases h5 : k = 5
    · exact ⟨_, by rw [if_neg h0, if_neg h1, if_neg h2, if_neg h3, if_neg h4, if_pos h5]; rfl, by rw [if_neg h0, if_neg h1, if_neg h2, if_neg h3, if_neg h4, if_pos h5]⟩
    exact ⟨_, by rw [if_neg h0, if_neg h1, if_neg h2, if_neg h3, if_neg h4, if_neg h5]; rfl, by rw [if_neg h0, if_neg h1, if_neg h2, if_neg h3, if_neg h4, if_neg h5]⟩
  · refine ⟨-1, ?_, ?_⟩
    · unfold fX8_shape
      rw [hh]
      rfl
    · unfold fX9_shape
      by_cases h0 : x < 0
      · rw [if_pos h0]
      · rw [if_neg h0, hm, if_neg (Int32.not_lt.mpr (hk.resolve_left h0))]
theorem op_part {u : fb_M} (hv : fb_Inv u) (x k : Int32) : ∃ r, fX8_part u 0 x k = some r ∧ fX9_part u 104 x k = some r := by
  obtain ⟨hS, hT, hL, ⟨n, h8, hn, hm, hf⟩, hE, hO, hA, hR⟩ := hv
  rcases eX8_isFinder hn h8 x with ⟨j, hj, rfl, hh⟩ | ⟨hk, hh⟩
  · obtain ⟨s, lim, sg, na, np, no, lf, wd, at_, lo, dn, b1, b2, b3, b4, b5, b6, ⟨c1, d1⟩, ⟨c2, d2⟩, ⟨c3, d3⟩, ⟨c4, d4⟩, ⟨c5, d5⟩, c6, ⟨c7, d7⟩, hp, -⟩ := hf j hj
    have e1 : fX8_part u 0 (nI j) k = (fX2_partCode u (23 + 6 * j) k).bind fun r15 => some r15 := by
      unfold fX8_part
      rw [hh, Option.bind_some, if_neg (by decide), hS.ld_0_3, fb_n22, fb_gix (show j < 9 by omega) (by omega), nI_clamp (n := j) (by omega), hS.ld_find (show j < 9 by omega)]
    rw [e1]
    unfold fX2_partCode fX9_part
    rw [if_neg (nI_pos (n := j) (by omega)), hm, if_neg (nI_ge hj (by omega)), c5, hS.ld_104_10, fb_n112, fb_gix (show j < 8 by omega) (by omega), nI_clamp (n := j) (by omega), d5]
    rcases pk_ix k (n := np) (by omega) with h | h | ⟨i, hi, rfl⟩
    · exact ⟨_, by rw [if_pos h]; rfl, by rw [if_pos h]⟩
    · by_cases h0 : k < 0
      · exact ⟨_, by rw [if_pos h0]; rfl, by rw [if_pos h0]⟩
      · exact ⟨_, by rw [if_neg h0, if_pos h]; rfl, by rw [if_neg h0, if_neg (Int32.not_lt.mpr h)]⟩
    · rw [if_neg (nI_pos (n := i) (by omega)), if_neg (nI_ge hi (by omega)), if_neg (show ¬ (6 : Int32) ≤ nI i from nI_ge (b := 6) (by omega) (by omega)), if_neg (nI_pos (n := i) (by omega)), if_pos (nI_lt hi (by omega)), hS.ld_fpl (show j < 9 by omega), fb_n_fpl j (by omega), hS.ld_fpk (show j < 9 by omega), fb_n_fpk j (by omega), fb_gix (show i < 6 by omega) (by omega), fb_gix (show i < 6 by omega) (by omega), nI_clamp (n := i) (by omega),
        hS.ld_104_12, hS.ld_104_13, fb_n114, fb_n115, fb_6, fb_gix (show 6 * j + i < 48 by omega) (by omega), fb_gix (show 6 * j + i < 48 by omega) (by omega), nI_clamp (n := 6 * j + i) (by omega), (hp i hi).1.2.1, show fb_I u 114 (6 * j + i) = nI (lf i) from (hp i hi).1.2.2, (hp i hi).2.1.2.1, show fb_I u 115 (6 * j + i) = nI (wd i) from (hp i hi).2.1.2.2]
      exact ⟨_, rfl, rfl⟩
  · refine ⟨-1, ?_, ?_⟩
    · unfold fX8_part
      rw [hh]
      rfl
    · unfold fX9_part
      by_cases h0 : x < 0
      · rw [if_pos h0]
      · rw [if_neg h0, hm, if_pos (hk.resolve_left h0)]

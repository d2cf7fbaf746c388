/-! declare -/
/-- only ints have changed, and only at D -/
def fb_df (u w : fb_M) (D : Nat → Nat → Prop) : Prop := fb_R w = fb_R u ∧ fb_L w = fb_L u ∧ ∀ a k, ¬ D a k → fb_I w a k = fb_I u a k
theorem fb_df.rf (u : fb_M) (D : Nat → Nat → Prop) : fb_df u u D := ⟨rfl, rfl, fun _ _ _ => rfl⟩
theorem fb_df.tr {u v w : fb_M} {D : Nat → Nat → Prop} (h1 : fb_df u v D) (h2 : fb_df v w D) : fb_df u w D := ⟨h2.1.trans h1.1, h2.2.1.trans h1.2.1, fun a k h => (h2.2.2 a k h).trans (h1.2.2 a k h)⟩
theorem fb_df.mo {u v : fb_M} {D E : Nat → Nat → Prop} (h1 : fb_df u v D) (h : ∀ a k, D a k → E a k) : fb_df u v E := ⟨h1.1, h1.2.1, fun a k hh => h1.2.2 a k (fun q => hh (h a k q))⟩
theorem fb_df.wI {u v : fb_M} {D : Nat → Nat → Prop} (h : fb_df u v D) {b k : Nat} {x : Int32} (hb : D b k) : fb_df u (fb_wI v b k x) D := h.tr ⟨rfl, rfl, fun a j hh => by
  rw [fb_I_wI, if_neg (fun q => hh (by rw [q.1, q.2]; exact hb))]⟩
theorem fb_df.St {u v : fb_M} {D : Nat → Nat → Prop} (h : fb_df u v D) (hS : fb_St u) : fb_St v := fun a k h1 h2 => by rw [h.1]; exact hS a k h1 h2
theorem fb_df.I {u v : fb_M} {D : Nat → Nat → Prop} (h : fb_df u v D) {a : Nat} (ha : ∀ k, ¬ D a k) : fb_I v a = fb_I u a := funext fun k => h.2.2 a k (ha k)
theorem fb_df.kp {u v : fb_M} {D : Nat → Nat → Prop} (h : fb_df u v D) {P : Nat → Prop} (hP : ∀ a k, P a → ¬ D a k) : fb_kp u v P := fun a ha => ⟨h.I (fun k => hP a k ha), by rw [h.2.1], by rw [h.1]⟩
theorem fb_IwI_eq (u : fb_M) (a k : Nat) (x : Int32) : fb_I (fb_wI u a k x) a k = x := by rw [fb_I_wI, if_pos ⟨rfl, rfl⟩]
theorem fb_IwI_ne (u : fb_M) {a k b j : Nat} (x : Int32) (h : ¬ (b = a ∧ j = k)) : fb_I (fb_wI u a k x) b j = fb_I u b j := by rw [fb_I_wI, if_neg h]
theorem nI_sub {a b : Nat} (h : b ≤ a) : nI a - nI b = nI (a - b) := by
  rw [show nI a = nI (a - b) + nI b by rw [nI_add, Nat.sub_add_cancel h], Int32.add_sub_cancel]
theorem fb_10 : ¬ (1 : Int32) = 0 := by decide
/-- a path that is no good stays so -/
theorem ePathBad {v : fb_M} (hV : fb_St v) {n : Nat} (h1 : fb_I v 104 1 = nI n) (h80 : n ≤ 80) : ∀ m i fv x y, i + m = n → m < fv → gX9_isPath_9 104 v fv x y 0 (nI i) = some 0 := by
  intro m
  induction m with
  | zero =>
    intro i fv x y hi hf
    obtain ⟨fv, rfl⟩ : ∃ k, fv = k + 1 := ⟨fv - 1, by omega⟩
    show bX9_isPath_9 _ 104 x y 0 (nI i) v = _
    unfold bX9_isPath_9
    rw [h1, if_pos (nI_le (by omega) (by omega)), if_pos rfl]
  | succ m ih =>
    intro i fv x y hi hf
    obtain ⟨fv, rfl⟩ : ∃ k, fv = k + 1 := ⟨fv - 1, by omega⟩
    show bX9_isPath_9 _ 104 x y 0 (nI i) v = _
    unfold bX9_isPath_9
    rw [h1, if_neg (nI_ge (by omega) (by omega)), hV.ld_104_0, fb_n105, fb_gix (show i < 80 by omega) (by omega), if_pos rfl, if_pos rfl, nI_1, ih (i + 1) fv _ _ (by omega) (by omega), ih (i + 1) fv _ _ (by omega) (by omega)]
    split <;> rfl
theorem ePathL {u v : fb_M} (hS : fb_St u) (hV : fb_St v) {n : Nat} (hT : fb_Tx u v n) : ∀ m i fu fv a rn, i + m = n → m < fu → m < fv → rn ≤ 12 → i ≤ 13 * a + rn → rn ≤ i → a ≤ i →
    ∃ r, gX0_isPath_6 1 u fu (nI (a + 1)) (nI rn) (nI i) = some r ∧ gX9_isPath_9 104 v fv (nI (a + 1)) (nI rn) 1 (nI i) = some r ∧ (r = 0 ∨ (r = 1 ∧ 0 < n ∧ n ≤ 38)) := by
  obtain ⟨h80, h1, h2, h3⟩ := id hT
  intro m
  induction m with
  | zero =>
    intro i fu fv a rn hi hf hg hr hb hri hai
    obtain ⟨fu, rfl⟩ : ∃ k, fu = k + 1 := ⟨fu - 1, by omega⟩
    obtain ⟨fv, rfl⟩ : ∃ k, fv = k + 1 := ⟨fv - 1, by omega⟩
    have e5 : gX0_isPath_6 1 u (fu + 1) (nI (a + 1)) (nI rn) (nI i) = bX0_isPath_6 (gX0_isPath_6 1 u fu) 1 (nI (a + 1)) (nI rn) (nI i) u := rfl
    have e9 : gX9_isPath_9 104 v (fv + 1) (nI (a + 1)) (nI rn) 1 (nI i) = bX9_isPath_9 (gX9_isPath_9 104 v fv) 104 (nI (a + 1)) (nI rn) 1 (nI i) v := rfl
    rw [e5, e9]
    unfold bX0_isPath_6 bX9_isPath_9
    rw [h1, h2, if_pos (nI_le (by omega) (by omega)), if_pos (nI_le (by omega) (by omega)), if_neg fb_10]
    by_cases hr0 : rn = 0
    · rw [if_pos (show nI rn ≤ 0 by rw [hr0]; decide)]
      exact ⟨0, rfl, rfl, Or.inl rfl⟩
    · rw [if_neg (nI_nle (by omega) (by omega))]
      by_cases ha : 3 < a + 1
      · rw [if_pos (show (3 : Int32) < nI (a + 1) from nI_lt (a := 3) ha (by omega))]
        exact ⟨0, rfl, rfl, Or.inl rfl⟩
      · rw [if_neg (show ¬ (3 : Int32) < nI (a + 1) from nI_nlt (a := 3) (by omega) (by omega))]
        exact ⟨1, rfl, rfl, Or.inr ⟨rfl, by omega, by omega⟩⟩
  | succ m ih =>
    intro i fu fv a rn hi hf hg hr hb hri hai
    obtain ⟨fu, rfl⟩ : ∃ k, fu = k + 1 := ⟨fu - 1, by omega⟩
    obtain ⟨fv, rfl⟩ : ∃ k, fv = k + 1 := ⟨fv - 1, by omega⟩
    have hik : i < n := by omega
    have e5 : gX0_isPath_6 1 u (fu + 1) (nI (a + 1)) (nI rn) (nI i) = bX0_isPath_6 (gX0_isPath_6 1 u fu) 1 (nI (a + 1)) (nI rn) (nI i) u := rfl
    have e9 : gX9_isPath_9 104 v (fv + 1) (nI (a + 1)) (nI rn) 1 (nI i) = bX9_isPath_9 (gX9_isPath_9 104 v fv) 104 (nI (a + 1)) (nI rn) 1 (nI i) v := rfl
    have hbad : ∀ x y, gX9_isPath_9 104 v fv x y 0 (nI (i + 1)) = some 0 := fun x y => ePathBad hV h2 h80 m (i + 1) fv x y (by omega) (by omega)
    rw [e5, e9]
    unfold bX0_isPath_6 bX9_isPath_9 jX0_isPath_41 jX9_isPath_99
    rw [h1, h2, if_neg (nI_ge hik (by omega)), if_neg (nI_ge hik (by omega)), hS.ld_1_0, hV.ld_104_0, fb_n2, fb_n105, fb_gix (show i < 80 by omega) (by omega), fb_gix (show i < 80 by omega) (by omega), nI_clamp (n := i) (by omega), (h3 i hik).1, eX8_isSmall, eX8_isLetterOrFigure, eX9_small, eX9_capital, eX9_figure, nI_1, nI_1, nI_1, hbad, hbad]
    generalize fb_I u 2 i = c
    by_cases hc : c = 46
    · have h46 : ¬ fb_sml c := by rw [hc]; decide
      rw [if_pos hc, if_pos hc, if_neg fb_10]
      by_cases hr0 : rn = 0
      · rw [if_pos (show nI rn ≤ 0 by rw [hr0]; decide), if_pos (show nI rn ≤ 0 by rw [hr0]; decide), if_neg (show ¬ (12 : Int32) ≤ nI rn by rw [hr0]; decide), if_pos (show nI rn = 0 by rw [hr0]; decide), if_neg h46, Option.bind_some, if_pos rfl]
        exact ⟨0, rfl, rfl, Or.inl rfl⟩
      · rw [if_neg (nI_nle (by omega) (by omega)), if_neg (nI_nle (by omega) (by omega))]
        exact ih (i + 1) fu fv (a + 1) 0 (by omega) (by omega) (by omega) (by omega) (by omega) (by omega) (by omega)
    · rw [if_neg hc, if_neg hc, if_neg fb_10]
      by_cases h12 : 12 ≤ rn
      · rw [if_pos (show (12 : Int32) ≤ nI rn from nI_le (a := 12) h12 (by omega)), if_pos (show (12 : Int32) ≤ nI rn from nI_le (a := 12) h12 (by omega)), if_neg (nI_ne0 (by omega) (by omega))]
        refine ⟨0, rfl, ?_, Or.inl rfl⟩
        by_cases hA : fb_sml c <;> by_cases hB : fb_cap c <;> by_cases hC : fb_fig c <;> simp [hA, hB, hC]
      · rw [if_neg (show ¬ (12 : Int32) ≤ nI rn from nI_ge (b := 12) (by omega) (by omega)), if_neg (show ¬ (12 : Int32) ≤ nI rn from nI_ge (b := 12) (by omega) (by omega))]
        have hk := ih (i + 1) fu fv a (rn + 1) (by omega) (by omega) (by omega) (by omega) (by omega) (by omega) (by omega)
        by_cases hr0 : rn = 0
        · rw [if_pos (show nI rn = 0 by rw [hr0]; decide), if_pos (show nI rn = 0 by rw [hr0]; decide), Option.bind_some, Option.bind_some]
          by_cases hA : fb_sml c
          · rw [if_pos hA, if_neg fb_10, if_neg fb_10]
            exact hk
          · rw [if_neg hA, if_pos rfl, if_pos rfl]
            exact ⟨0, rfl, rfl, Or.inl rfl⟩
        · rw [if_neg (nI_ne0 (by omega) (by omega)), if_neg (nI_ne0 (by omega) (by omega)), Option.bind_some, Option.bind_some, Option.bind_some, Option.bind_some]
          by_cases hA : fb_sml c
          · rw [if_pos (show fb_lof c from Or.inr (Or.inl hA)), if_neg fb_10, if_pos hA, if_neg fb_10]
            exact hk
          by_cases hB : fb_cap c
          · rw [if_pos (show fb_lof c from Or.inl hB), if_neg fb_10, if_neg hA, if_pos rfl, if_pos hB, if_neg fb_10]
            exact hk
          by_cases hC : fb_fig c
          · rw [if_pos (show fb_lof c from Or.inr (Or.inr hC)), if_neg fb_10, if_neg hA, if_pos rfl, if_neg hB, if_pos rfl, if_pos hC, if_neg fb_10]
            exact hk
          rw [if_neg (show ¬ fb_lof c from fun h => h.elim hB (fun h => h.elim hA hC)), if_pos rfl, if_neg hA, if_pos rfl, if_neg hB, if_pos rfl, if_neg hC, if_pos rfl]
          exact ⟨0, rfl, rfl, Or.inl rfl⟩
theorem ePath {u v : fb_M} (hS : fb_St u) (hV : fb_St v) {n : Nat} (hT : fb_Tx u v n) : ∃ r, fX0_isPath u 1 = some r ∧ fX9_isPath v 104 = some r ∧ (r = 0 ∨ (r = 1 ∧ 0 < n ∧ n ≤ 38)) := by
  have h80 := hT.1
  exact ePathL hS hV hT n 0 fb_F fb_F 0 0 (by omega) (by unfold fb_F; omega) (by unfold fb_F; omega) (by omega) (by omega) (by omega) (by omega)
theorem eClashL {u v : fb_M} (hS : fb_St u) (hV : fb_St v) {n : Nat} (hT : fb_Tx u v n) {l k : Nat} (hl : l < 8) (hk : k ≤ 38) (h1 : fb_I u (5 + 2 * l) 1 = nI k) (h2 : fb_I v 107 l = nI k) (h3 : ∀ i, i < k → fb_I v 106 (40 * l + i) = fb_I u (6 + 2 * l) i ∧ fb_okc (fb_I u (6 + 2 * l) i)) {w : Nat} (hw : w = min k n) :
    ∀ m i fu fv, i + m = w → m < fu → m < fv → ∃ r, gX5_clashesWith_14 (5 + 2 * l) 1 (nI w) u fu (nI i) = some r ∧ gX9_clashes_29 104 (nI l) (nI w) v fv (nI i) = some r ∧ (r = 0 ∨ r = 1) := by
  obtain ⟨h80, ht1, ht2, ht3⟩ := id hT
  intro m
  induction m with
  | zero =>
    intro i fu fv hi hf hg
    obtain ⟨fu, rfl⟩ : ∃ k, fu = k + 1 := ⟨fu - 1, by omega⟩
    obtain ⟨fv, rfl⟩ : ∃ k, fv = k + 1 := ⟨fv - 1, by omega⟩
    have e5 : gX5_clashesWith_14 (5 + 2 * l) 1 (nI w) u (fu + 1) (nI i) = bX5_clashesWith_14 (gX5_clashesWith_14 (5 + 2 * l) 1 (nI w) u fu) (5 + 2 * l) 1 (nI w) (nI i) u := rfl
    have e9 : gX9_clashes_29 104 (nI l) (nI w) v (fv + 1) (nI i) = bX9_clashes_29 (gX9_clashes_29 104 (nI l) (nI w) v fv) 104 (nI l) (nI w) (nI i) v := rfl
    rw [e5, e9]
    unfold bX5_clashesWith_14 bX9_clashes_29 jX5_clashesWith_65
    rw [if_pos (nI_le (by omega) (by omega)), if_pos (nI_le (by omega) (by omega)), h1, hV.ld_104_3, fb_n107, fb_gix hl (by omega), nI_clamp (n := l) (by omega), h2, ht2, if_neg fb_10, if_pos rfl, show fX0_length u 1 = some (nI n) by unfold fX0_length; rw [ht1]]
    rw [Option.bind_some]
    by_cases hnk : n = k
    · rw [if_pos (show nI w = nI k by rw [show w = k by omega]), if_pos (show nI w = nI n by rw [show w = n by omega]), if_pos (show nI n = nI k by rw [hnk])]
      exact ⟨1, rfl, rfl, Or.inr rfl⟩
    · rw [if_neg (show ¬ nI n = nI k from fun q => hnk ((nI_eq (by omega) (by omega)).mp q))]
      by_cases hlt : n < k
      · have hwn : w = n := by omega
        subst hwn
        rw [if_neg (show ¬ nI w = nI k from fun q => hnk ((nI_eq (by omega) (by omega)).mp q)), if_pos rfl, if_pos (nI_le (Nat.le_refl _) (by omega)), hS.ld_path hl, fb_n_path l hl, fb_gix (show w < 38 by omega) (by omega), nI_clamp (n := w) (by omega), hV.ld_104_2, fb_n106, fb_40, fb_gix (show 40 * l + w < 320 by omega) (by omega), nI_clamp (n := 40 * l + w) (by omega), (h3 w hlt).1]
        by_cases hc : fb_I u (6 + 2 * l) w = 46
        · rw [if_pos hc]; exact ⟨1, rfl, rfl, Or.inr rfl⟩
        · rw [if_neg hc]; exact ⟨0, rfl, rfl, Or.inl rfl⟩
      · have hwk : w = k := by omega
        subst hwk
        rw [if_pos rfl, if_neg (show ¬ nI w = nI n from fun q => hnk ((nI_eq (by omega) (by omega)).mp q).symm), if_neg (nI_ge (by omega) (by omega)), eX0_at hS hV hT (by omega), Option.bind_some, show fb_tx u n w = fb_I u 2 w from if_pos (by omega), hV.ld_104_0, fb_n105, fb_gix (show w < 80 by omega) (by omega), nI_clamp (n := w) (by omega), (ht3 w (by omega)).1]
        by_cases hc : fb_I u 2 w = 46
        · rw [if_pos hc]; exact ⟨1, rfl, rfl, Or.inr rfl⟩
        · rw [if_neg hc]; exact ⟨0, rfl, rfl, Or.inl rfl⟩
  | succ m ih =>
    intro i fu fv hi hf hg
    obtain ⟨fu, rfl⟩ : ∃ k, fu = k + 1 := ⟨fu - 1, by omega⟩
    obtain ⟨fv, rfl⟩ : ∃ k, fv = k + 1 := ⟨fv - 1, by omega⟩
    have e5 : gX5_clashesWith_14 (5 + 2 * l) 1 (nI w) u (fu + 1) (nI i) = bX5_clashesWith_14 (gX5_clashesWith_14 (5 + 2 * l) 1 (nI w) u fu) (5 + 2 * l) 1 (nI w) (nI i) u := rfl
    have e9 : gX9_clashes_29 104 (nI l) (nI w) v (fv + 1) (nI i) = bX9_clashes_29 (gX9_clashes_29 104 (nI l) (nI w) v fv) 104 (nI l) (nI w) (nI i) v := rfl
    rw [e5, e9]
    unfold bX5_clashesWith_14 bX9_clashes_29
    rw [if_neg (nI_ge (by omega) (by omega)), if_neg (nI_ge (by omega) (by omega)), hS.ld_path hl, fb_n_path l hl, fb_gix (show i < 38 by omega) (by omega), nI_clamp (n := i) (by omega), eX0_at hS hV hT (by omega), Option.bind_some, show fb_tx u n i = fb_I u 2 i from if_pos (by omega),
      hV.ld_104_0, fb_n105, fb_gix2 (show i < 80 by omega) (by omega), hV.ld_104_2, fb_n106, fb_40, fb_gix (show 40 * l + i < 320 by omega) (by omega), nI_clamp (n := 40 * l + i) (by omega), (h3 i (by omega)).1, (ht3 i (by omega)).1, nI_1]
    by_cases hc : fb_I u (6 + 2 * l) i = fb_I u 2 i
    · rw [if_pos hc, if_pos hc.symm]
      exact ih (i + 1) fu fv (by omega) (by omega) (by omega)
    · rw [if_neg hc, if_neg (fun q => hc q.symm)]
      exact ⟨0, rfl, rfl, Or.inl rfl⟩
theorem eClash {u v : fb_M} (hS : fb_St u) (hV : fb_St v) {n : Nat} (hT : fb_Tx u v n) {l : Nat} (hl : l < 8) (hlf : fb_lfu u v l) : ∃ r, fX5_clashesWith u (5 + 2 * l) 1 = some r ∧ fX9_clashes v 104 (nI l) = some r ∧ (r = 0 ∨ r = 1) := by
  obtain ⟨k, hk0, hk, a1, a2, a3, -, -⟩ := hlf
  have h80 := hT.1
  obtain ⟨r, p1, p2, p3⟩ := eClashL hS hV hT hl hk a1 a2 a3 (w := min k n) rfl (min k n) 0 fb_F fb_F (by omega) (by unfold fb_F; omega) (by unfold fb_F; omega)
  refine ⟨r, ?_, ?_, p3⟩
  · unfold fX5_clashesWith fX0_length
    rw [hT.2.1, a1, Option.bind_some, ← p1]
    by_cases h : n < k
    · rw [if_pos (nI_lt h (by omega)), show min k n = n by omega]; rfl
    · rw [if_neg (nI_nlt (by omega) (by omega)), show min k n = k by omega]; rfl
  · unfold fX9_clashes
    rw [hV.ld_104_3, fb_n107, fb_gix hl (by omega), nI_clamp (n := l) (by omega), a2, hT.2.2.1, hV.ld_104_3, fb_n107, fb_gix2 hl (by omega), a2, ← p2]
    by_cases h : k ≤ n
    · rw [if_pos (nI_le h (by omega)), show min k n = k by omega]; rfl
    · rw [if_neg (nI_ge (by omega) (by omega)), show min k n = n by omega]; rfl
theorem eClashes {u v : fb_M} (hS : fb_St u) (hV : fb_St v) {n N : Nat} (hT : fb_Tx u v n) (hL : fb_Lx u v N) : ∀ m i fu fv, i + m = N → m < fu → m < fv →
    (gX6_clashWith_2 3 1 u fu (nI i) = some 1 ∧ gX9_declare_11 104 v fv (nI i) = some (-2, v)) ∨ (gX6_clashWith_2 3 1 u fu (nI i) = some 0 ∧ gX9_declare_11 104 v fv (nI i) = if nI N = 8 then some (-3, v) else gX9_declare_50 104 fb_F 0 v) := by
  obtain ⟨h8, hl1, hl2, hl3⟩ := id hL
  intro m
  induction m with
  | zero =>
    intro i fu fv hi hf hg
    obtain ⟨fu, rfl⟩ : ∃ k, fu = k + 1 := ⟨fu - 1, by omega⟩
    obtain ⟨fv, rfl⟩ : ∃ k, fv = k + 1 := ⟨fv - 1, by omega⟩
    right
    constructor
    · show bX6_clashWith_2 _ 3 1 (nI i) u = _
      unfold bX6_clashWith_2
      rw [hl1, if_pos (nI_le (by omega) (by omega))]
    · show bX9_declare_11 _ 104 (nI i) v = _
      unfold bX9_declare_11
      rw [hl2, if_pos (nI_le (by omega) (by omega))]
  | succ m ih =>
    intro i fu fv hi hf hg
    obtain ⟨fu, rfl⟩ : ∃ k, fu = k + 1 := ⟨fu - 1, by omega⟩
    obtain ⟨fv, rfl⟩ : ∃ k, fv = k + 1 := ⟨fv - 1, by omega⟩
    have e5 : gX6_clashWith_2 3 1 u (fu + 1) (nI i) = bX6_clashWith_2 (gX6_clashWith_2 3 1 u fu) 3 1 (nI i) u := rfl
    have e9 : gX9_declare_11 104 v (fv + 1) (nI i) = bX9_declare_11 (gX9_declare_11 104 v fv) 104 (nI i) v := rfl
    rw [e5, e9]
    unfold bX6_clashWith_2 bX9_declare_11
    obtain ⟨r, p1, p2, p3⟩ := eClash hS hV hT (show i < 8 by omega) (hl3 i (by omega))
    rw [hl1, hl2, if_neg (nI_ge (by omega) (by omega)), if_neg (nI_ge (by omega) (by omega)), hS.ld_3_0, fb_n4, fb_gix (show i < 8 by omega) (by omega), nI_clamp (n := i) (by omega), hS.ld_leaf (show i < 8 by omega), p1, p2, Option.bind_some, Option.bind_some, nI_1]
    rcases p3 with rfl | rfl
    · rw [if_pos rfl, if_pos rfl]
      exact ih (i + 1) fu fv (by omega) (by omega) (by omega)
    · rw [if_neg fb_10, if_neg fb_10]
      exact Or.inl ⟨rfl, rfl⟩

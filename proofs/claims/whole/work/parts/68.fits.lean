/-! run: whether an entity fits -/
def fb_ag (u : fb_M) (i : Nat) : Int32 := if i < 12 then fb_I u 100 i else 0
theorem eArgAt (u : fb_M) {i : Nat} (hi : i < 2 ^ 31) : fX2_argumentAt u 100 (nI i) = some (fb_ag u i) := by
  unfold fX2_argumentAt fb_ag
  rw [fb_n100]
  by_cases h : i < 12
  · rw [if_neg (show ¬ Int32.ofNat 12 ≤ nI i from nI_ge h (by omega)), fb_gix h (by omega), nI_clamp hi, if_pos h]
  · rw [if_pos (show Int32.ofNat 12 ≤ nI i from nI_le (by omega) hi), if_neg h]
/-- the book's one pass -/
def fb_ft (h : Nat → Int32) (at_ : Nat → Nat) : Nat → Nat → Int32 → Int32
  | 0, _, x => x
  | m + 1, k, x => if 0 < k ∧ at_ k ≠ at_ (k - 1) then (if x = 0 then fb_ft h at_ m (k + 1) (h k) else 1) else fb_ft h at_ m (k + 1) (if x = 0 then 0 else h k)
/-- what is known of a finder's parts, and of the arguments -/
def fb_FP (u : fb_M) (f : Nat) (na np : Nat) (lf wd at_ : Nat → Nat) : Prop :=
  np ≤ 6 ∧ fb_I u (23 + 6 * f) 4 = nI np ∧ (∀ k, k < np → (lf k < 8 ∧ fb_I u (24 + 6 * f) k = nI (lf k)) ∧ (wd k ≤ 10 ∧ fb_I u (25 + 6 * f) k = nI (wd k)) ∧ (at_ k < na ∧ na ≤ 80 ∧ fb_I u (26 + 6 * f) k = nI (at_ k + 1)))
theorem fb_tks_le (wd : Nat → Nat) : ∀ n, fb_tks wd n ≤ 2 * n
  | 0 => Nat.le_refl _
  | n + 1 => by
    have := fb_tks_le wd n
    have h2 : fb_tk (wd n) ≤ 2 := by unfold fb_tk; split; omega; split <;> omega
    rw [fb_tks]; omega
theorem eFitsC {u : fb_M} (hS : fb_St u) {f na np : Nat} {lf wd at_ : Nat → Nat} (hf : f < 9) (hP : fb_FP u f na np lf wd at_) {pe : Nat} (hpe : pe < 10) {full val : Nat → Int32} (hv : ∀ l, l < 8 → fb_vr (fb_L u (80 + 2 * pe) l) (full l) (val l)) :
    ∀ m k fu x, k + m = np → m < fu → (x = 0 ∨ x = 1) → gX2_fits_8 (23 + 6 * f) (79 + 2 * pe) 100 u fu x (nI (fb_tks wd k)) (nI k) = some (fb_ft (fun k => fb_hw (wd k) (full (lf k)) (val (lf k)) (fb_ag u (fb_tks wd k)) (fb_ag u (fb_tks wd k + 1))) at_ m k x) := by
  obtain ⟨hnp, h4, hp⟩ := hP
  intro m
  induction m with
  | zero =>
    intro k fu x hk hfu hx
    obtain ⟨fu, rfl⟩ : ∃ k, fu = k + 1 := ⟨fu - 1, by omega⟩
    show bX2_fits_8 _ (23 + 6 * f) (79 + 2 * pe) 100 x (nI (fb_tks wd k)) (nI k) u = _
    unfold bX2_fits_8
    rw [h4, if_pos (nI_le (by omega) (by omega)), fb_gdT hx]
    rfl
  | succ m ih =>
    intro k fu x hk hfu hx
    obtain ⟨fu, rfl⟩ : ∃ k, fu = k + 1 := ⟨fu - 1, by omega⟩
    have hkn : k < np := by omega
    obtain ⟨⟨l8, hl⟩, ⟨w10, hw⟩, ⟨at1, na80, ha⟩⟩ := hp k hkn
    have htk := fb_tks_le wd k
    have h112 : ∀ y, (y = 0 ∨ y = 1) → jX2_fits_112 (gX2_fits_8 (23 + 6 * f) (79 + 2 * pe) 100 u fu) (23 + 6 * f) (79 + 2 * pe) 100 (nI (fb_tks wd k)) (nI k) y u = some (fb_ft (fun k => fb_hw (wd k) (full (lf k)) (val (lf k)) (fb_ag u (fb_tks wd k)) (fb_ag u (fb_tks wd k + 1))) at_ m (k + 1) y) := by
      intro y hy
      unfold jX2_fits_112
      rw [hS.ld_fpk hf, fb_n_fpk f hf, fb_gix (show k < 6 by omega) (by omega), nI_clamp (n := k) (by omega), hw, eX10_argumentsTaken u w10, Option.bind_some, nI_add, nI_1]
      exact ih (k + 1) fu y (by omega) (by omega) hy
    have h56 : ∀ y, (y = 0 ∨ y = 1) → jX2_fits_56 (gX2_fits_8 (23 + 6 * f) (79 + 2 * pe) 100 u fu) (23 + 6 * f) (79 + 2 * pe) 100 y (nI (fb_tks wd k)) (nI k) u = some (fb_ft (fun k => fb_hw (wd k) (full (lf k)) (val (lf k)) (fb_ag u (fb_tks wd k)) (fb_ag u (fb_tks wd k + 1))) at_ m (k + 1) (if y = 0 then 0 else fb_hw (wd k) (full (lf k)) (val (lf k)) (fb_ag u (fb_tks wd k)) (fb_ag u (fb_tks wd k + 1)))) := by
      intro y hy
      unfold jX2_fits_56
      rw [eArgAt u (by omega), Option.bind_some, nI_1, eArgAt u (by omega), Option.bind_some]
      by_cases hy0 : y = 0
      · rw [if_pos hy0, if_pos hy0]; exact h112 0 (Or.inl rfl)
      · rw [if_neg hy0, if_neg hy0, hS.ld_fpk hf, fb_n_fpk f hf, fb_gix (show k < 6 by omega) (by omega), hS.ld_ent hpe, hS.ld_fpl hf, fb_n_fpl f hf, fb_gix (show k < 6 by omega) (by omega), nI_clamp (n := k) (by omega), hl, fb_n_ent pe hpe, fb_gix l8 (by omega), nI_clamp (n := lf k) (by omega), hw, eHoldsC u w10 (hv (lf k) l8), Option.bind_some]
        rcases fb_hw01 (wd k) (full (lf k)) (val (lf k)) (fb_ag u (fb_tks wd k)) (fb_ag u (fb_tks wd k + 1)) with q | q
        · rw [q, if_pos rfl]; exact h112 0 (Or.inl rfl)
        · rw [q, if_neg fb_10]; exact h112 1 (Or.inr rfl)
    have e : gX2_fits_8 (23 + 6 * f) (79 + 2 * pe) 100 u (fu + 1) x (nI (fb_tks wd k)) (nI k) = bX2_fits_8 (gX2_fits_8 (23 + 6 * f) (79 + 2 * pe) 100 u fu) (23 + 6 * f) (79 + 2 * pe) 100 x (nI (fb_tks wd k)) (nI k) u := rfl
    rw [e]
    unfold bX2_fits_8
    rw [h4, if_neg (nI_ge hkn (by omega)), if_neg (show ¬ (6 : Int32) ≤ nI k from nI_ge (b := 6) (by omega) (by omega)), fb_ft]
    by_cases hk0 : k = 0
    · rw [if_pos (show nI k ≤ 0 by rw [hk0]; decide), if_neg (fun q => absurd q.1 (by omega))]
      exact h56 x hx
    · obtain ⟨-, -, ⟨at2, -, ha2⟩⟩ := hp (k - 1) (by omega)
      rw [if_neg (nI_nle (by omega) (by omega)), hS.ld_fpa hf, fb_n_fpa f hf, fb_gix (show k < 6 by omega) (by omega), hS.ld_fpa hf, fb_n_fpa f hf, show nI k - 1 = nI (k - 1) from nI_sub (b := 1) (by omega), fb_gix (show k - 1 < 6 by omega) (by omega), nI_clamp (n := k) (by omega), nI_clamp (n := k - 1) (by omega), ha, ha2]
      by_cases hat : at_ k = at_ (k - 1)
      · rw [if_pos (show nI (at_ k + 1) = nI (at_ (k - 1) + 1) by rw [hat]), if_neg (fun q => q.2 hat)]
        exact h56 x hx
      · rw [if_neg (show ¬ nI (at_ k + 1) = nI (at_ (k - 1) + 1) from fun q => hat (by have := (nI_eq (by omega) (by omega)).mp q; omega)), if_pos (c := 0 < k ∧ at_ k ≠ at_ (k - 1)) ⟨by omega, hat⟩]
        by_cases hx0 : x = 0
        · rw [if_pos hx0, if_pos hx0, h56 1 (Or.inr rfl), if_neg fb_10]
        · rw [if_neg hx0, if_neg hx0]

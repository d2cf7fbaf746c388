/-! run: whether an entity fits, by the reference -/
def fb_al (h : Nat → Int32) (at_ : Nat → Nat) (a : Nat) : Nat → Nat → Int32 → Int32
  | 0, _, x => x
  | m + 1, k, x => fb_al h at_ a m (k + 1) (if x = 0 then 0 else if at_ k = a then h k else 1)
def fb_an (h : Nat → Int32) (at_ : Nat → Nat) (np : Nat) : Nat → Nat → Int32 → Int32
  | 0, _, x => x
  | m + 1, a, x => fb_an h at_ np m (a + 1) (if x = 0 then (if fb_al h at_ a np 0 1 = 0 then 0 else 1) else 1)
def fb_FQ (v : fb_M) (f : Nat) (na np : Nat) (lf wd at_ : Nat → Nat) : Prop :=
  np ≤ 6 ∧ na ≤ 80 ∧ fb_I v 112 f = nI np ∧ fb_I v 111 f = nI na ∧ (∀ k, k < np → (lf k < 8 ∧ fb_I v 114 (6 * f + k) = nI (lf k)) ∧ (wd k ≤ 10 ∧ fb_I v 115 (6 * f + k) = nI (wd k)) ∧ (at_ k < na ∧ fb_I v 116 (6 * f + k) = nI (at_ k)))
theorem fb_tks_mono (wd : Nat → Nat) {a : Nat} : ∀ d, fb_tks wd a ≤ fb_tks wd (a + d)
  | 0 => Nat.le_refl _
  | d + 1 => by
    have := fb_tks_mono wd (a := a) d
    rw [show a + (d + 1) = a + d + 1 by omega, fb_tks]; omega
theorem eFits38 {v : fb_M} (hV : fb_St v) {f na np : Nat} {lf wd at_ : Nat → Nat} (hf : f < 8) (hP : fb_FQ v f na np lf wd at_) {e : Nat} (he : e < 10) {full val : Nat → Int32} (hr : ∀ l, l < 8 → (full l = 0 ∨ full l = 1) ∧ fb_I v 126 (8 * e + l) = full l ∧ fb_I v 125 (8 * e + l) = val l) {ag : Nat → Int32} (hg : ∀ i, i < fb_tks wd np → i < 12 ∧ fb_I v 129 i = ag i)
    (K : Int32 → Int32 → Option Int32) (x3 : Int32) {a : Nat} (ha : a < 2 ^ 20) : ∀ m k fu x, k + m = np → m < fu → (x = 0 ∨ x = 1) → gX9_fits_38 K 104 (nI f) (nI e) x3 (nI a) v fu x (nI (fb_tks wd k)) (nI k) = K (if x3 = 0 then (if fb_al (fun k => fb_hw (wd k) (full (lf k)) (val (lf k)) (ag (fb_tks wd k)) (ag (fb_tks wd k + 1))) at_ a m k x = 0 then 0 else 1) else 1) (nI (a + 1)) := by
  obtain ⟨hnp, hna, h112, h111, hp⟩ := hP
  intro m
  induction m with
  | zero =>
    intro k fu x hk hfu hx
    obtain ⟨fu, rfl⟩ : ∃ k, fu = k + 1 := ⟨fu - 1, by omega⟩
    show bX9_fits_38 K _ 104 (nI f) (nI e) x3 (nI a) x (nI (fb_tks wd k)) (nI k) v = _
    unfold bX9_fits_38
    rw [hV.ld_104_10, fb_n112, fb_gix hf (by omega), nI_clamp (n := f) (by omega), h112, if_pos (nI_le (by omega) (by omega)), nI_1, fb_al]
    by_cases h3 : x3 = 0
    · rw [if_pos h3, if_pos h3]
      by_cases hx0 : x = 0
      · rw [if_pos hx0, if_pos hx0]
      · rw [if_neg hx0, if_neg hx0]
    · rw [if_neg h3, if_neg h3]
  | succ m ih =>
    intro k fu x hk hfu hx
    obtain ⟨fu, rfl⟩ : ∃ k, fu = k + 1 := ⟨fu - 1, by omega⟩
    have hkn : k < np := by omega
    obtain ⟨⟨l8, hl⟩, ⟨w10, hw⟩, ⟨at1, hat⟩⟩ := hp k hkn
    have h89 : ∀ y, (y = 0 ∨ y = 1) → jX9_fits_89 K (gX9_fits_38 K 104 (nI f) (nI e) x3 (nI a) v fu) 104 (nI f) (nI e) x3 (nI a) (nI (fb_tks wd k)) (nI k) y v = K (if x3 = 0 then (if fb_al (fun k => fb_hw (wd k) (full (lf k)) (val (lf k)) (ag (fb_tks wd k)) (ag (fb_tks wd k + 1))) at_ a m (k + 1) y = 0 then 0 else 1) else 1) (nI (a + 1)) := by
      intro y hy
      unfold jX9_fits_89
      rw [hV.ld_104_13, fb_n115, fb_6, fb_gix (show 6 * f + k < 48 by omega) (by omega), nI_clamp (n := 6 * f + k) (by omega), hw, eX9_takes v w10, Option.bind_some, nI_add, nI_1]
      exact ih (k + 1) fu y (by omega) (by omega) hy
    have e0 : gX9_fits_38 K 104 (nI f) (nI e) x3 (nI a) v (fu + 1) x (nI (fb_tks wd k)) (nI k) = bX9_fits_38 K (gX9_fits_38 K 104 (nI f) (nI e) x3 (nI a) v fu) 104 (nI f) (nI e) x3 (nI a) x (nI (fb_tks wd k)) (nI k) v := rfl
    rw [e0]
    unfold bX9_fits_38
    rw [hV.ld_104_10, fb_n112, fb_gix hf (by omega), nI_clamp (n := f) (by omega), h112, if_neg (nI_ge hkn (by omega)), fb_al]
    by_cases hx0 : x = 0
    · rw [if_pos hx0, h89 0 (Or.inl rfl), if_pos (c := x = 0) hx0]
    · rw [if_neg hx0, hV.ld_104_14, fb_n116, fb_6, fb_gix (show 6 * f + k < 48 by omega) (by omega), nI_clamp (n := 6 * f + k) (by omega), hat, if_neg (c := x = 0) hx0]
      by_cases hka : at_ k = a
      · have htk := fb_tks_le wd k
        have hmono := fb_tks_mono wd (a := k + 1) (np - (k + 1))
        rw [show k + 1 + (np - (k + 1)) = np by omega, fb_tks] at hmono
        obtain ⟨r1, r2, r3⟩ := hr (lf k) l8
        rw [if_pos (show nI (at_ k) = nI a by rw [hka]), if_pos hka, eHoldsM hV hf (show k < 6 by omega) he l8 w10 (show fb_tks wd k ≤ 12 by omega) hl hw r1 r2 r3 (a := ag (fb_tks wd k)) (b := ag (fb_tks wd k + 1)) (fun h => hg _ (by
          have : 0 < fb_tk (wd k) := by unfold fb_tk; split; omega; split <;> omega
          omega)) (fun h => hg _ (by
          have : fb_tk (wd k) = 2 := by unfold fb_tk; rw [if_pos h]
          omega)), Option.bind_some]
        rcases fb_hw01 (wd k) (full (lf k)) (val (lf k)) (ag (fb_tks wd k)) (ag (fb_tks wd k + 1)) with q | q
        · rw [q, if_pos rfl]; exact h89 0 (Or.inl rfl)
        · rw [q, if_neg fb_10]; exact h89 1 (Or.inr rfl)
      · rw [if_neg (show ¬ nI (at_ k) = nI a from fun q => hka ((nI_eq (by omega) (by omega)).mp q)), if_neg hka]
        exact h89 1 (Or.inr rfl)

/-! run: which of two entities comes first -/
def fb_ky (f v : Int32) : Int := if f = 0 then -9223372036854775808 else v.toInt
def fb_sk (dn : Nat) (f v : Int32) : Int := if dn = 0 then fb_ky f v else - fb_ky f v
def fb_cp (A B : Nat → Int) : Nat → Nat → Int32
  | 0, _ => 0
  | m + 1, i => if A i = B i then fb_cp A B m (i + 1) else if A i < B i then -1 else 1
theorem eSortKey {u : fb_M} (hS : fb_St u) {pe l : Nat} (hpe : pe < 10) (hl : l < 8) {f v : Int32} (hv : fb_vr (fb_L u (80 + 2 * pe) l) f v) : ∃ y : Int64, fX1_sortKey u (79 + 2 * pe) (nI l) = some y ∧ y.toInt = fb_ky f v := by
  unfold fX1_sortKey fb_ky
  rw [hS.ld_ent hpe, fb_n_ent pe hpe, fb_gix hl (by omega), nI_clamp (n := l) (by omega), hS.ld_ent hpe, fb_n_ent pe hpe, fb_gix2 hl (by omega)]
  rcases hv with ⟨rfl, h⟩ | ⟨rfl, h⟩
  · rw [h, if_neg (fb_lcN v), if_neg fb_10]
    exact ⟨_, rfl, Int32.toInt_toInt64 v⟩
  · rw [h, if_pos (show lg_cmp 3000000000 3000000000 = 0 by decide), if_pos rfl]
    exact ⟨_, rfl, by decide⟩
theorem fb_lgv (x y : Int64) : lg_cmp x y = if x.toInt = y.toInt then 0 else if x.toInt < y.toInt then -1 else 1 := by
  unfold lg_cmp
  by_cases h : x.toInt = y.toInt
  · have h2 : x = y := Int64.toInt_inj.mp h
    rw [if_neg (show ¬ x > y by rw [h2]; exact fun q => absurd (Int64.lt_iff_toInt_lt.mp q) (by omega)), if_pos h2, if_pos h]
  · rw [if_neg h]
    by_cases h2 : x.toInt < y.toInt
    · rw [if_neg (show ¬ x > y from fun q => by have := Int64.lt_iff_toInt_lt.mp q; omega), if_neg (fun q => h (by rw [q])), if_pos h2]
    · rw [if_pos (show x > y from Int64.lt_iff_toInt_lt.mpr (by omega)), if_neg h2]
def fb_GP (u : fb_M) (f no : Nat) (lo dn : Nat → Nat) : Prop := no ≤ 3 ∧ fb_I u (23 + 6 * f) 6 = nI no ∧ ∀ k, k < no → (lo k < 8 ∧ fb_I u (27 + 6 * f) k = nI (lo k)) ∧ (dn k < 2 ∧ fb_I u (28 + 6 * f) k = nI (dn k))
theorem ePutsL {u : fb_M} (hS : fb_St u) {f no : Nat} {lo dn : Nat → Nat} (hf : f < 9) (hP : fb_GP u f no lo dn) {p q : Nat} (hp : p < 10) (hq : q < 10) {f1 v1 f2 v2 : Nat → Int32} (h1 : ∀ l, l < 8 → fb_vr (fb_L u (80 + 2 * p) l) (f1 l) (v1 l)) (h2 : ∀ l, l < 8 → fb_vr (fb_L u (80 + 2 * q) l) (f2 l) (v2 l))
    {A B : Nat → Int} (hA : ∀ k, k < no → A k = fb_sk (dn k) (f1 (lo k)) (v1 (lo k))) (hB : ∀ k, k < no → B k = fb_sk (dn k) (f2 (lo k)) (v2 (lo k))) :
    ∀ m i fu, i + m = no → m < fu → gX2_putsBefore_2 (23 + 6 * f) (79 + 2 * p) (79 + 2 * q) u fu (nI i) = some (if fb_cp A B m i = -1 then 1 else 0) := by
  obtain ⟨hno, h6, hk⟩ := hP
  intro m
  induction m with
  | zero =>
    intro i fu hi hfu
    obtain ⟨fu, rfl⟩ : ∃ k, fu = k + 1 := ⟨fu - 1, by omega⟩
    show bX2_putsBefore_2 _ (23 + 6 * f) (79 + 2 * p) (79 + 2 * q) (nI i) u = _
    unfold bX2_putsBefore_2
    rw [h6, if_pos (nI_le (by omega) (by omega)), fb_cp, if_neg (by decide)]
  | succ m ih =>
    intro i fu hi hfu
    obtain ⟨fu, rfl⟩ : ∃ k, fu = k + 1 := ⟨fu - 1, by omega⟩
    obtain ⟨⟨l8, hl⟩, ⟨d2, hd⟩⟩ := hk i (by omega)
    obtain ⟨y1, e1, g1⟩ := eSortKey hS hp l8 (h1 (lo i) l8)
    obtain ⟨y2, e2, g2⟩ := eSortKey hS hq l8 (h2 (lo i) l8)
    show bX2_putsBefore_2 _ (23 + 6 * f) (79 + 2 * p) (79 + 2 * q) (nI i) u = _
    unfold bX2_putsBefore_2
    rw [h6, if_neg (nI_ge (by omega) (by omega)), if_neg (show ¬ (3 : Int32) ≤ nI i from nI_ge (b := 3) (by omega) (by omega)), hS.ld_fol hf, fb_n_fol f hf, fb_gix (show i < 3 by omega) (by omega), nI_clamp (n := i) (by omega), hl, e1, Option.bind_some, hS.ld_fol hf, fb_n_fol f hf, fb_gix2 (show i < 3 by omega) (by omega), hl, e2, Option.bind_some, hS.ld_fod hf, fb_n_fod f hf, fb_gix2 (show i < 3 by omega) (by omega), hd, fb_lgv, g1, g2, nI_1, fb_cp, hA i (by omega), hB i (by omega)]
    unfold fb_sk
    generalize fb_ky (f1 (lo i)) (v1 (lo i)) = a
    generalize fb_ky (f2 (lo i)) (v2 (lo i)) = b
    by_cases hab : a = b
    · have h3 : (if dn i = 0 then a else -a) = (if dn i = 0 then b else -b) := by rw [hab]
      rw [if_pos hab, if_pos rfl, if_pos h3]
      exact ih (i + 1) fu (by omega) (by omega)
    · rw [if_neg hab]
      rcases (show dn i = 0 ∨ dn i = 1 by omega) with hd0 | hd1
      · rw [if_pos (c := nI (dn i) = 0) (by rw [hd0]; decide), if_pos hd0, if_pos hd0, if_neg hab]
        by_cases hlt : a < b
        · rw [if_pos hlt, if_neg (show ¬ (-1 : Int32) = 0 by decide), if_neg (show ¬ (0 : Int32) ≤ -1 by decide), if_pos rfl]
        · rw [if_neg hlt, if_neg fb_10, if_pos (show (0 : Int32) ≤ 1 by decide), if_neg (show ¬ (1 : Int32) = -1 by decide)]
      · rw [if_neg (c := nI (dn i) = 0) (by rw [hd1]; decide), if_neg (show ¬ dn i = 0 by omega), if_neg (show ¬ dn i = 0 by omega), if_neg (show ¬ -a = -b by omega)]
        by_cases hlt : a < b
        · rw [if_pos hlt, if_neg (show ¬ (-1 : Int32) = 0 by decide), if_pos (show (-1 : Int32) ≤ 0 by decide), if_neg (show ¬ -a < -b by omega), if_neg (show ¬ (1 : Int32) = -1 by decide)]
        · rw [if_neg hlt, if_neg fb_10, if_neg (show ¬ (1 : Int32) ≤ 0 by decide), if_pos (show -a < -b by omega), if_pos rfl]

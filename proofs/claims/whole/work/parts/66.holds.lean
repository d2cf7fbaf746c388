/-! run: whether a part holds -/
theorem fb_lgt (v a : Int32) : (v.toInt64 > a.toInt64) ↔ a < v := by
  show a.toInt64 < v.toInt64 ↔ _
  rw [Int64.lt_iff_toInt_lt, Int32.lt_iff_toInt_lt, Int32.toInt_toInt64, Int32.toInt_toInt64]
theorem fb_leq (v a : Int32) : (v.toInt64 = a.toInt64) ↔ v = a := by
  rw [← Int64.toInt_inj, ← Int32.toInt_inj, Int32.toInt_toInt64, Int32.toInt_toInt64]
theorem fb_lc (v a : Int32) : lg_cmp v.toInt64 a.toInt64 = if a < v then 1 else if v = a then 0 else -1 := by
  unfold lg_cmp
  by_cases h : a < v
  · rw [if_pos ((fb_lgt v a).mpr h), if_pos h]
  · rw [if_neg (fun q => h ((fb_lgt v a).mp q)), if_neg h]
    by_cases h2 : v = a
    · rw [if_pos ((fb_leq v a).mpr h2), if_pos h2]
    · rw [if_neg (fun q => h2 ((fb_leq v a).mp q)), if_neg h2]
theorem fb_lc0 (v : Int32) : (lg_cmp v.toInt64 0 = 0) ↔ v = 0 := by
  rw [show (0 : Int64) = (0 : Int32).toInt64 from rfl, fb_lc]
  by_cases h : 0 < v
  · rw [if_pos h]
    exact ⟨fun q => absurd q (by decide), fun q => absurd h (by rw [q]; decide)⟩
  · rw [if_neg h]
    by_cases h2 : v = 0
    · rw [if_pos h2]; exact ⟨fun _ => h2, fun _ => rfl⟩
    · rw [if_neg h2]; exact ⟨fun q => absurd q (by decide), fun q => absurd q h2⟩
theorem fb_lcN (v : Int32) : ¬ lg_cmp v.toInt64 3000000000 = 0 := by
  unfold lg_cmp
  have h1 : ¬ v.toInt64 > 3000000000 := by
    show ¬ (3000000000 : Int64) < v.toInt64
    rw [Int64.lt_iff_toInt_lt, Int32.toInt_toInt64, show (3000000000 : Int64).toInt = 3000000000 by decide]
    have := Int32.toInt_lt v
    omega
  have h2 : ¬ v.toInt64 = 3000000000 := by
    intro q
    have q2 := congrArg Int64.toInt q
    rw [Int32.toInt_toInt64, show (3000000000 : Int64).toInt = 3000000000 by decide] at q2
    have := Int32.toInt_lt v
    omega
  rw [if_neg h1, if_neg h2]
  decide
theorem fb_lt3 (v a : Int32) : (a < v ∧ ¬ v = a ∧ ¬ v < a) ∨ (v = a ∧ ¬ a < v ∧ ¬ v < a) ∨ (v < a ∧ ¬ v = a ∧ ¬ a < v) := by
  simp only [Int32.lt_iff_toInt_lt, ← Int32.toInt_inj]
  omega
theorem fb_le3 (v a : Int32) : (v ≤ a) ↔ ¬ a < v := by
  rw [Int32.not_lt]
theorem fb_lcp (v a : Int32) : (0 < lg_cmp v.toInt64 a.toInt64) ↔ a < v := by
  rw [fb_lc]
  by_cases h : a < v
  · rw [if_pos h]; exact ⟨fun _ => h, fun _ => by decide⟩
  · rw [if_neg h]
    by_cases h2 : v = a
    · rw [if_pos h2]; exact ⟨fun q => absurd q (by decide), fun q => absurd q h⟩
    · rw [if_neg h2]; exact ⟨fun q => absurd q (by decide), fun q => absurd q h⟩
/-- what is asked of a value by a keyword -/
def fb_hv (w : Nat) (v a b : Int32) : Int32 :=
  if w = 0 then (if v = a then 1 else 0) else if w = 1 then (if v = a then 0 else 1) else if w = 2 then (if v < a then 1 else 0) else if w = 3 then (if a < v then 0 else 1) else if w = 4 then (if a < v then 1 else 0) else if w = 5 then (if v < a then 0 else 1) else if w = 6 then (if v < a then 0 else if b < v then 0 else 1) else if w = 7 then 0 else if w = 8 then 1 else if w = 9 then (if v = 0 then 0 else 1) else (if v = 0 then 1 else 0)
def fb_hw (w : Nat) (f v a b : Int32) : Int32 := if f = 0 then (if w = 7 then 1 else 0) else fb_hv w v a b
theorem fb_hw01 (w : Nat) (f v a b : Int32) : fb_hw w f v a b = 0 ∨ fb_hw w f v a b = 1 := by
  unfold fb_hw fb_hv
  repeat' split
  all_goals first | exact Or.inl rfl | exact Or.inr rfl
theorem fb_eqk {w : Nat} (hw : w ≤ 10) {k : Nat} (hk : k ≤ 10) : (nI w = nI k) = (w = k) := propext (nI_eq (by omega) (by omega))
theorem eHoldsC (u : fb_M) {w : Nat} (hw : w ≤ 10) {y : Int64} {f v : Int32} (hy : fb_vr y f v) (a b : Int32) : fX10_holds u (nI w) y a b = some (fb_hw w f v a b) := by
  have k0 : (nI w = 0) = (w = 0) := fb_eqk hw (k := 0) (by omega)
  have k1 : (nI w = 1) = (w = 1) := fb_eqk hw (k := 1) (by omega)
  have k2 : (nI w = 2) = (w = 2) := fb_eqk hw (k := 2) (by omega)
  have k3 : (nI w = 3) = (w = 3) := fb_eqk hw (k := 3) (by omega)
  have k4 : (nI w = 4) = (w = 4) := fb_eqk hw (k := 4) (by omega)
  have k5 : (nI w = 5) = (w = 5) := fb_eqk hw (k := 5) (by omega)
  have k6 : (nI w = 6) = (w = 6) := fb_eqk hw (k := 6) (by omega)
  have k7 : (nI w = 7) = (w = 7) := fb_eqk hw (k := 7) (by omega)
  have k8 : (nI w = 8) = (w = 8) := fb_eqk hw (k := 8) (by omega)
  have k9 : (nI w = 9) = (w = 9) := fb_eqk hw (k := 9) (by omega)
  have k10 : (nI w = 10) = (w = 10) := fb_eqk hw (k := 10) (by omega)
  unfold fX10_holds fb_hw
  rcases hy with ⟨rfl, rfl⟩ | ⟨rfl, rfl⟩
  · rw [if_neg (fb_lcN v), if_neg fb_10]
    unfold fb_hv
    simp only [k0, k1, k2, k3, k4, k5, k6, k7, k8, k9, k10, fb_lc0]
    rcases (show w = 0 ∨ w = 1 ∨ w = 2 ∨ w = 3 ∨ w = 4 ∨ w = 5 ∨ w = 6 ∨ w = 7 ∨ w = 8 ∨ w = 9 ∨ w = 10 by omega) with rfl | rfl | rfl | rfl | rfl | rfl | rfl | rfl | rfl | rfl | rfl
    · rcases fb_lt3 v a with ⟨h1, h2, h3⟩ | ⟨h1, h2, h3⟩ | ⟨h1, h2, h3⟩ <;> simp [fb_lc, h1, h2, h3]
    · rcases fb_lt3 v a with ⟨h1, h2, h3⟩ | ⟨h1, h2, h3⟩ | ⟨h1, h2, h3⟩ <;> simp [fb_lc, h1, h2, h3]
    · rcases fb_lt3 v a with ⟨h1, h2, h3⟩ | ⟨h1, h2, h3⟩ | ⟨h1, h2, h3⟩ <;> simp [fb_lc, h1, h2, h3]
    · rcases fb_lt3 v a with ⟨h1, h2, h3⟩ | ⟨h1, h2, h3⟩ | ⟨h1, h2, h3⟩ <;> simp [fb_lc, h1, h2, h3]
    · rcases fb_lt3 v a with ⟨h1, h2, h3⟩ | ⟨h1, h2, h3⟩ | ⟨h1, h2, h3⟩ <;> simp [fb_lc, h1, h2, h3]
    · rcases fb_lt3 v a with ⟨h1, h2, h3⟩ | ⟨h1, h2, h3⟩ | ⟨h1, h2, h3⟩ <;> simp [fb_lc, h1, h2, h3]
    · simp only [fb_lcp]
      by_cases h : v < a <;> by_cases g : b < v <;> simp [h, g]
    · rfl
    · rfl
    · by_cases h : v = 0 <;> simp [h]
    · by_cases h : v = 0 <;> simp [h]
  · rw [if_pos (show lg_cmp 3000000000 3000000000 = 0 by decide), if_pos rfl]
    simp only [k7]
    by_cases h : w = 7 <;> simp [h]

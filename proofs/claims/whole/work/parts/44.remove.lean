/-! taking an entity out: the class's rows move, the reference's contents move -/
theorem eX7_dropL {u0 : fb_M} (hS : fb_St u0) {m e a3 : Nat} {p : Nat → Nat} (hm : fb_I u0 77 1 = nI m) (h10 : m < 10) (hp : ∀ i, i < 10 → p i < 10 ∧ fb_R u0 78 i = some (79 + 2 * p i)) : ∀ k i fu u, e ≤ i → i + k = m → k < fu → (fb_I u = fb_I u0 ∧ fb_L u = fb_L u0 ∧ (∀ a, a ≠ 78 → fb_R u a = fb_R u0 a) ∧ ∀ j, fb_R u 78 j = if e ≤ j ∧ j < i then fb_R u0 78 (j + 1) else fb_R u0 78 j) →
    ∃ u', gX7_drop_32 77 a3 fu (nI i) u = some (1, u') ∧ fb_I u' = fb_I u0 ∧ fb_L u' = fb_L u0 ∧ (∀ a, a ≠ 78 → fb_R u' a = fb_R u0 a) ∧ ∀ j, fb_R u' 78 j = if j = m then some a3 else if e ≤ j ∧ j < m then fb_R u0 78 (j + 1) else fb_R u0 78 j := by
  intro k
  induction k with
  | zero =>
    intro i fu u he hi hf ⟨k1, k2, k3, k4⟩
    obtain ⟨fu, rfl⟩ : ∃ k, fu = k + 1 := ⟨fu - 1, by omega⟩
    obtain rfl : i = m := by omega
    have hSu : fb_St u := fun a k h1 h2 => by rw [k3 a h1]; exact hS a k h1 h2
    refine ⟨fb_wR u 78 i a3, ?_, k1, k2, fun a ha => by rw [fb_R_ne _ _ ha]; exact k3 a ha, fun j => ?_⟩
    · show bX7_drop_32 _ 77 a3 (nI i) u = _
      unfold bX7_drop_32
      rw [k1, hm, if_pos (nI_le (Nat.le_refl _) (by omega)), hSu.ld_77_0, fb_n78, fb_gix h10 (by omega), nI_clamp (n := i) (by omega)]
    · rw [fb_R_wR]
      by_cases h : j = i
      · rw [if_pos ⟨rfl, h⟩, if_pos h]
      · rw [if_neg (fun q => h q.2), if_neg h, k4 j]
  | succ k ih =>
    intro i fu u he hi hf ⟨k1, k2, k3, k4⟩
    obtain ⟨fu, rfl⟩ : ∃ k, fu = k + 1 := ⟨fu - 1, by omega⟩
    have hSu : fb_St u := fun a k h1 h2 => by rw [k3 a h1]; exact hS a k h1 h2
    have hr : fb_R u 78 (i + 1) = some (79 + 2 * p (i + 1)) := by rw [k4, if_neg (by omega)]; exact (hp (i + 1) (by omega)).2
    have step : gX7_drop_32 77 a3 (fu + 1) (nI i) u = gX7_drop_32 77 a3 fu (nI (i + 1)) (fb_wR u 78 i (79 + 2 * p (i + 1))) := by
      show bX7_drop_32 _ 77 a3 (nI i) u = _
      unfold bX7_drop_32
      rw [k1, hm, if_neg (nI_ge (by omega) (by omega)), hSu.ld_77_0, hSu.ld_77_0, fb_n78, nI_1, fb_gix (show i + 1 < 10 by omega) (by omega), nI_clamp (n := i + 1) (by omega), fb_ldE hr (hp (i + 1) (by omega)).1, fb_gix (show i < 10 by omega) (by omega), nI_clamp (n := i) (by omega)]
    rw [step]
    refine ih (i + 1) fu _ (by omega) (by omega) (by omega) ⟨k1, k2, fun a ha => by rw [fb_R_ne _ _ ha]; exact k3 a ha, fun j => ?_⟩
    rw [fb_R_wR]
    by_cases h : j = i
    · rw [if_pos ⟨rfl, h⟩, if_pos (by omega), h, (hp (i + 1) (by omega)).2]
    · rw [if_neg (fun q => h q.2), k4 j]
      by_cases h2 : e ≤ j ∧ j < i
      · rw [if_pos h2, if_pos (by omega)]
      · rw [if_neg h2, if_neg (by omega)]
/-- the rows behind taking out the e-th of n -/
def fb_out (p : Nat → Nat) (n e i : Nat) : Nat := if i = n - 1 then p e else if e ≤ i ∧ i < n - 1 then p (i + 1) else p i
theorem fb_out_in {p : Nat → Nat} {n e : Nat} (h10 : n ≤ 10) (he : e < n) (hp : ∀ i, i < 10 → p i < 10) : ∀ i, i < 10 → fb_out p n e i < 10 := by
  intro i hi
  unfold fb_out
  by_cases h : i = n - 1
  · rw [if_pos h]; exact hp e (by omega)
  · rw [if_neg h]
    by_cases h2 : e ≤ i ∧ i < n - 1
    · rw [if_pos h2]; exact hp _ (by omega)
    · rw [if_neg h2]; exact hp _ hi
theorem fb_out_inj {p : Nat → Nat} {n e : Nat} (h10 : n ≤ 10) (he : e < n) (hpi : ∀ i j, i < 10 → j < 10 → p i = p j → i = j) : ∀ i j, i < 10 → j < 10 → fb_out p n e i = fb_out p n e j → i = j := by
  intro i j hi hj
  unfold fb_out
  by_cases h1 : i = n - 1 <;> by_cases h2 : j = n - 1
  · intro _; omega
  · rw [if_pos h1, if_neg h2]
    by_cases h3 : e ≤ j ∧ j < n - 1
    · rw [if_pos h3]; intro q; have := hpi _ _ (by omega) (by omega) q; omega
    · rw [if_neg h3]; intro q; have := hpi _ _ (by omega) (by omega) q; omega
  · rw [if_neg h1, if_pos h2]
    by_cases h3 : e ≤ i ∧ i < n - 1
    · rw [if_pos h3]; intro q; have := hpi _ _ (by omega) (by omega) q; omega
    · rw [if_neg h3]; intro q; have := hpi _ _ (by omega) (by omega) q; omega
  · rw [if_neg h1, if_neg h2]
    by_cases h3 : e ≤ i ∧ i < n - 1 <;> by_cases h4 : e ≤ j ∧ j < n - 1
    · rw [if_pos h3, if_pos h4]; intro q; have := hpi _ _ (by omega) (by omega) q; omega
    · rw [if_pos h3, if_neg h4]; intro q; have := hpi _ _ (by omega) (by omega) q; omega
    · rw [if_neg h3, if_pos h4]; intro q; have := hpi _ _ (by omega) (by omega) q; omega
    · rw [if_neg h3, if_neg h4]; intro q; exact hpi _ _ (by omega) (by omega) q
theorem eX7_drop {u : fb_M} (hS : fb_St u) {n e : Nat} {p : Nat → Nat} (hn : fb_I u 77 1 = nI n) (h10 : n ≤ 10) (he : e < n) (hp : ∀ i, i < 10 → p i < 10 ∧ fb_R u 78 i = some (79 + 2 * p i)) {x : Int32} (hx : fX7_placeOf u 77 x = some (nI e)) :
    ∃ u', fX7_drop u 77 x = some (1, u') ∧ fb_I u' = fb_I (fb_wI u 77 1 (nI (n - 1))) ∧ fb_L u' = fb_L u ∧ (∀ a, a ≠ 78 → fb_R u' a = fb_R u a) ∧ ∀ i, i < 10 → fb_R u' 78 i = some (79 + 2 * fb_out p n e i) := by
  obtain ⟨u', h1, h2, h3, h4, h5⟩ := eX7_dropL (u0 := fb_wI u 77 1 (nI (n - 1))) (m := n - 1) (e := e) (a3 := 79 + 2 * p e) (p := p) hS rfl (by omega) hp (n - 1 - e) e fb_F (fb_wI u 77 1 (nI (n - 1))) (Nat.le_refl _) (by omega) (by unfold fb_F; omega) ⟨rfl, rfl, fun _ _ => rfl, fun j => by rw [if_neg (by omega)]⟩
  refine ⟨u', ?_, h2, h3, h4, fun i hi => ?_⟩
  · unfold fX7_drop
    rw [hx, Option.bind_some, if_pos (nI_pos' (by omega)), hS.ld_77_0, fb_n78, fb_gix (show e < 10 by omega) (by omega), nI_clamp (n := e) (by omega), fb_ldE (hp e (by omega)).2 (hp e (by omega)).1, hn]
    rw [show nI n - 1 = nI (n - 1) from by rw [show n = (n - 1) + 1 by omega, nI_pred]; rfl]
    exact h1
  · rw [h5 i]
    unfold fb_out
    by_cases h : i = n - 1
    · rw [if_pos h, if_pos h]
    · rw [if_neg h, if_neg h]
      by_cases h6 : e ≤ i ∧ i < n - 1
      · rw [if_pos h6, if_pos h6]; exact (hp (i + 1) (by omega)).2
      · rw [if_neg h6, if_neg h6]; exact (hp i hi).2

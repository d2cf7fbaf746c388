/-! run: the book's one pass says the same -/
theorem fb_at_mo {at_ : Nat → Nat} {np : Nat} (hs : ∀ k, k + 1 < np → at_ (k + 1) = at_ k ∨ at_ (k + 1) = at_ k + 1) {a : Nat} : ∀ d, a + d < np → at_ a ≤ at_ (a + d)
  | 0, _ => Nat.le_refl _
  | d + 1, h => by
    have h1 := fb_at_mo hs (a := a) d (by omega)
    have h2 := hs (a + d) (by omega)
    rw [show a + (d + 1) = a + d + 1 by omega]
    omega
theorem fb_ft_v {h : Nat → Int32} {at_ : Nat → Nat} {np : Nat} (h01 : ∀ k, h k = 0 ∨ h k = 1) (hs : ∀ k, k + 1 < np → at_ (k + 1) = at_ k ∨ at_ (k + 1) = at_ k + 1) : ∀ m k x, k + m = np → 0 < k → (x = 0 ∨ x = 1) →
    (fb_ft h at_ m k x = 0 ∨ fb_ft h at_ m k x = 1) ∧ (¬ fb_ft h at_ m k x = 0 ↔ (¬ x = 0 ∧ ∀ j, k ≤ j → j < np → at_ j = at_ (k - 1) → ¬ h j = 0) ∨ ∃ b, at_ (k - 1) < b ∧ b ≤ at_ (np - 1) ∧ ∀ j, k ≤ j → j < np → at_ j = b → ¬ h j = 0)
  | 0, k, x, hk, h0, hx => ⟨hx, fun q => Or.inl ⟨q, fun j h1 h2 => by omega⟩, fun q => q.elim (fun q => q.1) (fun ⟨b, h1, h2, _⟩ => by rw [show np - 1 = k - 1 by omega] at h2; omega)⟩
  | m + 1, k, x, hk, h0, hx => by
    have hmo : ∀ j, k ≤ j → j < np → at_ k ≤ at_ j := fun j h1 h2 => by
      have := fb_at_mo hs (a := k) (j - k) (by omega)
      rwa [show k + (j - k) = j by omega] at this
    have hlast := hmo (np - 1) (by omega) (by omega)
    have hst := hs (k - 1) (by omega)
    rw [show k - 1 + 1 = k by omega] at hst
    rw [fb_ft]
    by_cases hat : at_ k = at_ (k - 1)
    · rw [if_neg (fun q => q.2 hat)]
      have hy : (if x = 0 then (0 : Int32) else h k) = 0 ∨ (if x = 0 then (0 : Int32) else h k) = 1 := by
        split
        · exact Or.inl rfl
        · exact h01 k
      obtain ⟨i1, i2⟩ := fb_ft_v h01 hs m (k + 1) _ (by omega) (by omega) hy
      rw [show k + 1 - 1 = k by omega] at i2
      refine ⟨i1, i2.trans ⟨fun q => ?_, fun q => ?_⟩⟩
      · rcases q with ⟨q1, q2⟩ | ⟨b, q1, q2, q3⟩
        · by_cases hx0 : x = 0
          · rw [if_pos hx0] at q1; exact absurd rfl q1
          · rw [if_neg hx0] at q1
            refine Or.inl ⟨hx0, fun j h1 h2 h3 => ?_⟩
            by_cases hjk : j = k
            · subst hjk; exact q1
            · exact q2 j (by omega) h2 (by rw [h3, hat])
        · refine Or.inr ⟨b, by omega, q2, fun j h1 h2 h3 => ?_⟩
          by_cases hjk : j = k
          · subst hjk; omega
          · exact q3 j (by omega) h2 h3
      · rcases q with ⟨q1, q2⟩ | ⟨b, q1, q2, q3⟩
        · refine Or.inl ⟨by rw [if_neg q1]; exact q2 k (Nat.le_refl _) (by omega) hat, fun j h1 h2 h3 => q2 j (by omega) h2 (by rw [h3, hat])⟩
        · exact Or.inr ⟨b, by omega, q2, fun j h1 h2 h3 => q3 j (by omega) h2 h3⟩
    · rw [if_pos ⟨h0, hat⟩]
      by_cases hx0 : x = 0
      · rw [if_pos hx0]
        obtain ⟨i1, i2⟩ := fb_ft_v h01 hs m (k + 1) (h k) (by omega) (by omega) (h01 k)
        rw [show k + 1 - 1 = k by omega] at i2
        refine ⟨i1, i2.trans ⟨fun q => ?_, fun q => ?_⟩⟩
        · rcases q with ⟨q1, q2⟩ | ⟨b, q1, q2, q3⟩
          · refine Or.inr ⟨at_ k, by omega, hlast, fun j h1 h2 h3 => ?_⟩
            by_cases hjk : j = k
            · subst hjk; exact q1
            · exact q2 j (by omega) h2 h3
          · refine Or.inr ⟨b, by omega, q2, fun j h1 h2 h3 => ?_⟩
            by_cases hjk : j = k
            · subst hjk; omega
            · exact q3 j (by omega) h2 h3
        · rcases q with ⟨q1, -⟩ | ⟨b, q1, q2, q3⟩
          · exact absurd hx0 q1
          · by_cases hbk : b = at_ k
            · exact Or.inl ⟨q3 k (Nat.le_refl _) (by omega) hbk.symm, fun j h1 h2 h3 => q3 j (by omega) h2 (by rw [h3, hbk])⟩
            · exact Or.inr ⟨b, by omega, q2, fun j h1 h2 h3 => q3 j (by omega) h2 h3⟩
      · rw [if_neg hx0]
        refine ⟨Or.inr rfl, fun _ => Or.inl ⟨hx0, fun j h1 h2 h3 => ?_⟩, fun _ => fb_10⟩
        have := hmo j h1 h2
        omega
theorem fb_ft_an {h : Nat → Int32} {at_ : Nat → Nat} {np na : Nat} (h01 : ∀ k, h k = 0 ∨ h k = 1) (hs : ∀ k, k + 1 < np → at_ (k + 1) = at_ k ∨ at_ (k + 1) = at_ k + 1) (hz : np = 0 → na = 0) (hl : 0 < np → at_ 0 = 0 ∧ at_ (np - 1) + 1 = na) : fb_ft h at_ np 0 1 = fb_an h at_ np na 0 (if na = 0 then 1 else 0) ∧ (fb_ft h at_ np 0 1 = 0 ∨ fb_ft h at_ np 0 1 = 1) := by
  by_cases hnp : np = 0
  · rw [hnp, hz hnp]
    exact ⟨rfl, Or.inr rfl⟩
  obtain ⟨l1, l2⟩ := hl (by omega)
  obtain ⟨m, rfl⟩ : ∃ m, np = m + 1 := ⟨np - 1, by omega⟩
  have e : fb_ft h at_ (m + 1) 0 1 = fb_ft h at_ m 1 (h 0) := by
    rw [fb_ft, if_neg (fun q => absurd q.1 (by omega)), if_neg fb_10]
  obtain ⟨i1, i2⟩ := fb_ft_v h01 hs m 1 (h 0) (by omega) (by omega) (h01 0)
  obtain ⟨j1, j2⟩ := fb_an_v (at_ := at_) (np := m + 1) h01 na 0 0 (Or.inl rfl)
  rw [if_neg (show ¬ na = 0 by omega), e]
  refine ⟨?_, i1⟩
  have hiff : (¬ fb_ft h at_ m 1 (h 0) = 0) ↔ (¬ fb_an h at_ (m + 1) na 0 0 = 0) := by
    rw [i2, j2]
    constructor
    · rintro (⟨q1, q2⟩ | ⟨b, q1, q2, q3⟩)
      · refine Or.inr ⟨0, by omega, by omega, fun j h1 h2 => ?_⟩
        by_cases hj : j = 0
        · subst hj; exact q1
        · exact q2 j (by omega) h1 (by rw [h2, show 1 - 1 = 0 by omega, l1])
      · refine Or.inr ⟨b, by omega, by omega, fun j h1 h2 => ?_⟩
        by_cases hj : j = 0
        · subst hj
          rw [show 1 - 1 = 0 by omega] at q1
          omega
        · exact q3 j (by omega) h1 h2
    · rintro (q | ⟨b, q1, q2, q3⟩)
      · exact absurd rfl q
      · by_cases hb : b = 0
        · subst hb
          exact Or.inl ⟨q3 0 (by omega) l1, fun j h1 h2 h3 => q3 j h2 (by rw [h3, show 1 - 1 = 0 by omega, l1])⟩
        · exact Or.inr ⟨b, by rw [show 1 - 1 = 0 by omega, l1]; omega, by omega, fun j h1 h2 h3 => q3 j h2 h3⟩
  rcases i1 with a | a <;> rcases j1 with b | b
  · rw [a, b]
  · exact absurd a (hiff.mpr (by rw [b]; exact fb_10))
  · exact absurd b (hiff.mp (by rw [a]; exact fb_10))
  · rw [a, b]

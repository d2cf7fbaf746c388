/-! run: the order is one -/
theorem fb_cp3 (A B : Nat → Int) : ∀ m i, fb_cp A B m i = 0 ∨ fb_cp A B m i = -1 ∨ fb_cp A B m i = 1
  | 0, _ => Or.inl rfl
  | m + 1, i => by
    rw [fb_cp]
    split
    · exact fb_cp3 A B m (i + 1)
    · split
      · exact Or.inr (Or.inl rfl)
      · exact Or.inr (Or.inr rfl)
theorem fb_cps (A B : Nat → Int) : ∀ m i, fb_cp B A m i = - fb_cp A B m i
  | 0, _ => show (0 : Int32) = -0 by decide
  | m + 1, i => by
    rw [fb_cp, fb_cp]
    by_cases h : A i = B i
    · rw [if_pos h, if_pos h.symm]; exact fb_cps A B m (i + 1)
    · rw [if_neg h, if_neg (fun q => h q.symm)]
      by_cases h2 : A i < B i
      · rw [if_pos h2, if_neg (by omega)]; rfl
      · rw [if_neg h2, if_pos (by omega)]
theorem fb_cpr (A : Nat → Int) : ∀ m i, fb_cp A A m i = 0
  | 0, _ => rfl
  | m + 1, i => by rw [fb_cp, if_pos rfl]; exact fb_cpr A m (i + 1)
theorem fb_cpt (A B C : Nat → Int) : ∀ m i, (fb_cp A B m i = 0 → fb_cp A C m i = fb_cp B C m i) ∧ (fb_cp B C m i = 0 → fb_cp A C m i = fb_cp A B m i) ∧ (fb_cp A B m i = -1 → fb_cp B C m i = -1 → fb_cp A C m i = -1)
  | 0, _ => ⟨fun _ => rfl, fun _ => rfl, fun h => absurd h (show ¬ (0 : Int32) = -1 by decide)⟩
  | m + 1, i => by
    obtain ⟨t1, t2, t3⟩ := fb_cpt A B C m (i + 1)
    rw [fb_cp, fb_cp, fb_cp]
    have d1 : ¬ (-1 : Int32) = 0 := by decide
    have d2 : ¬ (1 : Int32) = 0 := by decide
    have d3 : ¬ (1 : Int32) = -1 := by decide
    by_cases h1 : A i = B i
    · rw [if_pos h1]
      by_cases h2 : B i = C i
      · rw [if_pos h2, if_pos (by omega)]
        exact ⟨t1, t2, t3⟩
      · rw [if_neg h2, if_neg (by omega)]
        by_cases h3 : B i < C i
        · rw [if_pos h3, if_pos (by omega)]
          exact ⟨fun _ => rfl, fun q => absurd q d1, fun _ _ => rfl⟩
        · rw [if_neg h3, if_neg (by omega)]
          exact ⟨fun _ => rfl, fun q => absurd q d2, fun _ q => absurd q d3⟩
    · rw [if_neg h1]
      by_cases h4 : A i < B i
      · rw [if_pos h4]
        by_cases h2 : B i = C i
        · rw [if_pos h2, if_neg (by omega), if_pos (by omega)]
          exact ⟨fun q => absurd q d1, fun _ => rfl, fun _ _ => rfl⟩
        · rw [if_neg h2]
          by_cases h3 : B i < C i
          · rw [if_pos h3, if_neg (by omega), if_pos (by omega)]
            exact ⟨fun q => absurd q d1, fun q => absurd q d1, fun _ _ => rfl⟩
          · rw [if_neg h3]
            exact ⟨fun q => absurd q d1, fun q => absurd q d2, fun _ q => absurd q d3⟩
      · rw [if_neg h4]
        refine ⟨fun q => absurd q d2, fun q => ?_, fun q => absurd q d3⟩
        by_cases h2 : B i = C i
        · rw [if_neg (by omega), if_neg (by omega)]
        · rw [if_neg h2] at q
          by_cases h3 : B i < C i
          · rw [if_pos h3] at q; exact absurd q d1
          · rw [if_neg h3] at q; exact absurd q d2
/-- d comes before e -/
def fb_bef (S : Nat → Nat → Int) (no d e : Nat) : Prop := fb_cp (S d) (S e) no 0 = -1 ∨ (fb_cp (S d) (S e) no 0 = 0 ∧ d < e)
theorem fb_bef_ir {S : Nat → Nat → Int} {no d : Nat} : ¬ fb_bef S no d d := by
  rintro (h | h)
  · rw [fb_cpr] at h; exact absurd h (by decide)
  · omega
theorem fb_bef_tr {S : Nat → Nat → Int} {no a b c : Nat} (h1 : fb_bef S no a b) (h2 : fb_bef S no b c) : fb_bef S no a c := by
  obtain ⟨t1, t2, t3⟩ := fb_cpt (S a) (S b) (S c) no 0
  rcases h1 with h1 | ⟨h1, g1⟩
  · rcases h2 with h2 | ⟨h2, g2⟩
    · exact Or.inl (t3 h1 h2)
    · exact Or.inl (by rw [t2 h2]; exact h1)
  · rcases h2 with h2 | ⟨h2, g2⟩
    · exact Or.inl (by rw [t1 h1]; exact h2)
    · exact Or.inr ⟨by rw [t1 h1]; exact h2, by omega⟩
theorem fb_bef_as {S : Nat → Nat → Int} {no a b : Nat} (h1 : fb_bef S no a b) : ¬ fb_bef S no b a := fun h2 => fb_bef_ir (fb_bef_tr h1 h2)
/-- a later one that is not put before goes behind -/
theorem fb_bef_of {S : Nat → Nat → Int} {no d e : Nat} (h : ¬ fb_cp (S e) (S d) no 0 = -1) (hlt : d < e) : fb_bef S no d e := by
  have hs := fb_cps (S d) (S e) no 0
  rcases fb_cp3 (S d) (S e) no 0 with q | q | q
  · exact Or.inr ⟨q, hlt⟩
  · exact Or.inl q
  · rw [q] at hs; exact absurd hs h
/-! counting -/
def fb_cn (P : Nat → Bool) : Nat → Nat
  | 0 => 0
  | n + 1 => fb_cn P n + if P n = true then 1 else 0
theorem fb_cn_le (P : Nat → Bool) : ∀ n, fb_cn P n ≤ n
  | 0 => Nat.le_refl _
  | n + 1 => by
    have := fb_cn_le P n
    rw [fb_cn]
    split <;> omega
theorem fb_cn_cg {P Q : Nat → Bool} : ∀ n, (∀ d, d < n → P d = Q d) → fb_cn P n = fb_cn Q n
  | 0, _ => rfl
  | n + 1, h => by rw [fb_cn, fb_cn, fb_cn_cg n (fun d hd => h d (by omega)), h n (by omega)]
theorem fb_cn_add {P Q : Nat → Bool} {x : Nat} : ∀ n, (∀ d, d < n → d ≠ x → Q d = P d) → (x < n → P x = false ∧ Q x = true) → fb_cn Q n = fb_cn P n + if x < n then 1 else 0
  | 0, _, _ => rfl
  | n + 1, h1, h2 => by
    have ih := fb_cn_add n (fun d hd hx => h1 d (by omega) hx) (fun hx => h2 (by omega))
    rw [fb_cn, fb_cn, ih]
    by_cases hx : x = n
    · subst hx
      obtain ⟨g1, g2⟩ := h2 (by omega)
      rw [g1, g2, if_neg (show ¬ x < x by omega), if_pos (show x < x + 1 by omega)]
      simp
    · rw [h1 n (by omega) (fun q => hx q.symm)]
      by_cases hxn : x < n
      · rw [if_pos hxn, if_pos (show x < n + 1 by omega)]; omega
      · rw [if_neg hxn, if_neg (show ¬ x < n + 1 by omega)]; omega
theorem fb_cn_0 : ∀ n, fb_cn (fun _ => false) n = 0
  | 0 => rfl
  | n + 1 => by rw [fb_cn, fb_cn_0 n]; rfl

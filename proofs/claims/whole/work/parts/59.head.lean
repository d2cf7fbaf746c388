/-! define: the subject and the limit -/
def fb_sd (T : Nat → Int32) (n k p : Nat) : Prop := fb_len.getD k 0 + p ≤ n ∧ fb_st T (fb_by k) p = true
def fb_sdD (T : Nat → Int32) (n k p : Nat) : Decidable (fb_sd T n k p) := inferInstanceAs (Decidable (fb_len.getD k 0 + p ≤ n ∧ fb_st T (fb_by k) p = true))
theorem eSkip {u w : fb_M} {n N : Nat} (hB : fb_B u n N) (hW : fb_Wc u w) {k p : Nat} (hk : k < 25) (hp : p ≤ 200) (h2 : fb_I w 21 2 = nI p) :
    (fb_sd (fb_tx u n) n k p → fX3_skip w 21 k = some (1, fb_wI w 21 2 (nI (p + fb_len.getD k 0)))) ∧ (¬ fb_sd (fb_tx u n) n k p → fX3_skip w 21 k = some (0, w)) := by
  have hS := hW.St hB.1
  unfold fX3_skip
  rw [hS.ld_21_0, hS.ld_21_0, h2, show fX0_length w 1 = some (nI n) by unfold fX0_length; rw [(hW.Tx hB).2.1], Option.bind_some, eSwb hB hW hk hp (Nat.le_refl n), Option.bind_some]
  constructor
  · intro h
    rw [if_pos (c := fb_len.getD k 0 + p ≤ n ∧ fb_st (fb_tx u n) (fb_by k) p = true) h, if_neg fb_10, show nI p + Int32.ofNat (fb_len.getD k 0) = nI (p + fb_len.getD k 0) from nI_add _ _]
  · intro h
    rw [if_neg (c := fb_len.getD k 0 + p ≤ n ∧ fb_st (fb_tx u n) (fb_by k) p = true) h, if_pos rfl]
/-- which subject the text begins with, and the place behind it -/
def fb_sj (T : Nat → Int32) (n : Nat) : Option (Nat × Nat) :=
  if 4 + 0 ≤ n ∧ fb_st T (fb_by 3) 0 = true then some (0, 4) else if 5 + 0 ≤ n ∧ fb_st T (fb_by 0) 0 = true then some (1, 5) else if 6 + 0 ≤ n ∧ fb_st T (fb_by 1) 0 = true then some (2, 6) else if 6 + 0 ≤ n ∧ fb_st T (fb_by 2) 0 = true then some (3, 6) else none
theorem fb_sj_in {T : Nat → Int32} {n s p : Nat} (h : fb_sj T n = some (s, p)) : s < 4 ∧ p ≤ 6 ∧ p ≤ n ∧ p = (if s = 0 then 4 else if s = 1 then 5 else 6) := by
  unfold fb_sj at h
  by_cases h1 : 4 + 0 ≤ n ∧ fb_st T (fb_by 3) 0 = true
  · rw [if_pos h1] at h; cases h; exact ⟨by omega, by omega, by omega, rfl⟩
  rw [if_neg h1] at h
  by_cases h2 : 5 + 0 ≤ n ∧ fb_st T (fb_by 0) 0 = true
  · rw [if_pos h2] at h; cases h; exact ⟨by omega, by omega, by omega, rfl⟩
  rw [if_neg h2] at h
  by_cases h3 : 6 + 0 ≤ n ∧ fb_st T (fb_by 1) 0 = true
  · rw [if_pos h3] at h; cases h; exact ⟨by omega, by omega, by omega, rfl⟩
  rw [if_neg h3] at h
  by_cases h4 : 6 + 0 ≤ n ∧ fb_st T (fb_by 2) 0 = true
  · rw [if_pos h4] at h; cases h; exact ⟨by omega, by omega, by omega, rfl⟩
  rw [if_neg h4] at h; cases h
theorem eSubjS {u w : fb_M} {n N : Nat} (hB : fb_B u n N) (hW : fb_Wc u w) (a : Nat) (h2 : fb_I w 21 2 = nI 0) (fu : Nat) {x k : Nat} (hx : x ≤ 3) (hk : k < 25) (hw : fX3_subjectWord w (nI x) = some k) :
    (fb_sd (fb_tx u n) n k 0 → gX3_readSubject_2 21 a (fu + 1) (nI x) w = some (1, fb_wI (fb_wI w 21 2 (nI (fb_len.getD k 0))) a 0 (nI x))) ∧ (¬ fb_sd (fb_tx u n) n k 0 → gX3_readSubject_2 21 a (fu + 1) (nI x) w = gX3_readSubject_2 21 a fu (nI (x + 1)) w) := by
  obtain ⟨s1, s2⟩ := eSkip hB hW hk (by omega) h2
  have e : gX3_readSubject_2 21 a (fu + 1) (nI x) w = bX3_readSubject_2 (gX3_readSubject_2 21 a fu) 21 a (nI x) w := rfl
  rw [e]
  unfold bX3_readSubject_2
  rw [if_neg (show ¬ (3 : Int32) < nI x from nI_nlt (a := 3) hx (by omega)), hw, Option.bind_some, fb_gdT (show k < fb_nS from hk)]
  constructor
  · intro h
    rw [s1 h, Option.bind_some, Nat.zero_add]
    exact if_neg fb_10
  · intro h
    rw [s2 h, Option.bind_some, nI_1]
    exact if_pos rfl
theorem eSubj {u w : fb_M} {n N : Nat} (hB : fb_B u n N) (hW : fb_Wc u w) (a : Nat) (h2 : fb_I w 21 2 = nI 0) : (∀ s p, fb_sj (fb_tx u n) n = some (s, p) → fX3_readSubject w 21 a = some (1, fb_wI (fb_wI w 21 2 (nI p)) a 0 (nI s))) ∧ (fb_sj (fb_tx u n) n = none → fX3_readSubject w 21 a = some (0, w)) := by
  have e : fX3_readSubject w 21 a = gX3_readSubject_2 21 a (3995 + 1 + 1 + 1 + 1 + 1) (nI 0) w := rfl
  obtain ⟨a1, b1⟩ := eSubjS hB hW a h2 (3995 + 1 + 1 + 1 + 1) (x := 0) (k := 3) (by omega) (by omega) rfl
  obtain ⟨a2, b2⟩ := eSubjS hB hW a h2 (3995 + 1 + 1 + 1) (x := 1) (k := 0) (by omega) (by omega) rfl
  obtain ⟨a3, b3⟩ := eSubjS hB hW a h2 (3995 + 1 + 1) (x := 2) (k := 1) (by omega) (by omega) rfl
  obtain ⟨a4, b4⟩ := eSubjS hB hW a h2 (3995 + 1) (x := 3) (k := 2) (by omega) (by omega) rfl
  have b5 : gX3_readSubject_2 21 a (3995 + 1) (nI 4) w = some (0, w) := by
    show bX3_readSubject_2 _ 21 a (nI 4) w = _
    unfold bX3_readSubject_2
    exact if_pos (by decide)
  rw [e]
  unfold fb_sj
  by_cases h1 : 4 + 0 ≤ n ∧ fb_st (fb_tx u n) (fb_by 3) 0 = true
  · rw [if_pos h1, a1 h1]
    exact ⟨fun s p q => by cases q; rfl, fun q => by cases q⟩
  rw [if_neg h1, b1 h1]
  by_cases h2 : 5 + 0 ≤ n ∧ fb_st (fb_tx u n) (fb_by 0) 0 = true
  · rw [if_pos h2, a2 h2]
    exact ⟨fun s p q => by cases q; rfl, fun q => by cases q⟩
  rw [if_neg h2, b2 h2]
  by_cases h3 : 6 + 0 ≤ n ∧ fb_st (fb_tx u n) (fb_by 1) 0 = true
  · rw [if_pos h3, a3 h3]
    exact ⟨fun s p q => by cases q; rfl, fun q => by cases q⟩
  rw [if_neg h3, b3 h3]
  by_cases h4 : 6 + 0 ≤ n ∧ fb_st (fb_tx u n) (fb_by 2) 0 = true
  · rw [if_pos h4, a4 h4]
    exact ⟨fun s p q => by cases q; rfl, fun q => by cases q⟩
  rw [if_neg h4, b4 h4, b5]
  exact ⟨fun s p q => (by cases q), fun _ => rfl⟩
theorem fb_kfind : fb_pk [100, 110, 105, 102] 1718185572 = true := by decide +kernel
theorem fb_kcount : fb_pk [116, 110, 117, 111, 99] 427071729268 = true := by decide +kernel
theorem fb_kexists : fb_pk [115, 116, 115, 105, 120, 101] 111567839655027 = true := by decide +kernel
theorem fb_kdelete : fb_pk [101, 116, 101, 108, 101, 100] 110386773062757 = true := by decide +kernel
theorem fb_kTop : fb_pk [112, 111, 84] 5533552 = true := by decide +kernel
theorem fb_kFirst : fb_pk [116, 115, 114, 105, 70] 302416819060 = true := by decide +kernel
theorem fb_kBy : fb_pk [121, 66] 17017 = true := by decide +kernel
theorem fb_kOrderBy : fb_pk [121, 66, 114, 101, 100, 114, 79] 22362298684424825 = true := by decide +kernel
theorem eSubjM {u v : fb_M} {n N : Nat} (hB : fb_B u n N) (hV : fb_Vc u n N v) : fX9_subjectOf v 104 = some (fb_on ((fb_sj (fb_tx u n) n).map (·.1))) := by
  have n1 : fb_I v 104 1 = nI n := hV.2.1.2.2.1
  have q1 : fX9_stands v 104 0 (nI n) 1718185572 = some (if 4 + 0 ≤ n ∧ fb_st (fb_tx u n) (fb_by 3) 0 = true then 1 else 0) := eSd (p := 0) hB hV fb_kfind (by decide) (by omega) (Nat.le_refl n)
  have q2 : fX9_stands v 104 0 (nI n) 427071729268 = some (if 5 + 0 ≤ n ∧ fb_st (fb_tx u n) (fb_by 0) 0 = true then 1 else 0) := eSd (p := 0) hB hV fb_kcount (by decide) (by omega) (Nat.le_refl n)
  have q3 : fX9_stands v 104 0 (nI n) 111567839655027 = some (if 6 + 0 ≤ n ∧ fb_st (fb_tx u n) (fb_by 1) 0 = true then 1 else 0) := eSd (p := 0) hB hV fb_kexists (by decide) (by omega) (Nat.le_refl n)
  have q4 : fX9_stands v 104 0 (nI n) 110386773062757 = some (if 6 + 0 ≤ n ∧ fb_st (fb_tx u n) (fb_by 2) 0 = true then 1 else 0) := eSd (p := 0) hB hV fb_kdelete (by decide) (by omega) (Nat.le_refl n)
  unfold fX9_subjectOf fb_sj
  rw [n1, q1, q2, q3, q4, Option.bind_some, Option.bind_some, Option.bind_some, Option.bind_some]
  by_cases h1 : 4 + 0 ≤ n ∧ fb_st (fb_tx u n) (fb_by 3) 0 = true
  · rw [if_pos h1, if_pos h1, if_neg fb_10]; rfl
  rw [if_neg h1, if_neg h1, if_pos rfl]
  by_cases h2 : 5 + 0 ≤ n ∧ fb_st (fb_tx u n) (fb_by 0) 0 = true
  · rw [if_pos h2, if_pos h2, if_neg fb_10]; rfl
  rw [if_neg h2, if_neg h2, if_pos rfl]
  by_cases h3 : 6 + 0 ≤ n ∧ fb_st (fb_tx u n) (fb_by 1) 0 = true
  · rw [if_pos h3, if_pos h3, if_neg fb_10]; rfl
  rw [if_neg h3, if_neg h3, if_pos rfl]
  by_cases h4 : 6 + 0 ≤ n ∧ fb_st (fb_tx u n) (fb_by 2) 0 = true
  · rw [if_pos h4, if_pos h4, if_neg fb_10]; rfl
  rw [if_neg h4, if_neg h4, if_pos rfl]; rfl
/-! figures -/
def fb_dg (c : Int32) : Nat := c.toNatClampNeg - 48
def fb_fgl (T : Nat → Int32) : Nat → Nat → Nat → Nat → Nat × Nat × Nat
  | 0, p, c, x => (p, c, x)
  | m + 1, p, c, x => if fb_fig (T p) then fb_fgl T m (p + 1) (c + 1) (if c < 3 then x * 10 + fb_dg (T p) else x) else (p, c, x)
theorem fb_figD : ∀ j, j < 123 → fb_fig (nI j) → 48 ≤ j ∧ j ≤ 57 := by decide +kernel
theorem fb_tx_fig {u : fb_M} {n N : Nat} (hB : fb_B u n N) {p : Nat} (h : fb_fig (fb_tx u n p)) : p < n ∧ ∃ j, fb_tx u n p = nI (48 + j) ∧ j < 10 ∧ fb_dg (fb_tx u n p) = j := by
  by_cases hp : p < n
  · have ht : fb_tx u n p = fb_I u 2 p := if_pos hp
    obtain ⟨j, h1, h2, h3⟩ := fb_okc_nat (hB.2.1.2.2.2 p hp).2
    rw [ht, h3] at h
    have := fb_figD j (by omega) h
    refine ⟨hp, j - 48, ?_, by omega, ?_⟩
    · rw [ht, h3, show 48 + (j - 48) = j by omega]
    · rw [ht, h3]; unfold fb_dg; rw [nI_clamp (by omega)]
  · have ht : fb_tx u n p = 0 := if_neg hp
    rw [ht] at h
    exact absurd h (by decide)
theorem fb_10x {x j : Nat} : nI x * 10 + nI (48 + j) - 48 = nI (x * 10 + j) := by
  rw [show (10 : Int32) = nI 10 from rfl, pk_mul, nI_add, show (48 : Int32) = nI 48 from rfl, nI_sub (by omega), show x * 10 + (48 + j) - 48 = x * 10 + j by omega]
theorem fb_x10 {x j : Nat} : 10 * nI x + nI (48 + j) - 48 = nI (x * 10 + j) := by
  rw [show (10 : Int32) = nI 10 from rfl, pk_mul, nI_add, show (48 : Int32) = nI 48 from rfl, nI_sub (by omega), show 10 * x + (48 + j) - 48 = x * 10 + j by omega]
theorem fb_fl_in {u : fb_M} {n N : Nat} (hB : fb_B u n N) : ∀ m p c x, p ≤ n → (fb_fgl (fb_tx u n) m p c x).1 ≤ n ∧ p ≤ (fb_fgl (fb_tx u n) m p c x).1 ∧ (fb_fgl (fb_tx u n) m p c x).1 + c = p + (fb_fgl (fb_tx u n) m p c x).2.1
  | 0, p, c, x, hp => ⟨hp, Nat.le_refl _, rfl⟩
  | m + 1, p, c, x, hp => by
    rw [fb_fgl]
    by_cases h : fb_fig (fb_tx u n p)
    · rw [if_pos h]
      have hpn := (fb_tx_fig hB h).1
      have := fb_fl_in hB m (p + 1) (c + 1) (if c < 3 then x * 10 + fb_dg (fb_tx u n p) else x) (by omega)
      omega
    · rw [if_neg h]; exact ⟨hp, Nat.le_refl _, rfl⟩
theorem fb_fl_x {u : fb_M} {n N : Nat} (hB : fb_B u n N) : ∀ m p c x, (c = 0 → x = 0) → (c = 1 → x < 10) → (c = 2 → x < 100) → x < 1000 → (fb_fgl (fb_tx u n) m p c x).2.2 < 1000
  | 0, p, c, x, _, _, _, h => h
  | m + 1, p, c, x, h0, h1, h2, h3 => by
    rw [fb_fgl]
    by_cases h : fb_fig (fb_tx u n p)
    · rw [if_pos h]
      obtain ⟨-, j, -, hj, hd⟩ := fb_tx_fig hB h
      rw [hd]
      by_cases hc : c < 3
      · rw [if_pos hc]
        exact fb_fl_x hB m (p + 1) (c + 1) (x * 10 + j) (by omega) (by intro q; have := h0 (by omega); omega) (by intro q; have := h1 (by omega); omega) (by have a0 := h0; have a1 := h1; have a2 := h2; omega)
      · rw [if_neg hc]
        exact fb_fl_x hB m (p + 1) (c + 1) x (by omega) (by omega) (by omega) h3
    · rw [if_neg h]; exact h3
theorem fb_fl_c {u : fb_M} {n N : Nat} (hB : fb_B u n N) : ∀ m p c x, n < p + m → ¬ fb_fig (fb_tx u n (fb_fgl (fb_tx u n) m p c x).1)
  | 0, p, c, x, hm => fun h => by have := (fb_tx_fig hB h).1; have h2 : p < n := this; omega
  | m + 1, p, c, x, hm => by
    rw [fb_fgl]
    by_cases h : fb_fig (fb_tx u n p)
    · rw [if_pos h]; exact fb_fl_c hB m (p + 1) (c + 1) _ (by omega)
    · rw [if_neg h]; exact h

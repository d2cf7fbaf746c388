/-! define: the orders -/
def fb_DC2 (f a k : Nat) : Prop := (a = 23 + 6 * f ∧ k = 6) ∨ a = 27 + 6 * f ∨ a = 28 + 6 * f
def fb_DM2 (a k : Nat) : Prop := (a = 104 ∧ (k = 19 ∨ k = 21)) ∨ a = 122 ∨ a = 123
def fb_RO (u : fb_M) (n N f : Nat) (w v : fb_M) (no : Nat) : Prop :=
  fb_Wc u w ∧ fb_Vc u n N v ∧ fb_I v 104 21 = 0 ∧ (fb_I w (23 + 6 * f) 6 = nI no ∧ fb_I v 104 19 = nI no) ∧
  ∃ lo dn : Nat → Nat, (∀ k, k < no → lo k < 8 ∧ dn k < 2) ∧ (∀ k, k < no → k < 3 → (fb_I w (27 + 6 * f) k = nI (lo k) ∧ fb_I w (28 + 6 * f) k = nI (dn k)) ∧ fb_I v 122 k = nI (lo k) ∧ fb_I v 123 k = nI (dn k))
def fb_BO (u : fb_M) (n N : Nat) (v : fb_M) (no : Nat) : Prop := fb_Vc u n N v ∧ fb_I v 104 21 = 1 ∧ fb_I v 104 19 = nI no
theorem fb_kAsc : fb_pk [99, 115, 65] 4289379 = true := by decide +kernel
theorem fb_kDesc : fb_pk [99, 115, 101, 68] 1147499363 = true := by decide +kernel
theorem fb_bool : ∀ d, d < 2 → vp_nar .boolean (nI d) = nI d := by decide +kernel
theorem fb_Vc.dM2 {u v w : fb_M} {n N : Nat} (h : fb_Vc u n N v) (hd : fb_df v w fb_DM2) : fb_Vc u n N w := h.df hd (by unfold fb_DM2; omega) (by unfold fb_DM2; omega) (fun a k h1 h2 => by unfold fb_DM2; omega)
theorem eAddOrder {w : fb_M} (hS : fb_St w) {f : Nat} (hf : f < 9) {no l dn : Nat} (hno : no < 2 ^ 20) (h6 : fb_I w (23 + 6 * f) 6 = nI no) (hdn : dn < 2) :
    ∃ w', fX2_addOrder w (23 + 6 * f) (nI l) (nI dn) = some w' ∧ fb_df w w' (fun a k => (a = 23 + 6 * f ∧ k = 6) ∨ ((a = 27 + 6 * f ∨ a = 28 + 6 * f) ∧ k = no)) ∧ fb_I w' (23 + 6 * f) 6 = nI (no + 1) ∧ (no < 3 → fb_I w' (27 + 6 * f) no = nI l ∧ fb_I w' (28 + 6 * f) no = nI dn) := by
  unfold fX2_addOrder
  by_cases h3 : 3 ≤ no
  · rw [h6, if_pos (show (3 : Int32) ≤ nI no from nI_le (a := 3) h3 (by omega)), nI_1]
    exact ⟨_, rfl, (fb_df.rf w _).wI (Or.inl ⟨rfl, rfl⟩), fb_IwI_eq _ _ _ _, fun h => absurd h (by omega)⟩
  · have I1 : fb_I (fb_wI w (27 + 6 * f) no (nI l)) (23 + 6 * f) 6 = nI no := by rw [fb_IwI_ne _ _ (by omega), h6]
    have I2 : fb_I (fb_wI (fb_wI w (27 + 6 * f) no (nI l)) (28 + 6 * f) no (nI dn)) (23 + 6 * f) 6 = nI no := by rw [fb_IwI_ne _ _ (by omega), I1]
    rw [h6, if_neg (show ¬ (3 : Int32) ≤ nI no from nI_ge (b := 3) (by omega) (by omega)), hS.ld_fol hf, fb_n_fol f hf, fb_gix (show no < 3 by omega) (by omega), nI_clamp (n := no) (by omega), (hS.wI _ _ _).ld_fod hf, fb_n_fod f hf, I1, fb_gix (show no < 3 by omega) (by omega), nI_clamp (n := no) (by omega), fb_bool dn hdn, I2, nI_1]
    refine ⟨_, rfl, ?_, ?_, fun h => ⟨?_, ?_⟩⟩
    · refine fb_df.wI (fb_df.wI (fb_df.wI (fb_df.rf w _) ?_) ?_) ?_
      · exact Or.inr ⟨Or.inl rfl, rfl⟩
      · exact Or.inr ⟨Or.inr rfl, rfl⟩
      · exact Or.inl ⟨rfl, rfl⟩
    · rw [fb_IwI_eq]
    · rw [fb_IwI_ne _ _ (by omega), fb_IwI_ne _ _ (by omega), fb_IwI_eq]
    · rw [fb_IwI_ne _ _ (by omega), fb_IwI_eq]
theorem eTake65 {v : fb_M} (hS : fb_St v) {no : Nat} (hno : no < 2 ^ 20) (h19 : fb_I v 104 19 = nI no) {b x : Int32} (hb : b = 0 ∨ b = 1) {D : Option Nat} (hD : ∀ p, D = some p → p ≤ 200) :
    ∃ v', jX9_takeOrder_65 104 (fb_on D) x 104 b v = some v' ∧ fb_df v v' (fun a k => (a = 104 ∧ (k = 19 ∨ k = 21)) ∨ ((a = 122 ∨ a = 123) ∧ k = no)) ∧ fb_I v' 104 19 = nI (no + 1) ∧ fb_I v' 104 21 = b ∧ (no < 3 → fb_I v' 122 no = x ∧ fb_I v' 123 no = nI (if D = none then 0 else 1)) := by
  unfold jX9_takeOrder_65
  have I0 : fb_I (fb_wI v 104 21 b) 104 19 = nI no := by rw [fb_IwI_ne _ _ (by omega), h19]
  by_cases h3 : 3 ≤ no
  · rw [fb_gdT hb, I0, if_pos (show (3 : Int32) ≤ nI no from nI_le (a := 3) h3 (by omega)), nI_1]
    refine ⟨_, rfl, ?_, ?_, ?_, fun h => absurd h (by omega)⟩
    · exact ((fb_df.rf v _).wI (Or.inl ⟨rfl, Or.inr rfl⟩)).wI (Or.inl ⟨rfl, Or.inl rfl⟩)
    · rw [fb_IwI_eq]
    · rw [fb_IwI_ne _ _ (by omega), fb_IwI_eq]
  · have I1 : fb_I (fb_wI (fb_wI v 104 21 b) 122 no x) 104 19 = nI no := by rw [fb_IwI_ne _ _ (by omega), I0]
    have I2 : ∀ y, fb_I (fb_wI (fb_wI (fb_wI v 104 21 b) 122 no x) 123 no y) 104 19 = nI no := fun y => by rw [fb_IwI_ne _ _ (by omega), I1]
    rw [fb_gdT hb, I0, if_neg (show ¬ (3 : Int32) ≤ nI no from nI_ge (b := 3) (by omega) (by omega)), (hS.wI _ _ _).ld_104_25, fb_n122, fb_gix (show no < 3 by omega) (by omega), nI_clamp (n := no) (by omega), ((hS.wI _ _ _).wI _ _ _).ld_104_26, fb_n123, I1, fb_gix (show no < 3 by omega) (by omega), fb_gix (show no < 3 by omega) (by omega), nI_clamp (n := no) (by omega), I2, I2, nI_1]
    have hfin : ∀ y : Int32, ∃ v', some (fb_wI (fb_wI (fb_wI (fb_wI v 104 21 b) 122 no x) 123 no y) 104 19 (nI (no + 1))) = some v' ∧ fb_df v v' (fun a k => (a = 104 ∧ (k = 19 ∨ k = 21)) ∨ ((a = 122 ∨ a = 123) ∧ k = no)) ∧ fb_I v' 104 19 = nI (no + 1) ∧ fb_I v' 104 21 = b ∧ (no < 3 → fb_I v' 122 no = x ∧ fb_I v' 123 no = y) := by
      intro y
      refine ⟨_, rfl, ?_, ?_, ?_, fun h => ⟨?_, ?_⟩⟩
      · refine fb_df.wI (fb_df.wI (fb_df.wI (fb_df.wI (fb_df.rf v _) ?_) ?_) ?_) ?_
        · exact Or.inl ⟨rfl, Or.inr rfl⟩
        · exact Or.inr ⟨Or.inl rfl, rfl⟩
        · exact Or.inr ⟨Or.inr rfl, rfl⟩
        · exact Or.inl ⟨rfl, Or.inl rfl⟩
      · rw [fb_IwI_eq]
      · rw [fb_IwI_ne _ _ (by omega), fb_IwI_ne _ _ (by omega), fb_IwI_ne _ _ (by omega), fb_IwI_eq]
      · rw [fb_IwI_ne _ _ (by omega), fb_IwI_ne _ _ (by omega), fb_IwI_eq]
      · rw [fb_IwI_ne _ _ (by omega), fb_IwI_eq]
    cases D with
    | none =>
      rw [if_pos (show fb_on none < 0 by decide), show vp_nar .boolean 0 = nI 0 from fb_bool 0 (by omega), if_pos rfl]
      exact hfin _
    | some p =>
      have := hD p rfl
      rw [if_neg (show ¬ fb_on (some p) < 0 from nI_pos (by omega)), show vp_nar .boolean 1 = nI 1 from fb_bool 1 (by omega), if_neg (by simp)]
      exact hfin _
/-- where the name ends, and whether it goes down -/
def fb_oe (T : Nat → Int32) (fr e : Nat) : Nat × Nat := if 4 + fr ≤ e ∧ fb_st T (fb_by 24) (e - 4) = true then (e - 4, 1) else if 3 + fr ≤ e ∧ fb_st T (fb_by 23) (e - 3) = true then (e - 3, 0) else (e, 0)
theorem fb_oe_in (T : Nat → Int32) {fr e : Nat} (h : fr ≤ e) : fr ≤ (fb_oe T fr e).1 ∧ (fb_oe T fr e).1 ≤ e ∧ (fb_oe T fr e).2 < 2 := by
  unfold fb_oe
  by_cases h1 : 4 + fr ≤ e ∧ fb_st T (fb_by 24) (e - 4) = true
  · rw [if_pos h1]; exact ⟨by show fr ≤ e - 4; omega, by show e - 4 ≤ e; omega, by show 1 < 2; omega⟩
  · rw [if_neg h1]
    by_cases h2 : 3 + fr ≤ e ∧ fb_st T (fb_by 23) (e - 3) = true
    · rw [if_pos h2]; exact ⟨by show fr ≤ e - 3; omega, by show e - 3 ≤ e; omega, by show 0 < 2; omega⟩
    · rw [if_neg h2]; exact ⟨h, Nat.le_refl _, by show 0 < 2; omega⟩
theorem fb_AD {T : Nat → Int32} {e : Nat} (h4 : 4 ≤ e) (h1 : fb_st T (fb_by 24) (e - 4) = true) (h2 : fb_st T (fb_by 23) (e - 3) = true) : False := by
  obtain ⟨-, x2⟩ := fb_st_c.mp (show fb_st T [68, 101, 115, 99] (e - 4) = true from h1)
  obtain ⟨x3, -⟩ := fb_st_c.mp x2
  obtain ⟨y1, -⟩ := fb_st_c.mp (show fb_st T [65, 115, 99] (e - 3) = true from h2)
  rw [show e - 4 + 1 = e - 3 by omega, y1] at x3
  exact absurd x3 (by decide)
theorem eRo3 {u w : fb_M} {n N : Nat} (hB : fb_B u n N) (hW : fb_Wc u w) (a : Nat) {fr e : Nat} (hfe : fr ≤ e) (he : e ≤ n) : fX3_readOrder w 21 a (nI fr) (nI e) = match fb_lo u fr (fb_oe (fb_tx u n) fr e).1 with | none => some (0, w) | some l => (fX2_addOrder w a (nI l) (nI (fb_oe (fb_tx u n) fr e).2)).bind fun r => some (1, r) := by
  have h80 := hB.2.1.1
  have h8 := hB.2.2.1
  have hS := hW.St hB.1
  have hj : ∀ ne dn : Nat, ne ≤ n → jX3_readOrder_58 21 a (nI fr) (nI dn) (nI ne) w = match fb_lo u fr ne with | none => some (0, w) | some l => (fX2_addOrder w a (nI l) (nI dn)).bind fun r => some (1, r) := by
    intro ne dn hne
    unfold jX3_readOrder_58
    rw [hS.ld_21_1, hS.ld_21_0, hW.named hB (by omega) hne, Option.bind_some]
    cases hl : fb_lo u fr ne with
    | none => rw [if_neg (show ¬ 0 ≤ fb_on none by decide)]
    | some l =>
      have := (hB.lo (show fr ≤ 200 by omega) hne).2.2 l hl
      rw [if_pos (show 0 ≤ fb_on (some l) from nI_pos' (by omega))]; rfl
  unfold fX3_readOrder fb_oe
  rw [hS.ld_21_0, eEw hB hW (k := 24) (by omega) (by omega) he, Option.bind_some, hS.ld_21_0, eEw hB hW (k := 23) (by omega) (by omega) he, Option.bind_some]
  by_cases h1 : 4 + fr ≤ e ∧ fb_st (fb_tx u n) (fb_by 24) (e - 4) = true
  · rw [if_pos (c := fb_len.getD 24 0 + fr ≤ e ∧ fb_st (fb_tx u n) (fb_byt.getD 24 []) (e - fb_len.getD 24 0) = true) h1, if_neg fb_10, if_pos h1, show nI e - Int32.ofNat (fb_len.getD 24 0) = nI (e - 4) from nI_sub (b := 4) (by omega)]
    exact hj (e - 4) 1 (by omega)
  · rw [if_neg (c := fb_len.getD 24 0 + fr ≤ e ∧ fb_st (fb_tx u n) (fb_byt.getD 24 []) (e - fb_len.getD 24 0) = true) h1, if_pos rfl, if_neg h1]
    by_cases h2 : 3 + fr ≤ e ∧ fb_st (fb_tx u n) (fb_by 23) (e - 3) = true
    · rw [if_pos (c := fb_len.getD 23 0 + fr ≤ e ∧ fb_st (fb_tx u n) (fb_byt.getD 23 []) (e - fb_len.getD 23 0) = true) h2, if_neg fb_10, if_pos h2, show nI e - Int32.ofNat (fb_len.getD 23 0) = nI (e - 3) from nI_sub (b := 3) (by omega)]
      exact hj (e - 3) 0 (by omega)
    · rw [if_neg (c := fb_len.getD 23 0 + fr ≤ e ∧ fb_st (fb_tx u n) (fb_byt.getD 23 []) (e - fb_len.getD 23 0) = true) h2, if_pos rfl, if_neg h2]
      exact hj e 0 he
theorem fb_bfA (T : Nat → Int32) {fr e : Nat} (hfe : fr ≤ e) : fb_bf T fr [99, 115, 65] e = if 3 + fr ≤ e ∧ fb_st T (fb_by 23) (e - 3) = true then some (e - 3) else none := fb_bf_st T fr [99, 115, 65] e hfe
theorem fb_bfD (T : Nat → Int32) {fr e : Nat} (hfe : fr ≤ e) : fb_bf T fr [99, 115, 101, 68] e = if 4 + fr ≤ e ∧ fb_st T (fb_by 24) (e - 4) = true then some (e - 4) else none := fb_bf_st T fr [99, 115, 101, 68] e hfe
theorem eRo9 {u v : fb_M} {n N : Nat} (hB : fb_B u n N) (hV : fb_Vc u n N v) {fr e no : Nat} (hfe : fr ≤ e) (he : e ≤ n) (hno : no < 2 ^ 20) (h19 : fb_I v 104 19 = nI no) :
    ∃ v', fX9_takeOrder v 104 (nI fr) (nI e) = some v' ∧ fb_df v v' (fun a k => (a = 104 ∧ (k = 19 ∨ k = 21)) ∨ ((a = 122 ∨ a = 123) ∧ k = no)) ∧ fb_I v' 104 19 = nI (no + 1) ∧ ((¬ fb_I v 104 21 = 0 ∨ fb_lo u fr (fb_oe (fb_tx u n) fr e).1 = none) → fb_I v' 104 21 = 1) ∧ (∀ l, fb_lo u fr (fb_oe (fb_tx u n) fr e).1 = some l → fb_I v 104 21 = 0 → fb_I v' 104 21 = 0 ∧ (no < 3 → fb_I v' 122 no = nI l ∧ fb_I v' 123 no = nI (fb_oe (fb_tx u n) fr e).2)) := by
  have h80 := hB.2.1.1
  have h8 := hB.2.2.1
  obtain ⟨o1, o2, o3⟩ := fb_oe_in (fb_tx u n) hfe
  have ho : ∀ p, some e = some p → p ≤ 200 := fun p hp => by cases hp; omega
  obtain ⟨D, hD, hD2, hD3⟩ : ∃ D : Option Nat, fX9_takeOrder v 104 (nI fr) (nI e) = jX9_takeOrder_42 104 (fb_on D) 104 (nI fr) (nI (fb_oe (fb_tx u n) fr e).1) v ∧ (∀ p, D = some p → p ≤ 200) ∧ nI (if D = none then 0 else 1) = nI (fb_oe (fb_tx u n) fr e).2 := by
    refine ⟨fb_bf (fb_tx u n) fr [99, 115, 101, 68] e, ?_, fun p hp => by have := fb_bf_le _ _ _ _ _ hp; omega, ?_⟩
    · unfold fX9_takeOrder fb_oe
      rw [show nI e = fb_on (some e) from rfl, eBf hB hV (by omega) fb_kAsc (by decide) ho, eBf hB hV (by omega) fb_kDesc (by decide) ho, Option.bind_some, Option.bind_some, Option.bind_some, Option.bind_some, fb_bfA _ hfe, fb_bfD _ hfe]
      by_cases h1 : 4 + fr ≤ e ∧ fb_st (fb_tx u n) (fb_by 24) (e - 4) = true
      · have h2 : ¬ (3 + fr ≤ e ∧ fb_st (fb_tx u n) (fb_by 23) (e - 3) = true) := fun q => fb_AD (by omega) h1.2 q.2
        rw [if_pos h1, if_neg h2, if_pos h1, if_pos (show fb_on none < 0 by decide), if_neg (show ¬ fb_on (some (e - 4)) < 0 from nI_pos (by omega))]
        rfl
      · rw [if_neg h1, if_neg h1]
        by_cases h2 : 3 + fr ≤ e ∧ fb_st (fb_tx u n) (fb_by 23) (e - 3) = true
        · rw [if_pos h2, if_pos h2, if_neg (show ¬ fb_on (some (e - 3)) < 0 from nI_pos (by omega))]
          rfl
        · rw [if_neg h2, if_neg h2, if_pos (show fb_on none < 0 by decide), if_pos (show fb_on none < 0 by decide)]
          rfl
    · rw [fb_bfD _ hfe]
      unfold fb_oe
      by_cases h1 : 4 + fr ≤ e ∧ fb_st (fb_tx u n) (fb_by 24) (e - 4) = true
      · rw [if_pos h1, if_pos h1, if_neg (by simp)]
      · rw [if_neg h1, if_neg h1, if_pos rfl]
        by_cases h2 : 3 + fr ≤ e ∧ fb_st (fb_tx u n) (fb_by 23) (e - 3) = true
        · rw [if_pos h2]
        · rw [if_neg h2]
  rw [hD]
  unfold jX9_takeOrder_42
  rw [hV.leafOf hB (by omega) (show (fb_oe (fb_tx u n) fr e).1 ≤ n by omega), Option.bind_some]
  by_cases h0 : fb_I v 104 21 = 0
  · rw [if_pos h0]
    cases hl : fb_lo u fr (fb_oe (fb_tx u n) fr e).1 with
    | none =>
      rw [if_neg (show ¬ 0 ≤ fb_on none by decide)]
      obtain ⟨v', c1, c2, c3, c4, c5⟩ := eTake65 hV.1 hno h19 (b := 1) (x := fb_on none) (Or.inr rfl) hD2
      exact ⟨v', c1, c2, c3, fun _ => c4, fun l q => by cases q⟩
    | some l =>
      have := (hB.lo (show fr ≤ 200 by omega) (show (fb_oe (fb_tx u n) fr e).1 ≤ n by omega)).2.2 l hl
      rw [if_pos (show 0 ≤ fb_on (some l) from nI_pos' (by omega))]
      obtain ⟨v', c1, c2, c3, c4, c5⟩ := eTake65 hV.1 hno h19 (b := 0) (x := fb_on (some l)) (Or.inl rfl) hD2
      refine ⟨v', c1, c2, c3, fun q => ?_, fun l' q _ => ?_⟩
      · rcases q with q | q
        · exact absurd h0 q
        · cases q
      · cases q
        exact ⟨c4, fun h3 => ⟨(c5 h3).1, by rw [(c5 h3).2, hD3]⟩⟩
  · rw [if_neg h0]
    obtain ⟨v', c1, c2, c3, c4, c5⟩ := eTake65 hV.1 hno h19 (b := 1) (x := fb_on (fb_lo u fr (fb_oe (fb_tx u n) fr e).1)) (Or.inr rfl) hD2
    exact ⟨v', c1, c2, c3, fun _ => c4, fun l _ q => absurd q h0⟩

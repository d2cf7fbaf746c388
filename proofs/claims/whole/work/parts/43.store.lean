/-! the store: place, value, save, remove -/
def fb_ixr (f : Nat → Int32) (x : Int32) : Nat → Nat → Nat
  | 0, i => i
  | m + 1, i => if f i = x then i else fb_ixr f x m (i + 1)
theorem fb_ixr_in (f : Nat → Int32) (x : Int32) : ∀ m i, i ≤ fb_ixr f x m i ∧ fb_ixr f x m i ≤ i + m
  | 0, i => by simp [fb_ixr]
  | m + 1, i => by
    have := fb_ixr_in f x m (i + 1)
    by_cases h : f i = x
    · simp [fb_ixr, h]
    · simp only [fb_ixr, h, if_false]; omega
theorem fb_ixr_at (f : Nat → Int32) (x : Int32) : ∀ m i, fb_ixr f x m i < i + m → f (fb_ixr f x m i) = x
  | 0, i => by simp [fb_ixr]
  | m + 1, i => by
    by_cases h : f i = x
    · simp [fb_ixr, h]
    · simp only [fb_ixr, h, if_false]
      intro h2
      exact fb_ixr_at f x m (i + 1) (by omega)
theorem fb_ixr_no (f : Nat → Int32) (x : Int32) : ∀ m i j, i ≤ j → j < fb_ixr f x m i → f j ≠ x
  | 0, i, j => by simp only [fb_ixr]; omega
  | m + 1, i, j => by
    by_cases h : f i = x
    · simp only [fb_ixr, h, if_true]; omega
    · simp only [fb_ixr, h, if_false]
      intro h1 h2
      by_cases hj : j = i
      · subst hj; exact h
      · exact fb_ixr_no f x m (i + 1) j (by omega) h2
theorem fb_ixr_cg {f g : Nat → Int32} (x : Int32) : ∀ m i, (∀ j, i ≤ j → j < i + m → f j = g j) → fb_ixr f x m i = fb_ixr g x m i
  | 0, i, _ => rfl
  | m + 1, i, h => by
    simp only [fb_ixr]
    rw [h i (Nat.le_refl _) (by omega), fb_ixr_cg x m (i + 1) (fun j h1 h2 => h j (by omega) (by omega))]
theorem fb_c_E : ∀ k, k < 10 → 79 + 2 * k < fb_NT ∧ fb_sh (79 + 2 * k) = (1, 2) := by decide +kernel
theorem fb_ldE {u : fb_M} {a i k : Nat} (h : fb_R u a i = some (79 + 2 * k)) (hk : k < 10) {ρ : Type} (F : Nat → Option ρ) : ((fb_R u a i).bind fun q => fb_gd (q < fb_NT ∧ fb_sh q = (1, 2)) (F q)) = F (79 + 2 * k) := by
  rw [h]
  exact fb_gdT (fb_c_E k hk)
theorem eX9_placeL {u : fb_M} (hS : fb_St u) {n : Nat} (hm : fb_I u 104 28 = nI n) (h10 : n ≤ 10) (x : Int32) : ∀ m i fu, i + m = n → m < fu → gX9_place_2 104 x u fu (nI i) = some (nI (fb_ixr (fb_I u 124) x m i)) := by
  intro m
  induction m with
  | zero =>
    intro i fu hi hf
    obtain ⟨fu, rfl⟩ : ∃ k, fu = k + 1 := ⟨fu - 1, by omega⟩
    show bX9_place_2 _ 104 x (nI i) u = _
    unfold bX9_place_2
    rw [hm, if_pos (nI_le (by omega) (by omega))]
    rfl
  | succ m ih =>
    intro i fu hi hf
    obtain ⟨fu, rfl⟩ : ∃ k, fu = k + 1 := ⟨fu - 1, by omega⟩
    show bX9_place_2 _ 104 x (nI i) u = _
    unfold bX9_place_2
    rw [hm, if_neg (nI_ge (by omega) (by omega)), hS.ld_104_29, fb_n124, fb_gix (show i < 10 by omega) (by omega), nI_clamp (by omega)]
    by_cases h : fb_I u 124 i = x
    · rw [if_pos h]; simp [fb_ixr, h]
    · rw [if_neg h, nI_1, ih (i + 1) fu (by omega) (by omega)]; simp [fb_ixr, h]
theorem eX9_place {u : fb_M} (hS : fb_St u) {n : Nat} (hm : fb_I u 104 28 = nI n) (h10 : n ≤ 10) (x : Int32) : fX9_place u 104 x = some (nI (fb_ixr (fb_I u 124) x n 0)) :=
  eX9_placeL hS hm h10 x n 0 fb_F (by omega) (by unfold fb_F; omega)
theorem eX7_placeL {u : fb_M} (hS : fb_St u) {n : Nat} {p : Nat → Nat} (hm : fb_I u 77 1 = nI n) (h10 : n ≤ 10) (hp : ∀ i, i < 10 → p i < 10 ∧ fb_R u 78 i = some (79 + 2 * p i)) (x : Int32) : ∀ m i fu, i + m = n → m < fu → gX7_placeOf_2 77 x u fu (nI i) = some (if fb_ixr (fun i => fb_I u (79 + 2 * p i) 0) x m i < n then nI (fb_ixr (fun i => fb_I u (79 + 2 * p i) 0) x m i) else (-1)) := by
  intro m
  induction m with
  | zero =>
    intro i fu hi hf
    obtain ⟨fu, rfl⟩ : ∃ k, fu = k + 1 := ⟨fu - 1, by omega⟩
    show bX7_placeOf_2 _ 77 x (nI i) u = _
    unfold bX7_placeOf_2
    rw [hm, if_pos (nI_le (by omega) (by omega)), if_neg (by simp [fb_ixr]; omega)]
  | succ m ih =>
    intro i fu hi hf
    obtain ⟨fu, rfl⟩ : ∃ k, fu = k + 1 := ⟨fu - 1, by omega⟩
    show bX7_placeOf_2 _ 77 x (nI i) u = _
    unfold bX7_placeOf_2
    rw [hm, if_neg (nI_ge (by omega) (by omega)), hS.ld_77_0, fb_n78, fb_gix (show i < 10 by omega) (by omega), nI_clamp (by omega), fb_ldE (hp i (by omega)).2 (hp i (by omega)).1]
    by_cases h : fb_I u (79 + 2 * p i) 0 = x
    · rw [if_pos h]; simp [fb_ixr, h]; omega
    · rw [if_neg h, nI_1, ih (i + 1) fu (by omega) (by omega)]; simp [fb_ixr, h]
/-- both find the same place -/
theorem fb_places {u : fb_M} (hS : fb_St u) {n : Nat} {p : Nat → Nat} (h10 : n ≤ 10) (hn : fb_I u 77 1 = nI n) (hm : fb_I u 104 28 = nI n) (hp : ∀ i, i < 10 → p i < 10 ∧ fb_R u 78 i = some (79 + 2 * p i)) (hi : ∀ i, i < n → fb_I u (79 + 2 * p i) 0 = fb_I u 124 i) (x : Int32) :
    ∃ e, e ≤ n ∧ fX9_place u 104 x = some (nI e) ∧ fX7_placeOf u 77 x = some (if e < n then nI e else (-1)) ∧ (e < n → fb_I u 124 e = x) ∧ (∀ j, j < e → fb_I u 124 j ≠ x) := by
  have e1 := eX7_placeL hS hn h10 hp x n 0 fb_F (by omega) (by unfold fb_F; omega)
  rw [fb_ixr_cg (g := fb_I u 124) x n 0 (fun j _ h => hi j (by omega))] at e1
  have hb := fb_ixr_in (fb_I u 124) x n 0
  exact ⟨_, by omega, eX9_place hS hm h10 x, e1, fun h => fb_ixr_at _ _ _ _ (by omega), fun j hj => fb_ixr_no _ _ _ _ j (by omega) hj⟩
theorem fb_m1 : ((-1 : Int32) < 0) := by decide
theorem fb_8 (e l : Nat) : (8 : Int32) * nI e + nI l = nI (8 * e + l) := by
  rw [show (8 : Int32) = nI 8 from rfl, pk_mul, nI_add]
theorem op_value {u : fb_M} (hv : fb_Inv u) (x k : Int32) : ∃ r, fX8_value u 0 x k = some r ∧ fX9_value u 104 x k = some r := by
  obtain ⟨hS, hT, ⟨nl, h8, hln, hlm, -⟩, hF, ⟨n, p, h10, hn, hm, hp, hpi, hx, -⟩, hO, hA, hR⟩ := hv
  obtain ⟨e, he, q1, q2, -⟩ := fb_places hS h10 hn hm hp (fun i hi => (hx i hi).1) x
  unfold fX8_value fX9_value
  rw [hS.ld_0_5, q1, q2]
  by_cases hlt : e < n
  · rw [if_pos hlt]
    show ∃ r, (if nI e < 0 then _ else _) = some r ∧ (if nI e = fb_I u 104 28 then _ else _) = some r
    rw [if_neg (nI_pos (by omega)), hm, if_neg (fun q => absurd ((nI_eq (by omega) (by omega)).mp q) (by omega)), hS.ld_0_1]
    rcases eX6_has hln h8 k with ⟨j, hj, rfl, hh⟩ | ⟨hk, hh⟩
    · rw [hh, (eX9_isLeaf hlm h8).1 j hj rfl]
      show ∃ r, (Option.bind (fb_R u 0 5) _) = some r ∧ (Option.bind (fb_R u 104 31) _) = some r
      rw [hS.ld_0_5, hS.ld_104_31, fb_8, fb_n126, fb_gix (show 8 * e + j < 80 by omega) (by omega), nI_clamp (n := 8 * e + j) (by omega)]
      unfold fX7_at
      rw [hS.ld_77_0, fb_n78, fb_gix (show e < 10 by omega) (by omega), nI_clamp (n := e) (by omega), fb_ldE (hp e (by omega)).2 (hp e (by omega)).1]
      show ∃ r, fb_gd _ _ = some r ∧ _
      rw [fb_gdT (fb_c_E _ (hp e (by omega)).1), hS.ld_ent (hp e (by omega)).1, fb_n_ent _ (hp e (by omega)).1, fb_gix (show j < 8 by omega) (by omega), nI_clamp (n := j) (by omega)]
      rcases (hx e hlt).2 j (by omega) with ⟨hb, hl⟩ | ⟨hb, hl⟩
      · rw [hb, hl, if_neg (by decide), hS.ld_104_30, fb_n125, fb_gix2 (show 8 * e + j < 80 by omega) (by omega)]
        exact ⟨_, rfl, rfl⟩
      · rw [hb, hl, if_pos rfl]
        exact ⟨_, rfl, rfl⟩
    · rw [hh, (eX9_isLeaf hlm h8).2 hk]
      exact ⟨_, rfl, rfl⟩
  · rw [if_neg hlt]
    have hen : e = n := by omega
    refine ⟨4000000000, rfl, ?_⟩
    show (if nI e = fb_I u 104 28 then some 4000000000 else _) = _
    rw [hm, hen, if_pos rfl]
def fb_cp8 (u0 u : fb_M) (e l : Nat) : Prop := fb_kp u0 u (fun a => a ≠ 125 ∧ a ≠ 126) ∧ fb_R u = fb_R u0 ∧ fb_L u = fb_L u0 ∧
  (∀ j, fb_I u 125 j = if 8 * e ≤ j ∧ j < 8 * e + l then fb_I u0 127 (j - 8 * e) else fb_I u0 125 j) ∧ (∀ j, fb_I u 126 j = if 8 * e ≤ j ∧ j < 8 * e + l then fb_I u0 128 (j - 8 * e) else fb_I u0 126 j)
theorem fb_nb {b : Int32} (h : b = 0 ∨ b = 1) : vp_nar .boolean b = b := by rcases h with rfl | rfl <;> rfl
theorem eX9_saveL {u0 : fb_M} (hS : fb_St u0) (hf : ∀ l, l < 8 → fb_I u0 128 l = 0 ∨ fb_I u0 128 l = 1) {e : Nat} (he : e < 10) : ∀ m l fu u, l + m = 8 → m < fu → fb_cp8 u0 u e l → ∃ u', fb_cp8 u0 u' e 8 ∧ gX9_save_35 104 (nI e) fu (nI l) u = (if nI e = fb_I u' 104 28 then some (1, fb_wI u' 104 28 (fb_I u' 104 28 + 1)) else some (1, fb_wI u' 104 28 (fb_I u' 104 28))) := by
  intro m
  induction m with
  | zero =>
    intro l fu u hl hfu hc
    obtain ⟨fu, rfl⟩ : ∃ k, fu = k + 1 := ⟨fu - 1, by omega⟩
    obtain rfl : l = 8 := by omega
    refine ⟨u, hc, ?_⟩
    show bX9_save_35 _ 104 (nI e) (nI 8) u = _
    unfold bX9_save_35
    rw [if_pos (show (8 : Int32) ≤ nI 8 by decide)]
  | succ m ih =>
    intro l fu u hl hfu hc
    obtain ⟨fu, rfl⟩ : ∃ k, fu = k + 1 := ⟨fu - 1, by omega⟩
    obtain ⟨k1, k2, k3, k4, k5⟩ := hc
    have hSu : fb_St u := fun a k h1 h2 => by rw [k2]; exact hS a k h1 h2
    have e127 : fb_I u 127 l = fb_I u0 127 l := by rw [(k1 127 (by decide)).1]
    have e128 : fb_I u 128 l = fb_I u0 128 l := by rw [(k1 128 (by decide)).1]
    have step : gX9_save_35 104 (nI e) (fu + 1) (nI l) u = gX9_save_35 104 (nI e) fu (nI (l + 1)) (fb_wI (fb_wI u 125 (8 * e + l) (fb_I u0 127 l)) 126 (8 * e + l) (fb_I u0 128 l)) := by
      show bX9_save_35 _ 104 (nI e) (nI l) u = _
      unfold bX9_save_35
      rw [if_neg (show ¬ (8 : Int32) ≤ nI l from nI_ge (b := 8) (by omega) (by omega)), hSu.ld_104_30, hSu.ld_104_32, fb_n127, fb_gix (show l < 8 by omega) (by omega), fb_8, fb_n125, fb_gix (show 8 * e + l < 80 by omega) (by omega),
        nI_clamp (n := 8 * e + l) (by omega), nI_clamp (n := l) (by omega), fb_St.ld_104_31 (u := fb_wI u 125 (8 * e + l) (fb_I u 127 l)) hSu, fb_St.ld_104_33 (u := fb_wI u 125 (8 * e + l) (fb_I u 127 l)) hSu, fb_n128, fb_gix2 (show l < 8 by omega) (by omega), fb_n126, fb_gix2 (show 8 * e + l < 80 by omega) (by omega), nI_1]
      have e2 : fb_I (fb_wI u 125 (8 * e + l) (fb_I u 127 l)) 128 l = fb_I u0 128 l := e128
      rw [e2, e127, fb_nb (hf l (by omega))]
    rw [step]
    refine ih (l + 1) fu _ (by omega) (by omega) ⟨(k1.wI (by decide)).wI (by decide), k2, k3, fun j => ?_, fun j => ?_⟩
    · rw [fb_I_wI, if_neg (fun q => absurd q.1 (by decide)), fb_I_wI]
      by_cases hj : j = 8 * e + l
      · subst hj
        rw [if_pos ⟨rfl, rfl⟩, if_pos (by omega), Nat.add_sub_cancel_left]
      · rw [if_neg (fun q => hj q.2), k4 j]
        by_cases h2 : 8 * e ≤ j ∧ j < 8 * e + l
        · rw [if_pos h2, if_pos (by omega)]
        · rw [if_neg h2, if_neg (by omega)]
    · rw [fb_I_wI, fb_I_wI]
      by_cases hj : j = 8 * e + l
      · subst hj
        rw [if_pos ⟨rfl, rfl⟩, if_pos (by omega), Nat.add_sub_cancel_left]
      · rw [if_neg (fun q => hj q.2), if_neg (fun q => absurd q.1 (by decide)), k5 j]
        by_cases h2 : 8 * e ≤ j ∧ j < 8 * e + l
        · rw [if_pos h2, if_pos (by omega)]
        · rw [if_neg h2, if_neg (by omega)]
theorem fb_cp8_0 (u : fb_M) (e : Nat) : fb_cp8 u u e 0 := ⟨fb_kp.rf _ _, rfl, rfl, fun j => by rw [if_neg (by omega)], fun j => by rw [if_neg (by omega)]⟩
theorem eX7_put {u : fb_M} (hS : fb_St u) {e k : Nat} (he : e < 10) (hk : k < 10) (hr : fb_R u 78 e = some (79 + 2 * k)) (x : Int32) : jX7_put_50 77 x 99 (nI e) u = some (1, fb_cpL (fb_wI u (79 + 2 * k) 0 x) 99 (80 + 2 * k) 0 0 8) := by
  unfold jX7_put_50
  rw [hS.ld_77_0, fb_n78, fb_gix he (by omega), nI_clamp (n := e) (by omega), fb_ldE hr hk, fb_St.ld_77_0 (u := fb_wI u (79 + 2 * k) 0 x) hS, fb_n78, fb_gix2 he (by omega), fb_ldE (u := fb_wI u (79 + 2 * k) 0 x) hr hk, fb_St.ld_ent (u := fb_wI u (79 + 2 * k) 0 x) hS hk, fb_n_ent k hk]
  rfl
theorem fb_IS.new {u u' : fb_M} {n e : Nat} {p : Nat → Nat} (x : Int32) (hS : fb_St u) (hO : fb_IO u) (h10 : n ≤ 10) (hp : ∀ i, i < 10 → p i < 10 ∧ fb_R u 78 i = some (79 + 2 * p i)) (hpi : ∀ i j, i < 10 → j < 10 → p i = p j → i = j)
    (hx : ∀ i, i < n → fb_I u (79 + 2 * p i) 0 = fb_I u 124 i ∧ ∀ l, l < 8 → fb_vr (fb_L u (80 + 2 * p i) l) (fb_I u 126 (8 * i + l)) (fb_I u 125 (8 * i + l))) (hd : ∀ i j, i < n → j < n → fb_I u 124 i = fb_I u 124 j → i = j)
    (he : e ≤ n) (he10 : e < 10) (hne : ∀ j, j < e → fb_I u 124 j ≠ x) (hex : e < n → fb_I u 124 e = x) {n' : Nat} (hn' : n' = if e = n then n + 1 else n)
    (r1 : fb_I u' 77 1 = nI n') (r2 : fb_I u' 104 28 = nI n') (r3 : ∀ i, fb_R u' 78 i = fb_R u 78 i) (r4 : ∀ k, k < 10 → fb_I u' (79 + 2 * k) 0 = if k = p e then x else fb_I u (79 + 2 * k) 0) (r5 : ∀ k, k < 10 → ∀ l, l < 8 → fb_L u' (80 + 2 * k) l = if k = p e then fb_L u 99 l else fb_L u (80 + 2 * k) l)
    (r6 : ∀ i, fb_I u' 124 i = if i = e then x else fb_I u 124 i) (r7 : ∀ j, fb_I u' 125 j = if 8 * e ≤ j ∧ j < 8 * e + 8 then fb_I u 127 (j - 8 * e) else fb_I u 125 j) (r8 : ∀ j, fb_I u' 126 j = if 8 * e ≤ j ∧ j < 8 * e + 8 then fb_I u 128 (j - 8 * e) else fb_I u 126 j) : fb_IS u' := by
  have hn2 : n' ≤ 10 ∧ (∀ i, i < n' → i < n ∨ i = e) ∧ e < n' ∧ n ≤ n' := by
    subst hn'
    by_cases h : e = n
    · rw [if_pos h]; exact ⟨by omega, fun i hi => by omega, by omega, by omega⟩
    · rw [if_neg h]; exact ⟨by omega, fun i hi => by omega, by omega, by omega⟩
  refine ⟨n', p, hn2.1, r1, r2, fun i hi => ⟨(hp i hi).1, by rw [r3]; exact (hp i hi).2⟩, hpi, fun i hi => ?_, fun i j hi hj => ?_⟩
  · have hi10 : i < 10 := by omega
    have hpe : p i = p e ↔ i = e := ⟨fun q => hpi i e hi10 he10 q, fun q => by rw [q]⟩
    rw [r4 _ (hp i hi10).1, r6]
    by_cases hie : i = e
    · refine ⟨by rw [if_pos (hpe.mpr hie), if_pos hie], fun l hl => ?_⟩
      rw [r5 _ (hp i hi10).1 l hl, if_pos (hpe.mpr hie), r7, r8, hie, if_pos (by omega), if_pos (by omega), Nat.add_sub_cancel_left]
      exact hO l hl
    · have hin : i < n := (hn2.2.1 i hi).resolve_right hie
      refine ⟨by rw [if_neg (fun q => hie (hpe.mp q)), if_neg hie]; exact (hx i hin).1, fun l hl => ?_⟩
      rw [r5 _ (hp i hi10).1 l hl, if_neg (fun q => hie (hpe.mp q)), r7, r8, if_neg (by omega), if_neg (by omega)]
      exact (hx i hin).2 l hl
  · rw [r6, r6]
    have key : ∀ k, k < n' → k ≠ e → fb_I u 124 k ≠ x := by
      intro k hk hke
      have hkn : k < n := (hn2.2.1 k hk).resolve_right hke
      by_cases hlt : k < e
      · exact hne k hlt
      · intro q
        have hen : e < n := by omega
        exact hke (hd k e hkn hen (by rw [q, hex hen]))
    by_cases h1 : i = e <;> by_cases h2 : j = e
    · intro _; omega
    · rw [if_pos h1, if_neg h2]; intro q; exact absurd q.symm (key j hj h2)
    · rw [if_neg h1, if_pos h2]; intro q; exact absurd q (key i hi h1)
    · rw [if_neg h1, if_neg h2]; intro q; exact hd i j ((hn2.2.1 i hi).resolve_right h1) ((hn2.2.1 j hj).resolve_right h2) q
theorem sb_cpy0' {f g : Nat → Int64} {n j : Nat} (h : j < n) : va_cpy f g 0 0 n j = f j := by
  unfold va_cpy
  rw [if_pos (by omega)]
  simp
theorem fb_L_cp (u : fb_M) (a b sp dp n c j : Nat) : fb_L (fb_cpL u a b sp dp n) c j = if c = b then va_cpy (fb_L u a) (fb_L u b) sp dp n j else fb_L u c j := by
  by_cases h : c = b
  · subst h
    rw [if_pos rfl, fb_cpL_at]
  · rw [if_neg h]
    show (if c = b then va_cpy (u.2.1 a) (u.2.1 b) sp dp n else u.2.1 c) j = u.2.1 c j
    rw [if_neg h]
theorem fb_kp.cp {u v : fb_M} {P : Nat → Prop} (h : fb_kp u v P) {a b sp dp n : Nat} (hb : ¬ P b) : fb_kp u (fb_cpL v a b sp dp n) P := h.tr (fun c hc => ⟨rfl, by
  funext j
  rw [fb_L_cp, if_neg (fun (e : c = b) => hb (e ▸ hc))], rfl⟩)
theorem op_save {u : fb_M} (hv : fb_Inv u) (x : Int32) : ∃ r u1 u2, fX8_save u 0 x = some (r, u1) ∧ fX9_save u1 104 x = some (r, u2) ∧ fb_Inv u2 := by
  have hv0 := hv
  obtain ⟨hS, hT, hL, hF, ⟨n, p, h10, hn, hm, hp, hpi, hx, hd⟩, hO, hA, hR⟩ := hv
  obtain ⟨e, he, q1, q2, hex, hne⟩ := fb_places hS h10 hn hm hp (fun i hi => (hx i hi).1) x
  have hsv : fX8_save u 0 x = (fX7_put u 77 x 99).bind fun r9 => fb_gd (r9.1 = 0 ∨ r9.1 = 1) (some (r9.1, r9.2)) := by
    unfold fX8_save
    rw [hS.ld_0_5, hS.ld_0_6]
  by_cases hx1 : x < 1
  · refine ⟨0, u, u, ?_, ?_, hv0⟩
    · rw [hsv]; unfold fX7_put; rw [if_pos hx1]; rfl
    · unfold fX9_save; rw [q1]; show (if x < 1 then _ else _) = _; rw [if_pos hx1]
  by_cases hx2 : ¬ x ≤ 9999
  · refine ⟨0, u, u, ?_, ?_, hv0⟩
    · rw [hsv]; unfold fX7_put; rw [if_neg hx1, if_neg hx2]; rfl
    · unfold fX9_save; rw [q1]; show (if x < 1 then _ else _) = _; rw [if_neg hx1, if_pos (Int32.not_le.mp hx2)]
  have hx2 := Decidable.not_not.mp hx2
  by_cases hfull : e = 10
  · refine ⟨0, u, u, ?_, ?_, hv0⟩
    · rw [hsv]; unfold fX7_put
      rw [if_neg hx1, if_pos hx2, q2, if_neg (by omega)]
      rw [Option.bind_some, if_neg (by decide), hn, if_neg (show ¬ nI n < 10 from fun q => absurd ((nI_ltI (b := 10) (by omega) (by omega)).mp q) (by omega))]
      rfl
    · unfold fX9_save; rw [q1]; show (if x < 1 then _ else _) = _
      rw [if_neg hx1, if_neg (Int32.not_lt.mpr hx2), if_pos (by rw [hfull]; rfl)]
  have he10 : e < 10 := by omega
  have hpe := (hp e he10).1
  obtain ⟨ub, hub, hubR, hubL, hubI, hub77⟩ : ∃ ub, fX7_put u 77 x 99 = jX7_put_50 77 x 99 (nI e) ub ∧ fb_R ub = fb_R u ∧ fb_L ub = fb_L u ∧ (∀ a k, ¬ (a = 77 ∧ k = 1) → fb_I ub a k = fb_I u a k) ∧ fb_I ub 77 1 = nI (if e = n then n + 1 else n) := by
    unfold fX7_put
    rw [if_neg hx1, if_pos hx2, q2]
    by_cases hlt : e < n
    · refine ⟨u, ?_, rfl, rfl, fun _ _ _ => rfl, by rw [hn, if_neg (by omega)]⟩
      rw [if_pos hlt]
      show (if (0 : Int32) ≤ nI e then _ else _) = _
      rw [if_pos (nI_pos' (by omega))]
    · refine ⟨fb_wI u 77 1 (nI (n + 1)), ?_, rfl, rfl, fun a k h => ?_, ?_⟩
      · rw [if_neg hlt]
        rw [Option.bind_some, if_neg (by decide), hn, if_pos (show nI n < 10 from nI_lt (b := 10) (by omega) (by omega)), nI_1]
        rw [show e = n by omega]
      · rw [fb_I_wI, if_neg h]
      · rw [if_pos (by omega)]; rfl
  have hSb : fb_St ub := fun a k h1 h2 => by rw [hubR]; exact hS a k h1 h2
  have ep := eX7_put hSb he10 hpe (by rw [hubR]; exact (hp e he10).2) x
  have e1 : fX8_save u 0 x = some (1, fb_cpL (fb_wI ub (79 + 2 * p e) 0 x) 99 (80 + 2 * p e) 0 0 8) := by
    rw [hsv, hub, ep]; rfl
  generalize hu1 : fb_cpL (fb_wI ub (79 + 2 * p e) 0 x) 99 (80 + 2 * p e) 0 0 8 = u1 at e1
  have i1 : ∀ a k, fb_I u1 a k = if a = 79 + 2 * p e ∧ k = 0 then x else fb_I ub a k := fun a k => by rw [← hu1]; rfl
  have hS1 : fb_St u1 := by rw [← hu1]; exact hSb
  have i2 : ∀ a k, ¬ (77 ≤ a ∧ a ≤ 98) → fb_I u1 a k = fb_I u a k := fun a k h => by rw [i1, if_neg (by omega), hubI a k (by omega)]
  have l1 : ∀ c j, fb_L u1 c j = if c = 80 + 2 * p e then va_cpy (fb_L u 99) (fb_L u (80 + 2 * p e)) 0 0 8 j else fb_L u c j := fun c j => by
    rw [← hu1, fb_L_cp]
    show (if c = 80 + 2 * p e then va_cpy (fb_L ub 99) (fb_L ub (80 + 2 * p e)) 0 0 8 j else fb_L ub c j) = _
    rw [hubL]
  have q3 : fX9_place u1 104 x = some (nI e) := by
    rw [eX9_place hS1 (by rw [i2 104 28 (by omega)]; exact hm) h10]
    have : fX9_place u 104 x = _ := eX9_place hS hm h10 x
    rw [show fb_I u1 124 = fb_I u 124 from funext fun j => i2 124 j (by omega), ← this, q1]
  have hf128 : ∀ l, l < 8 → fb_I (fb_wI u1 124 e x) 128 l = 0 ∨ fb_I (fb_wI u1 124 e x) 128 l = 1 := fun l hl => by
    show fb_I u1 128 l = 0 ∨ fb_I u1 128 l = 1
    rw [i2 128 l (by omega)]
    rcases hO l hl with ⟨h, -⟩ | ⟨h, -⟩
    · exact Or.inr h
    · exact Or.inl h
  obtain ⟨u', ⟨k1, k2, k3, k4, k5⟩, e2⟩ := eX9_saveL (u0 := fb_wI u1 124 e x) hS1 hf128 he10 8 0 fb_F _ (by omega) (by unfold fb_F; omega) (fb_cp8_0 _ e)
  have m28 : fb_I u' 104 28 = nI n := by rw [(k1 104 (by decide)).1]; show fb_I u1 104 28 = _; rw [i2 104 28 (by omega)]; exact hm
  have e3 : fX9_save u1 104 x = some (1, fb_wI u' 104 28 (nI (if e = n then n + 1 else n))) := by
    unfold fX9_save
    rw [q3]
    show (if x < 1 then _ else _) = _
    rw [if_neg hx1, if_neg (Int32.not_lt.mpr hx2), if_neg (show ¬ nI e = 10 from fun q => hfull ((nI_eq (b := 10) (by omega) (by omega)).mp q)), hS1.ld_104_29, fb_n124, fb_gix he10 (by omega), nI_clamp (n := e) (by omega)]
    show gX9_save_35 104 (nI e) fb_F (nI 0) _ = _
    rw [e2, m28]
    by_cases h : e = n
    · rw [if_pos (by rw [h]), if_pos h, nI_1]
    · rw [if_neg (fun q => h ((nI_eq (by omega) (by omega)).mp q)), if_neg h]
  have j1 : ∀ a, a ≠ 124 → a ≠ 125 → a ≠ 126 → ∀ k, fb_I u' a k = fb_I u1 a k := fun a h1 h2 h3 k => by
    rw [(k1 a ⟨h2, h3⟩).1]
    show (if a = 124 ∧ k = e then x else fb_I u1 a k) = _
    rw [if_neg (fun q => h1 q.1)]
  have j2 : ∀ k, fb_I u' 124 k = if k = e then x else fb_I u 124 k := fun k => by
    rw [(k1 124 (by decide)).1]
    show (if 124 = 124 ∧ k = e then x else fb_I u1 124 k) = _
    rw [i2 124 k (by omega)]
    simp
  have hLk : fb_L u' = fb_L u1 := k3
  have hRk : fb_R u' = fb_R u := by
    rw [k2]
    show fb_R u1 = _
    rw [← hu1]
    exact hubR
  have keep : ∀ P : Nat → Prop, (∀ a, P a → ¬ (77 ≤ a ∧ a ≤ 98) ∧ a ≠ 124 ∧ a ≠ 125 ∧ a ≠ 126 ∧ a ≠ 104) → fb_kp u (fb_wI u' 104 28 (nI (if e = n then n + 1 else n))) P := by
    intro P hP a ha
    obtain ⟨p1, p2, p3, p4, p5⟩ := hP a ha
    refine ⟨?_, ?_, ?_⟩
    · rw [fb_I_ne _ _ p5]
      funext k
      rw [j1 a p2 p3 p4, i2 a k p1]
    · show fb_L u' a = _
      rw [hLk]
      funext k
      rw [l1, if_neg (by omega)]
    · show fb_R u' a = _
      rw [hRk]
  have sc : ∀ k, k ≠ 28 → fb_I (fb_wI u' 104 28 (nI (if e = n then n + 1 else n))) 104 k = fb_I u 104 k := fun k hk => by
    rw [fb_I_wI, if_neg (fun q => hk q.2), j1 104 (by decide) (by decide) (by decide), i2 104 k (by omega)]
  have s0 : ∀ k, fb_I (fb_wI u' 104 28 (nI (if e = n then n + 1 else n))) 0 k = fb_I u 0 k := fun k => by
    rw [fb_I_wI, if_neg (fun q => absurd q.1 (by decide)), j1 0 (by decide) (by decide) (by decide), i2 0 k (by omega)]
  refine ⟨_, _, _, e1, e3, fun a k h1 h2 => ?_, hT.fr (keep _ (fun a ha => by unfold fb_PT at ha; omega)) (sc 1 (by decide)), hL.fr (keep _ (fun a ha => by unfold fb_PL at ha; omega)) (sc 4 (by decide)), hF.fr (keep _ (fun a ha => by unfold fb_PF at ha; omega)) (s0 4) (sc 5 (by decide)), ?_, hO.fr (keep _ (fun a ha => by unfold fb_PO at ha; omega)), hA.fr (keep _ (fun a ha => by unfold fb_PA at ha; omega)) (s0 8) (sc 35 (by decide)), hR.fr (keep _ (fun a ha => by unfold fb_PR at ha; omega)) (s0 11) (sc 37 (by decide))⟩
  · show fb_R u' a k = _
    rw [hRk]
    exact hS a k h1 h2
  · refine fb_IS.new x hS hO h10 hp hpi hx hd he he10 hne hex rfl ?_ rfl (fun i => by show fb_R u' 78 i = _; rw [hRk]) (fun k hk => ?_) (fun k hk l hl => ?_) (fun i => j2 i) (fun j => ?_) (fun j => ?_)
    · rw [fb_I_wI, if_neg (fun q => absurd q.1 (by decide)), j1 77 (by decide) (by decide) (by decide), i1, if_neg (by omega)]
      exact hub77
    · rw [fb_I_wI, if_neg (by omega), j1 _ (by omega) (by omega) (by omega), i1]
      by_cases h : k = p e
      · rw [if_pos h, if_pos (by omega)]
      · rw [if_neg h, if_neg (by omega), hubI _ _ (by omega)]
    · show fb_L u' _ l = _
      rw [hLk, l1]
      by_cases h : k = p e
      · rw [if_pos h, if_pos (by omega)]
        exact sb_cpy0' hl
      · rw [if_neg h, if_neg (by omega)]
    · rw [fb_I_wI, if_neg (fun q => absurd q.1 (by decide)), k4 j]
      show (if _ then fb_I u1 127 _ else fb_I u1 125 _) = _
      rw [i2 127 _ (by omega), i2 125 _ (by omega)]
    · rw [fb_I_wI, if_neg (fun q => absurd q.1 (by decide)), k5 j]
      show (if _ then fb_I u1 128 _ else fb_I u1 126 _) = _
      rw [i2 128 _ (by omega), i2 126 _ (by omega)]

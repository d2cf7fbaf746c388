/-! taking an entity out: the book's rows move, the reference's contents move -/
theorem eX7_dropL {u0 : fb_M} (hS : fb_St u0) {m e a3 : Nat} {p : Nat → Nat} (hm : fb_I u0 77 1 = nI m) (h10 : m < 10) (hp : ∀ i, i < 10 → p i < 10 ∧ fb_R u0 78 i = some (79 + 2 * p i)) : ∀ k i fu u, e ≤ i → i + k = m → k < fu → (fb_I u = fb_I u0 ∧ fb_L u = fb_L u0 ∧ (∀ a, a ≠ 78 → fb_R u a = fb_R u0 a) ∧ ∀ j, fb_R u 78 j = if e ≤ j ∧ j < i then fb_R u0 78 (j + 1) else fb_R u0 78 j) →
    ∃ u', gX7_drop_32 77 a3 fu (nI i) u = some (1, u') ∧ fb_I u' = fb_I u0 ∧ fb_L u' = fb_L u0 ∧ (∀ a, a ≠ 78 → fb_R u' a = fb_R u0 a) ∧ ∀ j, fb_R u' 78 j = if j = m then some a3 else if e ≤ j ∧ j < m then fb_R u0 78 (j + 1) else fb_R u0 78 j := by
  intro k
  induction k with
  | zero =>
    intro i fu u he hi hf ⟨k1, k2, k3, k4⟩
    obtain ⟨fu, rfl⟩ : ∃ k, fu = k + 1 := ⟨fu - 1, by omega⟩
    obtain rfl : i = m := by omega
    have hSu : fb_St u := fun a k h1 h2 => by rw [k3 a h1]; exact hS a k h1 h2
    refine ⟨fb_wR u 78 i a3, ?_, k1, k2, fun a ha => by rw [fb_R_ne _ _ ha]; exact k3 a ha, fun j => ?_⟩
    · show bX7_drop_32 _ 77 a3 (nI i) u = _
      unfold bX7_drop_32
      rw [k1, hm, if_pos (nI_le (Nat.le_refl _) (by omega)), hSu.ld_77_0, fb_n78, fb_gix h10 (by omega), nI_clamp (n := i) (by omega)]
    · rw [fb_R_wR]
      by_cases h : j = i
      · rw [if_pos ⟨rfl, h⟩, if_pos h]
      · rw [if_neg (fun q => h q.2), if_neg h, k4 j]
  | succ k ih =>
    intro i fu u he hi hf ⟨k1, k2, k3, k4⟩
    obtain ⟨fu, rfl⟩ : ∃ k, fu = k + 1 := ⟨fu - 1, by omega⟩
    have hSu : fb_St u := fun a k h1 h2 => by rw [k3 a h1]; exact hS a k h1 h2
    have hr : fb_R u 78 (i + 1) = some (79 + 2 * p (i + 1)) := by rw [k4, if_neg (by omega)]; exact (hp (i + 1) (by omega)).2
    have step : gX7_drop_32 77 a3 (fu + 1) (nI i) u = gX7_drop_32 77 a3 fu (nI (i + 1)) (fb_wR u 78 i (79 + 2 * p (i + 1))) := by
      show bX7_drop_32 _ 77 a3 (nI i) u = _
      unfold bX7_drop_32
      rw [k1, hm, if_neg (nI_ge (by omega) (by omega)), hSu.ld_77_0, hSu.ld_77_0, fb_n78, nI_1, fb_gix (show i + 1 < 10 by omega) (by omega), nI_clamp (n := i + 1) (by omega), fb_ldE hr (hp (i + 1) (by omega)).1, fb_gix (show i < 10 by omega) (by omega), nI_clamp (n := i) (by omega)]
    rw [step]
    refine ih (i + 1) fu _ (by omega) (by omega) (by omega) ⟨k1, k2, fun a ha => by rw [fb_R_ne _ _ ha]; exact k3 a ha, fun j => ?_⟩
    rw [fb_R_wR]
    by_cases h : j = i
    · rw [if_pos ⟨rfl, h⟩, if_pos (by omega), h, (hp (i + 1) (by omega)).2]
    · rw [if_neg (fun q => h q.2), k4 j]
      by_cases h2 : e ≤ j ∧ j < i
      · rw [if_pos h2, if_pos (by omega)]
      · rw [if_neg h2, if_neg (by omega)]
/-- the rows behind taking out the e-th of n -/
def fb_out (p : Nat → Nat) (n e i : Nat) : Nat := if i = n - 1 then p e else if e ≤ i ∧ i < n - 1 then p (i + 1) else p i
theorem fb_out_in {p : Nat → Nat} {n e : Nat} (h10 : n ≤ 10) (he : e < n) (hp : ∀ i, i < 10 → p i < 10) : ∀ i, i < 10 → fb_out p n e i < 10 := by
  intro i hi
  unfold fb_out
  by_cases h : i = n - 1
  · rw [if_pos h]; exact hp e (by omega)
  · rw [if_neg h]
    by_cases h2 : e ≤ i ∧ i < n - 1
    · rw [if_pos h2]; exact hp _ (by omega)
    · rw [if_neg h2]; exact hp _ hi
theorem fb_out_inj {p : Nat → Nat} {n e : Nat} (h10 : n ≤ 10) (he : e < n) (hpi : ∀ i j, i < 10 → j < 10 → p i = p j → i = j) : ∀ i j, i < 10 → j < 10 → fb_out p n e i = fb_out p n e j → i = j := by
  intro i j hi hj
  unfold fb_out
  by_cases h1 : i = n - 1 <;> by_cases h2 : j = n - 1
  · intro _; omega
  · rw [if_pos h1, if_neg h2]
    by_cases h3 : e ≤ j ∧ j < n - 1
    · rw [if_pos h3]; intro q; have := hpi _ _ (by omega) (by omega) q; omega
    · rw [if_neg h3]; intro q; have := hpi _ _ (by omega) (by omega) q; omega
  · rw [if_neg h1, if_pos h2]
    by_cases h3 : e ≤ i ∧ i < n - 1
    · rw [if_pos h3]; intro q; have := hpi _ _ (by omega) (by omega) q; omega
    · rw [if_neg h3]; intro q; have := hpi _ _ (by omega) (by omega) q; omega
  · rw [if_neg h1, if_neg h2]
    by_cases h3 : e ≤ i ∧ i < n - 1 <;> by_cases h4 : e ≤ j ∧ j < n - 1
    · rw [if_pos h3, if_pos h4]; intro q; have := hpi _ _ (by omega) (by omega) q; omega
    · rw [if_pos h3, if_neg h4]; intro q; have := hpi _ _ (by omega) (by omega) q; omega
    · rw [if_neg h3, if_pos h4]; intro q; have := hpi _ _ (by omega) (by omega) q; omega
    · rw [if_neg h3, if_neg h4]; intro q; exact hpi _ _ (by omega) (by omega) q
theorem eX7_drop {u : fb_M} (hS : fb_St u) {n e : Nat} {p : Nat → Nat} (hn : fb_I u 77 1 = nI n) (h10 : n ≤ 10) (he : e < n) (hp : ∀ i, i < 10 → p i < 10 ∧ fb_R u 78 i = some (79 + 2 * p i)) {x : Int32} (hx : fX7_placeOf u 77 x = some (nI e)) :
    ∃ u', fX7_drop u 77 x = some (1, u') ∧ fb_I u' = fb_I (fb_wI u 77 1 (nI (n - 1))) ∧ fb_L u' = fb_L u ∧ (∀ a, a ≠ 78 → fb_R u' a = fb_R u a) ∧ ∀ i, i < 10 → fb_R u' 78 i = some (79 + 2 * fb_out p n e i) := by
  obtain ⟨u', h1, h2, h3, h4, h5⟩ := eX7_dropL (u0 := fb_wI u 77 1 (nI (n - 1))) (m := n - 1) (e := e) (a3 := 79 + 2 * p e) (p := p) hS rfl (by omega) hp (n - 1 - e) e fb_F (fb_wI u 77 1 (nI (n - 1))) (Nat.le_refl _) (by omega) (by unfold fb_F; omega) ⟨rfl, rfl, fun _ _ => rfl, fun j => by rw [if_neg (by omega)]⟩
  refine ⟨u', ?_, h2, h3, h4, fun i hi => ?_⟩
  · unfold fX7_drop
    rw [hx, Option.bind_some, if_pos (nI_pos' (by omega)), hS.ld_77_0, fb_n78, fb_gix (show e < 10 by omega) (by omega), nI_clamp (n := e) (by omega), fb_ldE (hp e (by omega)).2 (hp e (by omega)).1, hn]
    rw [show nI n - 1 = nI (n - 1) from by rw [show n = (n - 1) + 1 by omega, nI_pred]; rfl]
    exact h1
  · rw [h5 i]
    unfold fb_out
    by_cases h : i = n - 1
    · rw [if_pos h, if_pos h]
    · rw [if_neg h, if_neg h]
      by_cases h6 : e ≤ i ∧ i < n - 1
      · rw [if_pos h6, if_pos h6]; exact (hp (i + 1) (by omega)).2
      · rw [if_neg h6, if_neg h6]; exact (hp i hi).2
def fb_sf (f0 f : Nat → Int32) (lo hi d : Nat) : Prop := ∀ j, f j = if lo ≤ j ∧ j < hi then f0 (j + d) else f0 j
theorem fb_sf_step {f0 f : Nat → Int32} {lo hi d : Nat} (h : fb_sf f0 f lo hi d) (hl : lo ≤ hi) {g : Nat → Int32} (hg : ∀ j, g j = if j = hi then f0 (hi + d) else f j) : fb_sf f0 g lo (hi + 1) d := by
  intro j
  rw [hg]
  by_cases h1 : j = hi
  · rw [if_pos h1, if_pos (by omega), h1]
  · rw [if_neg h1, h j]
    by_cases h2 : lo ≤ j ∧ j < hi
    · rw [if_pos h2, if_pos (by omega)]
    · rw [if_neg h2, if_neg (by omega)]
def fb_rm (ub u : fb_M) (e a b : Nat) : Prop := fb_kp ub u (fun c => c ≠ 124 ∧ c ≠ 125 ∧ c ≠ 126) ∧ fb_R u = fb_R ub ∧ fb_L u = fb_L ub ∧ fb_sf (fb_I ub 124) (fb_I u 124) e a 1 ∧ fb_sf (fb_I ub 125) (fb_I u 125) (8 * e) b 8 ∧ fb_sf (fb_I ub 126) (fb_I u 126) (8 * e) b 8
theorem fb_88 (e l : Nat) : ((8 : Int32) * nI e + 8) + nI l = nI (8 * e + l + 8) := by
  rw [show (8 : Int32) = nI 8 from rfl, pk_mul, nI_add, nI_add]
  congr 1
  omega
theorem eX9_rmI {ub : fb_M} (hS : fb_St ub) {e k : Nat} (hek : e ≤ k) (hk : k < 9) (hf : ∀ j, j < 8 * k + 16 → fb_I ub 126 j = 0 ∨ fb_I ub 126 j = 1) (K : Int32 → fb_M → Option fb_M) : ∀ m l fu u, l + m = 8 → m < fu → fb_rm ub u e (k + 1) (8 * k + l) → ∃ u', fb_rm ub u' e (k + 1) (8 * k + 8) ∧ gX9_removeAt_36 K 104 (nI k) fu (nI l) u = K (nI (k + 1)) u' := by
  intro m
  induction m with
  | zero =>
    intro l fu u hl hfu hc
    obtain ⟨fu, rfl⟩ : ∃ k, fu = k + 1 := ⟨fu - 1, by omega⟩
    obtain rfl : l = 8 := by omega
    refine ⟨u, hc, ?_⟩
    show bX9_removeAt_36 K _ 104 (nI k) (nI 8) u = _
    unfold bX9_removeAt_36
    rw [if_pos (show (8 : Int32) ≤ nI 8 by decide), nI_1]
  | succ m ih =>
    intro l fu u hl hfu ⟨k1, k2, k3, k4, k5, k6⟩
    obtain ⟨fu, rfl⟩ : ∃ k, fu = k + 1 := ⟨fu - 1, by omega⟩
    have hSu : fb_St u := fun a k h1 h2 => by rw [k2]; exact hS a k h1 h2
    have e5 : fb_I u 125 (8 * k + l + 8) = fb_I ub 125 (8 * k + l + 8) := by rw [k5, if_neg (by omega)]
    have e6 : fb_I u 126 (8 * k + l + 8) = fb_I ub 126 (8 * k + l + 8) := by rw [k6, if_neg (by omega)]
    have step : gX9_removeAt_36 K 104 (nI k) (fu + 1) (nI l) u = gX9_removeAt_36 K 104 (nI k) fu (nI (l + 1)) (fb_wI (fb_wI u 125 (8 * k + l) (fb_I ub 125 (8 * k + l + 8))) 126 (8 * k + l) (fb_I ub 126 (8 * k + l + 8))) := by
      show bX9_removeAt_36 K _ 104 (nI k) (nI l) u = _
      unfold bX9_removeAt_36
      rw [if_neg (show ¬ (8 : Int32) ≤ nI l from nI_ge (b := 8) (by omega) (by omega)), hSu.ld_104_30, hSu.ld_104_30, fb_88, fb_8, fb_n125, fb_gix (show 8 * k + l + 8 < 80 by omega) (by omega), fb_gix (show 8 * k + l < 80 by omega) (by omega),
        nI_clamp (n := 8 * k + l + 8) (by omega), nI_clamp (n := 8 * k + l) (by omega), e5]
      rw [fb_St.ld_104_31 (u := fb_wI u 125 (8 * k + l) (fb_I ub 125 (8 * k + l + 8))) hSu, fb_St.ld_104_31 (u := fb_wI u 125 (8 * k + l) (fb_I ub 125 (8 * k + l + 8))) hSu, fb_n126, fb_gix2 (show 8 * k + l + 8 < 80 by omega) (by omega), fb_gix2 (show 8 * k + l < 80 by omega) (by omega), nI_1]
      have e7 : fb_I (fb_wI u 125 (8 * k + l) (fb_I ub 125 (8 * k + l + 8))) 126 (8 * k + l + 8) = fb_I ub 126 (8 * k + l + 8) := e6
      rw [e7, fb_nb (hf _ (by omega))]
    rw [step]
    refine ih (l + 1) fu _ (by omega) (by omega) ⟨(k1.wI (by decide)).wI (by decide), k2, k3, k4, ?_, ?_⟩
    · exact fb_sf_step k5 (by omega) (fun j => by
        rw [fb_I_wI, if_neg (fun q => absurd q.1 (by decide)), fb_I_wI]
        by_cases h : j = 8 * k + l
        · rw [if_pos ⟨rfl, h⟩, if_pos h]
        · rw [if_neg (fun q => h q.2), if_neg h])
    · exact fb_sf_step k6 (by omega) (fun j => by
        rw [fb_I_wI]
        by_cases h : j = 8 * k + l
        · rw [if_pos ⟨rfl, h⟩, if_pos h]
        · rw [if_neg (fun q => h q.2), if_neg h]
          rfl)
theorem eX9_rmO {ub : fb_M} (hS : fb_St ub) {e m : Nat} (hm : fb_I ub 104 28 = nI m) (h10 : m < 10) (hf : ∀ j, j < 8 * m + 8 → fb_I ub 126 j = 0 ∨ fb_I ub 126 j = 1) : ∀ q k fu u, e ≤ k → k + q = m → q < fu → fb_rm ub u e k (8 * k) → ∃ u', fb_rm ub u' e m (8 * m) ∧ gX9_removeAt_12 104 fu (nI k) u = some u' := by
  intro q
  induction q with
  | zero =>
    intro k fu u he hk hfu hc
    obtain ⟨fu, rfl⟩ : ∃ k, fu = k + 1 := ⟨fu - 1, by omega⟩
    obtain rfl : k = m := by omega
    refine ⟨u, hc, ?_⟩
    show bX9_removeAt_12 _ 104 (nI k) u = _
    unfold bX9_removeAt_12
    rw [(hc.1 104 (by decide)).1, hm, if_pos (nI_le (Nat.le_refl _) (by omega))]
  | succ q ih =>
    intro k fu u he hk hfu hc
    obtain ⟨fu, rfl⟩ : ∃ k, fu = k + 1 := ⟨fu - 1, by omega⟩
    have hc0 := hc
    obtain ⟨k1, k2, k3, k4, k5, k6⟩ := hc
    have hSu : fb_St u := fun a k h1 h2 => by rw [k2]; exact hS a k h1 h2
    have e4 : fb_I u 124 (k + 1) = fb_I ub 124 (k + 1) := by rw [k4, if_neg (by omega)]
    obtain ⟨u', h1, h2⟩ := eX9_rmI hS he (show k < 9 by omega) (fun j hj => hf j (by omega)) (gX9_removeAt_12 104 fu) 8 0 fb_F (fb_wI u 124 k (fb_I ub 124 (k + 1))) (by omega) (by unfold fb_F; omega) ⟨k1.wI (by decide), k2, k3, fb_sf_step k4 (by omega) (fun j => by
        rw [fb_I_wI]
        by_cases h : j = k
        · rw [if_pos ⟨rfl, h⟩, if_pos h]
        · rw [if_neg (fun q => h q.2), if_neg h]), k5, k6⟩
    obtain ⟨u2, h3, h4⟩ := ih (k + 1) fu u' (by omega) (by omega) (by omega) h1
    refine ⟨u2, h3, ?_⟩
    show bX9_removeAt_12 _ 104 (nI k) u = _
    unfold bX9_removeAt_12
    rw [(k1 104 (by decide)).1, hm, if_neg (nI_ge (by omega) (by omega)), hSu.ld_104_29, hSu.ld_104_29, fb_n124, nI_1, fb_gix (show k + 1 < 10 by omega) (by omega), fb_gix (show k < 10 by omega) (by omega), nI_clamp (n := k + 1) (by omega), nI_clamp (n := k) (by omega), e4]
    rw [← h4, ← h2]
    rfl
theorem eX9_removeAt {u : fb_M} (hS : fb_St u) {n e : Nat} (hn : fb_I u 104 28 = nI n) (h10 : n ≤ 10) (he : e < n) (hf : ∀ j, j < 8 * n → fb_I u 126 j = 0 ∨ fb_I u 126 j = 1) : ∃ u', fb_rm (fb_wI u 104 28 (nI (n - 1))) u' e (n - 1) (8 * (n - 1)) ∧ fX9_removeAt u 104 (nI e) = some u' := by
  obtain ⟨u', h1, h2⟩ := eX9_rmO (ub := fb_wI u 104 28 (nI (n - 1))) hS (e := e) (m := n - 1) rfl (by omega) (fun j hj => hf j (by omega)) (n - 1 - e) e fb_F _ (Nat.le_refl _) (by omega) (by unfold fb_F; omega) ⟨fb_kp.rf _ _, rfl, rfl, fun j => by rw [if_neg (by omega)], fun j => by rw [if_neg (by omega)], fun j => by rw [if_neg (by omega)]⟩
  refine ⟨u', h1, ?_⟩
  unfold fX9_removeAt
  rw [hn, show nI n - 1 = nI (n - 1) from by rw [show n = (n - 1) + 1 by omega, nI_pred]; rfl]
  exact h2
theorem fb_vr.b {x : Int64} {b v : Int32} (h : fb_vr x b v) : b = 0 ∨ b = 1 := by
  rcases h with ⟨h, -⟩ | ⟨h, -⟩
  · exact Or.inr h
  · exact Or.inl h
theorem fb_fulls {u : fb_M} {n : Nat} {p : Nat → Nat} (hx : ∀ i, i < n → fb_I u (79 + 2 * p i) 0 = fb_I u 124 i ∧ ∀ l, l < 8 → fb_vr (fb_L u (80 + 2 * p i) l) (fb_I u 126 (8 * i + l)) (fb_I u 125 (8 * i + l))) : ∀ j, j < 8 * n → fb_I u 126 j = 0 ∨ fb_I u 126 j = 1 := by
  intro j hj
  have := (hx (j / 8) (by omega)).2 (j % 8) (by omega)
  rw [show 8 * (j / 8) + j % 8 = j by omega] at this
  exact this.b
/-- the relation behind taking out the e-th -/
theorem fb_IS.out {u u' : fb_M} {n e : Nat} {p : Nat → Nat} (h10 : n ≤ 10) (he : e < n) (hp : ∀ i, i < 10 → p i < 10) (hpi : ∀ i j, i < 10 → j < 10 → p i = p j → i = j)
    (hx : ∀ i, i < n → fb_I u (79 + 2 * p i) 0 = fb_I u 124 i ∧ ∀ l, l < 8 → fb_vr (fb_L u (80 + 2 * p i) l) (fb_I u 126 (8 * i + l)) (fb_I u 125 (8 * i + l))) (hd : ∀ i j, i < n → j < n → fb_I u 124 i = fb_I u 124 j → i = j)
    (r1 : fb_I u' 77 1 = nI (n - 1)) (r2 : fb_I u' 104 28 = nI (n - 1)) (r3 : ∀ i, i < 10 → fb_R u' 78 i = some (79 + 2 * fb_out p n e i)) (r4 : ∀ k, k < 10 → fb_I u' (79 + 2 * k) 0 = fb_I u (79 + 2 * k) 0) (r5 : ∀ k, k < 10 → fb_L u' (80 + 2 * k) = fb_L u (80 + 2 * k))
    (r6 : fb_sf (fb_I u 124) (fb_I u' 124) e (n - 1) 1) (r7 : fb_sf (fb_I u 125) (fb_I u' 125) (8 * e) (8 * (n - 1)) 8) (r8 : fb_sf (fb_I u 126) (fb_I u' 126) (8 * e) (8 * (n - 1)) 8) : fb_IS u' := by
  have hin := fb_out_in h10 he hp
  refine ⟨n - 1, fb_out p n e, by omega, r1, r2, fun i hi => ⟨hin i hi, r3 i hi⟩, fb_out_inj h10 he hpi, fun i hi => ?_, fun i j hi hj => ?_⟩
  · have h2 : fb_out p n e i = if e ≤ i then p (i + 1) else p i := by
      unfold fb_out
      rw [if_neg (by omega)]
      by_cases h : e ≤ i
      · rw [if_pos ⟨h, hi⟩, if_pos h]
      · rw [if_neg (fun q => h q.1), if_neg h]
    rw [r4 _ (hin i (by omega)), r5 _ (hin i (by omega)), r6 i, h2]
    by_cases h : e ≤ i
    · rw [if_pos h, if_pos ⟨h, hi⟩]
      refine ⟨(hx (i + 1) (by omega)).1, fun l hl => ?_⟩
      rw [r7, r8, if_pos (by omega), if_pos (by omega)]
      have := (hx (i + 1) (by omega)).2 l hl
      rw [show 8 * (i + 1) + l = 8 * i + l + 8 by omega] at this
      exact this
    · rw [if_neg h, if_neg (fun q => h q.1)]
      refine ⟨(hx i (by omega)).1, fun l hl => ?_⟩
      rw [r7, r8, if_neg (by omega), if_neg (by omega)]
      exact (hx i (by omega)).2 l hl
  · rw [r6, r6]
    by_cases h1 : e ≤ i ∧ i < n - 1 <;> by_cases h2 : e ≤ j ∧ j < n - 1
    · rw [if_pos h1, if_pos h2]; intro q; have := hd _ _ (by omega) (by omega) q; omega
    · rw [if_pos h1, if_neg h2]; intro q; have := hd _ _ (by omega) (by omega) q; omega
    · rw [if_neg h1, if_pos h2]; intro q; have := hd _ _ (by omega) (by omega) q; omega
    · rw [if_neg h1, if_neg h2]; intro q; exact hd _ _ (by omega) (by omega) q
theorem op_remove {u : fb_M} (hv : fb_Inv u) (x : Int32) : ∃ r u1 u2, fX8_remove u 0 x = some (r, u1) ∧ fX9_remove u1 104 x = some (r, u2) ∧ fb_Inv u2 := by
  have hv0 := hv
  obtain ⟨hS, hT, hL, hF, ⟨n, p, h10, hn, hm, hp, hpi, hx, hd⟩, hO, hA, hR⟩ := hv
  obtain ⟨e, he, q1, q2, hex, hne⟩ := fb_places hS h10 hn hm hp (fun i hi => (hx i hi).1) x
  by_cases hlt : e < n
  · rw [if_pos hlt] at q2
    obtain ⟨u1, d1, d2, d3, d4, d5⟩ := eX7_drop hS hn h10 hlt hp q2
    have e1 : fX8_remove u 0 x = some (1, u1) := by
      unfold fX8_remove
      rw [hS.ld_0_5, d1]
      rfl
    have hS1 : fb_St u1 := fun a k h1 h2 => by rw [d4 a h1]; exact hS a k h1 h2
    have i1 : ∀ a, a ≠ 77 → fb_I u1 a = fb_I u a := fun a ha => by rw [d2, fb_I_ne _ _ ha]
    have q3 : fX9_place u1 104 x = some (nI e) := by
      rw [eX9_place hS1 (by rw [i1 104 (by decide)]; exact hm) h10, i1 124 (by decide), ← eX9_place hS hm h10 x, q1]
    obtain ⟨u2, ⟨k1, k2, k3, k4, k5, k6⟩, r1⟩ := eX9_removeAt hS1 (by rw [i1 104 (by decide)]; exact hm) h10 hlt (fun j hj => by rw [i1 126 (by decide)]; exact fb_fulls hx j hj)
    have e2 : fX9_remove u1 104 x = some (1, u2) := by
      unfold fX9_remove
      rw [q3, Option.bind_some, i1 104 (by decide), hm, if_neg (fun q => absurd ((nI_eq (by omega) (by omega)).mp q) (by omega)), r1]
      rfl
    have kk : ∀ P : Nat → Prop, (∀ a, P a → a ≠ 77 ∧ a ≠ 78 ∧ a ≠ 124 ∧ a ≠ 125 ∧ a ≠ 126 ∧ a ≠ 104) → fb_kp u u2 P := by
      intro P hP a ha
      obtain ⟨p1, p2, p3, p4, p5, p6⟩ := hP a ha
      refine ⟨?_, ?_, ?_⟩
      · rw [(k1 a ⟨p3, p4, p5⟩).1, fb_I_ne _ _ p6, i1 a p1]
      · rw [(k1 a ⟨p3, p4, p5⟩).2.1]; show fb_L u1 a = _; rw [d3]
      · rw [(k1 a ⟨p3, p4, p5⟩).2.2]; show fb_R u1 a = _; rw [d4 a p2]
    have sc : ∀ k, k ≠ 28 → fb_I u2 104 k = fb_I u 104 k := fun k hk => by
      rw [(k1 104 (by decide)).1, fb_I_wI, if_neg (fun q => hk q.2), i1 104 (by decide)]
    have s0 : ∀ k, fb_I u2 0 k = fb_I u 0 k := fun k => by rw [(kk (fun a => a = 0) (fun a ha => by omega) 0 rfl).1]
    refine ⟨_, _, _, e1, e2, fun a k h1 h2 => ?_, hT.fr (kk _ (fun a ha => by unfold fb_PT at ha; omega)) (sc 1 (by decide)), hL.fr (kk _ (fun a ha => by unfold fb_PL at ha; omega)) (sc 4 (by decide)), hF.fr (kk _ (fun a ha => by unfold fb_PF at ha; omega)) (s0 4) (sc 5 (by decide)), ?_, hO.fr (kk _ (fun a ha => by unfold fb_PO at ha; omega)), hA.fr (kk _ (fun a ha => by unfold fb_PA at ha; omega)) (s0 8) (sc 35 (by decide)), hR.fr (kk _ (fun a ha => by unfold fb_PR at ha; omega)) (s0 11) (sc 37 (by decide))⟩
    · rw [k2]; exact hS1 a k h1 h2
    · have c4 : fb_I (fb_wI u1 104 28 (nI (n - 1))) 124 = fb_I u 124 := by rw [fb_I_ne _ _ (by decide), i1 124 (by decide)]
      have c5 : fb_I (fb_wI u1 104 28 (nI (n - 1))) 125 = fb_I u 125 := by rw [fb_I_ne _ _ (by decide), i1 125 (by decide)]
      have c6 : fb_I (fb_wI u1 104 28 (nI (n - 1))) 126 = fb_I u 126 := by rw [fb_I_ne _ _ (by decide), i1 126 (by decide)]
      rw [c4] at k4
      rw [c5] at k5
      rw [c6] at k6
      refine fb_IS.out h10 hlt (fun i hi => (hp i hi).1) hpi hx hd ?_ ?_ (fun i hi => by rw [k2]; exact d5 i hi) (fun k hk => ?_) (fun k hk => ?_) k4 k5 k6
      · rw [(k1 77 (by decide)).1, fb_I_ne _ _ (by decide), d2]; rfl
      · rw [(k1 104 (by decide)).1]; rfl
      · rw [(kk (fun a => a = 79 + 2 * k) (fun a ha => by omega) _ rfl).1]
      · rw [(kk (fun a => a = 80 + 2 * k) (fun a ha => by omega) _ rfl).2.1]
  · rw [if_neg hlt] at q2
    refine ⟨0, u, u, ?_, ?_, hv0⟩
    · unfold fX8_remove fX7_drop
      rw [hS.ld_0_5, q2]
      rfl
    · unfold fX9_remove
      rw [q1, Option.bind_some, hm, if_pos (by rw [show e = n by omega])]

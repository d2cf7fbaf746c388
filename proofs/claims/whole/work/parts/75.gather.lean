/-! run: the book's insertion -/
def fb_G2 (ub w : fb_M) : Prop := (∀ a k, ¬ (a = 101 ∧ k = 1) → fb_I w a k = fb_I ub a k) ∧ fb_L w = fb_L ub ∧ ∀ a, a ≠ 102 → fb_R w a = fb_R ub a
theorem fb_G2.rf (u : fb_M) : fb_G2 u u := ⟨fun _ _ _ => rfl, rfl, fun _ _ => rfl⟩
theorem fb_G2.St {ub w : fb_M} (h : fb_G2 ub w) (hS : fb_St ub) : fb_St w := fun a k h1 h2 => by rw [h.2.2 a h2]; exact hS a k h1 h2
theorem fb_G2.wI {ub w : fb_M} (h : fb_G2 ub w) (x : Int32) : fb_G2 ub (fb_wI w 101 1 x) := ⟨fun a k hk => by rw [fb_I_wI, if_neg hk]; exact h.1 a k hk, h.2.1, h.2.2⟩
theorem fb_G2.wR {ub w : fb_M} (h : fb_G2 ub w) (k x : Nat) : fb_G2 ub (fb_wR w 102 k x) := ⟨h.1, h.2.1, fun a ha => by rw [fb_R_ne _ _ ha]; exact h.2.2 a ha⟩
theorem nI_m1 (t : Nat) : nI (t + 1) + (-1) = nI t := by
  have h := nI_pred t
  rw [← h]
  exact (Int32.sub_eq_add_neg _ _).symm
theorem eInsEnd {ub w : fb_M} (hS : fb_St ub) (hG : fb_G2 ub w) {c t a : Nat} (hc : c < 10) (ht : t < 10) (h1 : fb_I w 101 1 = nI c) : jX4_insert_45 101 a (nI t) w = some (fb_wI (fb_wR w 102 t a) 101 1 (nI (c + 1))) := by
  unfold jX4_insert_45
  rw [(hG.St hS).ld_101_0, fb_n102, fb_gix ht (by omega), nI_clamp (n := t) (by omega), fb_I_wR, h1, nI_1]
theorem eInsL {ub : fb_M} (hS : fb_St ub) {n no F : Nat} {p : Nat → Nat} {S : Nat → Nat → Int} (h10 : n ≤ 10) (hp : ∀ i, i < 10 → p i < 10) (hput : ∀ w, fb_G2 ub w → ∀ i j, i < n → j < n → fX2_putsBefore w F (79 + 2 * p i) (79 + 2 * p j) = some (if fb_cp (S i) (S j) no 0 = -1 then 1 else 0)) {e c : Nat} {q : Nat → Nat} (he : e < n) (hc : c < 10) (hq : ∀ j, j < c → q j < n) :
    ∀ t fu w, t ≤ c → t < fu → fb_G2 ub w → fb_I w 101 1 = nI c → (∀ j, j < c + 1 → (j < t → fb_R w 102 j = some (79 + 2 * p (q j))) ∧ (t < j → fb_R w 102 j = some (79 + 2 * p (q (j - 1))))) →
    ∃ t' w', t' ≤ t ∧ gX4_insert_5 101 (79 + 2 * p e) F fu (nI t) w = some w' ∧ fb_G2 ub w' ∧ fb_I w' 101 1 = nI (c + 1) ∧ (∀ j, j < c + 1 → fb_R w' 102 j = some (79 + 2 * p (if j < t' then q j else if j = t' then e else q (j - 1)))) ∧ (∀ j, t' ≤ j → j < t → fb_cp (S e) (S (q j)) no 0 = -1) ∧ (0 < t' → ¬ fb_cp (S e) (S (q (t' - 1))) no 0 = -1) := by
  have hend : ∀ t w, t ≤ c → fb_G2 ub w → fb_I w 101 1 = nI c → (∀ j, j < c + 1 → (j < t → fb_R w 102 j = some (79 + 2 * p (q j))) ∧ (t < j → fb_R w 102 j = some (79 + 2 * p (q (j - 1))))) → ∃ w', jX4_insert_45 101 (79 + 2 * p e) (nI t) w = some w' ∧ fb_G2 ub w' ∧ fb_I w' 101 1 = nI (c + 1) ∧ (∀ j, j < c + 1 → fb_R w' 102 j = some (79 + 2 * p (if j < t then q j else if j = t then e else q (j - 1)))) := by
    intro t w ht hG h1 hr
    refine ⟨_, eInsEnd hS hG hc (by omega) h1, (hG.wR _ _).wI _, by rw [fb_I_wI, if_pos ⟨rfl, rfl⟩], fun j hj => ?_⟩
    rw [fb_R_wI, fb_R_wR]
    obtain ⟨r1, r2⟩ := hr j hj
    by_cases h1 : j = t
    · rw [if_pos ⟨rfl, h1⟩, if_neg (show ¬ j < t by omega), if_pos h1]
    · rw [if_neg (fun z => h1 z.2)]
      by_cases h2 : j < t
      · rw [if_pos h2]; exact r1 h2
      · rw [if_neg h2, if_neg h1]; exact r2 (by omega)
  intro t
  induction t with
  | zero =>
    intro fu w ht hf hG h1 hr
    obtain ⟨fu, rfl⟩ : ∃ k, fu = k + 1 := ⟨fu - 1, by omega⟩
    obtain ⟨w', e1, e2, e3, e4⟩ := hend 0 w ht hG h1 hr
    refine ⟨0, w', Nat.le_refl _, ?_, e2, e3, e4, fun j h1 h2 => absurd h2 (by omega), fun z => absurd z (by omega)⟩
    show bX4_insert_5 _ 101 (79 + 2 * p e) F (nI 0) w = _
    unfold bX4_insert_5
    rw [if_pos (show nI 0 ≤ 0 by decide)]
    exact e1
  | succ t ih =>
    intro fu w ht hf hG h1 hr
    obtain ⟨fu, rfl⟩ : ∃ k, fu = k + 1 := ⟨fu - 1, by omega⟩
    have hSw := hG.St hS
    have hqt := hq t (by omega)
    have hpt := hp (q t) (by omega)
    have hrt : fb_R w 102 t = some (79 + 2 * p (q t)) := (hr t (by omega)).1 (by omega)
    by_cases hcp : fb_cp (S e) (S (q t)) no 0 = -1
    · have step : gX4_insert_5 101 (79 + 2 * p e) F (fu + 1) (nI (t + 1)) w = gX4_insert_5 101 (79 + 2 * p e) F fu (nI t) (fb_wR w 102 (t + 1) (79 + 2 * p (q t))) := by
        show bX4_insert_5 _ 101 (79 + 2 * p e) F (nI (t + 1)) w = _
        unfold bX4_insert_5
        rw [if_neg (nI_nle (by omega) (by omega)), hSw.ld_101_0, hSw.ld_101_0, hSw.ld_101_0, fb_n102, nI_pred, fb_gix (show t < 10 by omega) (by omega), nI_clamp (n := t) (by omega), fb_ldE hrt hpt, hput w hG e (q t) he hqt, Option.bind_some, if_pos hcp, if_neg fb_10, fb_gix2 (show t < 10 by omega) (by omega), fb_ldE hrt hpt, fb_gix (show t + 1 < 10 by omega) (by omega), nI_clamp (n := t + 1) (by omega), nI_m1]
      rw [step]
      obtain ⟨t', w', e1, e2, e3, e4, e5, e6, e7⟩ := ih fu _ (by omega) (by omega) (hG.wR (t + 1) (79 + 2 * p (q t))) (by rw [fb_I_wR]; exact h1) (fun j hj => by
        rw [fb_R_wR]
        refine ⟨fun h => ?_, fun h => ?_⟩
        · rw [if_neg (fun z => by omega)]
          exact (hr j hj).1 (by omega)
        · by_cases h2 : j = t + 1
          · rw [if_pos ⟨rfl, h2⟩, h2]; rfl
          · rw [if_neg (fun z => h2 z.2)]
            exact (hr j hj).2 (by omega))
      refine ⟨t', w', by omega, e2, e3, e4, e5, fun j h1 h2 => ?_, e7⟩
      by_cases h3 : j = t
      · rw [h3]; exact hcp
      · exact e6 j h1 (by omega)
    · obtain ⟨w', e1, e2, e3, e4⟩ := hend (t + 1) w ht hG h1 hr
      refine ⟨t + 1, w', Nat.le_refl _, ?_, e2, e3, e4, fun j h1 h2 => absurd h2 (by omega), fun _ => hcp⟩
      show bX4_insert_5 _ 101 (79 + 2 * p e) F (nI (t + 1)) w = _
      unfold bX4_insert_5
      rw [if_neg (nI_nle (by omega) (by omega)), hSw.ld_101_0, fb_n102, nI_pred, fb_gix (show t < 10 by omega) (by omega), nI_clamp (n := t) (by omega), fb_ldE hrt hpt, hput w hG e (q t) he hqt, Option.bind_some, if_neg hcp, if_pos rfl]
      exact e1
/-- the first i, as far as they fit, in their order -/
def fb_sq (S : Nat → Nat → Int) (no : Nat) (fit : Nat → Bool) (i c : Nat) (q : Nat → Nat) : Prop := c ≤ i ∧ (∀ j, j < c → q j < i ∧ fit (q j) = true) ∧ (∀ d, d < i → fit d = true → ∃ j, j < c ∧ q j = d) ∧ ∀ j k, j < k → k < c → fb_bef S no (q j) (q k)
theorem fb_sq.no {S : Nat → Nat → Int} {no : Nat} {fit : Nat → Bool} {i c : Nat} {q : Nat → Nat} (h : fb_sq S no fit i c q) (hf : ¬ fit i = true) : fb_sq S no fit (i + 1) c q := by
  obtain ⟨h0, h1, h2, h3⟩ := h
  refine ⟨by omega, fun j hj => ⟨by have := (h1 j hj).1; omega, (h1 j hj).2⟩, fun d hd hfd => h2 d ?_ hfd, h3⟩
  by_cases hdi : d = i
  · rw [hdi] at hfd; exact absurd hfd hf
  · omega
theorem fb_sq.yes {S : Nat → Nat → Int} {no : Nat} {fit : Nat → Bool} {i c t : Nat} {q : Nat → Nat} (h : fb_sq S no fit i c q) (hf : fit i = true) (ht : t ≤ c) (h6 : ∀ j, t ≤ j → j < c → fb_cp (S i) (S (q j)) no 0 = -1) (h7 : 0 < t → ¬ fb_cp (S i) (S (q (t - 1))) no 0 = -1) : fb_sq S no fit (i + 1) (c + 1) (fun j => if j < t then q j else if j = t then i else q (j - 1)) := by
  obtain ⟨h0, h1, h2, h3⟩ := h
  have hlo : ∀ j, j < t → fb_bef S no (q j) i := by
    intro j hj
    have hb : fb_bef S no (q (t - 1)) i := fb_bef_of (h7 (by omega)) (h1 (t - 1) (by omega)).1
    by_cases hjt : j = t - 1
    · rw [hjt]; exact hb
    · exact fb_bef_tr (h3 j (t - 1) (by omega) (by omega)) hb
  have hhi : ∀ j, t ≤ j → j < c → fb_bef S no i (q j) := fun j g1 g2 => Or.inl (h6 j g1 g2)
  refine ⟨by omega, fun j hj => ?_, fun d hd hfd => ?_, fun j k hjk hk => ?_⟩
  · dsimp only
    by_cases g1 : j < t
    · rw [if_pos g1]
      have := h1 j (by omega)
      exact ⟨by omega, this.2⟩
    · rw [if_neg g1]
      by_cases g2 : j = t
      · rw [if_pos g2]; exact ⟨by omega, hf⟩
      · rw [if_neg g2]
        have := h1 (j - 1) (by omega)
        exact ⟨by omega, this.2⟩
  · by_cases hdi : d = i
    · refine ⟨t, by omega, ?_⟩
      dsimp only
      rw [if_neg (show ¬ t < t by omega), if_pos rfl]
      exact hdi.symm
    · obtain ⟨j, g1, g2⟩ := h2 d (by omega) hfd
      by_cases g3 : j < t
      · refine ⟨j, by omega, ?_⟩
        dsimp only
        rw [if_pos g3]; exact g2
      · refine ⟨j + 1, by omega, ?_⟩
        dsimp only
        rw [if_neg (show ¬ j + 1 < t by omega), if_neg (show ¬ j + 1 = t by omega)]
        exact g2
  · dsimp only
    by_cases g1 : j < t
    · rw [if_pos g1]
      by_cases g2 : k < t
      · rw [if_pos g2]; exact h3 j k hjk (by omega)
      · rw [if_neg g2]
        by_cases g3 : k = t
        · rw [if_pos g3]; exact hlo j g1
        · rw [if_neg g3]; exact h3 j (k - 1) (by omega) (by omega)
    · rw [if_neg g1, if_neg (show ¬ k < t by omega), if_neg (show ¬ k = t by omega)]
      by_cases g3 : j = t
      · rw [if_pos g3]; exact hhi (k - 1) (by omega) (by omega)
      · rw [if_neg g3]; exact h3 (j - 1) (k - 1) (by omega) (by omega)
/-- how many are taken -/
def fb_lm (lim c : Nat) : Nat := if lim = 0 then c else if c ≤ lim then c else lim
theorem eGatL {ub : fb_M} (hS : fb_St ub) {n no f lim : Nat} {p : Nat → Nat} {S : Nat → Nat → Int} {fit : Nat → Bool} (h10 : n ≤ 10) (hp : ∀ i, i < 10 → p i < 10 ∧ fb_R ub 78 i = some (79 + 2 * p i)) (hn : fb_I ub 77 1 = nI n) (hf8 : f < 8) (hlim : lim < 1000) (hl : fb_I ub (23 + 6 * f) 1 = nI lim)
    (hput : ∀ w, fb_G2 ub w → ∀ i j, i < n → j < n → fX2_putsBefore w (23 + 6 * f) (79 + 2 * p i) (79 + 2 * p j) = some (if fb_cp (S i) (S j) no 0 = -1 then 1 else 0)) (hfit : ∀ w, fb_G2 ub w → ∀ i, i < n → fX2_fits w (23 + 6 * f) (79 + 2 * p i) 100 = some (if fit i = true then 1 else 0)) :
    ∀ m i fu w c q, i + m = n → m < fu → fb_G2 ub w → fb_I w 101 1 = nI c → (∀ j, j < c → fb_R w 102 j = some (79 + 2 * p (q j))) → fb_sq S no fit i c q →
    ∃ w' c' q', gX4_gather_8 101 77 (23 + 6 * f) 100 fu (nI i) w = some w' ∧ fb_G2 ub w' ∧ fb_I w' 101 1 = nI (fb_lm lim c') ∧ (∀ j, j < c' → fb_R w' 102 j = some (79 + 2 * p (q' j))) ∧ fb_sq S no fit n c' q' := by
  intro m
  induction m with
  | zero =>
    intro i fu w c q hi hf hG h1 hr hs
    obtain ⟨fu, rfl⟩ : ∃ k, fu = k + 1 := ⟨fu - 1, by omega⟩
    obtain rfl : i = n := by omega
    have hw : ∀ w', bX4_gather_8 (gX4_gather_8 101 77 (23 + 6 * f) 100 fu) 101 77 (23 + 6 * f) 100 (nI i) w = some w' → gX4_gather_8 101 77 (23 + 6 * f) 100 (fu + 1) (nI i) w = some w' := fun _ h => h
    have hc := hs.1
    have e77 : fb_I w 77 1 = nI i := (hG.1 77 1 (by omega)).trans hn
    have elm : fb_I w (23 + 6 * f) 1 = nI lim := (hG.1 (23 + 6 * f) 1 (by omega)).trans hl
    unfold bX4_gather_8 fX7_count at hw
    rw [Option.bind_some, e77, if_pos (nI_le (Nat.le_refl _) (by omega)), elm, h1] at hw
    by_cases h0 : lim = 0
    · rw [if_pos (show nI lim ≤ 0 by rw [h0]; decide)] at hw
      exact ⟨w, c, q, hw w rfl, hG, by rw [fb_lm, if_pos h0]; exact h1, hr, hs⟩
    · rw [if_neg (nI_nle (by omega) (by omega))] at hw
      by_cases h2 : c ≤ lim
      · rw [if_pos (nI_le h2 (by omega))] at hw
        exact ⟨w, c, q, hw w rfl, hG, by rw [fb_lm, if_neg h0, if_pos h2]; exact h1, hr, hs⟩
      · rw [if_neg (nI_ge (by omega) (by omega))] at hw
        exact ⟨_, c, q, hw _ rfl, hG.wI _, by rw [fb_lm, if_neg h0, if_neg h2, fb_I_wI, if_pos ⟨rfl, rfl⟩], hr, hs⟩
  | succ m ih =>
    intro i fu w c q hi hf hG h1 hr hs
    obtain ⟨fu, rfl⟩ : ∃ k, fu = k + 1 := ⟨fu - 1, by omega⟩
    have hSw := hG.St hS
    have hc := hs.1
    have e77 : fb_I w 77 1 = nI n := (hG.1 77 1 (by omega)).trans hn
    have e78 : fb_R w 78 i = some (79 + 2 * p i) := by rw [hG.2.2 78 (by decide)]; exact (hp i (by omega)).2
    have hpi := (hp i (by omega)).1
    have eat : fX7_at w 77 (nI i) = some (79 + 2 * p i) := by
      unfold fX7_at
      rw [hSw.ld_77_0, fb_n78, fb_gix (show i < 10 by omega) (by omega), nI_clamp (n := i) (by omega), fb_ldE e78 hpi]
    have hb : gX4_gather_8 101 77 (23 + 6 * f) 100 (fu + 1) (nI i) w = (if (if fit i = true then (1 : Int32) else 0) = 0 then gX4_gather_8 101 77 (23 + 6 * f) 100 fu (nI (i + 1)) w else (fX4_insert w 101 (79 + 2 * p i) (23 + 6 * f)).bind fun r39 => gX4_gather_8 101 77 (23 + 6 * f) 100 fu (nI (i + 1)) r39) := by
      show bX4_gather_8 _ 101 77 (23 + 6 * f) 100 (nI i) w = _
      unfold bX4_gather_8 fX7_count
      rw [Option.bind_some, e77, if_neg (nI_ge (by omega) (by omega)), eat, Option.bind_some, fb_gdT (fb_c_E (p i) hpi), hfit w hG i (by omega), Option.bind_some, nI_1]
    rw [hb]
    by_cases hfi : fit i = true
    · rw [if_pos hfi, if_neg fb_10]
      unfold fX4_insert
      rw [h1]
      obtain ⟨t', w', e1, e2, e3, e4, e5, e6, e7⟩ := eInsL hS h10 (fun i hi => (hp i hi).1) hput (e := i) (c := c) (q := q) (by omega) (by omega) (fun j hj => by have := (hs.2.1 j hj).1; omega) c fb_F w (Nat.le_refl _) (by unfold fb_F; omega) hG h1 (fun j hj => ⟨fun h => hr j h, fun h => absurd h (by omega)⟩)
      rw [e2, Option.bind_some]
      exact ih (i + 1) fu w' (c + 1) _ (by omega) (by omega) e3 e4 e5 (hs.yes hfi e1 e6 e7)
    · rw [if_neg hfi, if_pos rfl]
      exact ih (i + 1) fu w c q (by omega) (by omega) hG h1 hr (hs.no hfi)

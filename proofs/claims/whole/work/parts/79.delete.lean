/-! run: what is deleted -/
def fb_en (X : Nat → Bool) (n n' : Nat) (g : Nat → Nat) : Prop := (∀ j, j < n' → g j < n ∧ X (g j) = true) ∧ (∀ d, d < n → X d = true → ∃ j, j < n' ∧ g j = d) ∧ ∀ j k, j < k → k < n' → g j < g k
theorem fb_en.lt {X : Nat → Bool} {n n' : Nat} {g : Nat → Nat} (h : fb_en X n n' g) {j k : Nat} (hj : j < n') (hk : k < n') (hg : g j = g k) : j = k := by
  by_cases h1 : j < k
  · have := h.2.2 j k h1 hk; omega
  · by_cases h2 : k < j
    · have := h.2.2 k j h2 hj; omega
    · omega
theorem fb_en.cg {X Y : Nat → Bool} {n n' : Nat} {g : Nat → Nat} (h : fb_en X n n' g) (hxy : ∀ d, d < n → X d = Y d) : fb_en Y n n' g :=
  ⟨fun j hj => ⟨(h.1 j hj).1, by rw [← hxy _ (h.1 j hj).1]; exact (h.1 j hj).2⟩, fun d hd hY => h.2.1 d hd (by rw [hxy d hd]; exact hY), h.2.2⟩
theorem fb_cn_mo (X : Nat → Bool) (a : Nat) : ∀ d, fb_cn X a ≤ fb_cn X (a + d)
  | 0 => Nat.le_refl _
  | d + 1 => by
    have := fb_cn_mo X a d
    rw [show a + (d + 1) = (a + d) + 1 by omega, fb_cn]
    omega
theorem fb_cn_lt {X : Nat → Bool} {a b : Nat} (h : a < b) (hx : X a = true) : fb_cn X a < fb_cn X b := by
  have h1 := fb_cn_mo X (a + 1) (b - (a + 1))
  rw [show a + 1 + (b - (a + 1)) = b by omega, fb_cn, if_pos hx] at h1
  omega
theorem fb_en.cn {X : Nat → Bool} {n n' : Nat} {g : Nat → Nat} (h : fb_en X n n' g) {j : Nat} (hj : j < n') : fb_cn X (g j) = j := by
  obtain ⟨h1, h2, h3⟩ := h
  refine Eq.trans (fb_cn_cg (g j) (fun d hd => fb_beq ?_)) (fb_cn_in (g := g) j (fun k hk => h3 k j hk hj) (fun a b hab hb => by have := h3 a b hab (by omega); omega))
  rw [fb_in_i]
  refine ⟨fun hX => ?_, fun ⟨k, g1, g2⟩ => ?_⟩
  · obtain ⟨k, k1, k2⟩ := h2 d (by have := (h1 j hj).1; omega) hX
    refine ⟨k, ?_, k2⟩
    by_cases h4 : k < j
    · exact h4
    · by_cases h5 : k = j
      · rw [h5] at k2; omega
      · have := h3 j k (by omega) k1; omega
  · rw [← g2]; exact (h1 k (by omega)).2
theorem fb_en.cnn {X : Nat → Bool} {n n' : Nat} {g : Nat → Nat} (h : fb_en X n n' g) : fb_cn X n = n' := by
  obtain ⟨h1, h2, h3⟩ := h
  refine Eq.trans (fb_cn_cg n (fun d hd => fb_beq ?_)) (fb_cn_in (g := g) n' (fun k hk => (h1 k hk).1) (fun a b hab hb => by have := h3 a b hab (by omega); omega))
  rw [fb_in_i]
  exact ⟨fun hX => h2 d hd hX, fun ⟨k, g1, g2⟩ => by rw [← g2]; exact (h1 k g1).2⟩
theorem fb_en.un {X : Nat → Bool} {n a b : Nat} {g h : Nat → Nat} (h1 : fb_en X n a g) (h2 : fb_en X n b h) : a = b ∧ ∀ j, j < a → g j = h j := by
  have hab : a = b := h1.cnn.symm.trans h2.cnn
  refine ⟨hab, fun j hj => ?_⟩
  have e1 := h1.cn hj
  have e2 := h2.cn (j := j) (by omega)
  by_cases h3 : g j < h j
  · have := fb_cn_lt h3 (h1.1 j hj).2; omega
  · by_cases h4 : h j < g j
    · have := fb_cn_lt h4 (h2.1 j (by omega)).2; omega
    · omega
theorem fb_en.rm {X Y : Nat → Bool} {n n' e : Nat} {g : Nat → Nat} (h : fb_en X n n' g) (he : e < n') (hY : ∀ d, d < n → (Y d = true ↔ X d = true ∧ d ≠ g e)) : fb_en Y n (n' - 1) (fun j => if j < e then g j else g (j + 1)) := by
  have hlt := fun {j k : Nat} (hj : j < n') (hk : k < n') (hg : g j = g k) => h.lt hj hk hg
  obtain ⟨h1, h2, h3⟩ := h
  refine ⟨fun j hj => ?_, fun d hd hYd => ?_, fun j k hjk hk => ?_⟩
  · dsimp only
    by_cases hje : j < e
    · rw [if_pos hje]
      have := h1 j (by omega)
      exact ⟨this.1, (hY _ this.1).mpr ⟨this.2, fun z => by have := hlt (by omega) he z; omega⟩⟩
    · rw [if_neg hje]
      have := h1 (j + 1) (by omega)
      exact ⟨this.1, (hY _ this.1).mpr ⟨this.2, fun z => by have := hlt (by omega) he z; omega⟩⟩
  · obtain ⟨hX, hne⟩ := (hY d hd).mp hYd
    obtain ⟨j, k1, k2⟩ := h2 d hd hX
    by_cases hje : j < e
    · refine ⟨j, by omega, ?_⟩
      dsimp only
      rw [if_pos hje]; exact k2
    · have : j ≠ e := fun z => hne (by rw [← z]; exact k2.symm)
      refine ⟨j - 1, by omega, ?_⟩
      dsimp only
      rw [if_neg (by omega), show j - 1 + 1 = j by omega]; exact k2
  · dsimp only
    by_cases hj : j < e
    · rw [if_pos hj]
      by_cases hke : k < e
      · rw [if_pos hke]; exact h3 j k hjk (by omega)
      · rw [if_neg hke]; exact h3 j (k + 1) (by omega) (by omega)
    · rw [if_neg hj, if_neg (by omega)]; exact h3 (j + 1) (k + 1) (by omega) (by omega)
/-- the book's store behind k drops -/
def fb_dc (w0 : fb_M) (p q : Nat → Nat) (n k : Nat) (w : fb_M) (pk g : Nat → Nat) : Prop := (∀ a j, ¬ (a = 77 ∧ j = 1) → fb_I w a j = fb_I w0 a j) ∧ fb_L w = fb_L w0 ∧ (∀ a, a ≠ 78 → fb_R w a = fb_R w0 a) ∧ fb_I w 77 1 = nI (n - k) ∧ (∀ i, i < 10 → pk i < 10 ∧ fb_R w 78 i = some (79 + 2 * pk i)) ∧ (∀ i j, i < 10 → j < 10 → pk i = pk j → i = j) ∧ (∀ j, j < n - k → pk j = p (g j)) ∧ fb_en (fun d => !fb_in q k d) n (n - k) g
theorem eDelC {w0 : fb_M} (hS : fb_St w0) {n L : Nat} {p q : Nat → Nat} {id : Nat → Int32} (h10 : n ≤ 10) (hLn : L ≤ n) (hp : ∀ i, i < 10 → p i < 10) (hid : ∀ d, d < n → fb_I w0 (79 + 2 * p d) 0 = id d) (hdi : ∀ d e, d < n → e < n → id d = id e → d = e) (hq : ∀ k, k < L → q k < n ∧ fb_R w0 102 k = some (79 + 2 * p (q k))) (hqi : ∀ j k, j < k → k < L → q j ≠ q k) (hc : fb_I w0 101 1 = nI L) :
    ∀ m k fu w pk g, k + m = L → m < fu → fb_dc w0 p q n k w pk g → ∃ w' p' g', gX8_deleteFinding_2 0 fu (nI k) w = some (nI L, w') ∧ fb_dc w0 p q n L w' p' g' := by
  intro m
  induction m with
  | zero =>
    intro k fu w pk g hk hf hd
    obtain ⟨fu, rfl⟩ : ∃ k, fu = k + 1 := ⟨fu - 1, by omega⟩
    obtain rfl : k = L := by omega
    have hSw : fb_St w := fun a j h1 h2 => by rw [hd.2.2.1 a h1]; exact hS a j h1 h2
    refine ⟨w, pk, g, ?_, hd⟩
    show bX8_deleteFinding_2 _ 0 (nI k) w = _
    unfold bX8_deleteFinding_2
    rw [hSw.ld_0_9, hd.1 101 1 (by omega), hc, if_pos (nI_le (Nat.le_refl _) (by omega)), hSw.ld_0_9, hd.1 101 1 (by omega), hc]
  | succ m ih =>
    intro k fu w pk g hk hf hd
    obtain ⟨fu, rfl⟩ : ∃ k, fu = k + 1 := ⟨fu - 1, by omega⟩
    obtain ⟨d1, d2, d3, d4, d5, d6, d7, d8⟩ := hd
    have hSw : fb_St w := fun a j h1 h2 => by rw [d3 a h1]; exact hS a j h1 h2
    obtain ⟨hqn, hqr⟩ := hq k (by omega)
    have hpq := hp (q k) (by omega)
    have hr : fb_R w 102 k = some (79 + 2 * p (q k)) := by rw [d3 102 (by decide)]; exact hqr
    have hX : (!fb_in q k (q k)) = true := by
      rw [show fb_in q k (q k) = false from fb_bfa fun z => by
        obtain ⟨j, g1, g2⟩ := (fb_in_i k (q k)).mp z
        exact hqi j k g1 (by omega) g2]
      rfl
    obtain ⟨e, he, hge⟩ := d8.2.1 (q k) hqn hX
    have hids : ∀ j, j < n - k → fb_I w (79 + 2 * pk j) 0 = id (g j) := fun j hj => by
      rw [d1 _ _ (by omega), d7 j hj]; exact hid _ (d8.1 j hj).1
    have hx : fb_I w (79 + 2 * p (q k)) 0 = id (q k) := by rw [d1 _ _ (by omega)]; exact hid _ hqn
    obtain ⟨x, hxe⟩ : ∃ x, x = id (q k) := ⟨_, rfl⟩
    have hpl : fX7_placeOf w 77 x = some (nI e) := by
      have e1 := eX7_placeL hSw d4 (show n - k ≤ 10 by omega) d5 x (n - k) 0 fb_F (by omega) (by unfold fb_F; omega)
      obtain ⟨y, hy⟩ : ∃ y, y = fb_ixr (fun i => fb_I w (79 + 2 * pk i) 0) x (n - k) 0 := ⟨_, rfl⟩
      have hy1 : y < n - k := by
        by_cases h : y < n - k
        · exact h
        · refine absurd ?_ (fb_ixr_no (fun i => fb_I w (79 + 2 * pk i) 0) x (n - k) 0 e (by omega) (by rw [← hy]; omega))
          show fb_I w (79 + 2 * pk e) 0 = x
          rw [hids e he, hge, hxe]
      have hy2 : fb_I w (79 + 2 * pk y) 0 = x := by
        have := fb_ixr_at (fun i => fb_I w (79 + 2 * pk i) 0) x (n - k) 0 (by rw [← hy]; omega)
        rw [← hy] at this
        exact this
      have hye : y = e := by
        refine d8.lt hy1 he ?_
        rw [hids y hy1, hxe] at hy2
        rw [hge]
        exact hdi _ _ (d8.1 y hy1).1 hqn hy2
      rw [← hy, if_pos hy1, hye] at e1
      exact e1
    obtain ⟨w', c1, c2, c3, c4, c5⟩ := eX7_drop hSw d4 (show n - k ≤ 10 by omega) he d5 hpl
    have step : gX8_deleteFinding_2 0 (fu + 1) (nI k) w = gX8_deleteFinding_2 0 fu (nI (k + 1)) w' := by
      show bX8_deleteFinding_2 _ 0 (nI k) w = _
      unfold bX8_deleteFinding_2
      rw [hSw.ld_0_9, d1 101 1 (by omega), hc, if_neg (nI_ge (by omega) (by omega)), hSw.ld_0_5, hSw.ld_0_9, hSw.ld_101_0, fb_n102, fb_gix (show k < 10 by omega) (by omega), nI_clamp (n := k) (by omega), fb_ldE hr hpq, hx, ← hxe, c1, Option.bind_some, nI_1]
    rw [step]
    refine ih (k + 1) fu w' (fb_out pk (n - k) e) (fun j => if j < e then g j else g (j + 1)) (by omega) (by omega) ⟨fun a j h => ?_, c3.trans d2, fun a h => (c4 a h).trans (d3 a h), ?_, fun i hi => ⟨fb_out_in (by omega) he (fun i hi => (d5 i hi).1) i hi, c5 i hi⟩, fb_out_inj (by omega) he d6, fun j hj => ?_, ?_⟩
    · rw [c2, fb_IwI_ne _ _ h]; exact d1 a j h
    · rw [c2, fb_IwI_eq, show n - k - 1 = n - (k + 1) by omega]
    · dsimp only
      unfold fb_out
      rw [if_neg (by omega)]
      by_cases h : e ≤ j
      · rw [if_pos ⟨h, by omega⟩, if_neg (by omega)]; exact d7 (j + 1) (by omega)
      · rw [if_neg (fun z => h z.1), if_pos (by omega)]; exact d7 j (by omega)
    · rw [show n - (k + 1) = n - k - 1 by omega]
      refine d8.rm he (fun d hdn => ?_)
      rw [fb_in, hge]
      by_cases h : q k = d
      · simp [h]
      · have h2 : d ≠ q k := fun z => h z.symm
        simp [h, h2]
/-- the reference's store behind the rows from i on -/
def fb_dm (w0 : fb_M) (T : Nat → Bool) (n i : Nat) (w : fb_M) (n' : Nat) (g : Nat → Nat) : Prop := fb_df w0 w (fun a k => a = 124 ∨ a = 125 ∨ a = 126 ∨ (a = 104 ∧ k = 28)) ∧ fb_I w 104 28 = nI n' ∧ n' ≤ n ∧ i ≤ n' ∧ (∀ j, j < n' → fb_I w 124 j = fb_I w0 124 (g j) ∧ ∀ l, l < 8 → fb_I w 125 (8 * j + l) = fb_I w0 125 (8 * g j + l) ∧ fb_I w 126 (8 * j + l) = fb_I w0 126 (8 * g j + l)) ∧ (∀ j, j < i → g j = j) ∧ fb_en (fun d => !(decide (i ≤ d) && T d)) n n' g
theorem nI_mm (i : Nat) : nI i + (-1) = nI i - 1 := (Int32.sub_eq_add_neg _ _).symm
theorem eDelM {w0 : fb_M} (hS : fb_St w0) {n L f : Nat} {T : Nat → Bool} (hf8 : f < 8) (h10 : n ≤ 10) (hL : L ≤ 10) (h108 : fb_I w0 108 f = 3) (h110 : fb_I w0 110 f = 0) (h01 : ∀ j, j < 8 * n → fb_I w0 126 j = 0 ∨ fb_I w0 126 j = 1) (hT : ∀ d, d < n → fb_I w0 132 d = if T d = true then 1 else 0) :
    ∀ i fu w n' g, i < fu → fb_dm w0 T n i w n' g → ∃ w' m' g', gX9_run_210 104 (nI f) (nI L) fu (nI i - 1) w = some (nI L, w') ∧ fb_dm w0 T n 0 w' m' g' := by
  intro i
  induction i with
  | zero =>
    intro fu w n' g hf hd
    obtain ⟨fu, rfl⟩ : ∃ k, fu = k + 1 := ⟨fu - 1, by omega⟩
    have hSw := hd.1.St hS
    refine ⟨w, n', g, ?_, hd⟩
    show bX9_run_210 _ 104 (nI f) (nI L) (nI 0 - 1) w = _
    unfold bX9_run_210
    rw [if_pos (show nI 0 - 1 < 0 by decide), e247 hSw (s := 3) (sg := 0) hf8 (by omega) (by omega) hL ((hd.1.2.2 108 f (by omega)).trans h108) ((hd.1.2.2 110 f (by omega)).trans h110)]
    rfl
  | succ i ih =>
    intro fu w n' g hf hd
    obtain ⟨fu, rfl⟩ : ∃ k, fu = k + 1 := ⟨fu - 1, by omega⟩
    obtain ⟨d1, d2, d3, d4, d5, d6, d7⟩ := hd
    have hSw := d1.St hS
    have hbody : gX9_run_210 104 (nI f) (nI L) (fu + 1) (nI (i + 1) - 1) w = if (if T i = true then (1 : Int32) else 0) = 0 then gX9_run_210 104 (nI f) (nI L) fu (nI i - 1) w else (fX9_removeAt w 104 (nI i)).bind fun r238 => gX9_run_210 104 (nI f) (nI L) fu (nI i - 1) r238 := by
      show bX9_run_210 _ 104 (nI f) (nI L) (nI (i + 1) - 1) w = _
      unfold bX9_run_210
      rw [nI_pred, if_neg (nI_pos (by omega)), hSw.ld_104_6, fb_n108, fb_gix hf8 (by omega), nI_clamp (n := f) (by omega), d1.2.2 108 f (by omega), h108, if_pos rfl, hSw.ld_104_39, fb_n132, fb_gix (show i < 10 by omega) (by omega), nI_clamp (n := i) (by omega), d1.2.2 132 i (by omega), hT i (by omega), nI_mm]
    rw [hbody]
    by_cases hTi : T i = true
    · rw [if_pos hTi, if_neg fb_10]
      have hgi : g i = i := d6 i (by omega)
      have hf1 : ∀ j, j < 8 * n' → fb_I w 126 j = 0 ∨ fb_I w 126 j = 1 := fun j hj => by
        have := ((d5 (j / 8) (by omega)).2 (j % 8) (by omega)).2
        rw [show 8 * (j / 8) + j % 8 = j by omega] at this
        rw [this]
        have := (d7.1 (j / 8) (by omega)).1
        exact h01 _ (by omega)
      obtain ⟨u', ⟨r1, r2, r3, r4, r5, r6⟩, c1⟩ := eX9_removeAt hSw d2 (show n' ≤ 10 by omega) (show i < n' by omega) hf1
      rw [c1, Option.bind_some]
      refine ih fu u' (n' - 1) (fun j => if j < i then g j else g (j + 1)) (by omega) ⟨⟨r2.trans d1.1, r3.trans d1.2.1, fun a k h => ?_⟩, ?_, by omega, by omega, fun j hj => ?_, fun j hj => ?_, ?_⟩
      · rw [(r1 a (by omega)).1, fb_IwI_ne _ _ (fun z => h (Or.inr (Or.inr (Or.inr z))))]
        exact d1.2.2 a k h
      · rw [(r1 104 (by decide)).1, fb_IwI_eq]
      · dsimp only
        rw [r4 j]
        by_cases hj2 : j < i
        · rw [if_neg (by omega), if_pos hj2]
          refine ⟨(d5 j (by omega)).1, fun l hl => ?_⟩
          rw [r5, r6, if_neg (by omega), if_neg (by omega)]
          exact (d5 j (by omega)).2 l hl
        · rw [if_pos (by omega), if_neg hj2]
          refine ⟨(d5 (j + 1) (by omega)).1, fun l hl => ?_⟩
          rw [r5, r6, if_pos (by omega), if_pos (by omega)]
          have := (d5 (j + 1) (by omega)).2 l hl
          rw [show 8 * (j + 1) + l = 8 * j + l + 8 by omega] at this
          exact this
      · dsimp only
        rw [if_pos hj]; exact d6 j (by omega)
      · refine d7.rm (show i < n' by omega) (fun d hdn => ?_)
        rw [hgi]
        by_cases h : d = i
        · simp [h, hTi]
        · have e1 : decide (i ≤ d) = decide (i + 1 ≤ d) := decide_eq_decide.mpr (by omega)
          rw [e1]
          simp [h]
    · rw [if_neg hTi, if_pos rfl]
      refine ih fu w n' g (by omega) ⟨d1, d2, d3, by omega, d5, fun j hj => d6 j (by omega), d7.cg (fun d hdn => ?_)⟩
      by_cases h : d = i
      · rw [h, fb_bfa hTi]; simp
      · have e1 : decide (i ≤ d) = decide (i + 1 ≤ d) := decide_eq_decide.mpr (by omega)
        rw [e1]

/-! run: the reference's ranks -/
def fb_bb (S : Nat → Nat → Int) (no d e : Nat) : Bool := decide (fb_cp (S d) (S e) no 0 = -1) || (decide (fb_cp (S d) (S e) no 0 = 0) && decide (d < e))
theorem fb_bb_i {S : Nat → Nat → Int} {no d e : Nat} : fb_bb S no d e = true ↔ fb_bef S no d e := by simp [fb_bb, fb_bef]
def fb_in (g : Nat → Nat) : Nat → Nat → Bool
  | 0, _ => false
  | t + 1, d => decide (g t = d) || fb_in g t d
theorem fb_in_i {g : Nat → Nat} : ∀ t d, fb_in g t d = true ↔ ∃ k, k < t ∧ g k = d
  | 0, d => ⟨fun h => absurd h (show ¬ false = true by decide), fun ⟨k, hk, _⟩ => absurd hk (by omega)⟩
  | t + 1, d => by
    rw [fb_in, Bool.or_eq_true, fb_in_i t d]
    refine ⟨fun h => ?_, fun ⟨k, h1, h2⟩ => ?_⟩
    · rcases h with h | ⟨k, h1, h2⟩
      · exact ⟨t, by omega, of_decide_eq_true h⟩
      · exact ⟨k, by omega, h2⟩
    · by_cases hk : k = t
      · exact Or.inl (decide_eq_true (by rw [← hk]; exact h2))
      · exact Or.inr ⟨k, by omega, h2⟩
theorem fb_bfa {b : Bool} (h : ¬ b = true) : b = false := by cases b <;> simp_all
theorem fb_cn_in {g : Nat → Nat} {N : Nat} : ∀ t, (∀ k, k < t → g k < N) → (∀ j k, j < k → k < t → g j ≠ g k) → fb_cn (fb_in g t) N = t
  | 0, _, _ => by
    rw [show fb_in g 0 = fun _ => false from funext fun _ => rfl]
    exact fb_cn_0 N
  | t + 1, h1, h2 => by
    have ih := fb_cn_in (N := N) t (fun k hk => h1 k (by omega)) (fun j k hjk hk => h2 j k hjk (by omega))
    have hx := fb_cn_add (P := fb_in g t) (Q := fb_in g (t + 1)) (x := g t) N (fun d _ hx => by rw [fb_in, decide_eq_false (fun z => hx z.symm), Bool.false_or]) (fun _ => ⟨fb_bfa fun z => by
      obtain ⟨k, g1, g2⟩ := (fb_in_i t (g t)).mp z
      exact h2 k t g1 (by omega) g2, (fb_in_i (t + 1) (g t)).mpr ⟨t, by omega, rfl⟩⟩)
    rw [hx, ih, if_pos (h1 t (by omega))]
theorem fb_beq {a b : Bool} (h : a = true ↔ b = true) : a = b := by cases a <;> cases b <;> simp_all
theorem fb_sq.inj {S : Nat → Nat → Int} {no : Nat} {fit : Nat → Bool} {n c : Nat} {q : Nat → Nat} (h : fb_sq S no fit n c q) : ∀ j k, j < k → k < c → q j ≠ q k := fun j k hjk hk e => by
  have := h.2.2.2 j k hjk hk
  rw [e] at this
  exact fb_bef_ir this
theorem fb_sq.inj2 {S : Nat → Nat → Int} {no : Nat} {fit : Nat → Bool} {n c : Nat} {q : Nat → Nat} (h : fb_sq S no fit n c q) {j k : Nat} (hj : j < c) (hk : k < c) (e : q j = q k) : j = k := by
  by_cases h1 : j < k
  · exact absurd e (h.inj j k h1 hk)
  · by_cases h2 : k < j
    · exact absurd e.symm (h.inj k j h2 hj)
    · omega
theorem fb_rk {S : Nat → Nat → Int} {no : Nat} {fit : Nat → Bool} {n c : Nat} {q : Nat → Nat} (h : fb_sq S no fit n c q) {j : Nat} (hj : j < c) : fb_cn (fun d => fit d && fb_bb S no d (q j)) n = j := by
  have hi := h.inj
  obtain ⟨h0, h1, h2, h3⟩ := h
  have e1 : fb_cn (fb_in q j) n = j := fb_cn_in j (fun k hk => (h1 k (by omega)).1) (fun a b hab hb => hi a b hab (by omega))
  refine Eq.trans (fb_cn_cg n (fun d hd => fb_beq ?_)) e1
  rw [Bool.and_eq_true, fb_bb_i, fb_in_i]
  refine ⟨fun ⟨g1, g2⟩ => ?_, fun ⟨k, g1, g2⟩ => ?_⟩
  · obtain ⟨k, k1, rfl⟩ := h2 d hd g1
    refine ⟨k, ?_, rfl⟩
    by_cases h4 : k < j
    · exact h4
    · by_cases h5 : k = j
      · rw [h5] at g2; exact absurd g2 fb_bef_ir
      · exact absurd (h3 j k (by omega) k1) (fb_bef_as g2)
  · rw [← g2]
    exact ⟨(h1 k (by omega)).2, h3 k j g1 hj⟩
theorem fb_n01 {x : Int32} (h : x = -1) : x < 0 := by rw [h]; decide
theorem eRank {v : fb_M} (hV : fb_St v) {n f e no : Nat} {S : Nat → Nat → Int} {fit : Nat → Bool} (hm : fb_I v 104 28 = nI n) (h10 : n ≤ 10) (he : e < n) (hfit : ∀ d, d < n → fb_I v 131 d = if fit d = true then 1 else 0) (hcmp : ∀ d, d < n → fX9_compare v 104 (nI f) (nI d) (nI e) = some (fb_cp (S d) (S e) no 0)) :
    ∀ m d fu, d + m = n → m < fu → gX9_rank_5 104 (nI f) (nI e) v fu (nI (fb_cn (fun d => fit d && fb_bb S no d e) d)) (nI d) = some (nI (fb_cn (fun d => fit d && fb_bb S no d e) n)) := by
  intro m
  induction m with
  | zero =>
    intro d fu hd hf
    obtain ⟨fu, rfl⟩ : ∃ k, fu = k + 1 := ⟨fu - 1, by omega⟩
    obtain rfl : d = n := by omega
    show bX9_rank_5 _ 104 (nI f) (nI e) _ (nI d) v = _
    unfold bX9_rank_5
    rw [hm, if_pos (nI_le (Nat.le_refl _) (by omega))]
  | succ m ih =>
    intro d fu hd hf
    obtain ⟨fu, rfl⟩ : ∃ k, fu = k + 1 := ⟨fu - 1, by omega⟩
    have ih' := ih (d + 1) fu (by omega) (by omega)
    rw [fb_cn] at ih'
    show bX9_rank_5 (gX9_rank_5 104 (nI f) (nI e) v fu) 104 (nI f) (nI e) _ (nI d) v = _
    unfold bX9_rank_5
    rw [hm, if_neg (nI_ge (by omega) (by omega)), nI_1, nI_1]
    by_cases hde : d = e
    · rw [if_pos (show nI d = nI e by rw [hde])]
      rw [hde, show fb_bb S no e e = false from fb_bfa (fun z => fb_bef_ir (fb_bb_i.mp z)), Bool.and_false] at ih'
      rw [hde]
      exact ih'
    rw [if_neg (fun z => hde ((nI_eq (by omega) (by omega)).mp z)), hV.ld_104_38, fb_n131, fb_gix (show d < 10 by omega) (by omega), nI_clamp (n := d) (by omega), hfit d (by omega)]
    by_cases hfd : fit d = true
    · rw [if_pos hfd, if_neg fb_10, hcmp d (by omega), Option.bind_some]
      rw [hfd, Bool.true_and] at ih'
      by_cases h1 : fb_cp (S d) (S e) no 0 = -1
      · rw [fb_bb_i.mpr (Or.inl h1), if_pos rfl] at ih'
        rw [if_pos (fb_n01 h1)]
        exact ih'
      · by_cases h2 : fb_cp (S d) (S e) no 0 = 0
        · rw [if_neg (show ¬ fb_cp (S d) (S e) no 0 < 0 by rw [h2]; decide), if_pos h2]
          by_cases h3 : e ≤ d
          · rw [show fb_bb S no d e = false from fb_bfa (fun z => by
              rcases fb_bb_i.mp z with g | g
              · exact h1 g
              · omega), if_neg (show ¬ false = true by decide)] at ih'
            rw [if_pos (nI_le h3 (by omega))]
            exact ih'
          · rw [fb_bb_i.mpr (Or.inr ⟨h2, by omega⟩), if_pos rfl] at ih'
            rw [if_neg (nI_ge (by omega) (by omega))]
            exact ih'
        · have h3 : fb_cp (S d) (S e) no 0 = 1 := by
            rcases fb_cp3 (S d) (S e) no 0 with g | g | g
            · exact absurd g h2
            · exact absurd g h1
            · exact g
          rw [show fb_bb S no d e = false from fb_bfa (fun z => by
              rcases fb_bb_i.mp z with g | g
              · exact h1 g
              · exact h2 g.1), if_neg (show ¬ false = true by decide)] at ih'
          rw [if_neg (show ¬ fb_cp (S d) (S e) no 0 < 0 by rw [h3]; decide), if_neg h2]
          exact ih'
    · rw [if_neg hfd, if_pos rfl]
      rw [fb_bfa hfd, Bool.false_and, if_neg (show ¬ false = true by decide)] at ih'
      exact ih'
abbrev fb_D3 (a _k : Nat) : Prop := a = 130 ∨ a = 131 ∨ a = 132
theorem fb_vb (b : Bool) : vp_nar .boolean (if b = true then 1 else 0) = if b = true then 1 else 0 := by cases b <;> decide
theorem eRun46 {v : fb_M} (hV : fb_St v) {n f : Nat} {fit : Nat → Bool} (hm : fb_I v 104 28 = nI n) (h10 : n ≤ 10) (hfit : ∀ w, fb_df v w fb_D3 → ∀ i, i < n → fX9_fits w 104 (nI f) (nI i) = some (if fit i = true then 1 else 0)) :
    ∀ m i fu w, i + m = n → m < fu → fb_df v w fb_D3 → (∀ d, d < i → fb_I w 131 d = if fit d = true then 1 else 0) → ∃ w', gX9_run_46 104 (nI f) fu (nI i) w = gX9_run_77 104 (nI f) fb_F 0 0 w' ∧ fb_df v w' fb_D3 ∧ (∀ d, d < n → fb_I w' 131 d = if fit d = true then 1 else 0) := by
  intro m
  induction m with
  | zero =>
    intro i fu w hi hf hd hw
    obtain ⟨fu, rfl⟩ : ∃ k, fu = k + 1 := ⟨fu - 1, by omega⟩
    obtain rfl : i = n := by omega
    refine ⟨w, ?_, hd, hw⟩
    show bX9_run_46 _ 104 (nI f) (nI i) w = _
    unfold bX9_run_46
    rw [hd.2.2 104 28 (by unfold fb_D3; omega), hm, if_pos (nI_le (Nat.le_refl _) (by omega))]
  | succ m ih =>
    intro i fu w hi hf hd hw
    obtain ⟨fu, rfl⟩ : ∃ k, fu = k + 1 := ⟨fu - 1, by omega⟩
    have step : gX9_run_46 104 (nI f) (fu + 1) (nI i) w = gX9_run_46 104 (nI f) fu (nI (i + 1)) (fb_wI w 131 i (if fit i = true then 1 else 0)) := by
      show bX9_run_46 _ 104 (nI f) (nI i) w = _
      unfold bX9_run_46
      rw [hd.2.2 104 28 (by unfold fb_D3; omega), hm, if_neg (nI_ge (by omega) (by omega)), (hd.St hV).ld_104_38, hfit w hd i (by omega), Option.bind_some, fb_n131, fb_gix (show i < 10 by omega) (by omega), nI_clamp (n := i) (by omega), nI_1, fb_vb]
    rw [step]
    refine ih (i + 1) fu _ (by omega) (by omega) (hd.wI (Or.inr (Or.inl rfl))) (fun d hdi => ?_)
    by_cases h : d = i
    · rw [h, fb_IwI_eq]
    · rw [fb_IwI_ne _ _ (fun z => h z.2)]
      exact hw d (by omega)
theorem e136 {v : fb_M} (hV : fb_St v) (K : Int32 → Int32 → fb_M → Option (Int32 × fb_M)) (x1 : Int32) {x i r : Nat} (hi : i < 10) : jX9_run_136 K 104 x1 (nI x) (nI i) (nI r) 132 (nI i) 0 v = K (nI x) (nI (i + 1)) (fb_wI v 132 i 0) ∧ (r < 10 → jX9_run_136 K 104 x1 (nI x) (nI i) (nI r) 132 (nI i) 1 v = K (nI (x + 1)) (nI (i + 1)) (fb_wI (fb_wI v 132 i 1) 130 r (fb_I v 124 i))) := by
  have b0 : vp_nar .boolean 0 = 0 := by decide
  have b1 : vp_nar .boolean 1 = 1 := by decide
  refine ⟨?_, fun hr => ?_⟩
  · unfold jX9_run_136
    rw [b0, fb_n132, fb_gix hi (by omega), nI_clamp (n := i) (by omega), (hV.wI 132 i 0).ld_104_39, fb_n132, fb_gix2 hi (by omega), fb_IwI_eq, if_pos rfl, nI_1]
  · unfold jX9_run_136
    rw [b1, fb_n132, fb_gix hi (by omega), nI_clamp (n := i) (by omega), (hV.wI 132 i 1).ld_104_39, fb_n132, fb_gix2 hi (by omega), fb_IwI_eq, if_neg fb_10, (hV.wI 132 i 1).ld_104_36, (hV.wI 132 i 1).ld_104_29, fb_n124, fb_gix2 hi (by omega), fb_n130, fb_gix hr (by omega), nI_clamp (n := r) (by omega), fb_IwI_ne _ _ (by omega), nI_1, nI_1]

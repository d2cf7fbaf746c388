/-! run: what the reference takes -/
theorem fb_lm_le (lim c : Nat) : fb_lm lim c ≤ c := by
  unfold fb_lm
  split
  · omega
  · split <;> omega
theorem fb_lm_lt {lim c k : Nat} (hk : k < c) : k < fb_lm lim c ↔ lim = 0 ∨ k < lim := by
  unfold fb_lm
  split
  · omega
  · split <;> omega
theorem fb_b01 {b : Bool} : ((if b = true then (1 : Int32) else 0) = 0) ↔ ¬ b = true := by cases b <;> decide
theorem eRun77 {v : fb_M} (hV : fb_St v) {n f no lim c : Nat} {S : Nat → Nat → Int} {fit : Nat → Bool} {q : Nat → Nat} (hf8 : f < 8) (hm : fb_I v 104 28 = nI n) (h10 : n ≤ 10) (hl1 : lim < 1000) (hl : fb_I v 109 f = nI lim) (hcmp : ∀ w, fb_df v w fb_D3 → ∀ d e, d < n → e < n → fX9_compare w 104 (nI f) (nI d) (nI e) = some (fb_cp (S d) (S e) no 0)) (hq : fb_sq S no fit n c q) :
    ∀ m i fu w, i + m = n → m < fu → fb_df v w fb_D3 → (∀ d, d < n → fb_I w 131 d = if fit d = true then 1 else 0) → (∀ d, d < i → fb_I w 132 d = if fb_in q (fb_lm lim c) d = true then 1 else 0) → (∀ k, k < fb_lm lim c → q k < i → fb_I w 130 k = fb_I v 124 (q k)) →
    ∃ w', gX9_run_77 104 (nI f) fu (nI (fb_cn (fb_in q (fb_lm lim c)) i)) (nI i) w = gX9_run_77 104 (nI f) 1 (nI (fb_lm lim c)) (nI n) w' ∧ fb_df v w' fb_D3 ∧ (∀ d, d < n → fb_I w' 132 d = if fb_in q (fb_lm lim c) d = true then 1 else 0) ∧ (∀ k, k < fb_lm lim c → fb_I w' 130 k = fb_I v 124 (q k)) := by
  have hlc := fb_lm_le lim c
  have hLn : fb_cn (fb_in q (fb_lm lim c)) n = fb_lm lim c := fb_cn_in _ (fun k hk => (hq.2.1 k (by omega)).1) (fun j k hjk hk => hq.inj j k hjk (by omega))
  intro m
  induction m with
  | zero =>
    intro i fu w hi hf hd h131 h132 h130
    obtain ⟨fu, rfl⟩ : ∃ k, fu = k + 1 := ⟨fu - 1, by omega⟩
    obtain rfl : i = n := by omega
    refine ⟨w, ?_, hd, h132, fun k hk => h130 k hk (hq.2.1 k (by omega)).1⟩
    rw [hLn]
    show bX9_run_77 _ 104 (nI f) (nI (fb_lm lim c)) (nI i) w = bX9_run_77 _ 104 (nI f) (nI (fb_lm lim c)) (nI i) w
    unfold bX9_run_77
    have e : fb_I w 104 28 ≤ nI i := by
      rw [hd.2.2 104 28 (by unfold fb_D3; omega), hm]
      exact nI_le (Nat.le_refl _) (by omega)
    rw [if_pos e, if_pos e]
  | succ m ih =>
    intro i fu w hi hf hd h131 h132 h130
    obtain ⟨fu, rfl⟩ : ∃ k, fu = k + 1 := ⟨fu - 1, by omega⟩
    have hSw := hd.St hV
    have e28 : fb_I w 104 28 = nI n := by rw [hd.2.2 104 28 (by unfold fb_D3; omega), hm]
    have e109 : fb_I w 109 f = nI lim := by rw [hd.2.2 109 f (by unfold fb_D3; omega), hl]
    have e124 : fb_I w 124 i = fb_I v 124 i := hd.2.2 124 i (by unfold fb_D3; omega)
    have hrk : fX9_rank w 104 (nI f) (nI i) = some (nI (fb_cn (fun d => fit d && fb_bb S no d i) n)) := eRank hSw e28 h10 (show i < n by omega) h131 (fun d hdn => hcmp w hd d i hdn (by omega)) n 0 fb_F (by omega) (by unfold fb_F; omega)
    obtain ⟨r, hr⟩ : ∃ r, r = fb_cn (fun d => fit d && fb_bb S no d i) n := ⟨_, rfl⟩
    rw [← hr] at hrk
    obtain ⟨x, hx⟩ : ∃ x, x = fb_cn (fb_in q (fb_lm lim c)) i := ⟨_, rfl⟩
    have hno : fb_in q (fb_lm lim c) i = false → ∀ d, d < i + 1 → fb_I (fb_wI w 132 i 0) 132 d = if fb_in q (fb_lm lim c) d = true then 1 else 0 := by
      intro hin d hdi
      by_cases h : d = i
      · rw [h, fb_IwI_eq, hin, if_neg (show ¬ false = true by decide)]
      · rw [fb_IwI_ne _ _ (fun z => h z.2)]; exact h132 d (by omega)
    have h0 : fb_in q (fb_lm lim c) i = false → gX9_run_77 104 (nI f) (fu + 1) (nI x) (nI i) w = gX9_run_77 104 (nI f) fu (nI x) (nI (i + 1)) (fb_wI w 132 i 0) → ∃ w', gX9_run_77 104 (nI f) (fu + 1) (nI x) (nI i) w = gX9_run_77 104 (nI f) 1 (nI (fb_lm lim c)) (nI n) w' ∧ fb_df v w' fb_D3 ∧ (∀ d, d < n → fb_I w' 132 d = if fb_in q (fb_lm lim c) d = true then 1 else 0) ∧ (∀ k, k < fb_lm lim c → fb_I w' 130 k = fb_I v 124 (q k)) := by
      intro hin hg
      obtain ⟨w', e1, e2⟩ := ih (i + 1) fu (fb_wI w 132 i 0) (by omega) (by omega) (hd.wI (Or.inr (Or.inr rfl))) (fun d hdn => by rw [fb_IwI_ne _ _ (by omega)]; exact h131 d hdn) (hno hin) (fun k hk hki => by
        rw [fb_IwI_ne _ _ (by omega)]
        by_cases h : q k = i
        · rw [(fb_in_i _ _).mpr ⟨k, hk, h⟩] at hin; exact absurd hin (by decide)
        · exact h130 k hk (by omega))
      rw [fb_cn, hin, if_neg (show ¬ false = true by decide), Nat.add_zero, ← hx] at e1
      exact ⟨w', hg.trans e1, e2⟩
    have h1 : ∀ k, k < c → q k = i → r = k → k < fb_lm lim c → gX9_run_77 104 (nI f) (fu + 1) (nI x) (nI i) w = gX9_run_77 104 (nI f) fu (nI (x + 1)) (nI (i + 1)) (fb_wI (fb_wI w 132 i 1) 130 r (fb_I w 124 i)) → ∃ w', gX9_run_77 104 (nI f) (fu + 1) (nI x) (nI i) w = gX9_run_77 104 (nI f) 1 (nI (fb_lm lim c)) (nI n) w' ∧ fb_df v w' fb_D3 ∧ (∀ d, d < n → fb_I w' 132 d = if fb_in q (fb_lm lim c) d = true then 1 else 0) ∧ (∀ k, k < fb_lm lim c → fb_I w' 130 k = fb_I v 124 (q k)) := by
      intro k hkc hqk hrk hkl hg
      have hin : fb_in q (fb_lm lim c) i = true := (fb_in_i _ _).mpr ⟨k, hkl, hqk⟩
      obtain ⟨w', e1, e2⟩ := ih (i + 1) fu (fb_wI (fb_wI w 132 i 1) 130 r (fb_I w 124 i)) (by omega) (by omega) ((hd.wI (Or.inr (Or.inr rfl))).wI (Or.inl rfl)) (fun d hdn => by rw [fb_IwI_ne _ _ (by omega), fb_IwI_ne _ _ (by omega)]; exact h131 d hdn) (fun d hdi => by
        rw [fb_IwI_ne _ _ (by omega)]
        by_cases h : d = i
        · rw [h, fb_IwI_eq, hin, if_pos rfl]
        · rw [fb_IwI_ne _ _ (fun z => h z.2)]; exact h132 d (by omega)) (fun k' hk' hki => by
        by_cases h : k' = r
        · rw [h, fb_IwI_eq, e124, hrk, hqk]
        · rw [fb_IwI_ne _ _ (fun z => h z.2), fb_IwI_ne _ _ (by omega)]
          by_cases h2 : q k' = i
          · exact absurd (hq.inj2 (show k' < c by omega) hkc (h2.trans hqk.symm)) (by omega)
          · exact h130 k' hk' (by omega))
      rw [fb_cn, hin, if_pos rfl, ← hx] at e1
      exact ⟨w', hg.trans e1, e2⟩
    rw [← hx]
    have j0 := (e136 hSw (gX9_run_77 104 (nI f) fu) (nI f) (x := x) (i := i) (r := r) (by omega)).1
    have j1 := (e136 hSw (gX9_run_77 104 (nI f) fu) (nI f) (x := x) (i := i) (r := r) (by omega)).2
    have hbody : gX9_run_77 104 (nI f) (fu + 1) (nI x) (nI i) w = if fb_I w 131 i = 0 then jX9_run_136 (gX9_run_77 104 (nI f) fu) 104 (nI f) (nI x) (nI i) (nI r) 132 (nI i) 0 w else if nI lim = 0 then jX9_run_136 (gX9_run_77 104 (nI f) fu) 104 (nI f) (nI x) (nI i) (nI r) 132 (nI i) 1 w else if nI lim ≤ nI r then jX9_run_136 (gX9_run_77 104 (nI f) fu) 104 (nI f) (nI x) (nI i) (nI r) 132 (nI i) 0 w else jX9_run_136 (gX9_run_77 104 (nI f) fu) 104 (nI f) (nI x) (nI i) (nI r) 132 (nI i) 1 w := by
      show bX9_run_77 _ 104 (nI f) (nI x) (nI i) w = _
      unfold bX9_run_77
      rw [e28, if_neg (nI_ge (by omega) (by omega)), hrk, Option.bind_some, hSw.ld_104_39, hSw.ld_104_38, fb_n131, fb_gix (show i < 10 by omega) (by omega), nI_clamp (n := i) (by omega), hSw.ld_104_7, fb_n109, fb_gix hf8 (by omega), nI_clamp (n := f) (by omega), hSw.ld_104_7, fb_n109, fb_gix2 hf8 (by omega), e109]
    by_cases hfi : fit i = true
    · rw [h131 i (by omega), if_pos hfi, if_neg fb_10] at hbody
      obtain ⟨k, hk, hqk⟩ := hq.2.2.1 i (by omega) hfi
      have hrk : r = k := by rw [hr, ← hqk]; exact fb_rk hq hk
      have hk10 : r < 10 := by have := hq.1; omega
      have hlt := fb_lm_lt (lim := lim) hk
      by_cases hl0 : lim = 0
      · rw [if_pos (show nI lim = 0 by rw [hl0]; rfl), j1 hk10] at hbody
        exact h1 k hk hqk hrk (hlt.mpr (Or.inl hl0)) hbody
      · rw [if_neg (nI_ne0 (by omega) (by omega))] at hbody
        by_cases hlr : lim ≤ r
        · rw [if_pos (nI_le hlr (by omega)), j0] at hbody
          refine h0 (fb_bfa fun z => ?_) hbody
          obtain ⟨k2, g1, g2⟩ := (fb_in_i _ _).mp z
          have := hq.inj2 (show k2 < c by omega) hk (g2.trans hqk.symm)
          rw [this] at g1
          have := hlt.mp g1
          omega
        · rw [if_neg (nI_ge (by omega) (by omega)), j1 hk10] at hbody
          exact h1 k hk hqk hrk (hlt.mpr (Or.inr (by omega))) hbody
    · rw [h131 i (by omega), if_neg hfi, if_pos rfl, j0] at hbody
      refine h0 (fb_bfa fun z => ?_) hbody
      obtain ⟨k2, g1, g2⟩ := (fb_in_i _ _).mp z
      have := (hq.2.1 k2 (by omega)).2
      rw [g2] at this
      exact hfi this

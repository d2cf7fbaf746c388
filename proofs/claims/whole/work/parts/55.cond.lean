/-! define: the condition -/
def fb_DC (f a k : Nat) : Prop := (a = 23 + 6 * f ∧ (k = 3 ∨ k = 4 ∨ k = 5)) ∨ a = 24 + 6 * f ∨ a = 25 + 6 * f ∨ a = 26 + 6 * f
def fb_DM (a k : Nat) : Prop := (a = 104 ∧ (k = 17 ∨ k = 18 ∨ k = 20 ∨ k = 27)) ∨ a = 119 ∨ a = 120 ∨ a = 121
def fb_RL (u : fb_M) (n N f : Nat) (w v : fb_M) (na np d : Nat) : Prop :=
  fb_Wc u w ∧ fb_Vc u n N v ∧ fb_I v 104 20 = 0 ∧ (fb_I w (23 + 6 * f) 3 = nI na ∧ fb_I v 104 17 = nI na) ∧ (fb_I w (23 + 6 * f) 4 = nI np ∧ fb_I v 104 18 = nI np) ∧
  ∃ lf wd at_ : Nat → Nat, fb_I w (23 + 6 * f) 5 = nI (fb_tks wd np) ∧ (∀ k, k < np → lf k < 8 ∧ wd k ≤ 10 ∧ at_ k < na) ∧
    (∀ k, k < np → k < 6 → (fb_I w (24 + 6 * f) k = nI (lf k) ∧ fb_I w (25 + 6 * f) k = nI (wd k) ∧ fb_I w (26 + 6 * f) k = nI (at_ k + 1)) ∧ fb_I v 119 k = nI (lf k) ∧ fb_I v 120 k = nI (wd k) ∧ fb_I v 121 k = nI (at_ k)) ∧
    (0 < np → at_ 0 = 0) ∧ (∀ k, k + 1 < np → at_ (k + 1) = at_ k ∨ at_ (k + 1) = at_ k + 1) ∧ ((np = 0 ∧ na = d) ∨ (0 < np ∧ at_ (np - 1) + 1 + d = na))
def fb_BM (u : fb_M) (n N : Nat) (v : fb_M) (na np : Nat) : Prop := fb_Vc u n N v ∧ fb_I v 104 20 = 1 ∧ fb_I v 104 17 = nI na ∧ fb_I v 104 18 = nI np ∧ 0 < na
theorem fb_DP_M {np a k : Nat} (h : fb_DP np a k) : fb_DM a k := by unfold fb_DP at h; unfold fb_DM; omega
theorem fb_tks_cg {w w' : Nat → Nat} : ∀ n, (∀ k, k < n → w k = w' k) → fb_tks w n = fb_tks w' n
  | 0, _ => rfl
  | n + 1, h => by rw [fb_tks, fb_tks, fb_tks_cg n (fun k hk => h k (by omega)), h n (by omega)]
theorem eBadPart {u v : fb_M} {n N : Nat} (hB : fb_B u n N) {fr e np na : Nat} (h : fb_BM u n N v na np) (hfe : fr ≤ e) (he : e ≤ n) (hnp : np < 2 ^ 20) : ∃ v', fX9_takePart v 104 (nI fr) (nI e) = some v' ∧ fb_BM u n N v' na (np + 1) ∧ fb_df v v' fb_DM := by
  obtain ⟨h1, h2, h3, h4, h5⟩ := h
  obtain ⟨v', a1, a2, a3, a4, -⟩ := eTakePart hB h1 hfe he hnp h5 h3 h4
  exact ⟨v', a1, ⟨h1.dP a2, a4 (Or.inl (by rw [h2]; decide)), by rw [a2.2.2 104 17 (by unfold fb_DP; omega), h3], a3, h5⟩, a2.mo (fun a k q => fb_DP_M q)⟩
theorem ePart {u w v : fb_M} {n N f : Nat} (hB : fb_B u n N) (hf : f < 9) {fr e np na d : Nat} (h : fb_RL u n N f w v na np d) (hd : d ≤ 1) (hna : 0 < na) (hfe : fr ≤ e) (he : e ≤ n) (hnp : np < 2 ^ 20) :
    (∃ w' v', fX3_readPart w 21 (23 + 6 * f) (nI fr) (nI e) = some (1, w') ∧ fX9_takePart v 104 (nI fr) (nI e) = some v' ∧ fb_RL u n N f w' v' na (np + 1) 0 ∧ fb_df w w' (fb_DC f) ∧ fb_df v v' fb_DM) ∨
    (∃ v', fX3_readPart w 21 (23 + 6 * f) (nI fr) (nI e) = some (0, w) ∧ fX9_takePart v 104 (nI fr) (nI e) = some v' ∧ fb_BM u n N v' na (np + 1) ∧ fb_df v v' fb_DM) := by
  obtain ⟨hW, hV, h20, ⟨w3, v17⟩, ⟨w4, v18⟩, lf, wd, at_, w5, c1, c2, c3, c4, c5⟩ := h
  obtain ⟨v', a1, a2, a3, a4, a5⟩ := eTakePart hB hV hfe he hnp hna v17 v18
  have a2' : fb_df v v' fb_DM := a2.mo (fun a k q => fb_DP_M q)
  rw [eRp3 hB hW (23 + 6 * f) hfe he]
  cases hp : fb_pt u n fr e with
  | none =>
    exact Or.inr ⟨v', rfl, a1, ⟨hV.dP a2, a4 (Or.inr hp), by rw [a2.2.2 104 17 (by unfold fb_DP; omega), v17], a3, hna⟩, a2'⟩
  | some r =>
    obtain ⟨l, kk⟩ := r
    obtain ⟨hl, hkk⟩ := fb_pt_in hB hfe he hp
    obtain ⟨b20, b6⟩ := a5 l kk hp h20
    obtain ⟨w', d1, d2, d3, d4, d5⟩ := eAddPart (hW.St hB.1) hf (l := l) hnp w3 w4 w5 hkk
    have hDC : fb_df w w' (fb_DC f) := d2.mo (fun a k q => by unfold fb_DC; omega)
    have hWc : fb_Wc u w' := hW.tr (d2.mo (fun a k q => by omega))
    refine Or.inl ⟨w', v', by show ((fX2_addPart w (23 + 6 * f) (nI l) (nI kk)).bind fun r => some ((1 : Int32), r)) = _; rw [d1]; rfl, a1, ?_, hDC, a2'⟩
    refine ⟨hWc, hV.dP a2, b20, ⟨by rw [d2.2.2 _ 3 (by omega), w3], by rw [a2.2.2 104 17 (by unfold fb_DP; omega), v17]⟩, ⟨d3, a3⟩, fun k => if k = np then l else lf k, fun k => if k = np then kk else wd k, fun k => if k = np then na - 1 else at_ k, ?_, ?_, ?_, ?_, ?_, ?_⟩
    · rw [d4, fb_tks, if_pos rfl, fb_tks_cg (w' := wd) np (fun k hk => if_neg (by omega))]
    · intro k hk
      by_cases hkn : k = np
      · simp only [hkn, if_true]; exact ⟨hl, hkk, by omega⟩
      · simp only [hkn, if_false]; exact c1 k (by omega)
    · intro k hk hk6
      by_cases hkn : k = np
      · subst hkn
        simp only [if_true]
        obtain ⟨x1, x2, x3⟩ := d5 hk6
        exact ⟨⟨x1, x2, by rw [x3, show na - 1 + 1 = na by omega]⟩, b6 hk6⟩
      · simp only [hkn, if_false]
        rw [d2.2.2 (24 + 6 * f) k (by omega), d2.2.2 (25 + 6 * f) k (by omega), d2.2.2 (26 + 6 * f) k (by omega), a2.2.2 119 k (by unfold fb_DP; omega), a2.2.2 120 k (by unfold fb_DP; omega), a2.2.2 121 k (by unfold fb_DP; omega)]
        exact c2 k (by omega) hk6
    · intro _
      show (if 0 = np then na - 1 else at_ 0) = 0
      by_cases hn0 : 0 = np
      · rw [if_pos hn0]
        rcases c5 with c5 | c5 <;> omega
      · rw [if_neg hn0]; exact c3 (by omega)
    · intro k hk
      show (if k + 1 = np then na - 1 else at_ (k + 1)) = (if k = np then na - 1 else at_ k) ∨ (if k + 1 = np then na - 1 else at_ (k + 1)) = (if k = np then na - 1 else at_ k) + 1
      rw [if_neg (show ¬ k = np by omega)]
      by_cases hkn : k + 1 = np
      · rw [if_pos hkn]
        rcases c5 with c5 | c5
        · omega
        · rw [show np - 1 = k by omega] at c5; omega
      · rw [if_neg hkn]; exact c4 k (by omega)
    · refine Or.inr ⟨by omega, ?_⟩
      show (if np + 1 - 1 = np then na - 1 else at_ (np + 1 - 1)) + 1 + 0 = na
      rw [if_pos (by omega)]; omega
/-! cuts -/
theorem fb_kAnd : fb_pk [100, 110, 65] 4288100 = true := by decide +kernel
theorem fb_kOr : fb_pk [114, 79] 20338 = true := by decide +kernel
def fb_ct (T : Nat → Int32) (bs : List Int32) (p e : Nat) : Prop := bs.length + p < e ∧ fb_cap (T (p + bs.length)) ∧ fb_st T bs p = true
def fb_ov (T : Nat → Int32) (c : Int32) (s p : Nat) : Prop := s ≤ p ∨ ∀ j, p ≤ j → j < s → T j ≠ c
theorem fb_ov_s {T : Nat → Int32} {c : Int32} {s p : Nat} (h : fb_ov T c s p) (hc : T p = c) : s ≤ p := by
  rcases h with h | h
  · exact h
  · by_cases hs : s ≤ p
    · exact hs
    · exact absurd hc (h p (Nat.le_refl _) (by omega))
theorem fb_ov_n {T : Nat → Int32} {c : Int32} {s p : Nat} (h : fb_ov T c s p) : fb_ov T c s (p + 1) := by
  rcases h with h | h
  · exact Or.inl (by omega)
  · exact Or.inr (fun j h1 h2 => h j (by omega) h2)
theorem eAltC {u w : fb_M} {n N : Nat} (hB : fb_B u n N) (hW : fb_Wc u w) (K : Int32 → Int32 → fb_M → Option (Int32 × fb_M)) (a : Nat) {s p e : Nat} (hp : p < e) (he : e ≤ n) :
    (fb_ct (fb_tx u n) (fb_by 9) p e → bX3_readAlternative_16 K 21 a (nI e) (nI s) (nI p) w = (fX3_readPart w 21 a (nI s) (nI p)).bind fun r => if r.1 = 0 then some (0, r.2) else K (nI (p + 3)) (nI (p + 1)) r.2) ∧ (¬ fb_ct (fb_tx u n) (fb_by 9) p e → bX3_readAlternative_16 K 21 a (nI e) (nI s) (nI p) w = K (nI s) (nI (p + 1)) w) := by
  have h80 := hB.2.1.1
  unfold bX3_readAlternative_16
  rw [if_neg (nI_ge hp (by omega)), (hW.St hB.1).ld_21_0, eCut hB hW (by omega) (by omega) he, Option.bind_some, nI_1, show nI p + Int32.ofNat (fb_len.getD 9 0) = nI (p + 3) from nI_add p 3]
  constructor
  · intro hc
    rw [if_pos (show fb_len.getD 9 0 + p < e ∧ fb_cap (fb_tx u n (p + fb_len.getD 9 0)) ∧ fb_st (fb_tx u n) (fb_byt.getD 9 []) p = true from hc), if_neg fb_10]
  · intro hc
    rw [if_neg (show ¬ (fb_len.getD 9 0 + p < e ∧ fb_cap (fb_tx u n (p + fb_len.getD 9 0)) ∧ fb_st (fb_tx u n) (fb_byt.getD 9 []) p = true) from hc), if_pos rfl]
theorem eAltM {u v : fb_M} {n N : Nat} (hB : fb_B u n N) (hV : fb_Vc u n N v) (K : Int32 → Int32 → fb_M → Option fb_M) {s p e : Nat} (hp : p < e) (he : e ≤ n) :
    (fb_ct (fb_tx u n) (fb_by 9) p e → bX9_takeAlternative_15 K 104 (nI e) (nI s) (nI p) v = (fX9_takePart v 104 (nI s) (nI p)).bind fun r => K (nI (p + 3)) (nI (p + 1)) r) ∧ (¬ fb_ct (fb_tx u n) (fb_by 9) p e → bX9_takeAlternative_15 K 104 (nI e) (nI s) (nI p) v = K (nI s) (nI (p + 1)) v) := by
  have h80 := hB.2.1.1
  have hst : ∀ c : Prop, (3 + p ≤ e ∧ fb_st (fb_tx u n) [65, 110, 100] p = true) = (([100, 110, 65] : List Int32).length + p ≤ e ∧ fb_st (fb_tx u n) ([100, 110, 65] : List Int32).reverse p = true) := fun _ => rfl
  unfold bX9_takeAlternative_15
  rw [if_neg (nI_ge hp (by omega)), eSd hB hV fb_kAnd (by decide) (by omega) he, Option.bind_some, nI_1, show nI p + 3 = nI (p + 3) from nI_add p 3, hV.at_ hB (by omega), Option.bind_some, eX9_capital, Option.bind_some]
  constructor
  · intro hc
    have hc1 : 3 + p < e := hc.1
    rw [if_pos (c := ([100, 110, 65] : List Int32).length + p ≤ e ∧ fb_st (fb_tx u n) ([100, 110, 65] : List Int32).reverse p = true) ⟨Nat.le_of_lt hc.1, hc.2.2⟩, if_neg fb_10, if_neg (nI_ge (by omega) (by omega)), if_pos (show fb_cap (fb_tx u n (p + 3)) from hc.2.1), if_neg fb_10]
  · intro hc
    by_cases h1 : 3 + p ≤ e ∧ fb_st (fb_tx u n) [65, 110, 100] p = true
    · rw [if_pos (c := ([100, 110, 65] : List Int32).length + p ≤ e ∧ fb_st (fb_tx u n) ([100, 110, 65] : List Int32).reverse p = true) h1, if_neg fb_10]
      by_cases h2 : p + 3 < e
      · rw [if_neg (nI_ge h2 (by omega))]
        by_cases h3 : fb_cap (fb_tx u n (p + 3))
        · exact absurd ⟨show (fb_by 9).length + p < e by rw [show (fb_by 9).length = 3 from rfl]; omega, h3, h1.2⟩ hc
        · rw [if_neg h3, if_pos rfl]
      · rw [if_pos (nI_le (by omega) (by omega))]
    · rw [if_neg (c := ([100, 110, 65] : List Int32).length + p ≤ e ∧ fb_st (fb_tx u n) ([100, 110, 65] : List Int32).reverse p = true) h1, if_pos rfl]
theorem fb_ct_A {T : Nat → Int32} {p e s : Nat} (h : fb_ct T (fb_by 9) p e) (ho : fb_ov T 65 s p) : s ≤ p ∧ p + 3 < e ∧ fb_ov T 65 (p + 3) (p + 1) := by
  obtain ⟨x1, x2⟩ := fb_st_c.mp (show fb_st T [65, 110, 100] p = true from h.2.2)
  obtain ⟨x3, x4⟩ := fb_st_c.mp x2
  obtain ⟨x5, -⟩ := fb_st_c.mp x4
  have := h.1
  rw [show (fb_by 9).length = 3 from rfl] at this
  refine ⟨fb_ov_s ho x1, by omega, Or.inr (fun j h1 h2 => ?_)⟩
  rcases (show j = p + 1 ∨ j = p + 1 + 1 by omega) with rfl | rfl
  · rw [x3]; decide
  · rw [x5]; decide
theorem eAltBadL {u : fb_M} {n N : Nat} (hB : fb_B u n N) {e : Nat} (he : e ≤ n) : ∀ m p s fv v na np, p + m = e → m < fv → s ≤ e → fb_ov (fb_tx u n) 65 s p → fb_BM u n N v na np → np + m + 1 < 2 ^ 20 →
    ∃ v' np', gX9_takeAlternative_15 104 (nI e) fv (nI s) (nI p) v = some v' ∧ fb_BM u n N v' na np' ∧ np' ≤ np + m + 1 ∧ fb_df v v' fb_DM := by
  have h80 := hB.2.1.1
  intro m
  induction m with
  | zero =>
    intro p s fv v na np hp hg hs ho hb hn
    obtain ⟨fv, rfl⟩ : ∃ k, fv = k + 1 := ⟨fv - 1, by omega⟩
    obtain ⟨v', a1, a2, a3⟩ := eBadPart hB hb hs he (by omega)
    refine ⟨v', np + 1, ?_, a2, by omega, a3⟩
    show bX9_takeAlternative_15 _ 104 (nI e) (nI s) (nI p) v = _
    unfold bX9_takeAlternative_15
    rw [if_pos (nI_le (by omega) (by omega)), a1]; rfl
  | succ m ih =>
    intro p s fv v na np hp hg hs ho hb hn
    obtain ⟨fv, rfl⟩ : ∃ k, fv = k + 1 := ⟨fv - 1, by omega⟩
    have e9 : gX9_takeAlternative_15 104 (nI e) (fv + 1) (nI s) (nI p) v = bX9_takeAlternative_15 (gX9_takeAlternative_15 104 (nI e) fv) 104 (nI e) (nI s) (nI p) v := rfl
    rw [e9]
    obtain ⟨M1, M2⟩ := eAltM hB hb.1 (gX9_takeAlternative_15 104 (nI e) fv) (s := s) (show p < e by omega) he
    by_cases hc : fb_ct (fb_tx u n) (fb_by 9) p e
    · obtain ⟨o1, o2, o3⟩ := fb_ct_A hc ho
      obtain ⟨v1, a1, a2, a3⟩ := eBadPart hB hb o1 (show p ≤ n by omega) (by omega)
      obtain ⟨v', np', b1, b2, b3, b4⟩ := ih (p + 1) (p + 3) fv v1 na (np + 1) (by omega) (by omega) (by omega) o3 a2 (by omega)
      exact ⟨v', np', by rw [M1 hc, a1]; exact b1, b2, by omega, a3.tr b4⟩
    · obtain ⟨v', np', b1, b2, b3, b4⟩ := ih (p + 1) s fv v na np (by omega) (by omega) hs (fb_ov_n ho) hb (by omega)
      exact ⟨v', np', by rw [M2 hc]; exact b1, b2, by omega, b4⟩
theorem eAltL {u : fb_M} {n N f : Nat} (hB : fb_B u n N) (hf : f < 9) {e na : Nat} (hna : 0 < na) (he : e ≤ n) : ∀ m p s fu fv w v np d, p + m = e → m < fu → m < fv → s ≤ e → fb_ov (fb_tx u n) 65 s p → fb_RL u n N f w v na np d → d ≤ 1 → np + m + 1 < 2 ^ 20 →
    ∃ r w' v' np', gX3_readAlternative_16 21 (23 + 6 * f) (nI e) fu (nI s) (nI p) w = some (r, w') ∧ gX9_takeAlternative_15 104 (nI e) fv (nI s) (nI p) v = some v' ∧ ((r = 1 ∧ fb_RL u n N f w' v' na np' 0) ∨ (r = 0 ∧ fb_BM u n N v' na np')) ∧ np' ≤ np + m + 1 ∧ fb_df w w' (fb_DC f) ∧ fb_df v v' fb_DM := by
  have h80 := hB.2.1.1
  intro m
  induction m with
  | zero =>
    intro p s fu fv w v np d hp hf1 hg hs ho hb hd hn
    obtain ⟨fu, rfl⟩ : ∃ k, fu = k + 1 := ⟨fu - 1, by omega⟩
    obtain ⟨fv, rfl⟩ : ∃ k, fv = k + 1 := ⟨fv - 1, by omega⟩
    have e5 : gX3_readAlternative_16 21 (23 + 6 * f) (nI e) (fu + 1) (nI s) (nI p) w = (fX3_readPart w 21 (23 + 6 * f) (nI s) (nI e)).bind fun r72 => fb_gd (r72.1 = 0 ∨ r72.1 = 1) (some (r72.1, r72.2)) := by
      show bX3_readAlternative_16 _ 21 (23 + 6 * f) (nI e) (nI s) (nI p) w = _
      unfold bX3_readAlternative_16
      rw [if_pos (nI_le (by omega) (by omega))]
    have e9 : gX9_takeAlternative_15 104 (nI e) (fv + 1) (nI s) (nI p) v = (fX9_takePart v 104 (nI s) (nI e)).bind fun r77 => some r77 := by
      show bX9_takeAlternative_15 _ 104 (nI e) (nI s) (nI p) v = _
      unfold bX9_takeAlternative_15
      rw [if_pos (nI_le (by omega) (by omega))]
    rcases ePart hB hf hb hd hna hs he (by omega) with ⟨w', v', a1, a2, a3, a4, a5⟩ | ⟨v', a1, a2, a3, a4⟩
    · exact ⟨1, w', v', np + 1, by rw [e5, a1]; rfl, by rw [e9, a2]; rfl, Or.inl ⟨rfl, a3⟩, by omega, a4, a5⟩
    · exact ⟨0, w, v', np + 1, by rw [e5, a1]; rfl, by rw [e9, a2]; rfl, Or.inr ⟨rfl, a3⟩, by omega, fb_df.rf _ _, a4⟩
  | succ m ih =>
    intro p s fu fv w v np d hp hf1 hg hs ho hb hd hn
    obtain ⟨fu, rfl⟩ : ∃ k, fu = k + 1 := ⟨fu - 1, by omega⟩
    obtain ⟨fv, rfl⟩ : ∃ k, fv = k + 1 := ⟨fv - 1, by omega⟩
    have e5 : gX3_readAlternative_16 21 (23 + 6 * f) (nI e) (fu + 1) (nI s) (nI p) w = bX3_readAlternative_16 (gX3_readAlternative_16 21 (23 + 6 * f) (nI e) fu) 21 (23 + 6 * f) (nI e) (nI s) (nI p) w := rfl
    have e9 : gX9_takeAlternative_15 104 (nI e) (fv + 1) (nI s) (nI p) v = bX9_takeAlternative_15 (gX9_takeAlternative_15 104 (nI e) fv) 104 (nI e) (nI s) (nI p) v := rfl
    rw [e5, e9]
    obtain ⟨C1, C2⟩ := eAltC hB hb.1 (gX3_readAlternative_16 21 (23 + 6 * f) (nI e) fu) (23 + 6 * f) (s := s) (show p < e by omega) he
    obtain ⟨M1, M2⟩ := eAltM hB hb.2.1 (gX9_takeAlternative_15 104 (nI e) fv) (s := s) (show p < e by omega) he
    by_cases hc : fb_ct (fb_tx u n) (fb_by 9) p e
    · obtain ⟨o1, o2, o3⟩ := fb_ct_A hc ho
      rw [C1 hc, M1 hc]
      rcases ePart hB hf hb hd hna o1 (show p ≤ n by omega) (by omega) with ⟨w1, v1, a1, a2, a3, a4, a5⟩ | ⟨v1, a1, a2, a3, a4⟩
      · obtain ⟨r, w', v', np', b1, b2, b3, b4, b5, b6⟩ := ih (p + 1) (p + 3) fu fv w1 v1 (np + 1) 0 (by omega) (by omega) (by omega) (by omega) o3 a3 (by omega) (by omega)
        exact ⟨r, w', v', np', by rw [a1]; exact b1, by rw [a2]; exact b2, b3, by omega, a4.tr b5, a5.tr b6⟩
      · obtain ⟨v', np', b1, b2, b3, b4⟩ := eAltBadL hB he m (p + 1) (p + 3) fv v1 na (np + 1) (by omega) (by omega) (by omega) o3 a3 (by omega)
        exact ⟨0, w, v', np', by rw [a1]; rfl, by rw [a2]; exact b1, Or.inr ⟨rfl, b2⟩, by omega, fb_df.rf _ _, a4.tr b4⟩
    · rw [C2 hc, M2 hc]
      obtain ⟨r, w', v', np', b1, b2, b3, b4, b5, b6⟩ := ih (p + 1) s fu fv w v np d (by omega) (by omega) (by omega) hs (fb_ov_n ho) hb hd (by omega)
      exact ⟨r, w', v', np', b1, b2, b3, by omega, b5, b6⟩
theorem eAlt {u w v : fb_M} {n N f : Nat} (hB : fb_B u n N) (hf : f < 9) {s e na np : Nat} (hse : s ≤ e) (he : e ≤ n) (hb : fb_RL u n N f w v na np 0) (hn : np + 90 < 2 ^ 20) :
    ∃ r w' v' np', fX3_readAlternative w 21 (23 + 6 * f) (nI s) (nI e) = some (r, w') ∧ fX9_takeAlternative v 104 (nI s) (nI e) = some v' ∧ ((r = 1 ∧ fb_RL u n N f w' v' (na + 1) np' 0) ∨ (r = 0 ∧ fb_BM u n N v' (na + 1) np')) ∧ np' ≤ np + 90 ∧ fb_df w w' (fb_DC f) ∧ fb_df v v' fb_DM := by
  have h80 := hB.2.1.1
  obtain ⟨hW, hV, h20, ⟨w3, v17⟩, ⟨w4, v18⟩, lf, wd, at_, w5, c1, c2, c3, c4, c5⟩ := hb
  unfold fX3_readAlternative fX9_takeAlternative
  rw [w3, v17, nI_1]
  have d1 : fb_df w (fb_wI w (23 + 6 * f) 3 (nI (na + 1))) (fb_DC f) := (fb_df.rf _ _).wI (Or.inl ⟨rfl, Or.inl rfl⟩)
  have d2 : fb_df v (fb_wI v 104 17 (nI (na + 1))) fb_DM := (fb_df.rf _ _).wI (Or.inl ⟨rfl, Or.inl rfl⟩)
  have hb1 : fb_RL u n N f (fb_wI w (23 + 6 * f) 3 (nI (na + 1))) (fb_wI v 104 17 (nI (na + 1))) (na + 1) np 1 := by
    refine ⟨hW.wI (by omega), hV.df d2 (by unfold fb_DM; omega) (by unfold fb_DM; omega) (fun a k h1 h2 => by unfold fb_DM; omega), by rw [fb_IwI_ne _ _ (by omega), h20], ⟨fb_IwI_eq _ _ _ _, fb_IwI_eq _ _ _ _⟩, ⟨by rw [fb_IwI_ne _ _ (by omega), w4], by rw [fb_IwI_ne _ _ (by omega), v18]⟩, lf, wd, at_, by rw [fb_IwI_ne _ _ (by omega), w5], fun k hk => ⟨(c1 k hk).1, (c1 k hk).2.1, by have := (c1 k hk).2.2; omega⟩, fun k hk hk6 => ?_, c3, c4, ?_⟩
    · rw [fb_IwI_ne _ _ (by omega), fb_IwI_ne _ _ (by omega), fb_IwI_ne _ _ (by omega), fb_IwI_ne _ _ (by omega), fb_IwI_ne _ _ (by omega), fb_IwI_ne _ _ (by omega)]
      exact c2 k hk hk6
    · rcases c5 with c5 | c5
      · exact Or.inl ⟨c5.1, by omega⟩
      · exact Or.inr ⟨c5.1, by omega⟩
  obtain ⟨r, w', v', np', b1, b2, b3, b4, b5, b6⟩ := eAltL hB hf (show 0 < na + 1 by omega) he (e - s) s s fb_F fb_F _ _ np 1 (by omega) (by unfold fb_F; omega) (by unfold fb_F; omega) hse (Or.inl (Nat.le_refl _)) hb1 (by omega) (by omega)
  exact ⟨r, w', v', np', b1, b2, b3, by omega, d1.tr b5, d2.tr b6⟩
theorem eAltBad {u v : fb_M} {n N : Nat} (hB : fb_B u n N) {s e na np : Nat} (hse : s ≤ e) (he : e ≤ n) (hb : fb_BM u n N v na np) (hn : np + 90 < 2 ^ 20) : ∃ v' np', fX9_takeAlternative v 104 (nI s) (nI e) = some v' ∧ fb_BM u n N v' (na + 1) np' ∧ np' ≤ np + 90 ∧ fb_df v v' fb_DM := by
  have h80 := hB.2.1.1
  obtain ⟨h1, h2, h3, h4, h5⟩ := hb
  unfold fX9_takeAlternative
  rw [h3, nI_1]
  have d2 : fb_df v (fb_wI v 104 17 (nI (na + 1))) fb_DM := (fb_df.rf _ _).wI (Or.inl ⟨rfl, Or.inl rfl⟩)
  have hb1 : fb_BM u n N (fb_wI v 104 17 (nI (na + 1))) (na + 1) np := ⟨h1.df d2 (by unfold fb_DM; omega) (by unfold fb_DM; omega) (fun a k h1 h2 => by unfold fb_DM; omega), by rw [fb_IwI_ne _ _ (by omega), h2], fb_IwI_eq _ _ _ _, by rw [fb_IwI_ne _ _ (by omega), h4], by omega⟩
  obtain ⟨v', np', b1, b2, b3, b4⟩ := eAltBadL hB he (e - s) s s fb_F _ (na + 1) np (by omega) (by unfold fb_F; omega) hse (Or.inl (Nat.le_refl _)) hb1 (by omega)
  exact ⟨v', np', b1, b2, by omega, d2.tr b4⟩

/-! define: the alternatives of the condition -/
theorem eConC {u w : fb_M} {n N : Nat} (hB : fb_B u n N) (hW : fb_Wc u w) (K : Int32 → Int32 → fb_M → Option (Int32 × fb_M)) (a : Nat) (x : Int32) {s p e : Nat} (hp : p < e) (he : e ≤ n) :
    (fb_ct (fb_tx u n) (fb_by 8) p e → bX3_readCondition_6 K 21 a x (nI e) (nI s) (nI p) w = (fX3_readAlternative w 21 a (nI s) (nI p)).bind fun r => if r.1 = 0 then some (0, r.2) else K (nI (p + 2)) (nI (p + 1)) r.2) ∧ (¬ fb_ct (fb_tx u n) (fb_by 8) p e → bX3_readCondition_6 K 21 a x (nI e) (nI s) (nI p) w = K (nI s) (nI (p + 1)) w) := by
  have h80 := hB.2.1.1
  unfold bX3_readCondition_6
  rw [if_neg (nI_ge hp (by omega)), (hW.St hB.1).ld_21_0, eCut hB hW (by omega) (by omega) he, Option.bind_some, nI_1, show nI p + Int32.ofNat (fb_len.getD 8 0) = nI (p + 2) from nI_add p 2]
  constructor
  · intro hc
    rw [if_pos (show fb_len.getD 8 0 + p < e ∧ fb_cap (fb_tx u n (p + fb_len.getD 8 0)) ∧ fb_st (fb_tx u n) (fb_byt.getD 8 []) p = true from hc), if_neg fb_10]
  · intro hc
    rw [if_neg (show ¬ (fb_len.getD 8 0 + p < e ∧ fb_cap (fb_tx u n (p + fb_len.getD 8 0)) ∧ fb_st (fb_tx u n) (fb_byt.getD 8 []) p = true) from hc), if_pos rfl]
theorem eConM {u v : fb_M} {n N : Nat} (hB : fb_B u n N) (hV : fb_Vc u n N v) (K : Int32 → Int32 → fb_M → Option fb_M) {s p e : Nat} (hp : p < e) (he : e ≤ n) :
    (fb_ct (fb_tx u n) (fb_by 8) p e → bX9_takeCondition_5 K 104 (nI e) (nI s) (nI p) v = (fX9_takeAlternative v 104 (nI s) (nI p)).bind fun r => K (nI (p + 2)) (nI (p + 1)) r) ∧ (¬ fb_ct (fb_tx u n) (fb_by 8) p e → bX9_takeCondition_5 K 104 (nI e) (nI s) (nI p) v = K (nI s) (nI (p + 1)) v) := by
  have h80 := hB.2.1.1
  unfold bX9_takeCondition_5
  rw [if_neg (nI_ge hp (by omega)), eSd hB hV fb_kOr (by decide) (by omega) he, Option.bind_some, nI_1, show nI p + 2 = nI (p + 2) from nI_add p 2, hV.at_ hB (by omega), Option.bind_some, eX9_capital, Option.bind_some]
  constructor
  · intro hc
    have hc1 : 2 + p < e := hc.1
    rw [if_pos (c := ([114, 79] : List Int32).length + p ≤ e ∧ fb_st (fb_tx u n) ([114, 79] : List Int32).reverse p = true) ⟨Nat.le_of_lt hc.1, hc.2.2⟩, if_neg fb_10, if_neg (nI_ge (by omega) (by omega)), if_pos (show fb_cap (fb_tx u n (p + 2)) from hc.2.1), if_neg fb_10]
  · intro hc
    by_cases h1 : 2 + p ≤ e ∧ fb_st (fb_tx u n) [79, 114] p = true
    · rw [if_pos (c := ([114, 79] : List Int32).length + p ≤ e ∧ fb_st (fb_tx u n) ([114, 79] : List Int32).reverse p = true) h1, if_neg fb_10]
      by_cases h2 : p + 2 < e
      · rw [if_neg (nI_ge h2 (by omega))]
        by_cases h3 : fb_cap (fb_tx u n (p + 2))
        · exact absurd ⟨show (fb_by 8).length + p < e by rw [show (fb_by 8).length = 2 from rfl]; omega, h3, h1.2⟩ hc
        · rw [if_neg h3, if_pos rfl]
      · rw [if_pos (nI_le (by omega) (by omega))]
    · rw [if_neg (c := ([114, 79] : List Int32).length + p ≤ e ∧ fb_st (fb_tx u n) ([114, 79] : List Int32).reverse p = true) h1, if_pos rfl]
theorem fb_ct_O {T : Nat → Int32} {p e s : Nat} (h : fb_ct T (fb_by 8) p e) (ho : fb_ov T 79 s p) : s ≤ p ∧ p + 2 < e ∧ fb_ov T 79 (p + 2) (p + 1) := by
  obtain ⟨x1, x2⟩ := fb_st_c.mp (show fb_st T [79, 114] p = true from h.2.2)
  obtain ⟨x3, -⟩ := fb_st_c.mp x2
  have := h.1
  rw [show (fb_by 8).length = 2 from rfl] at this
  refine ⟨fb_ov_s ho x1, by omega, Or.inr (fun j h1 h2 => ?_)⟩
  rcases (show j = p + 1 by omega) with rfl
  rw [x3]; decide
theorem eConBadL {u : fb_M} {n N : Nat} (hB : fb_B u n N) {e : Nat} (he : e ≤ n) : ∀ m p s fv v na np, p + m = e → m < fv → s ≤ e → fb_ov (fb_tx u n) 79 s p → fb_BM u n N v na np → np + 90 * (m + 1) < 2 ^ 20 →
    ∃ v' na' np', gX9_takeCondition_5 104 (nI e) fv (nI s) (nI p) v = some v' ∧ fb_BM u n N v' na' np' ∧ np' ≤ np + 90 * (m + 1) ∧ fb_df v v' fb_DM := by
  have h80 := hB.2.1.1
  intro m
  induction m with
  | zero =>
    intro p s fv v na np hp hg hs ho hb hn
    obtain ⟨fv, rfl⟩ : ∃ k, fv = k + 1 := ⟨fv - 1, by omega⟩
    obtain ⟨v', np', a1, a2, a3, a4⟩ := eAltBad hB hs he hb (by omega)
    refine ⟨v', na + 1, np', ?_, a2, by omega, a4⟩
    show bX9_takeCondition_5 _ 104 (nI e) (nI s) (nI p) v = _
    unfold bX9_takeCondition_5
    rw [if_pos (nI_le (by omega) (by omega)), a1]; rfl
  | succ m ih =>
    intro p s fv v na np hp hg hs ho hb hn
    obtain ⟨fv, rfl⟩ : ∃ k, fv = k + 1 := ⟨fv - 1, by omega⟩
    have e9 : gX9_takeCondition_5 104 (nI e) (fv + 1) (nI s) (nI p) v = bX9_takeCondition_5 (gX9_takeCondition_5 104 (nI e) fv) 104 (nI e) (nI s) (nI p) v := rfl
    rw [e9]
    obtain ⟨M1, M2⟩ := eConM hB hb.1 (gX9_takeCondition_5 104 (nI e) fv) (s := s) (show p < e by omega) he
    by_cases hc : fb_ct (fb_tx u n) (fb_by 8) p e
    · obtain ⟨o1, o2, o3⟩ := fb_ct_O hc ho
      obtain ⟨v1, np1, a1, a2, a3, a4⟩ := eAltBad hB o1 (show p ≤ n by omega) hb (by omega)
      obtain ⟨v', na', np', b1, b2, b3, b4⟩ := ih (p + 1) (p + 2) fv v1 (na + 1) np1 (by omega) (by omega) (by omega) o3 a2 (by omega)
      exact ⟨v', na', np', by rw [M1 hc, a1]; exact b1, b2, by omega, a4.tr b4⟩
    · obtain ⟨v', na', np', b1, b2, b3, b4⟩ := ih (p + 1) s fv v na np (by omega) (by omega) hs (fb_ov_n ho) hb (by omega)
      exact ⟨v', na', np', by rw [M2 hc]; exact b1, b2, by omega, b4⟩
theorem eConL {u : fb_M} {n N f : Nat} (hB : fb_B u n N) (hf : f < 9) {fr e : Nat} (hfr : fr < e) (he : e ≤ n) : ∀ m p s fu fv w v na np, p + m = e → m < fu → m < fv → s ≤ e → fb_ov (fb_tx u n) 79 s p → fb_RL u n N f w v na np 0 → np + 90 * (m + 1) < 2 ^ 20 →
    ∃ r w' v' na' np', gX3_readCondition_6 21 (23 + 6 * f) (nI fr) (nI e) fu (nI s) (nI p) w = some (r, w') ∧ gX9_takeCondition_5 104 (nI e) fv (nI s) (nI p) v = some v' ∧ ((r = 1 ∧ fb_RL u n N f w' v' na' np' 0) ∨ (r = 0 ∧ fb_BM u n N v' na' np')) ∧ np' ≤ np + 90 * (m + 1) ∧ fb_df w w' (fb_DC f) ∧ fb_df v v' fb_DM := by
  have h80 := hB.2.1.1
  intro m
  induction m with
  | zero =>
    intro p s fu fv w v na np hp hf1 hg hs ho hb hn
    obtain ⟨fu, rfl⟩ : ∃ k, fu = k + 1 := ⟨fu - 1, by omega⟩
    obtain ⟨fv, rfl⟩ : ∃ k, fv = k + 1 := ⟨fv - 1, by omega⟩
    have e5 : gX3_readCondition_6 21 (23 + 6 * f) (nI fr) (nI e) (fu + 1) (nI s) (nI p) w = (fX3_readAlternative w 21 (23 + 6 * f) (nI s) (nI e)).bind fun r67 => if r67.1 = 0 then some (0, r67.2) else some (1, r67.2) := by
      show bX3_readCondition_6 _ 21 (23 + 6 * f) (nI fr) (nI e) (nI s) (nI p) w = _
      unfold bX3_readCondition_6
      rw [if_pos (nI_le (by omega) (by omega)), if_neg (fun q => absurd ((nI_eq (by omega) (by omega)).mp q) (by omega))]
    have e9 : gX9_takeCondition_5 104 (nI e) (fv + 1) (nI s) (nI p) v = (fX9_takeAlternative v 104 (nI s) (nI e)).bind fun r77 => some r77 := by
      show bX9_takeCondition_5 _ 104 (nI e) (nI s) (nI p) v = _
      unfold bX9_takeCondition_5
      rw [if_pos (nI_le (by omega) (by omega))]
    obtain ⟨r, w', v', np', a1, a2, a3, a4, a5, a6⟩ := eAlt hB hf hs he hb (by omega)
    refine ⟨r, w', v', na + 1, np', ?_, by rw [e9, a2]; rfl, a3, by omega, a5, a6⟩
    rw [e5, a1, Option.bind_some]
    rcases a3 with ⟨rfl, -⟩ | ⟨rfl, -⟩
    · exact if_neg fb_10
    · exact if_pos rfl
  | succ m ih =>
    intro p s fu fv w v na np hp hf1 hg hs ho hb hn
    obtain ⟨fu, rfl⟩ : ∃ k, fu = k + 1 := ⟨fu - 1, by omega⟩
    obtain ⟨fv, rfl⟩ : ∃ k, fv = k + 1 := ⟨fv - 1, by omega⟩
    have e5 : gX3_readCondition_6 21 (23 + 6 * f) (nI fr) (nI e) (fu + 1) (nI s) (nI p) w = bX3_readCondition_6 (gX3_readCondition_6 21 (23 + 6 * f) (nI fr) (nI e) fu) 21 (23 + 6 * f) (nI fr) (nI e) (nI s) (nI p) w := rfl
    have e9 : gX9_takeCondition_5 104 (nI e) (fv + 1) (nI s) (nI p) v = bX9_takeCondition_5 (gX9_takeCondition_5 104 (nI e) fv) 104 (nI e) (nI s) (nI p) v := rfl
    rw [e5, e9]
    obtain ⟨C1, C2⟩ := eConC hB hb.1 (gX3_readCondition_6 21 (23 + 6 * f) (nI fr) (nI e) fu) (23 + 6 * f) (nI fr) (s := s) (show p < e by omega) he
    obtain ⟨M1, M2⟩ := eConM hB hb.2.1 (gX9_takeCondition_5 104 (nI e) fv) (s := s) (show p < e by omega) he
    by_cases hc : fb_ct (fb_tx u n) (fb_by 8) p e
    · obtain ⟨o1, o2, o3⟩ := fb_ct_O hc ho
      rw [C1 hc, M1 hc]
      obtain ⟨r, w1, v1, np1, a1, a2, a3, a4, a5, a6⟩ := eAlt hB hf o1 (show p ≤ n by omega) hb (by omega)
      rcases a3 with ⟨rfl, a3⟩ | ⟨rfl, a3⟩
      · obtain ⟨r, w', v', na', np', b1, b2, b3, b4, b5, b6⟩ := ih (p + 1) (p + 2) fu fv w1 v1 (na + 1) np1 (by omega) (by omega) (by omega) (by omega) o3 a3 (by omega)
        exact ⟨r, w', v', na', np', by rw [a1]; exact b1, by rw [a2]; exact b2, b3, by omega, a5.tr b5, a6.tr b6⟩
      · obtain ⟨v', na', np', b1, b2, b3, b4⟩ := eConBadL hB he m (p + 1) (p + 2) fv v1 (na + 1) np1 (by omega) (by omega) (by omega) o3 a3 (by omega)
        exact ⟨0, w1, v', na', np', by rw [a1]; rfl, by rw [a2]; exact b1, Or.inr ⟨rfl, b2⟩, by omega, a5, a6.tr b4⟩
    · rw [C2 hc, M2 hc]
      obtain ⟨r, w', v', na', np', b1, b2, b3, b4, b5, b6⟩ := ih (p + 1) s fu fv w v na np (by omega) (by omega) (by omega) hs (fb_ov_n ho) hb (by omega)
      exact ⟨r, w', v', na', np', b1, b2, b3, by omega, b5, b6⟩

/-! define: the limit, by the book and by the reference -/
def fb_D21 (a k : Nat) : Prop := a = 21 ∧ k = 2
theorem fb_Wc.d21 {u w w' : fb_M} (h : fb_Wc u w) (hd : fb_df w w' fb_D21) : fb_Wc u w' := h.tr (hd.mo (fun a k q => by unfold fb_D21 at q; omega))
theorem eFigL {u : fb_M} {n N : Nat} (hB : fb_B u n N) (a : Nat) {st : Nat} : ∀ m p x fu w, n < p + m → m < fu → p ≤ n → st ≤ p → fb_Wc u w → fb_I w 21 2 = nI p →
    ∃ w', gX3_readLimit_27 21 a (nI st) fu (nI x) w = jX3_readLimit_101 21 a (nI st) (nI (fb_fgl (fb_tx u n) m p (p - st) x).2.2) w' ∧ fb_df w w' fb_D21 ∧ fb_I w' 21 2 = nI (fb_fgl (fb_tx u n) m p (p - st) x).1 := by
  have h80 := hB.2.1.1
  intro m
  induction m with
  | zero => intro p x fu w hm _ hp; omega
  | succ m ih =>
    intro p x fu w hm hf hp hst hW h2
    obtain ⟨fu, rfl⟩ : ∃ k, fu = k + 1 := ⟨fu - 1, by omega⟩
    have hS := hW.St hB.1
    have e : gX3_readLimit_27 21 a (nI st) (fu + 1) (nI x) w = bX3_readLimit_27 (gX3_readLimit_27 21 a (nI st) fu) 21 a (nI st) (nI x) w := rfl
    rw [e]
    unfold bX3_readLimit_27
    rw [hS.ld_21_0, show fX0_length w 1 = some (nI n) by unfold fX0_length; rw [(hW.Tx hB).2.1], Option.bind_some, h2, hS.ld_21_0, hW.at_ hB (by omega), Option.bind_some, eX8_isFigure, Option.bind_some, hS.ld_21_0, hW.at_ hB (by omega), Option.bind_some, nI_1, fb_fgl]
    by_cases hc : fb_fig (fb_tx u n p)
    · obtain ⟨hpn, j, j1, j2, j3⟩ := fb_tx_fig hB hc
      have hd1 : fb_df w (fb_wI w 21 2 (nI (p + 1))) fb_D21 := (fb_df.rf _ _).wI ⟨rfl, rfl⟩
      have hn : ∀ y, ∃ w', gX3_readLimit_27 21 a (nI st) fu (nI y) (fb_wI w 21 2 (nI (p + 1))) = jX3_readLimit_101 21 a (nI st) (nI (fb_fgl (fb_tx u n) m (p + 1) (p - st + 1) y).2.2) w' ∧ fb_df w w' fb_D21 ∧ fb_I w' 21 2 = nI (fb_fgl (fb_tx u n) m (p + 1) (p - st + 1) y).1 := by
        intro y
        obtain ⟨w', a1, a2, a3⟩ := ih (p + 1) y fu _ (by omega) (by omega) (by omega) (by omega) (hW.d21 hd1) (fb_IwI_eq _ _ _ _)
        rw [show p + 1 - st = p - st + 1 by omega] at a1 a3
        exact ⟨w', a1, hd1.tr a2, a3⟩
      rw [if_neg (nI_ge hpn (by omega)), if_pos hc, if_neg fb_10, if_pos hc]
      by_cases h3 : p - st < 3
      · rw [if_neg (show ¬ (3 : Int32) ≤ nI p - nI st from fun q => absurd ((fb_sub_le (a := 3) (by omega) (by omega) (by omega)).mp q) (by omega)), if_pos h3, j1, fb_10x, ← j1, j3]
        exact hn _
      · rw [if_pos (show (3 : Int32) ≤ nI p - nI st from (fb_sub_le (a := 3) (by omega) (by omega) (by omega)).mpr (by omega)), if_neg h3]
        exact hn _
    · rw [if_neg hc, if_neg hc, if_pos rfl]
      refine ⟨w, ?_, fb_df.rf _ _, h2⟩
      by_cases hpn : p < n
      · rw [if_neg (nI_ge hpn (by omega))]
      · rw [if_pos (nI_le (by omega) (by omega))]
theorem eFigM {u v : fb_M} {n N : Nat} (hB : fb_B u n N) (hV : fb_Vc u n N v) {x1 x2 x4 x5 : Int32} (hx : ¬ (x4 = 0 ∧ x5 = 0)) : ∀ m p c x fu, n < p + m → m < fu → p ≤ n → c ≤ p → 
    gX9_define_83 104 x1 x2 x4 x5 v fu (nI p) (nI c) (nI x) = jX9_define_140 104 x1 x2 (nI (fb_fgl (fb_tx u n) m p c x).1) x4 x5 (nI (fb_fgl (fb_tx u n) m p c x).2.1) (nI (fb_fgl (fb_tx u n) m p c x).2.2) v := by
  have h80 := hB.2.1.1
  intro m
  induction m with
  | zero => intro p c x fu hm _ hp; omega
  | succ m ih =>
    intro p c x fu hm hf hp hcp
    obtain ⟨fu, rfl⟩ : ∃ k, fu = k + 1 := ⟨fu - 1, by omega⟩
    have e : gX9_define_83 104 x1 x2 x4 x5 v (fu + 1) (nI p) (nI c) (nI x) = bX9_define_83 (gX9_define_83 104 x1 x2 x4 x5 v fu) 104 x1 x2 x4 x5 (nI p) (nI c) (nI x) v := rfl
    have e2 : bX9_define_83 (gX9_define_83 104 x1 x2 x4 x5 v fu) 104 x1 x2 x4 x5 (nI p) (nI c) (nI x) v = jX9_define_93 (gX9_define_83 104 x1 x2 x4 x5 v fu) 104 x1 x2 (nI p) x4 x5 (nI c) (nI x) v := by
      unfold bX9_define_83
      by_cases h4 : x4 = 0
      · rw [if_pos h4, if_neg (fun q => hx ⟨h4, q⟩)]
      · rw [if_neg h4]
    rw [e, e2]
    unfold jX9_define_93
    rw [hV.at_ hB (by omega), Option.bind_some, eX9_figure, Option.bind_some, Option.bind_some, nI_1, nI_1, fb_fgl]
    by_cases hc : fb_fig (fb_tx u n p)
    · obtain ⟨hpn, j, j1, j2, j3⟩ := fb_tx_fig hB hc
      rw [if_pos hc, if_neg fb_10, if_pos hc]
      by_cases h3 : c < 3
      · rw [if_neg (show ¬ (3 : Int32) ≤ nI c from nI_ge (b := 3) h3 (by omega)), if_pos h3, j1, fb_x10, ← j1, j3]
        exact ih (p + 1) (c + 1) _ fu (by omega) (by omega) (by omega) (by omega)
      · rw [if_pos (show (3 : Int32) ≤ nI c from nI_le (a := 3) (by omega) (by omega)), if_neg h3]
        exact ih (p + 1) (c + 1) _ fu (by omega) (by omega) (by omega) (by omega)
    · rw [if_neg hc, if_pos rfl, if_neg hc]
/-- whether there is a limit; the place behind it, how many figures it has, the limit -/
def fb_hd (T : Nat → Int32) (n p : Nat) : Nat × Nat × Nat × Nat :=
  if 3 + p ≤ n ∧ fb_st T (fb_by 4) p = true then (1, (fb_fgl T (n + 1 - (p + 3)) (p + 3) 0 0).1, (fb_fgl T (n + 1 - (p + 3)) (p + 3) 0 0).2.1, if (fb_fgl T (n + 1 - (p + 3)) (p + 3) 0 0).2.1 = 0 then 1 else (fb_fgl T (n + 1 - (p + 3)) (p + 3) 0 0).2.2)
  else if 5 + p ≤ n ∧ fb_st T (fb_by 5) p = true then (1, (fb_fgl T (n + 1 - (p + 5)) (p + 5) 0 0).1, (fb_fgl T (n + 1 - (p + 5)) (p + 5) 0 0).2.1, if (fb_fgl T (n + 1 - (p + 5)) (p + 5) 0 0).2.1 = 0 then 1 else (fb_fgl T (n + 1 - (p + 5)) (p + 5) 0 0).2.2)
  else (0, p, 0, 0)
theorem eFig101 {w : fb_M} {a st pe x : Nat} (ha : a ≠ 21) (hpe : pe ≤ 200) (hst : st ≤ pe) (hx : x < 1000) (h2 : fb_I w 21 2 = nI pe) :
    jX3_readLimit_101 21 a (nI st) (nI x) w = some (if pe - st ≤ 3 ∧ 0 < (if pe - st = 0 then 1 else x) then 1 else 0, fb_wI w a 1 (nI (if pe - st = 0 then 1 else x))) := by
  have hj : ∀ y : Nat, y < 1000 → jX3_readLimit_115 21 a (nI st) a (nI y) w = some (if pe - st ≤ 3 ∧ 0 < y then 1 else 0, fb_wI w a 1 (nI y)) := by
    intro y hy
    unfold jX3_readLimit_115
    rw [fb_IwI_ne _ _ (fun q => ha q.1.symm), h2, fb_IwI_eq, nI_sub hst]
    by_cases h3 : pe - st ≤ 3
    · rw [if_neg (show ¬ (3 : Int32) < nI (pe - st) from nI_nlt (a := 3) h3 (by omega))]
      by_cases hy0 : 0 < y
      · rw [if_neg (nI_nle hy0 (by omega)), if_pos ⟨h3, hy0⟩]
      · rw [if_pos (show nI y ≤ 0 by rw [show y = 0 by omega]; decide), if_neg (fun q => hy0 q.2)]
    · rw [if_pos (show (3 : Int32) < nI (pe - st) from nI_lt (a := 3) (by omega) (by omega)), if_neg (fun q => h3 q.1)]
  unfold jX3_readLimit_101
  rw [h2]
  by_cases h0 : pe - st = 0
  · rw [if_pos (show nI pe = nI st by rw [show pe = st by omega]), if_pos h0]
    exact hj 1 (by omega)
  · rw [if_neg (show ¬ nI pe = nI st from fun q => h0 (by have := (nI_eq (by omega) (by omega)).mp q; omega)), if_neg h0]
    exact hj x hx
theorem eLimC {u w : fb_M} {n N : Nat} (hB : fb_B u n N) (hW : fb_Wc u w) {a p : Nat} (ha : 21 < a) (hp : p ≤ n) (h2 : fb_I w 21 2 = nI p) (h1 : fb_I w a 1 = 0) :
    ∃ w', fX3_readLimit w 21 a = some (if (fb_hd (fb_tx u n) n p).2.2.1 ≤ 3 ∧ ((fb_hd (fb_tx u n) n p).1 = 1 → 0 < (fb_hd (fb_tx u n) n p).2.2.2) then 1 else 0, w') ∧ fb_df w w' (fun b k => (b = 21 ∧ k = 2) ∨ (b = a ∧ k = 1)) ∧ fb_I w' 21 2 = nI (fb_hd (fb_tx u n) n p).2.1 ∧ fb_I w' a 1 = nI (fb_hd (fb_tx u n) n p).2.2.2 ∧ (fb_hd (fb_tx u n) n p).2.1 ≤ n ∧ (fb_hd (fb_tx u n) n p).2.2.2 < 1000 := by
  have h80 := hB.2.1.1
  have hgo : ∀ q w1, p ≤ q → q ≤ n → fb_df w w1 fb_D21 → fb_I w1 21 2 = nI q → ∃ w', gX3_readLimit_27 21 a (nI q) fb_F 0 w1 = some (if (fb_fgl (fb_tx u n) (n + 1 - q) q 0 0).2.1 ≤ 3 ∧ 0 < (if (fb_fgl (fb_tx u n) (n + 1 - q) q 0 0).2.1 = 0 then 1 else (fb_fgl (fb_tx u n) (n + 1 - q) q 0 0).2.2) then 1 else 0, w') ∧ fb_df w w' (fun b k => (b = 21 ∧ k = 2) ∨ (b = a ∧ k = 1)) ∧ fb_I w' 21 2 = nI (fb_fgl (fb_tx u n) (n + 1 - q) q 0 0).1 ∧ fb_I w' a 1 = nI (if (fb_fgl (fb_tx u n) (n + 1 - q) q 0 0).2.1 = 0 then 1 else (fb_fgl (fb_tx u n) (n + 1 - q) q 0 0).2.2) ∧ (fb_fgl (fb_tx u n) (n + 1 - q) q 0 0).1 ≤ n ∧ (if (fb_fgl (fb_tx u n) (n + 1 - q) q 0 0).2.1 = 0 then 1 else (fb_fgl (fb_tx u n) (n + 1 - q) q 0 0).2.2) < 1000 := by
    intro q w1 hpq hq hd h21
    obtain ⟨w2, b1, b2, b3⟩ := eFigL hB a (st := q) (n + 1 - q) q 0 fb_F w1 (by omega) (by unfold fb_F; omega) hq (Nat.le_refl _) (hW.d21 hd) h21
    rw [Nat.sub_self] at b1 b3
    obtain ⟨i1, i2, i3⟩ := fb_fl_in hB (n + 1 - q) q 0 0 hq
    have ix := fb_fl_x hB (n + 1 - q) q 0 0 (by omega) (by omega) (by omega) (by omega)
    generalize fb_fgl (fb_tx u n) (n + 1 - q) q 0 0 = r at *
    obtain ⟨pe, c, x⟩ := r
    dsimp only at *
    have hc : pe - q = c := by omega
    have e := eFig101 (a := a) (st := q) (x := x) (by omega) (by omega) i2 ix b3
    rw [hc] at e
    refine ⟨_, b1.trans e, ?_, ?_, ?_, i1, ?_⟩
    · exact ((hd.tr b2).mo (fun b k hh => Or.inl hh)).wI (Or.inr ⟨rfl, rfl⟩)
    · rw [fb_IwI_ne _ _ (by omega)]; exact b3
    · exact fb_IwI_eq _ _ _ _
    · split <;> omega
  obtain ⟨s1, s2⟩ := eSkip hB hW (k := 4) (by omega) (show p ≤ 200 by omega) h2
  obtain ⟨t1, t2⟩ := eSkip hB hW (k := 5) (by omega) (show p ≤ 200 by omega) h2
  unfold fX3_readLimit fb_hd
  by_cases hA : 3 + p ≤ n ∧ fb_st (fb_tx u n) (fb_by 4) p = true
  · rw [s1 hA, Option.bind_some, if_pos hA]
    obtain ⟨w', b1, b2, b3, b4, b5, b6⟩ := hgo (p + 3) (fb_wI w 21 2 (nI (p + 3))) (by omega) (by omega) ((fb_df.rf _ _).wI ⟨rfl, rfl⟩) (fb_IwI_eq _ _ _ _)
    refine ⟨w', ?_, b2, b3, b4, b5, b6⟩
    refine (if_neg fb_10).trans ?_
    show gX3_readLimit_27 21 a (fb_I (fb_wI w 21 2 (nI (p + 3))) 21 2) fb_F 0 (fb_wI w 21 2 (nI (p + 3))) = _
    rw [fb_IwI_eq, b1]
    simp only [true_implies]
  · rw [s2 hA, Option.bind_some, if_neg hA]
    by_cases hC : 5 + p ≤ n ∧ fb_st (fb_tx u n) (fb_by 5) p = true
    · rw [if_pos hC]
      obtain ⟨w', b1, b2, b3, b4, b5, b6⟩ := hgo (p + 5) (fb_wI w 21 2 (nI (p + 5))) (by omega) (by omega) ((fb_df.rf _ _).wI ⟨rfl, rfl⟩) (fb_IwI_eq _ _ _ _)
      refine ⟨w', ?_, b2, b3, b4, b5, b6⟩
      refine (if_pos rfl).trans ?_
      rw [t1 hC, Option.bind_some]
      refine (if_neg fb_10).trans ?_
      show gX3_readLimit_27 21 a (fb_I (fb_wI w 21 2 (nI (p + 5))) 21 2) fb_F 0 (fb_wI w 21 2 (nI (p + 5))) = _
      rw [fb_IwI_eq, b1]
      simp only [true_implies]
    · rw [if_neg hC]
      refine ⟨w, ?_, fb_df.rf _ _, h2, h1, hp, by show 0 < 1000; omega⟩
      refine (if_pos rfl).trans ?_
      rw [t2 hC, Option.bind_some]
      refine (if_pos rfl).trans ?_
      rw [if_pos ⟨by show 0 ≤ 3; omega, fun q => absurd (show (0 : Nat) = 1 from q) (by omega)⟩]

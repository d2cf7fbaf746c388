/-! define: what the book reads -/
def fb_DU (F a k : Nat) : Prop := (a = 21 ∧ k = 2) ∨ (23 + 6 * F ≤ a ∧ a ≤ 28 + 6 * F)
def fb_DS (F a k : Nat) : Prop := fb_DU F a k ∨ (a = 104 ∧ 17 ≤ k ∧ k ≤ 27) ∨ (119 ≤ a ∧ a ≤ 123)
theorem fb_fdu.eq {u u' : fb_M} {g : Nat} (h : fb_fdu u g) {D : Nat → Nat → Prop} (hd : fb_df u u' D) (h1 : ∀ a k, 23 + 6 * g ≤ a → a ≤ 28 + 6 * g → ¬ D a k) (h2 : ∀ a k, 108 ≤ a → a ≤ 118 → ¬ D a k) : fb_fdu u' g := by
  unfold fb_fdu
  rw [hd.I (a := 23 + 6 * g) (fun k => h1 _ k (by omega) (by omega)), hd.I (a := 24 + 6 * g) (fun k => h1 _ k (by omega) (by omega)), hd.I (a := 25 + 6 * g) (fun k => h1 _ k (by omega) (by omega)), hd.I (a := 26 + 6 * g) (fun k => h1 _ k (by omega) (by omega)), hd.I (a := 27 + 6 * g) (fun k => h1 _ k (by omega) (by omega)), hd.I (a := 28 + 6 * g) (fun k => h1 _ k (by omega) (by omega)),
    hd.I (a := 108) (fun k => h2 _ k (by omega) (by omega)), hd.I (a := 109) (fun k => h2 _ k (by omega) (by omega)), hd.I (a := 110) (fun k => h2 _ k (by omega) (by omega)), hd.I (a := 111) (fun k => h2 _ k (by omega) (by omega)), hd.I (a := 112) (fun k => h2 _ k (by omega) (by omega)), hd.I (a := 113) (fun k => h2 _ k (by omega) (by omega)), hd.I (a := 114) (fun k => h2 _ k (by omega) (by omega)), hd.I (a := 115) (fun k => h2 _ k (by omega) (by omega)), hd.I (a := 116) (fun k => h2 _ k (by omega) (by omega)), hd.I (a := 117) (fun k => h2 _ k (by omega) (by omega)), hd.I (a := 118) (fun k => h2 _ k (by omega) (by omega))]
  exact h
theorem fb_Inv.DS {u u' : fb_M} {F : Nat} (hv : fb_Inv u) (hF : F ≤ 8) (hn : fb_I u 0 4 = nI F) (hd : fb_df u u' (fb_DS F)) : fb_Inv u' := by
  obtain ⟨hS, hT, hL, ⟨n, h8, hn', hm, hf⟩, hE, hO, hA, hR⟩ := hv
  have hnF : n = F := by rw [hn'] at hn; exact (nI_eq (by omega) (by omega)).mp hn
  subst hnF
  refine ⟨hd.St hS, hT.fr (hd.kp fun a k ha => by unfold fb_PT at ha; unfold fb_DS fb_DU; omega) (hd.2.2 _ _ (by unfold fb_DS fb_DU; omega)), hL.fr (hd.kp fun a k ha => by unfold fb_PL at ha; unfold fb_DS fb_DU; omega) (hd.2.2 _ _ (by unfold fb_DS fb_DU; omega)), ⟨n, h8, by rw [hd.2.2 0 4 (by unfold fb_DS fb_DU; omega)]; exact hn', by rw [hd.2.2 104 5 (by unfold fb_DS fb_DU; omega)]; exact hm, fun g hg => (hf g hg).eq hd (fun a k h1 h2 => by unfold fb_DS fb_DU; omega) (fun a k h1 h2 => by unfold fb_DS fb_DU; omega)⟩, hE.fr (hd.kp fun a k ha => by unfold fb_PS at ha; unfold fb_DS fb_DU; omega) (hd.2.2 _ _ (by unfold fb_DS fb_DU; omega)), hO.fr (hd.kp fun a k ha => by unfold fb_PO at ha; unfold fb_DS fb_DU; omega), hA.fr (hd.kp fun a k ha => by unfold fb_PA at ha; unfold fb_DS fb_DU; omega) (hd.2.2 _ _ (by unfold fb_DS fb_DU; omega)) (hd.2.2 _ _ (by unfold fb_DS fb_DU; omega)), hR.fr (hd.kp fun a k ha => by unfold fb_PR at ha; unfold fb_DS fb_DU; omega) (hd.2.2 _ _ (by unfold fb_DS fb_DU; omega)) (hd.2.2 _ _ (by unfold fb_DS fb_DU; omega))⟩
/-- the book reads the head -/
theorem eReadC {u : fb_M} {n N F : Nat} (hB : fb_B u n N) (hF : F ≤ 8) :
    (∃ w, fb_df u w (fb_DU F) ∧ fb_sj (fb_tx u n) n = none ∧ fX3_read u 21 (23 + 6 * F) = some (-1, w)) ∨
    (∃ s p w, fb_sj (fb_tx u n) n = some (s, p) ∧ fb_df u w (fb_DU F) ∧
      ((¬ (2 + (fb_hd (fb_tx u n) n p).2.1 ≤ n ∧ fb_st (fb_tx u n) (fb_by 6) (fb_hd (fb_tx u n) n p).2.1 = true) ∧ fX3_read u 21 (23 + 6 * F) = some (-1, w)) ∨
       ((2 + (fb_hd (fb_tx u n) n p).2.1 ≤ n ∧ fb_st (fb_tx u n) (fb_by 6) (fb_hd (fb_tx u n) n p).2.1 = true) ∧ ¬ ((fb_hd (fb_tx u n) n p).2.2.1 ≤ 3 ∧ ((fb_hd (fb_tx u n) n p).1 = 1 → 0 < (fb_hd (fb_tx u n) n p).2.2.2)) ∧ fX3_read u 21 (23 + 6 * F) = some (-2, w)) ∨
       ((2 + (fb_hd (fb_tx u n) n p).2.1 ≤ n ∧ fb_st (fb_tx u n) (fb_by 6) (fb_hd (fb_tx u n) n p).2.1 = true) ∧ ((fb_hd (fb_tx u n) n p).2.2.1 ≤ 3 ∧ ((fb_hd (fb_tx u n) n p).1 = 1 → 0 < (fb_hd (fb_tx u n) n p).2.2.2)) ∧
        fX3_read u 21 (23 + 6 * F) = fb_cls w (23 + 6 * F) ((fb_hd (fb_tx u n) n p).2.1 + 2) (fb_po (fb_tx u n) n (n - ((fb_hd (fb_tx u n) n p).2.1 + 2)) ((fb_hd (fb_tx u n) n p).2.1 + 2)) n ∧ fb_I w (23 + 6 * F) 0 = nI s ∧ fb_I w (23 + 6 * F) 1 = nI (fb_hd (fb_tx u n) n p).2.2.2 ∧ fb_I w (23 + 6 * F) 3 = nI 0 ∧ fb_I w (23 + 6 * F) 4 = nI 0 ∧ fb_I w (23 + 6 * F) 5 = nI 0 ∧ fb_I w (23 + 6 * F) 6 = nI 0))) := by
  have h80 := hB.2.1.1
  obtain ⟨w0, q0⟩ : ∃ w, w = fb_wI (fb_wI (fb_wI (fb_wI (fb_wI (fb_wI (fb_wI u (23 + 6 * F) 0 0) (23 + 6 * F) 1 0) (23 + 6 * F) 2 0) (23 + 6 * F) 3 0) (23 + 6 * F) 4 0) (23 + 6 * F) 5 0) (23 + 6 * F) 6 0 := ⟨_, rfl⟩
  obtain ⟨w1, q1⟩ : ∃ w, w = fb_wI w0 21 2 0 := ⟨_, rfl⟩
  have d0 : fb_df u w1 (fb_DU F) := by
    rw [q1, q0]
    exact ((((((((fb_df.rf u _).wI (by unfold fb_DU; omega)).wI (by unfold fb_DU; omega)).wI (by unfold fb_DU; omega)).wI (by unfold fb_DU; omega)).wI (by unfold fb_DU; omega)).wI (by unfold fb_DU; omega)).wI (by unfold fb_DU; omega)).wI (by unfold fb_DU; omega)
  have hDU : ∀ {x y : fb_M}, fb_df x y (fb_DU F) → fb_df x y (fun a _ => 21 ≤ a) := fun h => h.mo (fun a k q => by unfold fb_DU at q; omega)
  have W1 : fb_Wc u w1 := hDU d0
  have z2 : fb_I w1 21 2 = nI 0 := by rw [q1, fb_IwI_eq]; rfl
  have za : ∀ k, k ≤ 6 → fb_I w1 (23 + 6 * F) k = nI 0 := by
    intro k hk
    rw [q1, fb_IwI_ne _ _ (by omega), q0]
    have h7 : k = 0 ∨ k = 1 ∨ k = 2 ∨ k = 3 ∨ k = 4 ∨ k = 5 ∨ k = 6 := by omega
    simp only [fb_I_wI, true_and]
    rcases h7 with rfl | rfl | rfl | rfl | rfl | rfl | rfl <;> rfl
  have e0 : fX3_read u 21 (23 + 6 * F) = (fX3_readSubject w1 21 (23 + 6 * F)).bind fun r11 => (if r11.1 = 0 then (some ((-1), r11.2)) else ((fX3_readLimit r11.2 21 (23 + 6 * F)).bind fun r21 => ((fX3_skip r21.2 21 6).bind fun r28 => (if r28.1 = 0 then (some ((-1), r28.2)) else (if r21.1 = 0 then (some ((-2), r28.2)) else ((fb_R r28.2 21 0).bind fun q44 => fb_gd (q44 < fb_NT ∧ fb_sh q44 = (0, 2)) (((fX0_length r28.2 q44).bind fun r47 => ((fb_R r28.2 21 0).bind fun q52 => fb_gd (q52 < fb_NT ∧ fb_sh q52 = (0, 2)) (((fX0_placeOf r28.2 q52 7 (fb_I r28.2 21 2) r47).bind fun r62 => ((fX3_readCondition r28.2 21 (23 + 6 * F) (fb_I r28.2 21 2) r62).bind fun r75 => (if r75.1 = 0 then (some ((-3), r75.2)) else (if r47 ≤ r62 then (jX3_read_110 (23 + 6 * F) r75.2) else ((fX3_readOrders r75.2 21 (23 + 6 * F) (r62 + (Int32.ofNat (fb_len.getD 7 0))) r47).bind fun r101 => (if r101.1 = 0 then (some ((-4), r101.2)) else (jX3_read_110 (23 + 6 * F) r101.2))))))))))))))))) := by
    rw [q1, q0]; rfl
  obtain ⟨sj1, sj2⟩ := eSubj hB W1 (23 + 6 * F) z2
  cases hs : fb_sj (fb_tx u n) n with
  | none =>
    refine Or.inl ⟨w1, d0, rfl, ?_⟩
    rw [e0, sj2 hs, Option.bind_some]
    exact if_pos rfl
  | some sp =>
    obtain ⟨s, p⟩ := sp
    obtain ⟨s4, p6, pn, -⟩ := fb_sj_in hs
    obtain ⟨w2, q2⟩ : ∃ w, w = fb_wI (fb_wI w1 21 2 (nI p)) (23 + 6 * F) 0 (nI s) := ⟨_, rfl⟩
    have d2 : fb_df u w2 (fb_DU F) := by rw [q2]; exact (d0.wI (by unfold fb_DU; omega)).wI (by unfold fb_DU; omega)
    have p2 : fb_I w2 21 2 = nI p := by rw [q2, fb_IwI_ne _ _ (by omega), fb_IwI_eq]
    have za2 : ∀ k, 0 < k → k ≤ 6 → fb_I w2 (23 + 6 * F) k = nI 0 := fun k h0 hk => by rw [q2, fb_IwI_ne _ _ (by omega), fb_IwI_ne _ _ (by omega), za k hk]
    have zs2 : fb_I w2 (23 + 6 * F) 0 = nI s := by rw [q2, fb_IwI_eq]
    obtain ⟨w3, l1, l2, l3, l4, l5, l6⟩ := eLimC hB (hDU d2) (a := 23 + 6 * F) (by omega) pn p2 (za2 1 (by omega) (by omega))
    have d3 : fb_df u w3 (fb_DU F) := d2.tr (l2.mo (fun a k q => by unfold fb_DU; omega))
    have zs3 : fb_I w3 (23 + 6 * F) 0 = nI s := by rw [l2.2.2 _ 0 (by omega), zs2]
    have za3 : ∀ k, 1 < k → k ≤ 6 → fb_I w3 (23 + 6 * F) k = nI 0 := fun k h0 hk => by rw [l2.2.2 _ k (by omega), za2 k (by omega) hk]
    obtain ⟨b1, b2⟩ := eSkip hB (hDU d3) (k := 6) (by omega) (show (fb_hd (fb_tx u n) n p).2.1 ≤ 200 by omega) l3
    refine Or.inr ⟨s, p, ?_⟩
    generalize fb_hd (fb_tx u n) n p = hd at *
    obtain ⟨tf, pe, c, lim⟩ := hd
    dsimp only at *
    have e2 : fX3_readSubject w1 21 (23 + 6 * F) = some (1, w2) := by rw [q2]; exact sj1 s p hs
    rw [e2, Option.bind_some] at e0
    have e0 := e0.trans (if_neg fb_10)
    have e0 := e0.trans (show _ = ((fX3_readLimit w2 21 (23 + 6 * F)).bind _) from rfl)
    rw [l1, Option.bind_some] at e0
    by_cases hby : 2 + pe ≤ n ∧ fb_st (fb_tx u n) (fb_by 6) pe = true
    · obtain ⟨w4, q4⟩ : ∃ w, w = fb_wI w3 21 2 (nI (pe + 2)) := ⟨_, rfl⟩
      have d4 : fb_df u w4 (fb_DU F) := by rw [q4]; exact d3.wI (by unfold fb_DU; omega)
      have p4 : fb_I w4 21 2 = nI (pe + 2) := by rw [q4, fb_IwI_eq]
      have z4 : ∀ k, fb_I w4 (23 + 6 * F) k = fb_I w3 (23 + 6 * F) k := fun k => by rw [q4, fb_IwI_ne _ _ (by omega)]
      have e6 : fX3_skip w3 21 6 = some (1, w4) := by rw [q4]; exact b1 hby
      refine ⟨w4, rfl, d4, Or.inr ?_⟩
      by_cases hg : c ≤ 3 ∧ (tf = 1 → 0 < lim)
      · refine Or.inr ⟨hby, hg, ?_, by rw [z4, zs3], by rw [z4, l4], by rw [z4, za3 3 (by omega) (by omega)], by rw [z4, za3 4 (by omega) (by omega)], by rw [z4, za3 5 (by omega) (by omega)], by rw [z4, za3 6 (by omega) (by omega)]⟩
        rw [if_pos hg] at e0
        rw [e0]
        show ((fX3_skip w3 21 6).bind _) = _
        rw [e6, Option.bind_some]
        refine (if_neg fb_10).trans ((if_neg fb_10).trans ?_)
        show ((fb_R w4 21 0).bind _) = _
        have W4 : fb_Wc u w4 := hDU d4
        have S4 := W4.St hB.1
        rw [S4.ld_21_0, show fX0_length w4 1 = some (nI n) by unfold fX0_length; rw [(W4.Tx hB).2.1], Option.bind_some, S4.ld_21_0, p4, show fX0_placeOf w4 1 7 (nI (pe + 2)) (nI n) = _ from ePoC hB W4 (n - (pe + 2)) (pe + 2) fb_F (by omega) (by unfold fb_F; omega), Option.bind_some]
        rfl
      · refine Or.inl ⟨hby, hg, ?_⟩
        rw [if_neg hg] at e0
        rw [e0]
        show ((fX3_skip w3 21 6).bind _) = _
        rw [e6, Option.bind_some]
        exact (if_neg fb_10).trans (if_pos rfl)
    · refine ⟨w3, rfl, d3, Or.inl ⟨hby, ?_⟩⟩
      rw [e0]
      show ((fX3_skip w3 21 6).bind _) = _
      rw [b2 hby, Option.bind_some]
      exact if_pos rfl

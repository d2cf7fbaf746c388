/-! run: the book keeps the ids -/
theorem eKeepL {w0 : fb_M} (hS : fb_St w0) {L : Nat} {pq : Nat → Nat} (hL : L ≤ 10) (hc : fb_I w0 101 1 = nI L) (hr : ∀ k, k < L → pq k < 10 ∧ fb_R w0 102 k = some (79 + 2 * pq k)) :
    ∀ m k fu w, k + m = L → m < fu → fb_df w0 w (fun a _ => a = 103) → (∀ j, j < k → fb_I w 103 j = fb_I w0 (79 + 2 * pq j) 0) → ∃ w', gX8_keepFinding_20 0 fu (nI k) w = some (nI L, fb_wI w' 0 11 (nI L)) ∧ fb_df w0 w' (fun a _ => a = 103) ∧ ∀ j, j < L → fb_I w' 103 j = fb_I w0 (79 + 2 * pq j) 0 := by
  intro m
  induction m with
  | zero =>
    intro k fu w hk hf hd hj
    obtain ⟨fu, rfl⟩ : ∃ k, fu = k + 1 := ⟨fu - 1, by omega⟩
    obtain rfl : k = L := by omega
    have hSw := hd.St hS
    refine ⟨w, ?_, hd, hj⟩
    show bX8_keepFinding_20 _ 0 (nI k) w = _
    unfold bX8_keepFinding_20
    rw [hSw.ld_0_9, hd.2.2 101 1 (by omega), hc, if_pos (nI_le (Nat.le_refl _) (by omega)), hSw.ld_0_9, hd.2.2 101 1 (by omega), hc, fb_IwI_eq]
  | succ m ih =>
    intro k fu w hk hf hd hj
    obtain ⟨fu, rfl⟩ : ∃ k, fu = k + 1 := ⟨fu - 1, by omega⟩
    have hSw := hd.St hS
    obtain ⟨hpk, hrk⟩ := hr k (by omega)
    have hrw : fb_R w 102 k = some (79 + 2 * pq k) := by rw [hd.1]; exact hrk
    have step : gX8_keepFinding_20 0 (fu + 1) (nI k) w = gX8_keepFinding_20 0 fu (nI (k + 1)) (fb_wI w 103 k (fb_I w0 (79 + 2 * pq k) 0)) := by
      show bX8_keepFinding_20 _ 0 (nI k) w = _
      unfold bX8_keepFinding_20
      rw [hSw.ld_0_9, hd.2.2 101 1 (by omega), hc, if_neg (nI_ge (by omega) (by omega)), hSw.ld_0_10, hSw.ld_0_9, hSw.ld_101_0, fb_n102, fb_n103, fb_gix (show k < 10 by omega) (by omega), nI_clamp (n := k) (by omega), fb_ldE hrw hpk, fb_gix2 (show k < 10 by omega) (by omega), nI_1, hd.2.2 _ 0 (show ¬ 79 + 2 * pq k = 103 by omega)]
    rw [step]
    refine ih (k + 1) fu _ (by omega) (by omega) (hd.wI rfl) (fun j hjk => ?_)
    by_cases h : j = k
    · rw [h, fb_IwI_eq]
    · rw [fb_IwI_ne _ _ (fun z => h z.2)]; exact hj j (by omega)
theorem fb_Inv.run {u u2 : fb_M} (hv : fb_Inv u) (hS2 : fb_St u2) (hk : ∀ a, (1 ≤ a ∧ a ≤ 76) ∨ a = 99 ∨ (105 ≤ a ∧ a ≤ 123) ∨ a = 127 ∨ a = 128 → fb_I u2 a = fb_I u a) (hL2 : fb_L u2 = fb_L u) (h04 : fb_I u2 0 4 = fb_I u 0 4) (h104 : ∀ k, k = 1 ∨ k = 4 ∨ k = 5 → fb_I u2 104 k = fb_I u 104 k) (hIS : fb_IS u2) (h8 : fb_I u2 0 8 = 0) (h35 : fb_I u2 104 35 = 0) (hIR : fb_IR u2) : fb_Inv u2 := by
  obtain ⟨hS, hT, hL, hF, hE, hO, hA, hR⟩ := hv
  have kp : ∀ P : Nat → Prop, (∀ a, P a → (1 ≤ a ∧ a ≤ 76) ∨ a = 99 ∨ (105 ≤ a ∧ a ≤ 123) ∨ a = 127 ∨ a = 128) → fb_kp u u2 P := fun P hP a ha => ⟨hk a (hP a ha), by rw [hL2], funext fun k => by
    have := hP a ha
    rw [hS2 a k (by omega) (by omega), hS a k (by omega) (by omega)]⟩
  exact ⟨hS2, hT.fr (kp _ (fun a h => by unfold fb_PT at h; omega)) (h104 1 (by omega)), hL.fr (kp _ (fun a h => by unfold fb_PL at h; omega)) (h104 4 (by omega)), hF.fr (kp _ (fun a h => by unfold fb_PF at h; omega)) h04 (h104 5 (by omega)), hIS, hO.fr (kp _ (fun a h => by unfold fb_PO at h; omega)), ⟨0, by omega, h8, h35, fun i hi => absurd hi (by omega)⟩, hIR⟩
theorem op_run {u : fb_M} (hv : fb_Inv u) (x : Int32) : ∃ r u1 u2, fX8_run u 0 x = some (r, u1) ∧ fX9_run u1 104 x = some (r, u2) ∧ fb_Inv u2 := by
  obtain ⟨hS, hT, hLv, ⟨nf, h8, hnf, hmf, hfd⟩, ⟨n, p, h10, hn, hm, hp, hpi, hx, hdi⟩, hO, ⟨A, hA12, hA8, hA35, hA129⟩, hR⟩ := id hv
  rcases eX8_isFinder hnf h8 x with ⟨f, hf, rfl, hh⟩ | ⟨hk, hh⟩
  case inr =>
    refine ⟨-1, u, u, ?_, ?_, hv⟩
    · unfold fX8_run
      rw [hh, Option.bind_some, if_pos rfl]
    · unfold fX9_run
      by_cases h0 : x < 0
      · rw [if_pos h0]
      · rw [if_neg h0, hmf, if_neg (Int32.not_lt.mpr (hk.resolve_left h0))]
  obtain ⟨s, lim, sg, na, np, no, lf, wd, at_, lo, dn, b1, b2, ⟨b3, b3'⟩, b4, b5, b6, ⟨c1, d1⟩, ⟨c2, d2⟩, ⟨c3, d3⟩, ⟨c4, d4⟩, ⟨c5, d5⟩, c6, ⟨c7, d7⟩, hpa, hor, hz, hlt, hs⟩ := hfd f hf
  have htk := fb_tks_le wd np
  have hfind : ∀ {ρ : Type} (F : Nat → Option ρ), ((fb_R u 0 3).bind fun q11 => fb_gd (q11 < fb_NT ∧ (fb_sh q11).1 = 105) (fb_gd (¬ (nI f < 0 ∨ (fb_sh q11).2 ≤ (nI f).toNatClampNeg)) ((fb_R u q11 (nI f).toNatClampNeg).bind fun q15 => fb_gd (q15 < fb_NT ∧ fb_sh q15 = (2, 12)) (F q15)))) = F (23 + 6 * f) := fun F => by
    rw [hS.ld_0_3, fb_n22, fb_gix (show f < 9 by omega) (by omega), nI_clamp (n := f) (by omega), hS.ld_find (show f < 9 by omega)]
  have e58 : fb_I (fb_wI u 0 8 0) (23 + 6 * f) 5 = nI (fb_tks wd np) := by rw [fb_IwI_ne _ _ (by omega), c6]
  have hFP : fb_FP u f na np lf wd at_ := ⟨b5, c5, fun k hk => ⟨⟨(hpa k hk).1.1, (hpa k hk).1.2.1⟩, ⟨(hpa k hk).2.1.1, (hpa k hk).2.1.2.1⟩, ⟨(hpa k hk).2.2.1, b4, (hpa k hk).2.2.2.1⟩⟩⟩
  have hFQ : fb_FQ u f na np lf wd at_ := ⟨b5, b4, d5, d4, fun k hk => ⟨⟨(hpa k hk).1.1, (hpa k hk).1.2.2⟩, ⟨(hpa k hk).2.1.1, (hpa k hk).2.1.2.2⟩, ⟨(hpa k hk).2.2.1, (hpa k hk).2.2.2.2⟩⟩⟩
  have hGP : fb_GP u f no lo dn := ⟨b6, c7, fun k hk => ⟨⟨(hor k hk).1.1, (hor k hk).1.2.1⟩, ⟨(hor k hk).2.1, (hor k hk).2.2.1⟩⟩⟩
  have hGQ : fb_GQ u f no lo dn := ⟨b6, d7, fun k hk => ⟨⟨(hor k hk).1.1, (hor k hk).1.2.2⟩, ⟨(hor k hk).2.1, (hor k hk).2.2.2⟩⟩⟩
  by_cases hAT : A = fb_tks wd np
  case neg =>
    have hne : ¬ nI A = nI (fb_tks wd np) := fun z => hAT ((nI_eq (by omega) (by omega)).mp z)
    have hS1 : fb_St (fb_wI u 0 8 0) := hS.wI _ _ _
    refine ⟨-2, fb_wI u 0 8 0, fb_wI (fb_wI u 0 8 0) 104 35 0, ?_, ?_, ?_⟩
    · unfold fX8_run
      rw [hh, Option.bind_some, if_neg fb_10, hfind, e58, hA8, if_neg hne]
    · unfold fX9_run
      rw [if_neg (nI_pos (by omega)), fb_IwI_ne _ _ (by omega), hmf, if_pos (nI_lt hf (by omega)), eX9_takesAll hS1 (f := f) (np := np) (wd := wd) (show f < 8 by omega) b5 (by rw [fb_IwI_ne _ _ (by omega)]; exact d5) (fun k hk => by rw [fb_IwI_ne _ _ (by omega)]; exact (hFQ.2.2.2.2 k hk).2.1), Option.bind_some, fb_IwI_ne _ _ (by omega), hA35, if_neg hne]
      rfl
    · have hdf : fb_df u (fb_wI (fb_wI u 0 8 0) 104 35 0) (fun a k => (a = 0 ∧ k = 8) ∨ (a = 104 ∧ k = 35)) := ((fb_df.rf _ _).wI (Or.inl ⟨rfl, rfl⟩)).wI (Or.inr ⟨rfl, rfl⟩)
      exact hv.run (hdf.St hS) (fun a ha => hdf.I (fun k => by omega)) hdf.2.1 (hdf.2.2 0 4 (by omega)) (fun k hk => hdf.2.2 104 k (by omega)) (hv.2.2.2.2.1.fr (hdf.kp (fun a k h => by unfold fb_PS at h; omega)) (hdf.2.2 104 28 (by omega))) (by rw [fb_IwI_ne _ _ (by omega), fb_IwI_eq]) (by rw [fb_IwI_eq]) (hR.fr (hdf.kp (fun a k h => by unfold fb_PR at h; omega)) (hdf.2.2 0 11 (by omega)) (hdf.2.2 104 37 (by omega)))
  obtain ⟨ub, qb⟩ : ∃ y, y = fb_wI (fb_wI u 0 8 0) 0 11 0 := ⟨_, rfl⟩
  have hub : fb_df u ub (fun a k => a = 0 ∧ (k = 8 ∨ k = 11)) := by rw [qb]; exact ((fb_df.rf _ _).wI ⟨rfl, Or.inl rfl⟩).wI ⟨rfl, Or.inr rfl⟩
  have hub8 : fb_I ub 0 8 = 0 := by rw [qb, fb_IwI_ne _ _ (by omega), fb_IwI_eq]
  have hub11 : fb_I ub 0 11 = 0 := by rw [qb, fb_IwI_eq]
  have hSb := hub.St hS
  obtain ⟨w, c, q, g1, hG, g3, g4, hq⟩ := eGather hS (show f < 8 by omega) h10 hn hp (fun i hi => (hx i hi).2) b2 c2 hFP hGP hs hz hlt (hub.mo (fun a k h => h.1))
  have hSw := hG.St hSb
  have hc10 := hq.1
  have hLc := fb_lm_le lim c
  obtain ⟨L, qL⟩ : ∃ L, L = fb_lm lim c := ⟨_, rfl⟩
  rw [← qL] at g3 hLc
  have hwI : ∀ a k, ¬ (a = 0 ∧ (k = 8 ∨ k = 11)) → ¬ (a = 101 ∧ k = 1) → fb_I w a k = fb_I u a k := fun a k h1 h2 => (hG.1 a k h2).trans (hub.2.2 a k h1)
  have hwL : fb_L w = fb_L u := hG.2.1.trans hub.2.1
  have hwR : ∀ a, a ≠ 102 → fb_R w a = fb_R u a := fun a h => by rw [hG.2.2 a h, hub.1]
  have hw8 : fb_I w 0 8 = 0 := (hG.1 0 8 (by omega)).trans hub8
  have hw11 : fb_I w 0 11 = 0 := (hG.1 0 11 (by omega)).trans hub11
  have e8 : fX8_run u 0 (nI f) = (if nI s = 1 then some (nI L, w) else if nI s = 2 then (if nI L ≤ 0 then some (0, w) else some (1, w)) else if nI s = 3 then (fX8_deleteFinding w 0).bind fun r => some (r.1, r.2) else (fX8_keepFinding w 0 (nI sg)).bind fun r => some (r.1, r.2)) := by
    unfold fX8_run
    rw [hh, Option.bind_some, if_neg fb_10, hfind, e58, hA8, if_pos (show nI A = nI (fb_tks wd np) by rw [hAT]), ← qb, hSb.ld_0_9, hSb.ld_0_5, hSb.ld_0_7, g1, Option.bind_some, hwI (23 + 6 * f) 0 (by omega) (by omega), c1, hwI (23 + 6 * f) 2 (by omega) (by omega), c3, hSw.ld_0_9, hSw.ld_0_9, g3]
  have hmo : ∀ u1, fb_St u1 → (∀ a, 104 ≤ a → fb_I u1 a = fb_I u a) → ∃ w', fX9_run u1 104 (nI f) = gX9_run_210 104 (nI f) (nI L) fb_F (nI n - 1) (fb_wI w' 104 37 (nI (fb_fo s sg L))) ∧ fb_df u1 w' (fun a k => fb_D3 a k ∨ (a = 104 ∧ k = 35)) ∧ fb_I w' 104 35 = 0 ∧ (∀ d, d < n → fb_I w' 132 d = if fb_in q L d = true then 1 else 0) ∧ (∀ k, k < L → fb_I w' 130 k = fb_I u 124 (q k)) := by
    intro u1 hS1 hu1
    obtain ⟨w', m1, m2, m3, m4, m5⟩ := eRunM (u := u) hS1 hu1 hf h8 h10 hm hmf (by rw [hA35, hAT]) (fb_fulls hx) b2 d2 hFQ hGQ hs hz hlt (fun i hi => ⟨by omega, by rw [hA129 i (by omega), fb_ag, if_pos (show i < 12 by omega)]⟩) hq
    rw [← qL] at m1 m4 m5
    refine ⟨w', m1.trans (eTail (m2.St hS1) (s := s) (sg := sg) (show f < 8 by omega) b1 b3 (by omega) h10 ?_ ?_ ?_), m2, m3, m4, m5⟩
    · rw [m2.2.2 104 28 (by unfold fb_D3; omega), hu1 104 (by omega), hm]
    · rw [m2.2.2 108 f (by unfold fb_D3; omega), hu1 108 (by omega), d1]
    · rw [m2.2.2 110 f (by unfold fb_D3; omega), hu1 110 (by omega), d3]
  have fin : s ≠ 3 → ∀ u1, fb_St u1 → (∀ a k, a ≠ 0 → a ≠ 101 → a ≠ 103 → fb_I u1 a k = fb_I u a k) → fb_L u1 = fb_L u → fb_R u1 78 = fb_R u 78 → fb_I u1 0 4 = fb_I u 0 4 → fb_I u1 0 8 = 0 → fb_I u1 0 11 = nI (fb_fo s sg L) → (∀ k, k < fb_fo s sg L → fb_I u1 103 k = fb_I u 124 (q k)) → ∃ u2, fX9_run u1 104 (nI f) = some (fb_an3 s sg L, u2) ∧ fb_Inv u2 := by
    intro hs3 u1 hS1 hu1 hL1 hR1 h104 h108 h1011 h103
    have hu1' : ∀ a, 104 ≤ a → fb_I u1 a = fb_I u a := fun a ha => funext fun k => hu1 a k (by omega) (by omega) (by omega)
    obtain ⟨w', m1, m2, m3, m4, m5⟩ := hmo u1 hS1 hu1'
    obtain ⟨u2, q2⟩ : ∃ y, y = fb_wI w' 104 37 (nI (fb_fo s sg L)) := ⟨_, rfl⟩
    have hd2 : fb_df u1 u2 (fun a k => fb_D3 a k ∨ (a = 104 ∧ (k = 35 ∨ k = 37))) := by
      rw [q2]
      exact (m2.mo (fun a k h => h.imp_right (fun z => ⟨z.1, Or.inl z.2⟩))).wI (Or.inr ⟨rfl, Or.inr rfl⟩)
    have hS2 := hd2.St hS1
    have hfo : fb_fo s sg L ≤ L := by unfold fb_fo; split <;> omega
    refine ⟨u2, ?_, ?_⟩
    · rw [m1, ← q2]
      exact e210n hS2 (n := n) (show f < 8 by omega) b1 hs3 b3 (by omega) (by rw [hd2.2.2 108 f (by unfold fb_D3; omega), hu1 _ _ (by omega) (by omega) (by omega), d1]) (by rw [hd2.2.2 110 f (by unfold fb_D3; omega), hu1 _ _ (by omega) (by omega) (by omega), d3]) _
    · have hu2 : ∀ a k, a ≠ 0 → a ≠ 101 → a ≠ 103 → a ≤ 129 → ¬ (a = 104 ∧ (k = 35 ∨ k = 37)) → fb_I u2 a k = fb_I u a k := fun a k h1 h2 h3 h4 h5 => (hd2.2.2 a k (by unfold fb_D3; omega)).trans (hu1 a k h1 h2 h3)
      refine hv.run hS2 (fun a ha => funext fun k => hu2 a k (by omega) (by omega) (by omega) (by omega) (by omega)) (hd2.2.1.trans hL1) ((hd2.2.2 0 4 (by unfold fb_D3; omega)).trans h104) (fun k hk => hu2 104 k (by omega) (by omega) (by omega) (by omega) (by omega)) ?_ ((hd2.2.2 0 8 (by unfold fb_D3; omega)).trans h108) ?_ ?_
      · refine hv.2.2.2.2.1.fr (fun a ha => ⟨funext fun k => hu2 a k (by unfold fb_PS at ha; omega) (by unfold fb_PS at ha; omega) (by unfold fb_PS at ha; omega) (by unfold fb_PS at ha; omega) (by unfold fb_PS at ha; omega), by rw [hd2.2.1, hL1], ?_⟩) (hu2 104 28 (by omega) (by omega) (by omega) (by omega) (by omega))
        rw [hd2.1]
        by_cases h78 : a = 78
        · rw [h78]; exact hR1
        · funext k
          rw [hS1 a k h78 (by unfold fb_PS at ha; omega), hS a k h78 (by unfold fb_PS at ha; omega)]
      · rw [q2, fb_IwI_ne _ _ (by omega), m3]
      · refine ⟨fb_fo s sg L, by omega, (hd2.2.2 0 11 (by unfold fb_D3; omega)).trans h1011, by rw [q2, fb_IwI_eq], fun i hi => ?_⟩
        rw [hd2.2.2 103 i (by unfold fb_D3; omega), h103 i hi, q2, fb_IwI_ne _ _ (by omega)]
        exact m5 i (by omega)
  have hw1 : ∀ a k, a ≠ 0 → a ≠ 101 → a ≠ 103 → fb_I w a k = fb_I u a k := fun a k h1 h2 _ => hwI a k (by omega) (by omega)
  have hw04 : fb_I w 0 4 = fb_I u 0 4 := hwI 0 4 (by omega) (by omega)
  have hL10 : L ≤ 10 := by omega
  by_cases s1 : s = 1
  · obtain ⟨u2, f1, f2⟩ := fin (by omega) w hSw hw1 hwL (hwR 78 (by decide)) hw04 hw8 (by rw [hw11, fb_fo, if_neg (by omega)]; rfl) (fun k hk => by rw [fb_fo, if_neg (by omega)] at hk; omega)
    refine ⟨nI L, w, u2, ?_, ?_, f2⟩
    · rw [e8, if_pos (show nI s = 1 by rw [s1]; rfl)]
    · rw [f1, fb_an3, if_neg (by omega), if_pos (by omega)]
  have n1 : ¬ nI s = 1 := fun z => s1 ((nI_eq (b := 1) (by omega) (by omega)).mp z)
  rw [if_neg n1] at e8
  by_cases s2 : s = 2
  · obtain ⟨u2, f1, f2⟩ := fin (by omega) w hSw hw1 hwL (hwR 78 (by decide)) hw04 hw8 (by rw [hw11, fb_fo, if_neg (by omega)]; rfl) (fun k hk => by rw [fb_fo, if_neg (by omega)] at hk; omega)
    refine ⟨fb_an3 s sg L, w, u2, ?_, f1, f2⟩
    rw [e8, if_pos (show nI s = 2 by rw [s2]; rfl), fb_an3, if_pos s2]
    by_cases h0 : L = 0
    · rw [if_pos (show nI L ≤ 0 by rw [h0]; decide), if_pos h0]
    · rw [if_neg (nI_nle (by omega) (by omega)), if_neg h0]
  have n2 : ¬ nI s = 2 := fun z => s2 ((nI_eq (b := 2) (by omega) (by omega)).mp z)
  rw [if_neg n2] at e8
  by_cases s3 : s = 3
  · -- delete
    rw [if_pos (show nI s = 3 by rw [s3]; rfl)] at e8
    have hsg0 : sg = 0 := by omega
    obtain ⟨w1, p', g', k1, k2⟩ := eDelC hSw (L := L) (p := p) (q := q) (id := fb_I u 124) h10 (by omega) (fun i hi => (hp i hi).1) (fun d hd => by rw [hwI _ _ (by omega) (by have := (hp d (by omega)).1; omega)]; exact (hx d hd).1) hdi (fun k hk => ⟨(hq.2.1 k (by omega)).1, g4 k (by omega)⟩) (fun j k hjk hk => hq.inj j k hjk (by omega)) g3 L 0 fb_F w p (fun j => j) (by omega) (by unfold fb_F; omega) ⟨fun _ _ _ => rfl, rfl, fun _ _ => rfl, (hwI 77 1 (by omega) (by omega)).trans hn, fun i hi => ⟨(hp i hi).1, by rw [hwR 78 (by decide)]; exact (hp i hi).2⟩, hpi, fun _ _ => rfl, ⟨fun j hj => ⟨hj, rfl⟩, fun d hd _ => ⟨d, hd, rfl⟩, fun j k hjk _ => hjk⟩⟩
    obtain ⟨t1, t2, t3, t4, t5, t6, t7, t8⟩ := k2
    have hS1 : fb_St w1 := fun a j h1 h2 => by rw [t3 a h1]; exact hSw a j h1 h2
    have hu1 : ∀ a k, ¬ (a = 77 ∧ k = 1) → ¬ (a = 0 ∧ (k = 8 ∨ k = 11)) → ¬ (a = 101 ∧ k = 1) → fb_I w1 a k = fb_I u a k := fun a k h0 h1 h2 => (t1 a k h0).trans (hwI a k h1 h2)
    obtain ⟨w', m1, m2, m3, m4, m5⟩ := hmo w1 hS1 (fun a ha => funext fun k => hu1 a k (by omega) (by omega) (by omega))
    obtain ⟨v2, q2⟩ : ∃ y, y = fb_wI w' 104 37 (nI (fb_fo s sg L)) := ⟨_, rfl⟩
    have hfo : fb_fo s sg L = 0 := by unfold fb_fo; rw [if_neg (by omega)]
    have hd2 : fb_df w1 v2 (fun a k => fb_D3 a k ∨ (a = 104 ∧ (k = 35 ∨ k = 37))) := by
      rw [q2]
      exact (m2.mo (fun a k h => h.imp_right (fun z => ⟨z.1, Or.inl z.2⟩))).wI (Or.inr ⟨rfl, Or.inr rfl⟩)
    have hv2 : ∀ a k, ¬ (a = 77 ∧ k = 1) → ¬ (a = 0 ∧ (k = 8 ∨ k = 11)) → ¬ (a = 101 ∧ k = 1) → a ≤ 129 → ¬ (a = 104 ∧ (k = 35 ∨ k = 37)) → fb_I v2 a k = fb_I u a k := fun a k h1 h2 h3 h4 h5 => (hd2.2.2 a k (by unfold fb_D3; omega)).trans (hu1 a k h1 h2 h3)
    have hSv := hd2.St hS1
    obtain ⟨u2, m', g2, r1, r2⟩ := eDelM hSv (n := n) (L := L) (f := f) (T := fb_in q L) (show f < 8 by omega) h10 hL10 (by rw [hv2 108 f (by omega) (by omega) (by omega) (by omega) (by omega), d1, s3]; rfl) (by rw [hv2 110 f (by omega) (by omega) (by omega) (by omega) (by omega), d3, hsg0]; rfl) (fun j hj => by rw [hv2 126 j (by omega) (by omega) (by omega) (by omega) (by omega)]; exact fb_fulls hx j hj) (fun d hd => by rw [q2, fb_IwI_ne _ _ (by omega)]; exact m4 d hd) n fb_F v2 n (fun j => j) (by unfold fb_F; omega) ⟨fb_df.rf _ _, (hv2 104 28 (by omega) (by omega) (by omega) (by omega) (by omega)).trans hm, Nat.le_refl _, Nat.le_refl _, fun _ _ => ⟨rfl, fun _ _ => ⟨rfl, rfl⟩⟩, fun _ _ => rfl, ⟨fun j hj => ⟨hj, by show (!(decide (n ≤ j) && fb_in q L j)) = true; rw [decide_eq_false (show ¬ n ≤ j by omega)]; rfl⟩, fun d hd _ => ⟨d, hd, rfl⟩, fun j k hjk _ => hjk⟩⟩
    obtain ⟨y1, y2, y3, -, y5, -, y7⟩ := r2
    obtain ⟨x1, x2⟩ := t8.un (y7.cg (Y := fun d => !fb_in q L d) (fun d _ => by rw [decide_eq_true (Nat.zero_le d), Bool.true_and]))
    have hu2 : ∀ a k, ¬ (a = 77 ∧ k = 1) → ¬ (a = 0 ∧ (k = 8 ∨ k = 11)) → ¬ (a = 101 ∧ k = 1) → a ≤ 129 → ¬ (a = 104 ∧ (k = 35 ∨ k = 37 ∨ k = 28)) → ¬ (124 ≤ a ∧ a ≤ 126) → fb_I u2 a k = fb_I u a k := fun a k h1 h2 h3 h4 h5 h6 => (y1.2.2 a k (by omega)).trans (hv2 a k h1 h2 h3 h4 (by omega))
    have hL2 : fb_L u2 = fb_L u := y1.2.1.trans (hd2.2.1.trans (t2.trans hwL))
    have hu2v : ∀ a k, ¬ (a = 124 ∨ a = 125 ∨ a = 126 ∨ (a = 104 ∧ k = 28)) → ¬ (fb_D3 a k ∨ (a = 104 ∧ (k = 35 ∨ k = 37))) → fb_I u2 a k = fb_I w1 a k := fun a k h1 h2 => (y1.2.2 a k h1).trans (hd2.2.2 a k h2)
    refine ⟨nI L, w1, u2, ?_, ?_, ?_⟩
    · rw [e8]
      have : fX8_deleteFinding w 0 = some (nI L, w1) := k1
      rw [this, Option.bind_some]
    · rw [m1, ← q2]; exact r1
    · refine hv.run (y1.St hSv) (fun a ha => funext fun k => hu2 a k (by omega) (by omega) (by omega) (by omega) (by omega) (by omega)) hL2 (hu2 0 4 (by omega) (by omega) (by omega) (by omega) (by omega) (by omega)) (fun k hk => hu2 104 k (by omega) (by omega) (by omega) (by omega) (by omega) (by omega)) ?_ ?_ ?_ ?_
      · have hen := t8.1
        refine ⟨n - L, p', by omega, ?_, by rw [y2, ← x1], fun i hi => ⟨(t5 i hi).1, by rw [y1.1, hd2.1]; exact (t5 i hi).2⟩, t6, fun i hi => ?_, fun i j hi hj hij => ?_⟩
        · rw [hu2v 77 1 (by omega) (by unfold fb_D3; omega)]; exact t4
        · have hgi := (hen i hi).1
          have hpg := (hp (g' i) (by omega)).1
          have e124 : fb_I u2 124 i = fb_I u 124 (g' i) := by
            rw [(y5 i (by omega)).1, ← x2 i hi]; exact hv2 124 _ (by omega) (by omega) (by omega) (by omega) (by omega)
          rw [t7 i hi]
          refine ⟨?_, fun l hl => ?_⟩
          · rw [hu2 _ _ (by omega) (by omega) (by omega) (by omega) (by omega) (by omega), e124]; exact (hx (g' i) hgi).1
          · rw [hL2, ((y5 i (by omega)).2 l hl).1, ((y5 i (by omega)).2 l hl).2, ← x2 i hi, hv2 125 _ (by omega) (by omega) (by omega) (by omega) (by omega), hv2 126 _ (by omega) (by omega) (by omega) (by omega) (by omega)]
            exact (hx (g' i) hgi).2 l hl
        · rw [(y5 i (by omega)).1, (y5 j (by omega)).1, ← x2 i hi, ← x2 j hj, hv2 124 _ (by omega) (by omega) (by omega) (by omega) (by omega), hv2 124 _ (by omega) (by omega) (by omega) (by omega) (by omega)] at hij
          exact t8.lt hi hj (hdi _ _ (hen i hi).1 (hen j hj).1 hij)
      · rw [hu2v 0 8 (by omega) (by unfold fb_D3; omega), t1 0 8 (by omega)]; exact hw8
      · rw [y1.2.2 104 35 (by omega), q2, fb_IwI_ne _ _ (by omega)]; exact m3
      · refine ⟨0, by omega, ?_, ?_, fun i hi => absurd hi (by omega)⟩
        · rw [hu2v 0 11 (by omega) (by unfold fb_D3; omega), t1 0 11 (by omega)]; exact hw11
        · rw [y1.2.2 104 37 (by omega), q2, fb_IwI_eq, hfo]
  have n3 : ¬ nI s = 3 := fun z => s3 ((nI_eq (b := 3) (by omega) (by omega)).mp z)
  rw [if_neg n3] at e8
  have s0 : s = 0 := by omega
  by_cases hone : sg = 0 ∨ L ≤ 1
  · -- kept
    obtain ⟨w', k1, k2, k3⟩ := eKeepL hSw (L := L) (pq := fun k => p (q k)) hL10 g3 (fun k hk => ⟨(hp (q k) (by have := (hq.2.1 k (by omega)).1; omega)).1, g4 k (by omega)⟩) L 0 fb_F w (by omega) (by unfold fb_F; omega) (fb_df.rf _ _) (fun j hj => absurd hj (by omega))
    obtain ⟨u1, q1⟩ : ∃ y, y = fb_wI w' 0 11 (nI L) := ⟨_, rfl⟩
    rw [← q1] at k1
    have hd1 : fb_df w u1 (fun a k => a = 103 ∨ (a = 0 ∧ k = 11)) := by
      rw [q1]
      exact (k2.mo (fun a k h => Or.inl h)).wI (Or.inr ⟨rfl, rfl⟩)
    have hkf : fX8_keepFinding w 0 (nI sg) = some (nI L, u1) := by
      unfold fX8_keepFinding
      by_cases h : sg = 0
      · rw [if_pos (show nI sg = 0 by rw [h]; rfl)]; exact k1
      · rw [if_neg (nI_ne0 (by omega) (by omega)), hSw.ld_0_9, g3, if_pos (show nI L ≤ 1 from nI_le (b := 1) (by omega) (by omega))]; exact k1
    have hfo : fb_fo s sg L = L := by unfold fb_fo; rw [if_pos ⟨s0, hone⟩]
    obtain ⟨u2, f1, f2⟩ := fin s3 u1 (hd1.St hSw) (fun a k h1 h2 h3 => (hd1.2.2 a k (by omega)).trans (hw1 a k h1 h2 h3)) (hd1.2.1.trans hwL) (by rw [hd1.1]; exact hwR 78 (by decide)) ((hd1.2.2 0 4 (by omega)).trans hw04) ((hd1.2.2 0 8 (by omega)).trans hw8) (by rw [q1, fb_IwI_eq, hfo]) (fun k hk => by
      rw [hfo] at hk
      have hqk := (hq.2.1 k (by omega)).1
      have hpk := (hp (q k) (by omega)).1
      rw [q1, fb_IwI_ne _ _ (by omega), k3 k hk, hwI _ _ (by omega) (by omega)]
      exact (hx (q k) hqk).1)
    refine ⟨nI L, u1, u2, ?_, ?_, f2⟩
    · rw [e8, hkf, Option.bind_some]
    · rw [f1, fb_an3, if_neg s2, if_pos hone]
  · have hfo : fb_fo s sg L = 0 := by unfold fb_fo; rw [if_neg (fun z => hone z.2)]
    have hkf : fX8_keepFinding w 0 (nI sg) = some (-3, w) := by
      unfold fX8_keepFinding
      rw [if_neg (nI_ne0 (by omega) (by omega)), hSw.ld_0_9, g3, if_neg (show ¬ nI L ≤ 1 from nI_ge (a := 1) (by omega) (by omega))]
    obtain ⟨u2, f1, f2⟩ := fin s3 w hSw hw1 hwL (hwR 78 (by decide)) hw04 hw8 (by rw [hw11, hfo]; rfl) (fun k hk => by rw [hfo] at hk; omega)
    refine ⟨-3, w, u2, ?_, ?_, f2⟩
    · rw [e8, hkf, Option.bind_some]
    · rw [f1, fb_an3, if_neg s2, if_neg hone]

/-! declare: the call -/
theorem fb_Inv.kps {u u' : fb_M} {D : Nat → Nat → Prop} (hv : fb_Inv u) (h : fb_df u u' D) (hD : ∀ a k, fb_PF a ∨ fb_PS a ∨ fb_PO a ∨ fb_PA a ∨ fb_PR a → ¬ D a k) (g1 : ¬ D 0 4) (g2 : ¬ D 0 8) (g3 : ¬ D 0 11) (m1 : ¬ D 104 5) (m2 : ¬ D 104 28) (m3 : ¬ D 104 35) (m4 : ¬ D 104 37) :
    fb_St u' ∧ fb_IF u' ∧ fb_IS u' ∧ fb_IO u' ∧ fb_IA u' ∧ fb_IR u' := by
  obtain ⟨hS, hT, hL, hF, hE, hO, hA, hR⟩ := hv
  exact ⟨h.St hS, hF.fr (h.kp fun a k ha => hD a k (Or.inl ha)) (h.2.2 _ _ g1) (h.2.2 _ _ m1), hE.fr (h.kp fun a k ha => hD a k (Or.inr (Or.inl ha))) (h.2.2 _ _ m2), hO.fr (h.kp fun a k ha => hD a k (Or.inr (Or.inr (Or.inl ha)))), hA.fr (h.kp fun a k ha => hD a k (Or.inr (Or.inr (Or.inr (Or.inl ha))))) (h.2.2 _ _ g2) (h.2.2 _ _ m3), hR.fr (h.kp fun a k ha => hD a k (Or.inr (Or.inr (Or.inr (Or.inr ha))))) (h.2.2 _ _ g3) (h.2.2 _ _ m4)⟩
theorem op_declare {u : fb_M} (hv : fb_Inv u) : ∃ r u1 u2, fX8_declare u 0 = some (r, u1) ∧ fX9_declare u1 104 = some (r, u2) ∧ fb_Inv u2 := by
  have hv0 := hv
  obtain ⟨hS, ⟨n, hT⟩, ⟨N, hL⟩, -⟩ := hv
  have hT : fb_Tx u u n := hT
  have hL : fb_Lx u u N := hL
  have h80 := hT.1
  have h8 := hL.1
  obtain ⟨r, p1, p2, p3⟩ := ePath hS hS hT
  have e8 : fX8_declare u 0 = if r = 0 then some (-1, u) else (fX6_clashWith u 3 1).bind fun r20 => if r20 = 0 then (fX6_add u 3 1).bind fun r37 => if 0 ≤ r37.1 then ((fb_R r37.2 0 0).bind fun q49 => fb_gd (q49 < fb_NT ∧ fb_sh q49 = (0, 2)) ((fX0_clear r37.2 q49).bind fun r52 => some (r37.1, r52))) else some (-3, r37.2) else some (-2, u) := by
    unfold fX8_declare
    rw [hS.ld_0_0, p1, Option.bind_some, hS.ld_0_1, hS.ld_0_0, hS.ld_0_1, hS.ld_0_0]
  rcases p3 with rfl | ⟨rfl, hn0, hn38⟩
  · refine ⟨-1, u, u, ?_, ?_, hv0⟩
    · rw [e8, if_pos rfl]
    · unfold fX9_declare
      rw [p2, Option.bind_some, if_pos rfl]
  rw [if_neg fb_10] at e8
  rcases eClashes hS hS hT hL N 0 fb_F fb_F (by omega) (by unfold fb_F; omega) (by unfold fb_F; omega) with ⟨c1, c2⟩ | ⟨c1, c2⟩
  · refine ⟨-2, u, u, ?_, ?_, hv0⟩
    · rw [e8, show fX6_clashWith u 3 1 = some 1 from c1, Option.bind_some, if_neg fb_10]
    · unfold fX9_declare
      rw [p2, Option.bind_some, if_neg fb_10]
      exact c2
  rw [show fX6_clashWith u 3 1 = some 0 from c1, Option.bind_some, if_pos rfl] at e8
  by_cases hN8 : N = 8
  · refine ⟨-3, u, u, ?_, ?_, hv0⟩
    · rw [e8]
      unfold fX6_add
      rw [hL.2.1, if_neg (show ¬ nI N < 8 from nI_nlt (b := 8) (by omega) (by omega))]
      rfl
    · unfold fX9_declare
      rw [p2, Option.bind_some, if_neg fb_10]
      refine c2.trans ?_
      rw [if_pos (show nI N = 8 by rw [hN8]; rfl)]
  obtain ⟨w, w1, w2, w3, w4, w5, w6⟩ := eSetPath hS hT (show N < 8 by omega) hn38
  have hw31 : fb_I w 3 1 = nI N := by rw [w2.2.2 3 1 (by omega)]; exact hL.2.1
  have ha : fX6_add u 3 1 = some (nI N, fb_wI w 3 1 (nI (N + 1))) := by
    unfold fX6_add
    rw [hL.2.1, if_pos (show nI N < 8 from nI_lt (b := 8) (by omega) (by omega)), hS.ld_3_0, fb_n4, fb_gix (show N < 8 by omega) (by omega), nI_clamp (n := N) (by omega), hS.ld_leaf (show N < 8 by omega), w1, Option.bind_some, fb_IwI_eq, hw31, nI_1, nI_pred]
  have hd1 : fb_df u (fb_wI (fb_wI w 3 1 (nI (N + 1))) 1 1 0) (fun a k => a = 5 + 2 * N ∨ a = 6 + 2 * N ∨ (a = 3 ∧ k = 1) ∨ (a = 1 ∧ k = 1)) := by
    refine fb_df.wI (fb_df.wI (w2.mo ?_) ?_) ?_
    · intro a k h; exact h.elim Or.inl (fun h => Or.inr (Or.inl h))
    · exact Or.inr (Or.inr (Or.inl ⟨rfl, rfl⟩))
    · exact Or.inr (Or.inr (Or.inr ⟨rfl, rfl⟩))
  have e1 : fX8_declare u 0 = some (nI N, fb_wI (fb_wI w 3 1 (nI (N + 1))) 1 1 0) := by
    rw [e8, ha, Option.bind_some]
    rw [if_pos (show 0 ≤ nI N from nI_pos' (by omega)), (show fb_St (fb_wI w 3 1 (nI (N + 1))) from fun a k h1 h2 => (w2.St hS) a k h1 h2).ld_0_0]
    rfl
  have x1 : ∀ a k, a ≠ 3 → a ≠ 1 → fb_I (fb_wI (fb_wI w 3 1 (nI (N + 1))) 1 1 0) a k = fb_I w a k := fun a k h1 h2 => by rw [fb_IwI_ne _ _ (by omega), fb_IwI_ne _ _ (by omega)]
  have x2 : fb_I (fb_wI (fb_wI w 3 1 (nI (N + 1))) 1 1 0) 3 1 = nI (N + 1) := by rw [fb_IwI_ne _ _ (by omega), fb_IwI_eq]
  have x3 : fb_I (fb_wI (fb_wI w 3 1 (nI (N + 1))) 1 1 0) 1 1 = nI 0 := by rw [fb_IwI_eq]; rfl
  generalize fb_wI (fb_wI w 3 1 (nI (N + 1))) 1 1 0 = u1 at e1 hd1 x1 x2 x3
  have hS1 : fb_St u1 := hd1.St hS
  have hT1 : fb_Tx u u1 n := hT.dfv hd1 (by omega) (fun k => by omega)
  have hL1 : fb_Lx u u1 N := hL.dfv hd1 (by omega) (fun k => by omega) (fun k => by omega)
  have h41 : fb_I u1 104 1 = nI n := hT1.2.2.1
  have h44 : fb_I u1 104 4 = nI N := hL1.2.2.1
  obtain ⟨v, v1, v2, v3⟩ := eDeclL hS1 (show N < 8 by omega) hn38 h41 h44 n 0 fb_F u1 (by omega) (by unfold fb_F; omega) (fb_df.rf u1 _) (fun j hj => by omega)
  have e2 : fX9_declare u1 104 = some (nI N, fb_wI (fb_wI (fb_wI v 107 N (nI n)) 104 1 0) 104 4 (nI (N + 1))) := by
    obtain ⟨r', q1, q2, -⟩ := ePath hS hS1 hT1
    rw [p1] at q1
    cases q1
    unfold fX9_declare
    rw [q2, Option.bind_some, if_neg fb_10]
    rcases eClashes hS hS1 hT1 hL1 N 0 fb_F fb_F (by omega) (by unfold fb_F; omega) (by unfold fb_F; omega) with ⟨d1, d2⟩ | ⟨d1, d2⟩
    · have := c1.symm.trans d1
      exact absurd (Option.some.inj this) (by decide)
    · refine Eq.trans d2 ?_
      rw [if_neg (show ¬ nI N = 8 from fun q => hN8 ((nI_eq (b := 8) (by omega) (by omega)).mp q))]
      exact v1
  have hd2 : fb_df u1 (fb_wI (fb_wI (fb_wI v 107 N (nI n)) 104 1 0) 104 4 (nI (N + 1))) (fun a k => (a = 106 ∧ 40 * N ≤ k) ∨ (a = 107 ∧ k = N) ∨ (a = 104 ∧ (k = 1 ∨ k = 4))) := by
    refine fb_df.wI (fb_df.wI (fb_df.wI (v2.mo ?_) ?_) ?_) ?_
    · intro a k h; exact Or.inl h
    · exact Or.inr (Or.inl ⟨rfl, rfl⟩)
    · exact Or.inr (Or.inr ⟨rfl, Or.inl rfl⟩)
    · exact Or.inr (Or.inr ⟨rfl, Or.inr rfl⟩)
  have y1 : ∀ a k, a ≠ 107 → a ≠ 104 → fb_I (fb_wI (fb_wI (fb_wI v 107 N (nI n)) 104 1 0) 104 4 (nI (N + 1))) a k = fb_I v a k := fun a k h1 h2 => by rw [fb_IwI_ne _ _ (by omega), fb_IwI_ne _ _ (by omega), fb_IwI_ne _ _ (by omega)]
  have y2 : fb_I (fb_wI (fb_wI (fb_wI v 107 N (nI n)) 104 1 0) 104 4 (nI (N + 1))) 107 N = nI n := by rw [fb_IwI_ne _ _ (by omega), fb_IwI_ne _ _ (by omega), fb_IwI_eq]
  have y3 : fb_I (fb_wI (fb_wI (fb_wI v 107 N (nI n)) 104 1 0) 104 4 (nI (N + 1))) 104 1 = nI 0 := by rw [fb_IwI_ne _ _ (by omega), fb_IwI_eq]; rfl
  have y4 : fb_I (fb_wI (fb_wI (fb_wI v 107 N (nI n)) 104 1 0) 104 4 (nI (N + 1))) 104 4 = nI (N + 1) := by rw [fb_IwI_eq]
  generalize fb_wI (fb_wI (fb_wI v 107 N (nI n)) 104 1 0) 104 4 (nI (N + 1)) = u2 at e2 hd2 y1 y2 y3 y4
  refine ⟨nI N, u1, u2, e1, e2, ?_⟩
  have hd : fb_df u u2 (fun a k => (a = 5 + 2 * N ∨ a = 6 + 2 * N ∨ (a = 3 ∧ k = 1) ∨ (a = 1 ∧ k = 1)) ∨ ((a = 106 ∧ 40 * N ≤ k) ∨ (a = 107 ∧ k = N) ∨ (a = 104 ∧ (k = 1 ∨ k = 4)))) := (hd1.mo fun a k h => Or.inl h).tr (hd2.mo fun a k h => Or.inr h)
  obtain ⟨g0, g1, g2, g3, g4, g5⟩ := hv0.kps hd (fun a k h => by unfold fb_PF fb_PS fb_PO fb_PA fb_PR at h; omega) (by omega) (by omega) (by omega) (by omega) (by omega) (by omega) (by omega)
  refine ⟨g0, ⟨0, by omega, ?_, y3, fun i hi => by omega⟩, ⟨N + 1, by omega, ?_, y4, fun l hl => ?_⟩, g1, g2, g3, g4, g5⟩
  · rw [hd2.2.2 1 1 (by omega)]; exact x3
  · rw [hd2.2.2 3 1 (by omega)]; exact x2
  · by_cases hlN : l = N
    · subst hlN
      have q1 : fb_I u2 (5 + 2 * l) = fb_I w (5 + 2 * l) := funext fun k => by rw [hd2.2.2 _ k (by omega), x1 _ k (by omega) (by omega)]
      have q2 : fb_I u2 (6 + 2 * l) = fb_I w (6 + 2 * l) := funext fun k => by rw [hd2.2.2 _ k (by omega), x1 _ k (by omega) (by omega)]
      rw [q1, q2]
      refine ⟨n, hn0, hn38, w3, y2, fun i hi => ⟨?_, ?_⟩, w5, w6⟩
      · show fb_I u2 106 (40 * l + i) = _
        rw [y1 106 _ (by omega) (by omega), v3 i hi, w4 i hi]
        exact (hT1.2.2.2 i hi).1
      · rw [w4 i hi]; exact (hT.2.2.2 i hi).2
    · obtain ⟨k, k0, k38, a1, a2, a3, a4, a5⟩ := hL.2.2.2 l (by omega)
      have q1 : fb_I u2 (5 + 2 * l) = fb_I u (5 + 2 * l) := hd.I (fun k => by omega)
      have q2 : fb_I u2 (6 + 2 * l) = fb_I u (6 + 2 * l) := hd.I (fun k => by omega)
      rw [q1, q2, hd.2.2 107 l (by omega)]
      refine ⟨k, k0, k38, a1, a2, fun i hi => ⟨?_, (a3 i hi).2⟩, a4, a5⟩
      show fb_I u2 106 (40 * l + i) = _
      rw [hd.2.2 106 (40 * l + i) (by omega)]
      exact (a3 i hi).1

/-! define: the call -/
theorem fb_Vc.of {u w : fb_M} {n N : Nat} (hB : fb_B u n N) {D : Nat → Nat → Prop} (hd : fb_df u w D) (h : ∀ a k, 104 ≤ a → a ≤ 107 → ¬ D a k) : fb_Vc u n N w :=
  ⟨hd.St hB.1, hB.2.1.dfv hd (h 104 1 (by omega) (by omega)) (fun k => h 105 k (by omega) (by omega)), hB.2.2.dfv hd (h 104 4 (by omega) (by omega)) (fun k => h 106 k (by omega) (by omega)) (fun k => h 107 k (by omega) (by omega))⟩
def fb_rs (v : fb_M) : fb_M := fb_wI (fb_wI (fb_wI (fb_wI (fb_wI v 104 17 0) 104 18 0) 104 19 0) 104 20 0) 104 21 0
theorem fb_rs_df (v : fb_M) : fb_df v (fb_rs v) (fun a k => a = 104 ∧ 17 ≤ k ∧ k ≤ 21) := by
  unfold fb_rs
  exact (((((fb_df.rf v _).wI ⟨rfl, by omega, by omega⟩).wI ⟨rfl, by omega, by omega⟩).wI ⟨rfl, by omega, by omega⟩).wI ⟨rfl, by omega, by omega⟩).wI ⟨rfl, by omega, by omega⟩
theorem fb_rs_v (v : fb_M) : fb_I (fb_rs v) 104 17 = nI 0 ∧ fb_I (fb_rs v) 104 18 = nI 0 ∧ fb_I (fb_rs v) 104 19 = nI 0 ∧ fb_I (fb_rs v) 104 20 = 0 ∧ fb_I (fb_rs v) 104 21 = 0 := by
  unfold fb_rs
  refine ⟨?_, ?_, ?_, ?_, ?_⟩ <;> simp only [fb_I_wI] <;> rfl
/-- the book's row beside what the reference has just set to nothing -/
theorem fb_RL0 {u w v : fb_M} {n N f : Nat} (hW : fb_Wc u w) (hV : fb_Vc u n N v) (h3 : fb_I w (23 + 6 * f) 3 = nI 0) (h4 : fb_I w (23 + 6 * f) 4 = nI 0) (h5 : fb_I w (23 + 6 * f) 5 = nI 0) : fb_RL u n N f w (fb_rs v) 0 0 0 := by
  obtain ⟨r1, r2, r3, r4, r5⟩ := fb_rs_v v
  exact ⟨hW, hV.df (fb_rs_df v) (by omega) (by omega) (fun a k h1 h2 => by omega), r4, ⟨h3, r1⟩, ⟨h4, r2⟩, fun _ => 0, fun _ => 0, fun _ => 0, h5, fun k hk => by omega, fun k hk => by omega, fun h => by omega, fun k hk => by omega, Or.inl ⟨rfl, rfl⟩⟩
theorem fb_RO0 {u w v : fb_M} {n N f : Nat} (hW : fb_Wc u w) (hV : fb_Vc u n N v) (h6 : fb_I w (23 + 6 * f) 6 = nI 0) : fb_RO u n N f w (fb_rs v) 0 := by
  obtain ⟨r1, r2, r3, r4, r5⟩ := fb_rs_v v
  exact ⟨hW, hV.df (fb_rs_df v) (by omega) (by omega) (fun a k h1 h2 => by omega), r5, ⟨h6, r3⟩, fun _ => 0, fun _ => 0, fun k hk => by omega, fun k hk => by omega⟩
theorem fb_at_le {at_ : Nat → Nat} {np : Nat} (h0 : 0 < np → at_ 0 = 0) (hs : ∀ k, k + 1 < np → at_ (k + 1) = at_ k ∨ at_ (k + 1) = at_ k + 1) : ∀ k, k < np → at_ k ≤ k
  | 0, h => by rw [h0 h]; exact Nat.le_refl _
  | k + 1, h => by
    have := fb_at_le h0 hs k (by omega)
    have := hs k h
    omega
theorem op_define {u : fb_M} (hv : fb_Inv u) {x : Int32} (hx : x = 0 ∨ x = 1) : ∃ r u1 u2, fX8_define u 0 x = some (r, u1) ∧ fX9_define u1 104 x = some (r, u2) ∧ fb_Inv u2 := by
  have hv0 := hv
  obtain ⟨hS, ⟨n, hT⟩, ⟨N, hL⟩, ⟨F, hF8, hF, hFm, hfd⟩, -⟩ := hv
  have hB : fb_B u n N := ⟨hS, hT, hL⟩
  have h80 := hB.2.1.1
  have e8 : fX8_define u 0 x = (fX3_read u 21 (23 + 6 * F)).bind fun r15 => (if 0 ≤ r15.1 then (if x = 0 then (jX8_define_39 0 x (23 + 6 * F) r15.2) else (if (fb_I r15.2 (23 + 6 * F) 0) = 0 then (jX8_define_39 0 x (23 + 6 * F) r15.2) else (some ((-6), r15.2)))) else (some (r15.1, r15.2))) := by
    unfold fX8_define
    rw [hS.ld_0_3, fb_n22, hF, fb_gix (show F < 9 by omega) (by omega), nI_clamp (n := F) (by omega), hS.ld_find (show F < 9 by omega), hS.ld_0_2]
  have hneg : ∀ (c : Int32) w, ¬ 0 ≤ c → fX3_read u 21 (23 + 6 * F) = some (c, w) → fX8_define u 0 x = some (c, w) := by
    intro c w hc h
    rw [e8, h, Option.bind_some]
    exact if_neg hc
  have hVw : ∀ {w : fb_M}, fb_df u w (fb_DU F) → fb_Vc u n N w := fun h => fb_Vc.of hB h (fun a k h1 h2 => by unfold fb_DU; omega)
  have hIw : ∀ {w : fb_M}, fb_df u w (fb_DU F) → fb_Inv w := fun h => hv0.DS hF8 hF (h.mo (fun a k q => Or.inl q))
  rcases eReadC hB hF8 with ⟨w, d, hs, hr⟩ | ⟨s, p, w, hs, d, ⟨hby, hr⟩ | ⟨hby, hg, hr⟩ | ⟨hby, hg, hr, z0, z1, z3, z4, z5, z6⟩⟩
  · exact ⟨-1, w, w, hneg _ _ (by decide) hr, eDefM0 hB (hVw d) x hs, hIw d⟩
  · exact ⟨-1, w, w, hneg _ _ (by decide) hr, (eDefM hB (hVw d) x hs (fb_hd_in hB (fb_sj_in hs).2.2.1)).1 hby, hIw d⟩
  · exact ⟨-2, w, w, hneg _ _ (by decide) hr, (eDefM hB (hVw d) x hs (fb_hd_in hB (fb_sj_in hs).2.2.1)).2.1 hby hg, hIw d⟩
  obtain ⟨s4, p6, pn, -⟩ := fb_sj_in hs
  have hin := fb_hd_in hB pn
  have hM : ∀ v, fb_Vc u n N v → fX9_define v 104 x = jX9_define_208 104 x (nI s) (nI (fb_hd (fb_tx u n) n p).2.1) (nI (fb_hd (fb_tx u n) n p).2.2.2) v := fun v hV => (eDefM hB hV x hs hin).2.2 hby hg
  generalize fb_hd (fb_tx u n) n p = hdd at *
  obtain ⟨tf, pe, c, lim⟩ := hdd
  dsimp only at *
  obtain ⟨E, hE⟩ : ∃ E, E = fb_po (fb_tx u n) n (n - (pe + 2)) (pe + 2) := ⟨_, rfl⟩
  obtain ⟨E1, E2, E3⟩ := fb_po_in (fb_tx u n) n (n - (pe + 2)) (pe + 2) (by omega)
  rw [← hE] at hr E1 E2 E3
  have W : fb_Wc u w := d.mo (fun a k q => by unfold fb_DU at q; omega)
  obtain ⟨r, w', -, g1, -, g3, -, -⟩ := eRest (f := F) hB (by omega) E1 E2 E3 (fb_RL0 W (hVw d) z3 z4 z5) (fb_RO0 W (hVw d) z6)
  have dw' : fb_df u w' (fb_DU F) := d.tr (g3.mo (fun a k q => by unfold fb_DC fb_DC2 at q; unfold fb_DU; omega))
  have hread : fX3_read u 21 (23 + 6 * F) = some (r, w') := hr.trans g1
  have hrel : ∀ v, fb_Vc u n N v → ∃ v', fX9_readRest v 104 (nI pe + 2) = some v' ∧ fb_df v v' (fun a k => (a = 104 ∧ 17 ≤ k ∧ k ≤ 27) ∨ (119 ≤ a ∧ a ≤ 123)) ∧ ((r = -3 ∧ fb_I v' 104 20 = 1) ∨ (r = -4 ∧ fb_I v' 104 20 = 0 ∧ fb_I v' 104 21 = 1) ∨ (∃ na np no, r = (if 6 < np ∨ 3 < no then -5 else 0) ∧ fb_RL u n N F w' v' na np 0 ∧ fb_RO u n N F w' v' no ∧ np < 2 ^ 20 ∧ no < 2 ^ 20)) := by
    intro v hV
    obtain ⟨r2, w2, v', a1, a2, a3, a4, a5⟩ := eRest (f := F) hB (by omega) E1 E2 E3 (fb_RL0 W hV z3 z4 z5) (fb_RO0 W hV z6)
    rw [g1] at a1
    cases a1
    refine ⟨v', ?_, ((fb_rs_df v).mo (fun a k q => by omega)).tr (a4.mo (fun a k q => by unfold fb_DM fb_DM2 at q; omega)), a5⟩
    unfold fX9_readRest
    rw [show nI pe + 2 = nI (pe + 2) from nI_add pe 2]
    refine (ePoM hB (hV.df (fb_rs_df v) (by omega) (by omega) (fun a k h1 h2 => by omega)) (nI (pe + 2)) (n - (pe + 2)) (pe + 2) fb_F (by omega) (by unfold fb_F; omega)).trans ?_
    rw [← hE]; exact a2
  have hIs : ∀ {v' : fb_M}, fb_df w' v' (fun a k => (a = 104 ∧ 17 ≤ k ∧ k ≤ 27) ∨ (119 ≤ a ∧ a ≤ 123)) → fb_Inv v' := fun h => hv0.DS hF8 hF ((dw'.mo (fun a k q => Or.inl q)).tr (h.mo (fun a k q => Or.inr q)))
  have h289 : ∀ (c : Int32) v', ¬ 0 ≤ c → jX9_define_289 104 x (nI s) (nI lim) c v' = some (c, v') := fun c v' hc => by unfold jX9_define_289; exact if_neg hc
  obtain ⟨v', b1, b2, b3⟩ := hrel w' (hVw dw')
  have z0' : fb_I w' (23 + 6 * F) 0 = nI s := by rw [g3.2.2 _ 0 (by unfold fb_DC fb_DC2; omega), z0]
  have z1' : fb_I w' (23 + 6 * F) 1 = nI lim := by rw [g3.2.2 _ 1 (by unfold fb_DC fb_DC2; omega), z1]
  have hw04 : fb_I w' 0 4 = nI F := by rw [dw'.2.2 0 4 (by unfold fb_DU; omega), hF]
  rcases b3 with ⟨rfl, b4⟩ | ⟨rfl, b4, b5⟩ | ⟨na, np, no, hrr, hRL, hRO, hnp, hno⟩
  · refine ⟨-3, w', v', hneg _ _ (by decide) hread, ?_, hIs b2⟩
    rw [hM _ (hVw dw')]
    unfold jX9_define_208
    rw [b1, Option.bind_some, if_neg (show ¬ fb_I v' 104 20 = 0 by rw [b4]; decide)]
    exact h289 _ _ (by decide)
  · refine ⟨-4, w', v', hneg _ _ (by decide) hread, ?_, hIs b2⟩
    rw [hM _ (hVw dw')]
    unfold jX9_define_208
    rw [b1, Option.bind_some, if_pos b4, if_neg (show ¬ fb_I v' 104 21 = 0 by rw [b5]; decide)]
    exact h289 _ _ (by decide)
  have h208 : ∀ v v' : fb_M, fX9_readRest v 104 (nI pe + 2) = some v' → fb_RL u n N F w' v' na np 0 → fb_RO u n N F w' v' no → jX9_define_208 104 x (nI s) (nI pe) (nI lim) v = if 6 < np ∨ 3 < no then some (-5, v') else (if x = 0 then jX9_define_274 104 x (nI s) (nI lim) v' else if nI s = 0 then jX9_define_274 104 x (nI s) (nI lim) v' else some (-6, v')) := by
    intro v v' c1 c2 c3
    unfold jX9_define_208
    rw [c1, Option.bind_some, if_pos c2.2.2.1, if_pos c3.2.2.1, c2.2.2.2.2.1.2, c3.2.2.2.1.2, h289 (-5) v' (by decide), h289 (-6) v' (by decide)]
    by_cases hp : 6 < np
    · rw [if_pos (show (6 : Int32) < nI np from nI_lt (a := 6) hp (by omega)), if_pos (Or.inl hp)]
    · rw [if_neg (show ¬ (6 : Int32) < nI np from nI_nlt (a := 6) (by omega) (by omega))]
      by_cases ho : 3 < no
      · rw [if_neg (show ¬ nI no ≤ (3 : Int32) from nI_ge (a := 3) ho (by omega)), if_pos (Or.inr ho)]
      · rw [if_pos (show nI no ≤ (3 : Int32) from nI_le (b := 3) (by omega) (by omega)), if_neg (c := 6 < np ∨ 3 < no) (fun q => q.elim hp ho)]
  by_cases hlong : 6 < np ∨ 3 < no
  · rw [if_pos hlong] at hrr
    subst hrr
    refine ⟨-5, w', v', hneg _ _ (by decide) hread, ?_, hIs b2⟩
    rw [hM _ (hVw dw'), h208 _ _ b1 hRL hRO, if_pos hlong]
  rw [if_neg hlong] at hrr
  subst hrr
  have e8b : fX8_define u 0 x = if x = 0 then jX8_define_39 0 x (23 + 6 * F) w' else if nI s = 0 then jX8_define_39 0 x (23 + 6 * F) w' else some (-6, w') := by
    rw [e8, hread, Option.bind_some]
    refine (if_pos (show (0 : Int32) ≤ 0 by decide)).trans ?_
    rw [← z0']
  by_cases h6 : ¬ x = 0 ∧ ¬ nI s = 0
  · refine ⟨-6, w', v', ?_, ?_, hIs b2⟩
    · rw [e8b, if_neg h6.1, if_neg h6.2]
    · rw [hM _ (hVw dw'), h208 _ _ b1 hRL hRO, if_neg hlong, if_neg h6.1, if_neg h6.2]
  have hsel : ∀ {A B : Option (Int32 × fb_M)}, (if x = 0 then A else if nI s = 0 then A else B) = A := by
    intro A B
    by_cases h0 : x = 0
    · rw [if_pos h0]
    · rw [if_neg h0, if_pos (Decidable.not_not.mp (fun q => h6 ⟨h0, q⟩))]
  rw [hsel] at e8b
  by_cases hF88 : F = 8
  · refine ⟨-7, w', v', ?_, ?_, hIs b2⟩
    · rw [e8b]
      unfold jX8_define_39
      rw [hw04, if_neg (show ¬ nI F < 8 from nI_nlt (b := 8) (by omega) (by omega))]
    · rw [hM _ (hVw dw'), h208 _ _ b1 hRL hRO, if_neg hlong, hsel]
      unfold jX9_define_274
      rw [if_pos (show fb_I v' 104 5 = 8 by rw [b2.2.2 104 5 (by omega), dw'.2.2 104 5 (by unfold fb_DU; omega), hFm, hF88]; rfl)]
      exact h289 _ _ (by decide)
  -- it is kept
  obtain ⟨sg, hsg, rfl⟩ : ∃ sg, sg < 2 ∧ x = nI sg := by
    rcases hx with rfl | rfl
    · exact ⟨0, by omega, rfl⟩
    · exact ⟨1, by omega, rfl⟩
  have hs0 : sg = 0 ∨ s = 0 := by
    by_cases g1 : sg = 0
    · exact Or.inl g1
    · by_cases g2 : s = 0
      · exact Or.inr g2
      · exact absurd ⟨nI_ne0 (by omega) (by omega), nI_ne0 (by omega) (by omega)⟩ h6
  obtain ⟨u1, q1⟩ : ∃ y, y = fb_wI (fb_wI (fb_wI w' (23 + 6 * F) 2 (nI sg)) 1 1 0) 0 4 (nI (F + 1)) := ⟨_, rfl⟩
  have e1 : fX8_define u 0 (nI sg) = some (nI F, u1) := by
    rw [e8b, q1]
    unfold jX8_define_39 fX0_clear
    rw [hw04, if_pos (show nI F < 8 from nI_lt (b := 8) (by omega) (by omega)), fb_gdT hx, ((dw'.St hS).wI _ _ _).ld_0_0, Option.bind_some, fb_IwI_eq, fb_IwI_ne _ _ (by omega), fb_IwI_ne _ _ (by omega), hw04, nI_1, nI_pred]
  have d1 : fb_df w' u1 (fun a k => (a = 23 + 6 * F ∧ k = 2) ∨ (a = 1 ∧ k = 1) ∨ (a = 0 ∧ k = 4)) := by
    rw [q1]
    refine fb_df.wI (fb_df.wI (fb_df.wI (fb_df.rf _ _) ?_) ?_) ?_
    · exact Or.inl ⟨rfl, rfl⟩
    · exact Or.inr (Or.inl ⟨rfl, rfl⟩)
    · exact Or.inr (Or.inr ⟨rfl, rfl⟩)
  have du1 : fb_df u u1 (fun a k => fb_DU F a k ∨ (a = 1 ∧ k = 1) ∨ (a = 0 ∧ k = 4)) := (dw'.mo (fun a k q => Or.inl q)).tr (d1.mo (fun a k q => by unfold fb_DU; omega))
  have y2 : fb_I u1 (23 + 6 * F) 2 = nI sg := by rw [q1, fb_IwI_ne _ _ (by omega), fb_IwI_ne _ _ (by omega), fb_IwI_eq]
  have y11 : fb_I u1 1 1 = nI 0 := by rw [q1, fb_IwI_ne _ _ (by omega), fb_IwI_eq]; rfl
  have y04 : fb_I u1 0 4 = nI (F + 1) := by rw [q1, fb_IwI_eq]
  have V1 : fb_Vc u n N u1 := fb_Vc.of hB du1 (fun a k h1 h2 => by unfold fb_DU; omega)
  obtain ⟨v1, c1, c2, c3⟩ := hrel u1 V1
  obtain ⟨na', np', no', crr, cRL, cRO, cnp, cno⟩ : ∃ na np no, (0 : Int32) = (if 6 < np ∨ 3 < no then -5 else 0) ∧ fb_RL u n N F w' v1 na np 0 ∧ fb_RO u n N F w' v1 no ∧ np < 2 ^ 20 ∧ no < 2 ^ 20 := by
    rcases c3 with ⟨q, -⟩ | ⟨q, -, -⟩ | q
    · exact absurd q (by decide)
    · exact absurd q (by decide)
    · exact q
  have hnpe : np' = np := (nI_eq (by omega) (by omega)).mp (cRL.2.2.2.2.1.1.symm.trans hRL.2.2.2.2.1.1)
  have hnoe : no' = no := (nI_eq (by omega) (by omega)).mp (cRO.2.2.2.1.1.symm.trans hRO.2.2.2.1.1)
  subst hnpe
  subst hnoe
  have hp6 : np' ≤ 6 := by omega
  have ho3 : no' ≤ 3 := by omega
  obtain ⟨-, cV, -, ⟨cw3, cv17⟩, ⟨cw4, cv18⟩, lf, wd, at_, cw5, t1, t2, t3, t4, t5⟩ := id cRL
  obtain ⟨-, -, -, ⟨cw6, cv19⟩, lo, dn, s1, s2⟩ := id cRO
  have v5 : fb_I v1 104 5 = nI F := by rw [c2.2.2 104 5 (by omega), du1.2.2 104 5 (by unfold fb_DU; omega), hFm]
  obtain ⟨v2, k1, k2, ⟨k108, k109, k110, k111, k112, k113⟩, k3, k4⟩ := eKeep cV.1 (show F < 8 by omega) hp6 ho3 hsg v5 cv17 cv18 cv19 dn (fun k hk => ⟨(s1 k hk).2, (s2 k hk (by omega)).2.2⟩) (nI s) (nI lim)
  obtain ⟨u2, q2⟩ : ∃ y, y = fb_wI (fb_wI v2 104 1 0) 104 5 (nI (F + 1)) := ⟨_, rfl⟩
  have e2 : fX9_define u1 104 (nI sg) = some (nI F, u2) := by
    have v25 : fb_I v2 104 5 = nI F := by rw [k2.2.2 104 5 (by unfold fb_DK; omega), v5]
    have h208' : jX9_define_208 104 (nI sg) (nI s) (nI pe) (nI lim) u1 = jX9_define_274 104 (nI sg) (nI s) (nI lim) v1 := by
      unfold jX9_define_208
      rw [c1, Option.bind_some, if_pos cRL.2.2.1, if_pos cRO.2.2.1, cv18, cv19, if_neg (show ¬ (6 : Int32) < nI np' from nI_nlt (a := 6) (by omega) (by omega)), if_pos (show nI no' ≤ (3 : Int32) from nI_le (b := 3) (by omega) (by omega)), hsel]
    rw [hM _ V1, h208']
    unfold jX9_define_274 jX9_define_289
    rw [v5, if_neg (show ¬ nI F = 8 from fun q => hF88 ((nI_eq (b := 8) (by omega) (by omega)).mp q)), if_pos (by decide), k1, Option.bind_some, fb_IwI_eq, fb_IwI_ne _ _ (by omega), v25, nI_1, nI_pred, q2]
  refine ⟨nI F, u1, u2, e1, e2, ?_⟩
  have d2 : fb_df v2 u2 (fun a k => a = 104 ∧ (k = 1 ∨ k = 5)) := by
    rw [q2]
    refine fb_df.wI (fb_df.wI (fb_df.rf _ _) ?_) ?_
    · exact ⟨rfl, Or.inl rfl⟩
    · exact ⟨rfl, Or.inr rfl⟩
  have d3 : fb_df u1 u2 (fun a k => (a = 104 ∧ (k = 1 ∨ k = 5 ∨ (17 ≤ k ∧ k ≤ 27))) ∨ (119 ≤ a ∧ a ≤ 123) ∨ fb_DK F a k) := ((c2.mo (fun a k q => by omega)).tr (k2.mo (fun a k q => Or.inr (Or.inr q)))).tr (d2.mo (fun a k q => by omega))
  have d : fb_df u u2 (fun a k => (fb_DU F a k ∨ (a = 1 ∧ k = 1) ∨ (a = 0 ∧ k = 4)) ∨ (a = 104 ∧ (k = 1 ∨ k = 5 ∨ (17 ≤ k ∧ k ≤ 27))) ∨ (119 ≤ a ∧ a ≤ 123) ∨ fb_DK F a k) := (du1.mo (fun a k q => Or.inl q)).tr (d3.mo (fun a k q => Or.inr q))
  have m1 : fb_I u2 104 1 = nI 0 := by rw [q2, fb_IwI_ne _ _ (by omega), fb_IwI_eq]; rfl
  have m5 : fb_I u2 104 5 = nI (F + 1) := by rw [q2, fb_IwI_eq]
  obtain ⟨hS', hT', hL', hF', hE', hO', hA', hR'⟩ := hv0
  have hlow : ∀ a k, a < 104 → fb_I u2 a k = fb_I u1 a k := fun a k h => d3.2.2 a k (by unfold fb_DK; omega)
  have hk2 : ∀ a k, 108 ≤ a → a ≤ 118 → fb_I u2 a k = fb_I v2 a k := fun a k h1 h2 => d2.2.2 a k (by omega)
  refine ⟨d.St hS, ⟨0, by omega, by rw [hlow 1 1 (by omega), y11], m1, fun i hi => by omega⟩, hL'.fr (d.kp fun a k ha => by unfold fb_PL at ha; unfold fb_DU fb_DK; omega) (d.2.2 _ _ (by unfold fb_DU fb_DK; omega)), ⟨F + 1, by omega, by rw [hlow 0 4 (by omega), y04], m5, fun g hg => ?_⟩, hE'.fr (d.kp fun a k ha => by unfold fb_PS at ha; unfold fb_DU fb_DK; omega) (d.2.2 _ _ (by unfold fb_DU fb_DK; omega)), hO'.fr (d.kp fun a k ha => by unfold fb_PO at ha; unfold fb_DU fb_DK; omega), hA'.fr (d.kp fun a k ha => by unfold fb_PA at ha; unfold fb_DU fb_DK; omega) (d.2.2 _ _ (by unfold fb_DU fb_DK; omega)) (d.2.2 _ _ (by unfold fb_DU fb_DK; omega)), hR'.fr (d.kp fun a k ha => by unfold fb_PR at ha; unfold fb_DU fb_DK; omega) (d.2.2 _ _ (by unfold fb_DU fb_DK; omega)) (d.2.2 _ _ (by unfold fb_DU fb_DK; omega))⟩
  by_cases hgF : g = F
  · subst hgF
    have hcl : ∀ a k, 23 + 6 * g ≤ a → a ≤ 28 + 6 * g → ¬ (a = 23 + 6 * g ∧ k = 2) → fb_I u2 a k = fb_I w' a k := fun a k h1 h2 h3 => by rw [hlow a k (by omega), d1.2.2 a k (by omega)]
    have hna6 : na' ≤ 6 := by
      rcases t5 with t5 | t5
      · omega
      · have := fb_at_le t3 t4 (np' - 1) (by omega)
        omega
    refine ⟨s, lim, sg, na', np', no', lf, wd, at_, lo, dn, s4, hin.2.2.1, ⟨hsg, hs0⟩, by omega, hp6, ho3, ⟨?_, ?_⟩, ⟨?_, ?_⟩, ⟨?_, ?_⟩, ⟨?_, ?_⟩, ⟨?_, ?_⟩, ?_, ⟨?_, ?_⟩, fun k hk => ?_, fun k hk => ?_, ?_, ?_, t4⟩
    · rw [hcl _ 0 (by omega) (by omega) (by omega), z0']
    · rw [hk2 108 g (by omega) (by omega), k108]
    · rw [hcl _ 1 (by omega) (by omega) (by omega), z1']
    · rw [hk2 109 g (by omega) (by omega), k109]
    · rw [hlow _ 2 (by omega), y2]
    · rw [hk2 110 g (by omega) (by omega), k110]
    · rw [hcl _ 3 (by omega) (by omega) (by omega), cw3]
    · rw [hk2 111 g (by omega) (by omega), k111]
    · rw [hcl _ 4 (by omega) (by omega) (by omega), cw4]
    · rw [hk2 112 g (by omega) (by omega), k112]
    · rw [hcl _ 5 (by omega) (by omega) (by omega), cw5]
    · rw [hcl _ 6 (by omega) (by omega) (by omega), cw6]
    · rw [hk2 113 g (by omega) (by omega), k113]
    · obtain ⟨⟨a1, a2, a3⟩, a4, a5, a6⟩ := t2 k hk (by omega)
      obtain ⟨a7, a8, a9⟩ := k3 k hk
      refine ⟨⟨(t1 k hk).1, ?_, ?_⟩, ⟨(t1 k hk).2.1, ?_, ?_⟩, ⟨(t1 k hk).2.2, ?_, ?_⟩⟩
      · rw [hcl _ k (by omega) (by omega) (by omega), a1]
      · show fb_I u2 114 (6 * g + k) = _
        rw [hk2 114 _ (by omega) (by omega), a7, a4]
      · rw [hcl _ k (by omega) (by omega) (by omega), a2]
      · show fb_I u2 115 (6 * g + k) = _
        rw [hk2 115 _ (by omega) (by omega), a8, a5]
      · rw [hcl _ k (by omega) (by omega) (by omega), a3]
      · show fb_I u2 116 (6 * g + k) = _
        rw [hk2 116 _ (by omega) (by omega), a9, a6]
    · obtain ⟨⟨a1, a2⟩, a4, a5⟩ := s2 k hk (by omega)
      obtain ⟨a7, a8⟩ := k4 k hk
      refine ⟨⟨(s1 k hk).1, ?_, ?_⟩, ⟨(s1 k hk).2, ?_, ?_⟩⟩
      · rw [hcl _ k (by omega) (by omega) (by omega), a1]
      · show fb_I u2 117 (3 * g + k) = _
        rw [hk2 117 _ (by omega) (by omega), a7, a4]
      · rw [hcl _ k (by omega) (by omega) (by omega), a2]
      · show fb_I u2 118 (3 * g + k) = _
        rw [hk2 118 _ (by omega) (by omega), a8, a5]
    · intro h; rcases t5 with t5 | t5 <;> omega
    · intro h
      refine ⟨t3 h, ?_⟩
      rcases t5 with t5 | t5 <;> omega
  · obtain ⟨sx, lim', sg', na2, np2, no2, lf2, wd2, at2, lo2, dn2, f1, f2, f3, f4, f5, f6, ⟨f7, f8⟩, ⟨f9, f10⟩, ⟨f11, f12⟩, ⟨f13, f14⟩, ⟨f15, f16⟩, f17, ⟨f18, f19⟩, f20, f21, f22⟩ := hfd g (by omega)
    have hrow : ∀ a, 23 + 6 * g ≤ a → a ≤ 28 + 6 * g → fb_I u2 a = fb_I u a := fun a h1 h2 => d.I (fun k => by unfold fb_DU fb_DK; omega)
    unfold fb_fdu
    rw [hrow (23 + 6 * g) (by omega) (by omega), hrow (24 + 6 * g) (by omega) (by omega), hrow (25 + 6 * g) (by omega) (by omega), hrow (26 + 6 * g) (by omega) (by omega), hrow (27 + 6 * g) (by omega) (by omega), hrow (28 + 6 * g) (by omega) (by omega), d.2.2 108 g (by unfold fb_DU fb_DK; omega), d.2.2 109 g (by unfold fb_DU fb_DK; omega), d.2.2 110 g (by unfold fb_DU fb_DK; omega), d.2.2 111 g (by unfold fb_DU fb_DK; omega), d.2.2 112 g (by unfold fb_DU fb_DK; omega), d.2.2 113 g (by unfold fb_DU fb_DK; omega)]
    refine ⟨sx, lim', sg', na2, np2, no2, lf2, wd2, at2, lo2, dn2, f1, f2, f3, f4, f5, f6, ⟨f7, f8⟩, ⟨f9, f10⟩, ⟨f11, f12⟩, ⟨f13, f14⟩, ⟨f15, f16⟩, f17, ⟨f18, f19⟩, fun k hk => ?_, fun k hk => ?_, f22⟩
    · obtain ⟨⟨a1, a2, a3⟩, ⟨a4, a5, a6⟩, ⟨a7, a8, a9⟩⟩ := f20 k hk
      refine ⟨⟨a1, a2, ?_⟩, ⟨a4, a5, ?_⟩, ⟨a7, a8, ?_⟩⟩
      · show fb_I u2 114 (6 * g + k) = _
        rw [d.2.2 114 _ (by unfold fb_DU fb_DK; omega)]; exact a3
      · show fb_I u2 115 (6 * g + k) = _
        rw [d.2.2 115 _ (by unfold fb_DU fb_DK; omega)]; exact a6
      · show fb_I u2 116 (6 * g + k) = _
        rw [d.2.2 116 _ (by unfold fb_DU fb_DK; omega)]; exact a9
    · obtain ⟨⟨a1, a2, a3⟩, ⟨a4, a5, a6⟩⟩ := f21 k hk
      refine ⟨⟨a1, a2, ?_⟩, ⟨a4, a5, ?_⟩⟩
      · show fb_I u2 117 (3 * g + k) = _
        rw [d.2.2 117 _ (by unfold fb_DU fb_DK; omega)]; exact a3
      · show fb_I u2 118 (3 * g + k) = _
        rw [d.2.2 118 _ (by unfold fb_DU fb_DK; omega)]; exact a6

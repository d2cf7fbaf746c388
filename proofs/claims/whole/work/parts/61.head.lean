/-! define: the head of the text, by the reference; where the orders begin -/
theorem eLimM {u v : fb_M} {n N : Nat} (hB : fb_B u n N) (hV : fb_Vc u n N v) (x1 x2 : Int32) {p : Nat} (hp : p ≤ 6) : ∃ x4 x5 : Int32, ((x4 = 0 ∧ x5 = 0) ↔ (fb_hd (fb_tx u n) n p).1 = 0) ∧ jX9_define_24 104 x1 x2 (nI p) v = jX9_define_161 104 x1 x2 (nI (fb_hd (fb_tx u n) n p).2.1) x4 x5 (nI (fb_hd (fb_tx u n) n p).2.2.1) (nI (fb_hd (fb_tx u n) n p).2.2.2) v := by
  have h80 := hB.2.1.1
  have n1 : fb_I v 104 1 = nI n := hV.2.1.2.2.1
  have q1 : fX9_stands v 104 (nI p) (nI n) 5533552 = some (if 3 + p ≤ n ∧ fb_st (fb_tx u n) (fb_by 4) p = true then 1 else 0) := eSd hB hV fb_kTop (by decide) (by omega) (Nat.le_refl n)
  have q2 : fX9_stands v 104 (nI p) (nI n) 302416819060 = some (if 5 + p ≤ n ∧ fb_st (fb_tx u n) (fb_by 5) p = true then 1 else 0) := eSd hB hV fb_kFirst (by decide) (by omega) (Nat.le_refl n)
  have hgo : ∀ (x4 x5 : Int32) q, ¬ (x4 = 0 ∧ x5 = 0) → q ≤ n → gX9_define_83 104 x1 x2 x4 x5 v fb_F (nI q) 0 0 = jX9_define_161 104 x1 x2 (nI (fb_fgl (fb_tx u n) (n + 1 - q) q 0 0).1) x4 x5 (nI (fb_fgl (fb_tx u n) (n + 1 - q) q 0 0).2.1) (nI (if (fb_fgl (fb_tx u n) (n + 1 - q) q 0 0).2.1 = 0 then 1 else (fb_fgl (fb_tx u n) (n + 1 - q) q 0 0).2.2)) v := by
    intro x4 x5 q hx hq
    refine (eFigM hB hV hx (n + 1 - q) q 0 0 fb_F (by omega) (by unfold fb_F; omega) hq (by omega)).trans ?_
    obtain ⟨i1, i2, i3⟩ := fb_fl_in hB (n + 1 - q) q 0 0 hq
    generalize fb_fgl (fb_tx u n) (n + 1 - q) q 0 0 = r at *
    obtain ⟨pe, c, x⟩ := r
    dsimp only at *
    have e2 : jX9_define_140 104 x1 x2 (nI pe) x4 x5 (nI c) (nI x) v = jX9_define_150 104 x1 x2 (nI pe) x4 x5 (nI c) (nI x) v := by
      unfold jX9_define_140
      by_cases h4 : x4 = 0
      · rw [if_pos h4, if_neg (fun q => hx ⟨h4, q⟩)]
      · rw [if_neg h4]
    rw [e2]
    unfold jX9_define_150
    by_cases hc : c = 0
    · rw [if_pos (show nI c = 0 by rw [hc]; decide), if_pos hc]; rfl
    · rw [if_neg (nI_ne0 (by omega) (by omega)), if_neg hc]
  unfold jX9_define_24 fb_hd
  rw [n1, q1, q2, Option.bind_some, Option.bind_some]
  by_cases hA : 3 + p ≤ n ∧ fb_st (fb_tx u n) (fb_by 4) p = true
  · rw [if_pos hA, if_pos hA, if_neg fb_10, show nI p + 3 = nI (p + 3) from nI_add p 3]
    refine ⟨1, _, ⟨fun q => absurd q.1 fb_10, fun q => absurd (show (1 : Nat) = 0 from q) (by omega)⟩, hgo 1 _ (p + 3) (fun q => fb_10 q.1) (by omega)⟩
  · rw [if_neg hA, if_neg hA, if_pos rfl]
    by_cases hC : 5 + p ≤ n ∧ fb_st (fb_tx u n) (fb_by 5) p = true
    · rw [if_pos hC, if_pos hC, if_neg fb_10, show nI p + 5 = nI (p + 5) from nI_add p 5]
      refine ⟨0, 1, ⟨fun q => absurd q.2 fb_10, fun q => absurd (show (1 : Nat) = 0 from q) (by omega)⟩, hgo 0 1 (p + 5) (fun q => fb_10 q.2) (by omega)⟩
    · rw [if_neg hC, if_neg hC, if_pos rfl]
      refine ⟨0, 0, ⟨fun _ => rfl, fun _ => ⟨rfl, rfl⟩⟩, ?_⟩
      show bX9_define_83 _ 104 x1 x2 0 0 (nI p) 0 0 v = _
      unfold bX9_define_83 jX9_define_140
      rfl
theorem eDefM0 {u v : fb_M} {n N : Nat} (hB : fb_B u n N) (hV : fb_Vc u n N v) (x1 : Int32) (hs : fb_sj (fb_tx u n) n = none) : fX9_define v 104 x1 = some (-1, v) := by
  unfold fX9_define
  rw [eSubjM hB hV, hs, Option.bind_some]
  refine (if_neg (show ¬ (-1 : Int32) = 0 by decide)).trans ((if_neg (show ¬ (-1 : Int32) = 1 by decide)).trans ?_)
  obtain ⟨x4, x5, -, h⟩ := eLimM hB hV x1 (-1) (p := 6) (by omega)
  refine Eq.trans h ?_
  unfold jX9_define_161
  exact if_pos (by decide)
theorem eDefM {u v : fb_M} {n N : Nat} (hB : fb_B u n N) (hV : fb_Vc u n N v) (x1 : Int32) {s p : Nat} (hs : fb_sj (fb_tx u n) n = some (s, p)) (hc3 : (fb_hd (fb_tx u n) n p).2.1 ≤ n ∧ (fb_hd (fb_tx u n) n p).2.2.1 ≤ n ∧ (fb_hd (fb_tx u n) n p).2.2.2 < 1000 ∧ (fb_hd (fb_tx u n) n p).1 < 2) :
    (¬ (2 + (fb_hd (fb_tx u n) n p).2.1 ≤ n ∧ fb_st (fb_tx u n) (fb_by 6) (fb_hd (fb_tx u n) n p).2.1 = true) → fX9_define v 104 x1 = some (-1, v)) ∧
    ((2 + (fb_hd (fb_tx u n) n p).2.1 ≤ n ∧ fb_st (fb_tx u n) (fb_by 6) (fb_hd (fb_tx u n) n p).2.1 = true) → ¬ ((fb_hd (fb_tx u n) n p).2.2.1 ≤ 3 ∧ ((fb_hd (fb_tx u n) n p).1 = 1 → 0 < (fb_hd (fb_tx u n) n p).2.2.2)) → fX9_define v 104 x1 = some (-2, v)) ∧
    ((2 + (fb_hd (fb_tx u n) n p).2.1 ≤ n ∧ fb_st (fb_tx u n) (fb_by 6) (fb_hd (fb_tx u n) n p).2.1 = true) → ((fb_hd (fb_tx u n) n p).2.2.1 ≤ 3 ∧ ((fb_hd (fb_tx u n) n p).1 = 1 → 0 < (fb_hd (fb_tx u n) n p).2.2.2)) → fX9_define v 104 x1 = jX9_define_208 104 x1 (nI s) (nI (fb_hd (fb_tx u n) n p).2.1) (nI (fb_hd (fb_tx u n) n p).2.2.2) v) := by
  have h80 := hB.2.1.1
  obtain ⟨s4, p6, pn, hps⟩ := fb_sj_in hs
  obtain ⟨x4, x5, hx, h⟩ := eLimM hB hV x1 (nI s) p6
  have e : fX9_define v 104 x1 = jX9_define_24 104 x1 (nI s) (nI p) v := by
    unfold fX9_define
    rw [eSubjM hB hV, hs, Option.bind_some]
    show (if nI s = 0 then jX9_define_24 104 x1 (nI s) 4 v else if nI s = 1 then jX9_define_24 104 x1 (nI s) 5 v else jX9_define_24 104 x1 (nI s) 6 v) = _
    by_cases s0 : s = 0
    · rw [if_pos (show nI s = 0 by rw [s0]; decide), hps, if_pos s0]; rfl
    · rw [if_neg (nI_ne0 (by omega) (by omega))]
      by_cases s1 : s = 1
      · rw [if_pos (show nI s = 1 by rw [s1]; decide), hps, if_neg s0, if_pos s1]; rfl
      · rw [if_neg (show ¬ nI s = 1 from fun q => s1 ((nI_eq (b := 1) (by omega) (by omega)).mp q)), hps, if_neg s0, if_neg s1]; rfl
  rw [e, h]
  generalize fb_hd (fb_tx u n) n p = r at *
  obtain ⟨tf, pe, c, lim⟩ := r
  dsimp only at *
  have n1 : fb_I v 104 1 = nI n := hV.2.1.2.2.1
  have q1 : fX9_stands v 104 (nI pe) (nI n) 17017 = some (if 2 + pe ≤ n ∧ fb_st (fb_tx u n) (fb_by 6) pe = true then 1 else 0) := eSd hB hV fb_kBy (by decide) (by omega) (Nat.le_refl n)
  unfold jX9_define_161
  rw [if_neg (nI_pos (by omega)), n1, q1, Option.bind_some]
  have e200 : ∀ y, jX9_define_200 104 x1 (nI s) (nI pe) (nI lim) v = y ↔ (if lim = 0 then some (-2, v) else jX9_define_208 104 x1 (nI s) (nI pe) (nI lim) v) = y := by
    intro y
    unfold jX9_define_200
    by_cases hl : lim = 0
    · rw [if_pos (show nI lim = 0 by rw [hl]; decide), if_pos hl]
    · rw [if_neg (nI_ne0 (by omega) (by omega)), if_neg hl]
  refine ⟨fun hby => ?_, fun hby hg => ?_, fun hby hg => ?_⟩
  · rw [if_neg hby, if_pos rfl]
  · rw [if_pos hby, if_neg fb_10]
    by_cases h3 : c ≤ 3
    · rw [if_neg (show ¬ (3 : Int32) < nI c from nI_nlt (a := 3) h3 (by omega))]
      have hl : tf = 1 ∧ lim = 0 := by
        by_cases ht : tf = 1
        · exact ⟨ht, by
            by_cases hl : lim = 0
            · exact hl
            · exact absurd ⟨h3, fun _ => by omega⟩ hg⟩
        · exact absurd ⟨h3, fun q => absurd q ht⟩ hg
      have h200 : jX9_define_200 104 x1 (nI s) (nI pe) (nI lim) v = some (-2, v) := (e200 _).mpr (by rw [if_pos hl.2])
      rw [h200]
      by_cases h4 : x4 = 0
      · rw [if_pos h4, if_neg (fun q => by have := hx.mp ⟨h4, q⟩; omega)]
      · rw [if_neg h4]
    · rw [if_pos (show (3 : Int32) < nI c from nI_lt (a := 3) (by omega) (by omega))]
  · rw [if_pos hby, if_neg fb_10, if_neg (show ¬ (3 : Int32) < nI c from nI_nlt (a := 3) hg.1 (by omega))]
    by_cases ht : tf = 1
    · have hl : ¬ lim = 0 := by have := hg.2 ht; omega
      have h200 : jX9_define_200 104 x1 (nI s) (nI pe) (nI lim) v = jX9_define_208 104 x1 (nI s) (nI pe) (nI lim) v := (e200 _).mpr (by rw [if_neg hl])
      rw [h200]
      by_cases h4 : x4 = 0
      · rw [if_pos h4, if_neg (fun q => by have := hx.mp ⟨h4, q⟩; omega)]
      · rw [if_neg h4]
    · have := hx.mpr (by omega)
      rw [if_pos this.1, if_pos this.2]
theorem fb_hd_in {u : fb_M} {n N : Nat} (hB : fb_B u n N) {p : Nat} (hp : p ≤ n) : (fb_hd (fb_tx u n) n p).2.1 ≤ n ∧ (fb_hd (fb_tx u n) n p).2.2.1 ≤ n ∧ (fb_hd (fb_tx u n) n p).2.2.2 < 1000 ∧ (fb_hd (fb_tx u n) n p).1 < 2 := by
  have hgo : ∀ q, q ≤ n → (fb_fgl (fb_tx u n) (n + 1 - q) q 0 0).1 ≤ n ∧ (fb_fgl (fb_tx u n) (n + 1 - q) q 0 0).2.1 ≤ n ∧ (if (fb_fgl (fb_tx u n) (n + 1 - q) q 0 0).2.1 = 0 then 1 else (fb_fgl (fb_tx u n) (n + 1 - q) q 0 0).2.2) < 1000 := by
    intro q hq
    obtain ⟨i1, i2, i3⟩ := fb_fl_in hB (n + 1 - q) q 0 0 hq
    have ix := fb_fl_x hB (n + 1 - q) q 0 0 (by omega) (by omega) (by omega) (by omega)
    refine ⟨i1, by omega, ?_⟩
    split <;> omega
  unfold fb_hd
  by_cases hA : 3 + p ≤ n ∧ fb_st (fb_tx u n) (fb_by 4) p = true
  · rw [if_pos hA]
    obtain ⟨a1, a2, a3⟩ := hgo (p + 3) (by omega)
    exact ⟨a1, a2, a3, by show 1 < 2; omega⟩
  · rw [if_neg hA]
    by_cases hC : 5 + p ≤ n ∧ fb_st (fb_tx u n) (fb_by 5) p = true
    · rw [if_pos hC]
      obtain ⟨a1, a2, a3⟩ := hgo (p + 5) (by omega)
      exact ⟨a1, a2, a3, by show 1 < 2; omega⟩
    · rw [if_neg hC]
      exact ⟨hp, by show 0 ≤ n; omega, by show 0 < 1000; omega, by show 0 < 2; omega⟩
/-- where OrderBy stands first -/
def fb_po (T : Nat → Int32) (n : Nat) : Nat → Nat → Nat
  | 0, p => p
  | m + 1, p => if 7 + p ≤ n ∧ fb_st T (fb_by 7) p = true then p else fb_po T n m (p + 1)
theorem fb_po_in (T : Nat → Int32) (n : Nat) : ∀ m p, p + m = n → p ≤ fb_po T n m p ∧ fb_po T n m p ≤ n ∧ (fb_po T n m p < n → 7 + fb_po T n m p ≤ n)
  | 0, p, h => ⟨Nat.le_refl _, by show p ≤ n; omega, fun q => by have q : p < n := q; omega⟩
  | m + 1, p, h => by
    rw [fb_po]
    by_cases hc : 7 + p ≤ n ∧ fb_st T (fb_by 7) p = true
    · rw [if_pos hc]; exact ⟨Nat.le_refl _, by omega, fun _ => hc.1⟩
    · rw [if_neg hc]
      obtain ⟨a1, a2, a3⟩ := fb_po_in T n m (p + 1) (by omega)
      exact ⟨by omega, a2, a3⟩
theorem ePoC {u w : fb_M} {n N : Nat} (hB : fb_B u n N) (hW : fb_Wc u w) : ∀ m p fu, p + m = n → m < fu → gX0_placeOf_3 1 7 (nI n) w fu (nI p) = some (nI (fb_po (fb_tx u n) n m p)) := by
  have h80 := hB.2.1.1
  intro m
  induction m with
  | zero =>
    intro p fu hp hf
    obtain ⟨fu, rfl⟩ : ∃ k, fu = k + 1 := ⟨fu - 1, by omega⟩
    show bX0_placeOf_3 _ 1 7 (nI n) (nI p) w = _
    unfold bX0_placeOf_3
    rw [if_pos (nI_le (by omega) (by omega)), show n = p by omega]; rfl
  | succ m ih =>
    intro p fu hp hf
    obtain ⟨fu, rfl⟩ : ∃ k, fu = k + 1 := ⟨fu - 1, by omega⟩
    show bX0_placeOf_3 _ 1 7 (nI n) (nI p) w = _
    unfold bX0_placeOf_3
    rw [if_neg (nI_ge (by omega) (by omega)), eSwb hB hW (k := 7) (by omega) (by omega) (Nat.le_refl n), Option.bind_some, nI_1, fb_po]
    by_cases hc : 7 + p ≤ n ∧ fb_st (fb_tx u n) (fb_by 7) p = true
    · rw [if_pos (c := fb_len.getD 7 0 + p ≤ n ∧ fb_st (fb_tx u n) (fb_by 7) p = true) hc, if_neg fb_10, if_pos hc]
    · rw [if_neg (c := fb_len.getD 7 0 + p ≤ n ∧ fb_st (fb_tx u n) (fb_by 7) p = true) hc, if_pos rfl, if_neg hc]
      exact ih (p + 1) fu (by omega) (by omega)
theorem ePoM {u v : fb_M} {n N : Nat} (hB : fb_B u n N) (hV : fb_Vc u n N v) (x : Int32) : ∀ m p fu, p + m = n → m < fu → gX9_readRest_27 104 x v fu (nI p) = jX9_readRest_56 104 x (nI (fb_po (fb_tx u n) n m p)) v := by
  have h80 := hB.2.1.1
  have n1 : fb_I v 104 1 = nI n := hV.2.1.2.2.1
  intro m
  induction m with
  | zero =>
    intro p fu hp hf
    obtain ⟨fu, rfl⟩ : ∃ k, fu = k + 1 := ⟨fu - 1, by omega⟩
    show bX9_readRest_27 _ 104 x (nI p) v = _
    unfold bX9_readRest_27
    rw [n1, if_pos (nI_le (by omega) (by omega))]; rfl
  | succ m ih =>
    intro p fu hp hf
    obtain ⟨fu, rfl⟩ : ∃ k, fu = k + 1 := ⟨fu - 1, by omega⟩
    have q1 : fX9_stands v 104 (nI p) (nI n) 22362298684424825 = some (if 7 + p ≤ n ∧ fb_st (fb_tx u n) (fb_by 7) p = true then 1 else 0) := eSd hB hV fb_kOrderBy (by decide) (by omega) (Nat.le_refl n)
    show bX9_readRest_27 _ 104 x (nI p) v = _
    unfold bX9_readRest_27
    rw [n1, if_neg (nI_ge (by omega) (by omega)), q1, Option.bind_some, nI_1, fb_po]
    by_cases hc : 7 + p ≤ n ∧ fb_st (fb_tx u n) (fb_by 7) p = true
    · rw [if_pos hc, if_neg fb_10, if_pos hc]
    · rw [if_neg hc, if_pos rfl, if_neg hc]
      exact ih (p + 1) fu (by omega) (by omega)

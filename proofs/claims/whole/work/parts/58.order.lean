/-! define: the orders, one after another -/
theorem eBadOrder {u v : fb_M} {n N : Nat} (hB : fb_B u n N) {fr e no : Nat} (h : fb_BO u n N v no) (hfe : fr ≤ e) (he : e ≤ n) (hno : no < 2 ^ 20) : ∃ v', fX9_takeOrder v 104 (nI fr) (nI e) = some v' ∧ fb_BO u n N v' (no + 1) ∧ fb_df v v' fb_DM2 := by
  obtain ⟨h1, h2, h3⟩ := h
  obtain ⟨v', a1, a2, a3, a4, -⟩ := eRo9 hB h1 hfe he hno h3
  have a2' : fb_df v v' fb_DM2 := a2.mo (fun a k q => by unfold fb_DM2; omega)
  exact ⟨v', a1, ⟨h1.dM2 a2', a4 (Or.inl (by rw [h2]; decide)), a3⟩, a2'⟩
theorem eOrder {u w v : fb_M} {n N f : Nat} (hB : fb_B u n N) (hf : f < 9) {fr e no : Nat} (h : fb_RO u n N f w v no) (hfe : fr ≤ e) (he : e ≤ n) (hno : no < 2 ^ 20) :
    (∃ w' v', fX3_readOrder w 21 (23 + 6 * f) (nI fr) (nI e) = some (1, w') ∧ fX9_takeOrder v 104 (nI fr) (nI e) = some v' ∧ fb_RO u n N f w' v' (no + 1) ∧ fb_df w w' (fb_DC2 f) ∧ fb_df v v' fb_DM2) ∨
    (∃ v', fX3_readOrder w 21 (23 + 6 * f) (nI fr) (nI e) = some (0, w) ∧ fX9_takeOrder v 104 (nI fr) (nI e) = some v' ∧ fb_BO u n N v' (no + 1) ∧ fb_df v v' fb_DM2) := by
  obtain ⟨hW, hV, h21, ⟨w6, v19⟩, lo, dn, c1, c2⟩ := h
  obtain ⟨v', a1, a2, a3, a4, a5⟩ := eRo9 hB hV hfe he hno v19
  have a2' : fb_df v v' fb_DM2 := a2.mo (fun a k q => by unfold fb_DM2; omega)
  have h80 := hB.2.1.1
  have h8 := hB.2.2.1
  obtain ⟨o1, o2, o3⟩ := fb_oe_in (fb_tx u n) hfe
  rw [eRo3 hB hW (23 + 6 * f) hfe he]
  cases hp : fb_lo u fr (fb_oe (fb_tx u n) fr e).1 with
  | none => exact Or.inr ⟨v', rfl, a1, ⟨hV.dM2 a2', a4 (Or.inr hp), a3⟩, a2'⟩
  | some l =>
    have hl := (hB.lo (show fr ≤ 200 by omega) (show (fb_oe (fb_tx u n) fr e).1 ≤ n by omega)).2.2 l hp
    obtain ⟨b21, b3⟩ := a5 l hp h21
    obtain ⟨w', d1, d2, d3, d4⟩ := eAddOrder (hW.St hB.1) hf (l := l) hno w6 o3
    have hDC : fb_df w w' (fb_DC2 f) := d2.mo (fun a k q => by unfold fb_DC2; omega)
    have hWc : fb_Wc u w' := hW.tr (d2.mo (fun a k q => by omega))
    refine Or.inl ⟨w', v', by show ((fX2_addOrder w (23 + 6 * f) (nI l) (nI (fb_oe (fb_tx u n) fr e).2)).bind fun r => some ((1 : Int32), r)) = _; rw [d1]; rfl, a1, ?_, hDC, a2'⟩
    refine ⟨hWc, hV.dM2 a2', b21, ⟨d3, a3⟩, fun k => if k = no then l else lo k, fun k => if k = no then (fb_oe (fb_tx u n) fr e).2 else dn k, ?_, ?_⟩
    · intro k hk
      by_cases hkn : k = no
      · simp only [hkn, if_true]; exact ⟨by omega, o3⟩
      · simp only [hkn, if_false]; exact c1 k (by omega)
    · intro k hk hk3
      by_cases hkn : k = no
      · subst hkn
        simp only [if_true]
        exact ⟨d4 hk3, b3 hk3⟩
      · simp only [hkn, if_false]
        rw [d2.2.2 (27 + 6 * f) k (by omega), d2.2.2 (28 + 6 * f) k (by omega), a2.2.2 122 k (by omega), a2.2.2 123 k (by omega)]
        exact c2 k (by omega) hk3
def fb_dr (T : Nat → Int32) (s p : Nat) : Prop := fb_cap (T p) ∧ ((3 + s ≤ p ∧ fb_st T (fb_by 23) (p - 3) = true) ∨ (4 + s ≤ p ∧ fb_st T (fb_by 24) (p - 4) = true))
theorem eOrdC {u w : fb_M} {n N : Nat} (hB : fb_B u n N) (hW : fb_Wc u w) (K : Int32 → Int32 → fb_M → Option (Int32 × fb_M)) (a : Nat) {s p e : Nat} (hs : s ≤ 200) (hp : p < e) (he : e ≤ n) :
    (fb_dr (fb_tx u n) s p → bX3_readOrders_6 K 21 a (nI e) (nI s) (nI p) w = (fX3_readOrder w 21 a (nI s) (nI p)).bind fun r => if r.1 = 0 then some (0, r.2) else K (nI p) (nI (p + 1)) r.2) ∧ (¬ fb_dr (fb_tx u n) s p → bX3_readOrders_6 K 21 a (nI e) (nI s) (nI p) w = K (nI s) (nI (p + 1)) w) := by
  have h80 := hB.2.1.1
  have hS := hW.St hB.1
  have hdir : fX3_endsWithDirection w 21 (nI s) (nI p) = some (if (3 + s ≤ p ∧ fb_st (fb_tx u n) (fb_by 23) (p - 3) = true) ∨ (4 + s ≤ p ∧ fb_st (fb_tx u n) (fb_by 24) (p - 4) = true) then 1 else 0) := by
    unfold fX3_endsWithDirection
    rw [hS.ld_21_0, eEw hB hW (k := 23) (by omega) hs (by omega), Option.bind_some, hS.ld_21_0, eEw hB hW (k := 24) (by omega) hs (by omega), Option.bind_some]
    by_cases h1 : 3 + s ≤ p ∧ fb_st (fb_tx u n) (fb_by 23) (p - 3) = true
    · rw [if_pos (c := fb_len.getD 23 0 + s ≤ p ∧ fb_st (fb_tx u n) (fb_byt.getD 23 []) (p - fb_len.getD 23 0) = true) h1, if_neg fb_10, if_pos (Or.inl h1)]
    · rw [if_neg (c := fb_len.getD 23 0 + s ≤ p ∧ fb_st (fb_tx u n) (fb_byt.getD 23 []) (p - fb_len.getD 23 0) = true) h1, if_pos rfl]
      by_cases h2 : 4 + s ≤ p ∧ fb_st (fb_tx u n) (fb_by 24) (p - 4) = true
      · rw [if_pos (c := fb_len.getD 24 0 + s ≤ p ∧ fb_st (fb_tx u n) (fb_byt.getD 24 []) (p - fb_len.getD 24 0) = true) h2, if_neg fb_10, if_pos (Or.inr h2)]
      · rw [if_neg (c := fb_len.getD 24 0 + s ≤ p ∧ fb_st (fb_tx u n) (fb_byt.getD 24 []) (p - fb_len.getD 24 0) = true) h2, if_pos rfl, if_neg (fun q => q.elim h1 h2)]
  unfold bX3_readOrders_6
  rw [if_neg (nI_ge hp (by omega)), hS.ld_21_0, hW.at_ hB (by omega), Option.bind_some, eX8_isCapital, Option.bind_some, hdir, Option.bind_some, nI_1]
  by_cases hc : fb_cap (fb_tx u n p)
  · rw [if_pos hc, if_neg fb_10]
    by_cases hd : (3 + s ≤ p ∧ fb_st (fb_tx u n) (fb_by 23) (p - 3) = true) ∨ (4 + s ≤ p ∧ fb_st (fb_tx u n) (fb_by 24) (p - 4) = true)
    · rw [if_pos hd, if_neg fb_10]
      exact ⟨fun _ => rfl, fun q => absurd ⟨hc, hd⟩ q⟩
    · rw [if_neg hd, if_pos rfl]
      exact ⟨fun q => absurd q.2 hd, fun _ => rfl⟩
  · rw [if_neg hc, if_pos rfl]
    exact ⟨fun q => absurd q.1 hc, fun _ => rfl⟩
theorem eOrdM {u v : fb_M} {n N : Nat} (hB : fb_B u n N) (hV : fb_Vc u n N v) (K : Int32 → Int32 → fb_M → Option fb_M) {s p e : Nat} (hs : s ≤ p) (hp : p < e) (he : e ≤ n) :
    (fb_dr (fb_tx u n) s p → bX9_takeOrders_7 K 104 (nI e) (nI s) (nI p) v = (fX9_takeOrder v 104 (nI s) (nI p)).bind fun r => K (nI p) (nI (p + 1)) r) ∧ (¬ fb_dr (fb_tx u n) s p → bX9_takeOrders_7 K 104 (nI e) (nI s) (nI p) v = K (nI s) (nI (p + 1)) v) := by
  have h80 := hB.2.1.1
  have ho : ∀ q, some p = some q → q ≤ 200 := fun q hq => by cases hq; omega
  have hA : fX9_before v 104 (nI s) (nI p) 4289379 = some (fb_on (fb_bf (fb_tx u n) s [99, 115, 65] p)) := eBf (o := some p) hB hV (by omega) fb_kAsc (by decide) ho
  have hD : fX9_before v 104 (nI s) (nI p) 1147499363 = some (fb_on (fb_bf (fb_tx u n) s [99, 115, 101, 68] p)) := eBf (o := some p) hB hV (by omega) fb_kDesc (by decide) ho
  have hcut : bX9_takeOrders_7 K 104 (nI e) (nI s) (nI p) v = jX9_takeOrders_44 K 104 (nI e) (nI s) (nI p) (if (3 + s ≤ p ∧ fb_st (fb_tx u n) (fb_by 23) (p - 3) = true) ∨ (4 + s ≤ p ∧ fb_st (fb_tx u n) (fb_by 24) (p - 4) = true) then 1 else 0) v := by
    unfold bX9_takeOrders_7
    rw [if_neg (nI_ge hp (by omega)), hA, hD, Option.bind_some, Option.bind_some, fb_bfA _ hs, fb_bfD _ hs]
    by_cases h1 : 3 + s ≤ p ∧ fb_st (fb_tx u n) (fb_by 23) (p - 3) = true
    · rw [if_pos h1, if_pos (show 0 ≤ fb_on (some (p - 3)) from nI_pos' (by omega)), if_pos (Or.inl h1)]
    · rw [if_neg h1, if_neg (show ¬ 0 ≤ fb_on none by decide)]
      by_cases h2 : 4 + s ≤ p ∧ fb_st (fb_tx u n) (fb_by 24) (p - 4) = true
      · rw [if_pos h2, if_neg (show ¬ fb_on (some (p - 4)) < 0 from nI_pos (by omega)), if_pos (Or.inr h2)]
      · rw [if_neg h2, if_pos (show fb_on none < 0 by decide), if_neg (fun q => q.elim h1 h2)]
  rw [hcut]
  unfold jX9_takeOrders_44
  rw [hV.at_ hB (by omega), Option.bind_some, eX9_capital, Option.bind_some, nI_1]
  by_cases hd : (3 + s ≤ p ∧ fb_st (fb_tx u n) (fb_by 23) (p - 3) = true) ∨ (4 + s ≤ p ∧ fb_st (fb_tx u n) (fb_by 24) (p - 4) = true)
  · rw [if_pos hd, if_neg fb_10]
    by_cases hc : fb_cap (fb_tx u n p)
    · rw [if_pos hc, if_neg fb_10]
      exact ⟨fun _ => rfl, fun q => absurd ⟨hc, hd⟩ q⟩
    · rw [if_neg hc, if_pos rfl]
      exact ⟨fun q => absurd q.1 hc, fun _ => rfl⟩
  · rw [if_neg hd, if_pos rfl]
    exact ⟨fun q => absurd q.2 hd, fun _ => rfl⟩
theorem eOrdBadL {u : fb_M} {n N : Nat} (hB : fb_B u n N) {e : Nat} (he : e ≤ n) : ∀ m p s fv v no, p + m = e → m < fv → s ≤ p → fb_BO u n N v no → no + m + 1 < 2 ^ 20 →
    ∃ v' no', gX9_takeOrders_7 104 (nI e) fv (nI s) (nI p) v = some v' ∧ fb_BO u n N v' no' ∧ fb_df v v' fb_DM2 ∧ no' < 2 ^ 20 := by
  have h80 := hB.2.1.1
  intro m
  induction m with
  | zero =>
    intro p s fv v no hp hg hs hb hn
    obtain ⟨fv, rfl⟩ : ∃ k, fv = k + 1 := ⟨fv - 1, by omega⟩
    obtain ⟨v', a1, a2, a3⟩ := eBadOrder hB hb (show s ≤ e by omega) he (by omega)
    refine ⟨v', no + 1, ?_, a2, a3, by omega⟩
    show bX9_takeOrders_7 _ 104 (nI e) (nI s) (nI p) v = _
    unfold bX9_takeOrders_7
    rw [if_pos (nI_le (by omega) (by omega)), a1]; rfl
  | succ m ih =>
    intro p s fv v no hp hg hs hb hn
    obtain ⟨fv, rfl⟩ : ∃ k, fv = k + 1 := ⟨fv - 1, by omega⟩
    have e9 : gX9_takeOrders_7 104 (nI e) (fv + 1) (nI s) (nI p) v = bX9_takeOrders_7 (gX9_takeOrders_7 104 (nI e) fv) 104 (nI e) (nI s) (nI p) v := rfl
    rw [e9]
    obtain ⟨M1, M2⟩ := eOrdM hB hb.1 (gX9_takeOrders_7 104 (nI e) fv) hs (show p < e by omega) he
    by_cases hc : fb_dr (fb_tx u n) s p
    · obtain ⟨v1, a1, a2, a3⟩ := eBadOrder hB hb hs (show p ≤ n by omega) (by omega)
      obtain ⟨v', no', b1, b2, b4, b7⟩ := ih (p + 1) p fv v1 (no + 1) (by omega) (by omega) (by omega) a2 (by omega)
      exact ⟨v', no', by rw [M1 hc, a1]; exact b1, b2, a3.tr b4, b7⟩
    · obtain ⟨v', no', b1, b2, b4, b7⟩ := ih (p + 1) s fv v no (by omega) (by omega) (by omega) hb (by omega)
      exact ⟨v', no', by rw [M2 hc]; exact b1, b2, b4, b7⟩
theorem eOrdL {u : fb_M} {n N f : Nat} (hB : fb_B u n N) (hf : f < 9) {e : Nat} (he : e ≤ n) : ∀ m p s fu fv w v no, p + m = e → m < fu → m < fv → s ≤ p → fb_RO u n N f w v no → no + m + 1 < 2 ^ 20 →
    ∃ r w' v' no', gX3_readOrders_6 21 (23 + 6 * f) (nI e) fu (nI s) (nI p) w = some (r, w') ∧ gX9_takeOrders_7 104 (nI e) fv (nI s) (nI p) v = some v' ∧ ((r = 1 ∧ fb_RO u n N f w' v' no') ∨ (r = 0 ∧ fb_BO u n N v' no')) ∧ fb_df w w' (fb_DC2 f) ∧ fb_df v v' fb_DM2 ∧ no' < 2 ^ 20 := by
  have h80 := hB.2.1.1
  intro m
  induction m with
  | zero =>
    intro p s fu fv w v no hp hf1 hg hs hb hn
    obtain ⟨fu, rfl⟩ : ∃ k, fu = k + 1 := ⟨fu - 1, by omega⟩
    obtain ⟨fv, rfl⟩ : ∃ k, fv = k + 1 := ⟨fv - 1, by omega⟩
    have e5 : gX3_readOrders_6 21 (23 + 6 * f) (nI e) (fu + 1) (nI s) (nI p) w = (fX3_readOrder w 21 (23 + 6 * f) (nI s) (nI e)).bind fun r72 => fb_gd (r72.1 = 0 ∨ r72.1 = 1) (some (r72.1, r72.2)) := by
      show bX3_readOrders_6 _ 21 (23 + 6 * f) (nI e) (nI s) (nI p) w = _
      unfold bX3_readOrders_6
      rw [if_pos (nI_le (by omega) (by omega))]
    have e9 : gX9_takeOrders_7 104 (nI e) (fv + 1) (nI s) (nI p) v = (fX9_takeOrder v 104 (nI s) (nI e)).bind fun r77 => some r77 := by
      show bX9_takeOrders_7 _ 104 (nI e) (nI s) (nI p) v = _
      unfold bX9_takeOrders_7
      rw [if_pos (nI_le (by omega) (by omega))]
    rcases eOrder hB hf hb (show s ≤ e by omega) he (by omega) with ⟨w', v', a1, a2, a3, a4, a5⟩ | ⟨v', a1, a2, a3, a4⟩
    · exact ⟨1, w', v', no + 1, by rw [e5, a1]; rfl, by rw [e9, a2]; rfl, Or.inl ⟨rfl, a3⟩, a4, a5, by omega⟩
    · exact ⟨0, w, v', no + 1, by rw [e5, a1]; rfl, by rw [e9, a2]; rfl, Or.inr ⟨rfl, a3⟩, fb_df.rf _ _, a4, by omega⟩
  | succ m ih =>
    intro p s fu fv w v no hp hf1 hg hs hb hn
    obtain ⟨fu, rfl⟩ : ∃ k, fu = k + 1 := ⟨fu - 1, by omega⟩
    obtain ⟨fv, rfl⟩ : ∃ k, fv = k + 1 := ⟨fv - 1, by omega⟩
    have e5 : gX3_readOrders_6 21 (23 + 6 * f) (nI e) (fu + 1) (nI s) (nI p) w = bX3_readOrders_6 (gX3_readOrders_6 21 (23 + 6 * f) (nI e) fu) 21 (23 + 6 * f) (nI e) (nI s) (nI p) w := rfl
    have e9 : gX9_takeOrders_7 104 (nI e) (fv + 1) (nI s) (nI p) v = bX9_takeOrders_7 (gX9_takeOrders_7 104 (nI e) fv) 104 (nI e) (nI s) (nI p) v := rfl
    rw [e5, e9]
    obtain ⟨C1, C2⟩ := eOrdC hB hb.1 (gX3_readOrders_6 21 (23 + 6 * f) (nI e) fu) (23 + 6 * f) (show s ≤ 200 by omega) (show p < e by omega) he
    obtain ⟨M1, M2⟩ := eOrdM hB hb.2.1 (gX9_takeOrders_7 104 (nI e) fv) hs (show p < e by omega) he
    by_cases hc : fb_dr (fb_tx u n) s p
    · rw [C1 hc, M1 hc]
      rcases eOrder hB hf hb hs (show p ≤ n by omega) (by omega) with ⟨w1, v1, a1, a2, a3, a4, a5⟩ | ⟨v1, a1, a2, a3, a4⟩
      · obtain ⟨r, w', v', no', b1, b2, b3, b5, b6, b7⟩ := ih (p + 1) p fu fv w1 v1 (no + 1) (by omega) (by omega) (by omega) (by omega) a3 (by omega)
        exact ⟨r, w', v', no', by rw [a1]; exact b1, by rw [a2]; exact b2, b3, a4.tr b5, a5.tr b6, b7⟩
      · obtain ⟨v', no', b1, b2, b4, b7⟩ := eOrdBadL hB he m (p + 1) p fv v1 (no + 1) (by omega) (by omega) (by omega) a3 (by omega)
        exact ⟨0, w, v', no', by rw [a1]; rfl, by rw [a2]; exact b1, Or.inr ⟨rfl, b2⟩, fb_df.rf _ _, a4.tr b4, b7⟩
    · rw [C2 hc, M2 hc]
      obtain ⟨r, w', v', no', b1, b2, b3, b5, b6, b7⟩ := ih (p + 1) s fu fv w v no (by omega) (by omega) (by omega) (by omega) hb (by omega)
      exact ⟨r, w', v', no', b1, b2, b3, b5, b6, b7⟩
theorem eOrders {u w v : fb_M} {n N f : Nat} (hB : fb_B u n N) (hf : f < 9) {fr e no : Nat} (hfe : fr ≤ e) (he : e ≤ n) (hb : fb_RO u n N f w v no) (hn : no + 90 < 2 ^ 20) :
    ∃ r w' v' no', fX3_readOrders w 21 (23 + 6 * f) (nI fr) (nI e) = some (r, w') ∧ fX9_takeOrders v 104 (nI fr) (nI e) = some v' ∧ ((r = 1 ∧ fb_RO u n N f w' v' no') ∨ (r = 0 ∧ fb_BO u n N v' no')) ∧ fb_df w w' (fb_DC2 f) ∧ fb_df v v' fb_DM2 ∧ no' < 2 ^ 20 := by
  have h80 := hB.2.1.1
  unfold fX3_readOrders fX9_takeOrders
  rw [nI_1]
  by_cases hlt : fr < e
  · obtain ⟨fu, hfu⟩ : ∃ k, fb_F = k + 1 := ⟨3999, rfl⟩
    have hnd : ¬ fb_dr (fb_tx u n) fr fr := fun q => q.2.elim (fun h => by omega) (fun h => by omega)
    have hC := (eOrdC hB hb.1 (gX3_readOrders_6 21 (23 + 6 * f) (nI e) fu) (23 + 6 * f) (show fr ≤ 200 by omega) hlt he).2 hnd
    have h4000 : fb_F = 4000 := rfl
    obtain ⟨r, w', v', no', b1, b2, b3, b5, b6, b7⟩ := eOrdL hB hf he (e - fr - 1) (fr + 1) fr fu fb_F w v no (by omega) (by omega) (by omega) (by omega) hb (by omega)
    refine ⟨r, w', v', no', ?_, b2, b3, b5, b6, b7⟩
    rw [hfu]
    show bX3_readOrders_6 (gX3_readOrders_6 21 (23 + 6 * f) (nI e) fu) 21 (23 + 6 * f) (nI e) (nI fr) (nI fr) w = _
    rw [hC]; exact b1
  · have hfe' : fr = e := by omega
    subst hfe'
    have e9 : gX9_takeOrders_7 104 (nI fr) fb_F (nI fr) (nI (fr + 1)) v = gX9_takeOrders_7 104 (nI fr) fb_F (nI fr) (nI fr) v := by
      show bX9_takeOrders_7 _ 104 (nI fr) (nI fr) (nI (fr + 1)) v = bX9_takeOrders_7 _ 104 (nI fr) (nI fr) (nI fr) v
      unfold bX9_takeOrders_7
      rw [if_pos (nI_le (by omega) (by omega)), if_pos (nI_le (by omega) (by omega))]
    rw [e9]
    exact eOrdL hB hf he 0 fr fr fb_F fb_F w v no (by omega) (by unfold fb_F; omega) (by unfold fb_F; omega) (Nat.le_refl _) hb (by omega)

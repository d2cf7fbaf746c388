/-! define: reading a part, by the book and by the reference -/
def fb_ud (lo : Nat → Option Nat) (s : Nat × Option (Nat × Nat)) (P : Option Nat) (kk : Nat) : Nat × Option (Nat × Nat) :=
  match P with
  | none => s
  | some p =>
    match lo p with
    | none => s
    | some l => if p < s.1 then (p, some (l, kk)) else s
theorem fb_ps_ud (T : Nat → Int32) (lo : Nat → Option Nat) (fr e : Nat) (s : Nat × Option (Nat × Nat)) (x : Nat × List Int32) : fb_ps T lo fr e s x = fb_ud lo s (fb_bf T fr x.2.reverse e) x.1 := rfl
def fb_lf1 (s : Nat × Option (Nat × Nat)) : Option Nat := s.2.map (·.1)
def fb_27 (a k : Nat) : Prop := a = 104 ∧ k = 27
/-- the word that is kept is the one of the leaf that is kept -/
def fb_wi (s : Nat × Option (Nat × Nat)) (v : fb_M) : Prop := s.1 ≤ 200 ∧ ∀ l kk, s.2 = some (l, kk) → fb_I v 104 27 = nI kk
theorem fb_k11 : ∀ k, k < 12 → nI k - nI k / 11 * 11 = nI (k % 11) := by decide +kernel
theorem eUd114 (K : Int32 → Int32 → Int32 → fb_M → Option (Int32 × fb_M)) (x1 x2 : Int32) {k : Nat} (hk : k < 12) {lo : Nat → Option Nat} {s : Nat × Option (Nat × Nat)} {v : fb_M} (hw : fb_wi s v) {P : Option Nat} (hP : ∀ p, P = some p → p ≤ 200 ∧ ∀ l, lo p = some l → l < 8) :
    ∃ v1, jX9_readPart_114 K 104 x1 x2 (fb_on (fb_lf1 s)) (nI s.1) (nI k) (fb_on P) (fb_on (P.bind lo)) v = K (fb_on (fb_lf1 (fb_ud lo s P (k % 11)))) (nI (fb_ud lo s P (k % 11)).1) (nI (k + 1)) v1 ∧ fb_df v v1 fb_27 ∧ fb_wi (fb_ud lo s P (k % 11)) v1 := by
  unfold jX9_readPart_114
  rw [nI_1]
  cases P with
  | none => exact ⟨v, by rw [if_pos (show fb_on (Option.bind none lo) < 0 from show fb_on none < 0 by decide)]; rfl, fb_df.rf _ _, hw⟩
  | some p =>
    obtain ⟨hp, hl8⟩ := hP p rfl
    cases hl : lo p with
    | none =>
      have e1 : fb_ud lo s (some p) (k % 11) = s := by unfold fb_ud; simp only [hl]
      rw [e1]
      exact ⟨v, by rw [Option.bind_some, hl, if_pos (show fb_on none < 0 by decide)], fb_df.rf _ _, hw⟩
    | some l =>
      have hl8 := hl8 l hl
      rw [Option.bind_some, hl, show fb_on (some l) = nI l from rfl, show fb_on (some p) = nI p from rfl, if_neg (nI_pos (by omega))]
      have h200 := hw.1
      by_cases hc : p < s.1
      · have e1 : fb_ud lo s (some p) (k % 11) = (p, some (l, k % 11)) := by unfold fb_ud; simp only [hl, hc, if_true]
        rw [e1, if_neg (nI_ge hc (by omega)), fb_k11 k hk]
        exact ⟨_, rfl, (fb_df.rf v fb_27).wI ⟨rfl, rfl⟩, hp, fun l' kk h => by cases h; exact fb_IwI_eq _ _ _ _⟩
      · have e1 : fb_ud lo s (some p) (k % 11) = s := by unfold fb_ud; simp only [hl, hc, if_false]
        rw [e1, if_pos (nI_le (by omega) (by omega))]
        exact ⟨v, rfl, fb_df.rf _ _, hw⟩
theorem eUd84 (K : Int32 → Int32 → Int32 → fb_M → Option (Int32 × fb_M)) (x1 x2 x7 k0 : Int32) {k : Nat} (hk : k < 12) {lo : Nat → Option Nat} {s : Nat × Option (Nat × Nat)} {v : fb_M} (hw : fb_wi s v) {P : Option Nat} (hP : ∀ p, P = some p → p ≤ 200 ∧ ∀ l, lo p = some l → l < 8) :
    ∃ v1, jX9_readPart_84 K 104 x1 x2 (fb_on (fb_lf1 s)) (nI s.1) (nI k) (fb_on P) x7 (fb_on (P.bind lo)) k0 v = jX9_readPart_114 K 104 x1 x2 (fb_on (fb_lf1 (fb_ud lo s P (k % 11)))) (nI (fb_ud lo s P (k % 11)).1) (nI k) x7 k0 v1 ∧ fb_df v v1 fb_27 ∧ fb_wi (fb_ud lo s P (k % 11)) v1 := by
  unfold jX9_readPart_84
  cases P with
  | none => exact ⟨v, by rw [if_pos (show fb_on (Option.bind none lo) < 0 from show fb_on none < 0 by decide)]; rfl, fb_df.rf _ _, hw⟩
  | some p =>
    obtain ⟨hp, hl8⟩ := hP p rfl
    cases hl : lo p with
    | none =>
      have e1 : fb_ud lo s (some p) (k % 11) = s := by unfold fb_ud; simp only [hl]
      rw [e1]
      exact ⟨v, by rw [Option.bind_some, hl, if_pos (show fb_on none < 0 by decide)], fb_df.rf _ _, hw⟩
    | some l =>
      have hl8 := hl8 l hl
      rw [Option.bind_some, hl, show fb_on (some l) = nI l from rfl, show fb_on (some p) = nI p from rfl, if_neg (nI_pos (by omega))]
      have h200 := hw.1
      by_cases hc : p < s.1
      · have e1 : fb_ud lo s (some p) (k % 11) = (p, some (l, k % 11)) := by unfold fb_ud; simp only [hl, hc, if_true]
        rw [e1, if_neg (nI_ge hc (by omega)), fb_k11 k hk]
        exact ⟨_, rfl, (fb_df.rf v fb_27).wI ⟨rfl, rfl⟩, hp, fun l' kk h => by cases h; exact fb_IwI_eq _ _ _ _⟩
      · have e1 : fb_ud lo s (some p) (k % 11) = s := by unfold fb_ud; simp only [hl, hc, if_false]
        rw [e1, if_pos (nI_le (by omega) (by omega))]
        exact ⟨v, rfl, fb_df.rf _ _, hw⟩
theorem fb_Vc.df {u v w : fb_M} {n N : Nat} (h : fb_Vc u n N v) {D : Nat → Nat → Prop} (hd : fb_df v w D) (h1 : ¬ D 104 1) (h2 : ¬ D 104 4) (h3 : ∀ a k, 105 ≤ a → a ≤ 107 → ¬ D a k) : fb_Vc u n N w :=
  ⟨hd.St h.1, h.2.1.dfv hd h1 (fun k => h3 105 k (by omega) (by omega)), h.2.2.dfv hd h2 (fun k => h3 106 k (by omega) (by omega)) (fun k => h3 107 k (by omega) (by omega))⟩
theorem fb_Vc.d27 {u v w : fb_M} {n N : Nat} (h : fb_Vc u n N v) (hd : fb_df v w fb_27) : fb_Vc u n N w := h.df hd (by unfold fb_27; omega) (by unfold fb_27; omega) (fun a k h1 h2 => by unfold fb_27; omega)
theorem eJ48 {u v : fb_M} {n N : Nat} (hB : fb_B u n N) (h : fb_Vc u n N v) (K : Int32 → Int32 → Int32 → fb_M → Option (Int32 × fb_M)) {fr : Nat} (hfr : fr ≤ 200) (x2 x3 x4 x5 : Int32) {P Q : Option Nat} (hP : ∀ p, P = some p → p ≤ n) (hQ : ∀ p, Q = some p → p ≤ n) :
    jX9_readPart_48 K 104 (nI fr) x2 x3 x4 x5 (fb_on P) (fb_on Q) v = jX9_readPart_84 K 104 (nI fr) x2 x3 x4 x5 (fb_on P) (fb_on Q) (fb_on (P.bind (fb_lo u fr))) (fb_on (Q.bind (fb_lo u fr))) v := by
  have h80 := hB.2.1.1
  have h66 : ∀ k0, jX9_readPart_66 K 104 (nI fr) x2 x3 x4 x5 (fb_on P) (fb_on Q) k0 v = jX9_readPart_84 K 104 (nI fr) x2 x3 x4 x5 (fb_on P) (fb_on Q) k0 (fb_on (Q.bind (fb_lo u fr))) v := by
    intro k0
    unfold jX9_readPart_66
    cases Q with
    | none => rw [if_pos (show fb_on none < 0 by decide)]; rfl
    | some q =>
      have := hQ q rfl
      rw [show fb_on (some q) = nI q from rfl, if_neg (nI_pos (by omega)), h.leafOf hB hfr (hQ q rfl), Option.bind_some, Option.bind_some]
  unfold jX9_readPart_48
  cases P with
  | none => rw [if_pos (show fb_on none < 0 by decide)]; exact h66 _
  | some p =>
    have := hP p rfl
    rw [if_neg (show ¬ fb_on (some p) < 0 from nI_pos (by omega)), show fX9_leafOf v 104 (nI fr) (fb_on (some p)) = _ from h.leafOf hB hfr (hP p rfl), Option.bind_some, Option.bind_some]
    exact h66 _
theorem eRpL {u : fb_M} {n N : Nat} (hB : fb_B u n N) {fr e : Nat} (hfe : fr ≤ e) (he : e ≤ n) : ∀ m k fu s v, k + m = 12 → m < fu → fb_Vc u n N v → fb_wi s v →
    ∃ v', gX9_readPart_10 104 (nI fr) (nI e) fu (fb_on (fb_lf1 s)) (nI s.1) (nI k) v = some (fb_on (fb_lf1 ((fb_Wf m k).foldl (fb_ps (fb_tx u n) (fb_lo u fr) fr e) s)), v') ∧ fb_df v v' fb_27 ∧ fb_wi ((fb_Wf m k).foldl (fb_ps (fb_tx u n) (fb_lo u fr) fr e) s) v' := by
  have h80 := hB.2.1.1
  have h8 := hB.2.2.1
  intro m
  induction m with
  | zero =>
    intro k fu s v hk hf h hw
    obtain ⟨fu, rfl⟩ : ∃ k, fu = k + 1 := ⟨fu - 1, by omega⟩
    refine ⟨v, ?_, fb_df.rf _ _, hw⟩
    show bX9_readPart_10 _ 104 (nI fr) (nI e) (fb_on (fb_lf1 s)) (nI s.1) (nI k) v = _
    unfold bX9_readPart_10
    rw [if_pos (show (11 : Int32) < nI k from nI_lt (a := 11) (by omega) (by omega))]
    rfl
  | succ m ih =>
    intro k fu s v hk hf h hw
    obtain ⟨fu, rfl⟩ : ∃ k, fu = k + 1 := ⟨fu - 1, by omega⟩
    have e0 : gX9_readPart_10 104 (nI fr) (nI e) (fu + 1) (fb_on (fb_lf1 s)) (nI s.1) (nI k) v = bX9_readPart_10 (gX9_readPart_10 104 (nI fr) (nI e) fu) 104 (nI fr) (nI e) (fb_on (fb_lf1 s)) (nI s.1) (nI k) v := rfl
    rw [e0]
    unfold bX9_readPart_10
    have hle : ∀ bs q, fb_bf (fb_tx u n) fr bs e = some q → q ≤ n := fun bs q hq => by have := fb_bf_le _ _ _ _ _ hq; omega
    have hle2 : ∀ bs, ∀ p, fb_bf (fb_tx u n) fr bs e = some p → p ≤ 200 ∧ ∀ l, fb_lo u fr p = some l → l < 8 := fun bs p hp => ⟨by have := hle _ _ hp; omega, fun l hl => by have := (hB.lo (show fr ≤ 200 by omega) (hle _ _ hp)).2.2 l hl; omega⟩
    rw [if_neg (show ¬ (11 : Int32) < nI k from nI_nlt (a := 11) (by omega) (by omega)), eKs hB h (by omega) (by omega) k (by omega), Option.bind_some]
    by_cases hk11 : k < 11
    · have hb : fb_bf (fb_tx u n) fr (fb_by 11 ++ fb_by (fb_wx k)).reverse e = (fb_bf (fb_tx u n) fr (fb_by (fb_wx k)).reverse e).bind (fb_bf (fb_tx u n) fr [115, 73]) := by rw [List.reverse_append, fb_bf_ap]; rfl
      have hWf : (fb_Wf (m + 1) k).foldl (fb_ps (fb_tx u n) (fb_lo u fr) fr e) s = (fb_Wf m (k + 1)).foldl (fb_ps (fb_tx u n) (fb_lo u fr) fr e) (fb_ud (fb_lo u fr) (fb_ud (fb_lo u fr) s (fb_bf (fb_tx u n) fr (fb_by (fb_wx k)).reverse e) (k % 11)) (fb_bf (fb_tx u n) fr (fb_by 11 ++ fb_by (fb_wx k)).reverse e) (k % 11)) := by
        rw [fb_Wf, if_pos hk11, Nat.mod_eq_of_lt hk11]; rfl
      rw [if_neg (show ¬ (11 : Int32) ≤ nI k from nI_ge (b := 11) hk11 (by omega)), eBf hB h (show fr ≤ 200 by omega) fb_kIs (by decide) (fun q hq => by have := hle _ _ hq; omega), Option.bind_some, ← hb, eJ48 hB h _ (by omega) _ _ _ _ (hle _) (hle _), hWf]
      obtain ⟨v1, a1, a2, a3⟩ := eUd84 (gX9_readPart_10 104 (nI fr) (nI e) fu) (nI fr) (nI e) (fb_on (fb_bf (fb_tx u n) fr (fb_by 11 ++ fb_by (fb_wx k)).reverse e)) (fb_on ((fb_bf (fb_tx u n) fr (fb_by 11 ++ fb_by (fb_wx k)).reverse e).bind (fb_lo u fr))) (show k < 12 by omega) hw (hle2 (fb_by (fb_wx k)).reverse)
      rw [a1]
      obtain ⟨v2, b1, b2, b3⟩ := eUd114 (gX9_readPart_10 104 (nI fr) (nI e) fu) (nI fr) (nI e) (show k < 12 by omega) a3 (hle2 (fb_by 11 ++ fb_by (fb_wx k)).reverse)
      rw [b1]
      have h2 : fb_Vc u n N v2 := h.d27 (a2.tr b2)
      obtain ⟨v3, c1, c2, c3⟩ := ih (k + 1) fu _ v2 (by omega) (by omega) h2 b3
      exact ⟨v3, c1, (a2.tr b2).tr c2, c3⟩
    · have hk11' : k = 11 := by omega
      subst hk11'
      have hWf : (fb_Wf (m + 1) 11).foldl (fb_ps (fb_tx u n) (fb_lo u fr) fr e) s = (fb_Wf m 12).foldl (fb_ps (fb_tx u n) (fb_lo u fr) fr e) (fb_ud (fb_lo u fr) (fb_ud (fb_lo u fr) s (fb_bf (fb_tx u n) fr (fb_by (fb_wx 11)).reverse e) (11 % 11)) none (11 % 11)) := by
        rw [fb_Wf, if_neg (by omega)]; rfl
      rw [if_pos (by decide), show (-1 : Int32) = fb_on none from rfl, eJ48 hB h _ (by omega) _ _ _ _ (hle _) (fun p hp => by cases hp), hWf]
      obtain ⟨v1, a1, a2, a3⟩ := eUd84 (gX9_readPart_10 104 (nI fr) (nI e) fu) (nI fr) (nI e) (fb_on none) (fb_on (Option.bind none (fb_lo u fr))) (show 11 < 12 by omega) hw (hle2 (fb_by (fb_wx 11)).reverse)
      rw [a1]
      obtain ⟨v2, b1, b2, b3⟩ := eUd114 (gX9_readPart_10 104 (nI fr) (nI e) fu) (nI fr) (nI e) (show 11 < 12 by omega) a3 (P := none) (lo := fb_lo u fr) (fun p hp => by cases hp)
      rw [b1]
      have h2 : fb_Vc u n N v2 := h.d27 (a2.tr b2)
      obtain ⟨v3, c1, c2, c3⟩ := ih 12 fu _ v2 (by omega) (by omega) h2 b3
      exact ⟨v3, c1, (a2.tr b2).tr c2, c3⟩
/-- the part that stands from fr to e -/
def fb_pt (u : fb_M) (n fr e : Nat) : Option (Nat × Nat) := fb_rp (fb_tx u n) (fb_lo u fr) e (e + 1 - fr) fr
theorem fb_pt_in {u : fb_M} {n N : Nat} (hB : fb_B u n N) {fr e l kk : Nat} (hfe : fr ≤ e) (he : e ≤ n) (h : fb_pt u n fr e = some (l, kk)) : l < 8 ∧ kk ≤ 10 := by
  have h80 := hB.2.1.1
  have h8 := hB.2.2.1
  obtain ⟨d, d1, d2, d3, d4, -⟩ := fb_rp_some h
  obtain ⟨bs, m1, -⟩ := fb_nm_some d3
  refine ⟨by have := (hB.lo (show fr ≤ 200 by omega) (show d ≤ n by omega)).2.2 l d4; omega, ?_⟩
  rcases (fb_Ws_m _).mp m1 with ⟨k, hk, q | q⟩ | q
  · cases q; omega
  · cases q; omega
  · cases q; omega
theorem eRp {u v : fb_M} {n N : Nat} (hB : fb_B u n N) (h : fb_Vc u n N v) {fr e : Nat} (hfe : fr ≤ e) (he : e ≤ n) : ∃ v', fX9_readPart v 104 (nI fr) (nI e) = some (fb_on ((fb_pt u n fr e).map (·.1)), v') ∧ fb_df v v' fb_27 ∧ ∀ l kk, fb_pt u n fr e = some (l, kk) → fb_I v' 104 27 = nI kk := by
  have h80 := hB.2.1.1
  obtain ⟨v', a1, a2, a3⟩ := eRpL hB hfe he 12 0 fb_F (e + 1, none) v (by omega) (by unfold fb_F; omega) h ⟨by show e + 1 ≤ 200; omega, fun l kk q => by cases q⟩
  have hs : ((fb_Wf 12 0).foldl (fb_ps (fb_tx u n) (fb_lo u fr) fr e) (e + 1, none)).2 = fb_pt u n fr e := fb_rp_fo hfe
  refine ⟨v', ?_, a2, ?_⟩
  · unfold fX9_readPart
    rw [nI_1]
    refine a1.trans ?_
    unfold fb_lf1
    rw [hs]
  · rw [← hs]; exact a3.2
theorem eRp3L {u w : fb_M} {n N : Nat} (hB : fb_B u n N) (h : fb_Wc u w) (a : Nat) {fr e : Nat} (hfr : fr ≤ 100) (he : e ≤ n) : ∀ m c fu, c + m = e + 1 → m < fu → gX3_readPart_3 21 a (nI fr) (nI e) fu (nI c) w = match fb_rp (fb_tx u n) (fb_lo u fr) e m c with | none => some (0, w) | some (l, kk) => (fX2_addPart w a (nI l) (nI kk)).bind fun r => some (1, r) := by
  have h80 := hB.2.1.1
  have hS := h.St hB.1
  intro m
  induction m with
  | zero =>
    intro c fu hc hf
    obtain ⟨fu, rfl⟩ : ∃ k, fu = k + 1 := ⟨fu - 1, by omega⟩
    show bX3_readPart_3 _ 21 a (nI fr) (nI e) (nI c) w = _
    unfold bX3_readPart_3
    rw [if_pos (nI_lt (by omega) (by omega))]
    rfl
  | succ m ih =>
    intro c fu hc hf
    obtain ⟨fu, rfl⟩ : ∃ k, fu = k + 1 := ⟨fu - 1, by omega⟩
    show bX3_readPart_3 _ 21 a (nI fr) (nI e) (nI c) w = _
    unfold bX3_readPart_3 jX3_readPart_44
    rw [if_neg (nI_nlt (by omega) (by omega)), hS.ld_21_0, eNum hB h (by omega) he, Option.bind_some, hS.ld_21_1, hS.ld_21_0, h.named hB (by omega) (show c ≤ n by omega), Option.bind_some, nI_1, fb_rp]
    cases hn : fb_nm (fb_tx u n) c e with
    | none =>
      rw [if_neg (show ¬ 0 ≤ fb_on none by decide), if_pos (by decide)]
      exact ih (c + 1) fu (by omega) (by omega)
    | some kk =>
      have hkk : kk ≤ 10 := by
        obtain ⟨bs, m1, -⟩ := fb_nm_some hn
        rcases (fb_Ws_m _).mp m1 with ⟨k, hk, q | q⟩ | q <;> cases q <;> omega
      rw [if_pos (show 0 ≤ fb_on (some kk) from nI_pos' (by omega))]
      cases hl : fb_lo u fr c with
      | none =>
        rw [if_pos (show fb_on none < 0 by decide)]
        exact ih (c + 1) fu (by omega) (by omega)
      | some l =>
        have := (hB.lo (show fr ≤ 200 by omega) (show c ≤ n by omega)).2.2 l hl
        have h8 := hB.2.2.1
        rw [if_neg (show ¬ fb_on (some l) < 0 from nI_pos (by omega))]
        rfl
theorem eRp3 {u w : fb_M} {n N : Nat} (hB : fb_B u n N) (h : fb_Wc u w) (a : Nat) {fr e : Nat} (hfe : fr ≤ e) (he : e ≤ n) : fX3_readPart w 21 a (nI fr) (nI e) = match fb_pt u n fr e with | none => some (0, w) | some (l, kk) => (fX2_addPart w a (nI l) (nI kk)).bind fun r => some (1, r) := by
  have h80 := hB.2.1.1
  exact eRp3L hB h a (by omega) he (e + 1 - fr) fr fb_F (by omega) (by unfold fb_F; omega)

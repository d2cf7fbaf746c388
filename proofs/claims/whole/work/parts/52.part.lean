/-! define: the part that a piece of the text is, the one way and the other -/
theorem fb_kBetween : fb_pk [110, 101, 101, 119, 116, 101, 66] 18688899356648814 = true := by decide +kernel
theorem fb_kEqual : fb_pk [108, 97, 117, 113, 69] 298256261484 = true := by decide +kernel
theorem fb_kEquals : fb_pk [115, 108, 97, 117, 113, 69] 76353602940019 = true := by decide +kernel
theorem fb_kFalse : fb_pk [101, 115, 108, 97, 70] 302282208101 = true := by decide +kernel
theorem fb_kGreater : fb_pk [114, 101, 116, 97, 101, 114, 71] 20110503098738034 = true := by decide +kernel
theorem fb_kIs : fb_pk [115, 73] 18803 = true := by decide +kernel
theorem fb_kLessThan : fb_pk [110, 97, 104, 84, 115, 115, 101, 76] 5504933058704859502 = true := by decide +kernel
theorem fb_kNot : fb_pk [116, 111, 78] 5140340 = true := by decide +kernel
theorem fb_kNull : fb_pk [108, 108, 117, 78] 1316318316 = true := by decide +kernel
theorem fb_kThan : fb_pk [110, 97, 104, 84] 1416126830 = true := by decide +kernel
theorem fb_kTrue : fb_pk [101, 117, 114, 84] 1416787301 = true := by decide +kernel
theorem eKs {u v : fb_M} {n N : Nat} (hB : fb_B u n N) (h : fb_Vc u n N v) {fr e : Nat} (hfr : fr ≤ 200) (he : e ≤ 200) : ∀ k, k < 12 → fX9_keywordStart v 104 (nI k) (nI fr) (nI e) = some (fb_on (fb_bf (fb_tx u n) fr (fb_by (fb_wx k)).reverse e)) := by
  intro k hk
  have hle : ∀ bs q, fb_bf (fb_tx u n) fr bs e = some q → q ≤ 200 := fun bs q hq => by have := fb_bf_le _ _ _ _ _ hq; omega
  have ho : ∀ p, some e = some p → p ≤ 200 := fun p hp => by cases hp; exact he
  unfold fX9_keywordStart
  match k, hk with
  | 0, _ =>
    rw [if_neg (by decide), if_neg (by decide), if_neg (by decide), if_neg (by decide), if_neg (by decide), if_neg (by decide), if_neg (by decide), if_neg (by decide), if_neg (by decide), if_neg (by decide), if_neg (by decide)]
    rfl
  | 1, _ =>
    rw [if_pos (by decide)]
    rw [show (fb_by (fb_wx 1)).reverse = [116, 111, 78] from rfl, show nI e = fb_on (some e) from rfl, eBf hB h hfr fb_kNot (by decide) ho, Option.bind_some, Option.bind_some]
  | 2, _ =>
    rw [if_neg (by decide), if_pos (by decide)]
    rw [show (fb_by (fb_wx 2)).reverse = [110, 97, 104, 84, 115, 115, 101, 76] from rfl, show nI e = fb_on (some e) from rfl, eBf hB h hfr fb_kLessThan (by decide) ho, Option.bind_some, Option.bind_some]
  | 3, _ =>
    rw [if_neg (by decide), if_neg (by decide), if_pos (by decide)]
    rw [show (fb_by (fb_wx 3)).reverse = [108, 97, 117, 113, 69] ++ [110, 97, 104, 84, 115, 115, 101, 76] from rfl, fb_bf_ap, show nI e = fb_on (some e) from rfl, eBf hB h hfr fb_kEqual (by decide) ho, Option.bind_some, Option.bind_some, eBf hB h hfr fb_kLessThan (by decide) (hle _), Option.bind_some]
  | 4, _ =>
    rw [if_neg (by decide), if_neg (by decide), if_neg (by decide), if_pos (by decide)]
    rw [show (fb_by (fb_wx 4)).reverse = [110, 97, 104, 84] ++ [114, 101, 116, 97, 101, 114, 71] from rfl, fb_bf_ap, show nI e = fb_on (some e) from rfl, eBf hB h hfr fb_kThan (by decide) ho, Option.bind_some, Option.bind_some, eBf hB h hfr fb_kGreater (by decide) (hle _), Option.bind_some]
  | 5, _ =>
    rw [if_neg (by decide), if_neg (by decide), if_neg (by decide), if_neg (by decide), if_pos (by decide)]
    rw [show (fb_by (fb_wx 5)).reverse = [108, 97, 117, 113, 69] ++ [110, 97, 104, 84] ++ [114, 101, 116, 97, 101, 114, 71] from rfl, fb_bf_ap, fb_bf_ap, show nI e = fb_on (some e) from rfl, eBf hB h hfr fb_kEqual (by decide) ho, Option.bind_some, Option.bind_some, eBf hB h hfr fb_kThan (by decide) (hle _), Option.bind_some, eBf hB h hfr fb_kGreater (by decide) (fun q hq => by rw [← fb_bf_ap] at hq; exact hle _ q hq), Option.bind_some]
  | 6, _ =>
    rw [if_neg (by decide), if_neg (by decide), if_neg (by decide), if_neg (by decide), if_neg (by decide), if_pos (by decide)]
    rw [show (fb_by (fb_wx 6)).reverse = [110, 101, 101, 119, 116, 101, 66] from rfl, show nI e = fb_on (some e) from rfl, eBf hB h hfr fb_kBetween (by decide) ho, Option.bind_some, Option.bind_some]
  | 7, _ =>
    rw [if_neg (by decide), if_neg (by decide), if_neg (by decide), if_neg (by decide), if_neg (by decide), if_neg (by decide), if_pos (by decide)]
    rw [show (fb_by (fb_wx 7)).reverse = [108, 108, 117, 78] from rfl, show nI e = fb_on (some e) from rfl, eBf hB h hfr fb_kNull (by decide) ho, Option.bind_some, Option.bind_some]
  | 8, _ =>
    rw [if_neg (by decide), if_neg (by decide), if_neg (by decide), if_neg (by decide), if_neg (by decide), if_neg (by decide), if_neg (by decide), if_pos (by decide)]
    rw [show (fb_by (fb_wx 8)).reverse = [108, 108, 117, 78] ++ [116, 111, 78] from rfl, fb_bf_ap, show nI e = fb_on (some e) from rfl, eBf hB h hfr fb_kNull (by decide) ho, Option.bind_some, Option.bind_some, eBf hB h hfr fb_kNot (by decide) (hle _), Option.bind_some]
  | 9, _ =>
    rw [if_neg (by decide), if_neg (by decide), if_neg (by decide), if_neg (by decide), if_neg (by decide), if_neg (by decide), if_neg (by decide), if_neg (by decide), if_pos (by decide)]
    rw [show (fb_by (fb_wx 9)).reverse = [101, 117, 114, 84] from rfl, show nI e = fb_on (some e) from rfl, eBf hB h hfr fb_kTrue (by decide) ho, Option.bind_some, Option.bind_some]
  | 10, _ =>
    rw [if_neg (by decide), if_neg (by decide), if_neg (by decide), if_neg (by decide), if_neg (by decide), if_neg (by decide), if_neg (by decide), if_neg (by decide), if_neg (by decide), if_pos (by decide)]
    rw [show (fb_by (fb_wx 10)).reverse = [101, 115, 108, 97, 70] from rfl, show nI e = fb_on (some e) from rfl, eBf hB h hfr fb_kFalse (by decide) ho, Option.bind_some, Option.bind_some]
  | 11, _ =>
    rw [if_neg (by decide), if_neg (by decide), if_neg (by decide), if_neg (by decide), if_neg (by decide), if_neg (by decide), if_neg (by decide), if_neg (by decide), if_neg (by decide), if_neg (by decide), if_pos (by decide)]
    rw [show (fb_by (fb_wx 11)).reverse = [115, 108, 97, 117, 113, 69] from rfl, show nI e = fb_on (some e) from rfl, eBf hB h hfr fb_kEquals (by decide) ho, Option.bind_some, Option.bind_some]
  | k + 12, hk => exact absurd hk (by omega)
def fb_ps (T : Nat → Int32) (lo : Nat → Option Nat) (fr e : Nat) (s : Nat × Option (Nat × Nat)) (x : Nat × List Int32) : Nat × Option (Nat × Nat) :=
  match fb_bf T fr x.2.reverse e with
  | none => s
  | some p =>
    match lo p with
    | none => s
    | some l => if p < s.1 then (p, some (l, x.1)) else s
/-- what is known when the words of a list have been looked at -/
def fb_FI (T : Nat → Int32) (lo : Nat → Option Nat) (fr e : Nat) (Ls : List (Nat × List Int32)) (s : Nat × Option (Nat × Nat)) : Prop :=
  (s = (e + 1, none) ∧ ∀ x ∈ Ls, ∀ p l, fb_bf T fr x.2.reverse e = some p → lo p = some l → False) ∨
  (∃ x ∈ Ls, ∃ p l, fb_bf T fr x.2.reverse e = some p ∧ lo p = some l ∧ s = (p, some (l, x.1)) ∧ ∀ y ∈ Ls, ∀ q l', fb_bf T fr y.2.reverse e = some q → lo q = some l' → p ≤ q)
theorem fb_FI.st {T : Nat → Int32} {lo : Nat → Option Nat} {fr e : Nat} {Ls : List (Nat × List Int32)} {s : Nat × Option (Nat × Nat)} (h : fb_FI T lo fr e Ls s) (x : Nat × List Int32) : fb_FI T lo fr e (Ls ++ [x]) (fb_ps T lo fr e s x) := by
  have hno : (∀ p l, fb_bf T fr x.2.reverse e = some p → lo p = some l → False) → fb_FI T lo fr e (Ls ++ [x]) s := by
    intro hx
    rcases h with ⟨h1, h2⟩ | ⟨y, hy, p, l, a1, a2, a3, a4⟩
    · refine Or.inl ⟨h1, fun y hy => ?_⟩
      rcases List.mem_append.mp hy with hy | hy
      · exact h2 y hy
      · rw [List.mem_singleton.mp hy]; exact hx
    · refine Or.inr ⟨y, List.mem_append_left _ hy, p, l, a1, a2, a3, fun z hz => ?_⟩
      rcases List.mem_append.mp hz with hz | hz
      · exact a4 z hz
      · rw [List.mem_singleton.mp hz]; exact fun q l' b1 b2 => (hx q l' b1 b2).elim
  unfold fb_ps
  cases hb : fb_bf T fr x.2.reverse e with
  | none => exact hno (fun p l h1 => by rw [hb] at h1; cases h1)
  | some p =>
    show fb_FI T lo fr e (Ls ++ [x]) (match lo p with | none => s | some l => if p < s.1 then (p, some (l, x.1)) else s)
    cases hl : lo p with
    | none => exact hno (fun q l h1 h2 => by rw [hb] at h1; cases h1; rw [hl] at h2; cases h2)
    | some l =>
      show fb_FI T lo fr e (Ls ++ [x]) (if p < s.1 then (p, some (l, x.1)) else s)
      have hpe := fb_bf_le _ _ _ _ _ hb
      rcases h with ⟨h1, h2⟩ | ⟨y, hy, p', l', a1, a2, a3, a4⟩
      · rw [if_pos (by rw [h1]; show p < e + 1; omega)]
        refine Or.inr ⟨x, List.mem_append_right _ (List.mem_singleton.mpr rfl), p, l, hb, hl, rfl, fun z hz => ?_⟩
        rcases List.mem_append.mp hz with hz | hz
        · exact fun q l' b1 b2 => (h2 z hz q l' b1 b2).elim
        · rw [List.mem_singleton.mp hz]
          exact fun q l' b1 b2 => by rw [hb] at b1; cases b1; exact Nat.le_refl _
      · by_cases hlt : p < s.1
        · rw [if_pos hlt]
          rw [a3] at hlt
          have hlt : p < p' := hlt
          refine Or.inr ⟨x, List.mem_append_right _ (List.mem_singleton.mpr rfl), p, l, hb, hl, rfl, fun z hz => ?_⟩
          rcases List.mem_append.mp hz with hz | hz
          · exact fun q l'' b1 b2 => by have := a4 z hz q l'' b1 b2; omega
          · rw [List.mem_singleton.mp hz]
            exact fun q l' b1 b2 => by rw [hb] at b1; cases b1; exact Nat.le_refl _
        · rw [if_neg hlt]
          rw [a3] at hlt
          have hlt : ¬ p < p' := hlt
          refine Or.inr ⟨y, List.mem_append_left _ hy, p', l', a1, a2, a3, fun z hz => ?_⟩
          rcases List.mem_append.mp hz with hz | hz
          · exact a4 z hz
          · rw [List.mem_singleton.mp hz]
            exact fun q l' b1 b2 => by rw [hb] at b1; cases b1; omega
theorem fb_FI.fo {T : Nat → Int32} {lo : Nat → Option Nat} {fr e : Nat} : ∀ (Ms Ls : List (Nat × List Int32)) (s : Nat × Option (Nat × Nat)), fb_FI T lo fr e Ls s → fb_FI T lo fr e (Ls ++ Ms) (Ms.foldl (fb_ps T lo fr e) s)
  | [], Ls, s, h => by rw [List.append_nil]; exact h
  | x :: Ms, Ls, s, h => by
    have := fb_FI.fo Ms (Ls ++ [x]) _ (h.st x)
    rw [List.append_assoc] at this
    exact this
/-- the part that the piece from fr to e is: the leaf and the keyword -/
def fb_rp (T : Nat → Int32) (lo : Nat → Option Nat) (e : Nat) : Nat → Nat → Option (Nat × Nat)
  | 0, _ => none
  | m + 1, c =>
    match fb_nm T c e with
    | none => fb_rp T lo e m (c + 1)
    | some kk =>
      match lo c with
      | none => fb_rp T lo e m (c + 1)
      | some l => some (l, kk)
theorem fb_rp_none {T : Nat → Int32} {lo : Nat → Option Nat} {e : Nat} : ∀ {m c}, fb_rp T lo e m c = none → ∀ d kk l, c ≤ d → d < c + m → fb_nm T d e = some kk → lo d = some l → False
  | 0, c, _, d, kk, l, h1, h2, _, _ => by omega
  | m + 1, c, h, d, kk, l, h1, h2, h3, h4 => by
    rw [fb_rp] at h
    have hr : fb_rp T lo e m (c + 1) = none ∧ (fb_nm T c e = none ∨ lo c = none) := by
      cases hn : fb_nm T c e with
      | none => rw [hn] at h; exact ⟨h, Or.inl rfl⟩
      | some k2 =>
        rw [hn] at h
        cases hl : lo c with
        | none => rw [hl] at h; exact ⟨h, Or.inr rfl⟩
        | some l2 => rw [hl] at h; cases h
    by_cases hd : d = c
    · subst hd
      rcases hr.2 with q | q
      · rw [q] at h3; cases h3
      · rw [q] at h4; cases h4
    · exact fb_rp_none hr.1 d kk l (by omega) (by omega) h3 h4
theorem fb_rp_some {T : Nat → Int32} {lo : Nat → Option Nat} {e : Nat} : ∀ {m c l kk}, fb_rp T lo e m c = some (l, kk) → ∃ d, c ≤ d ∧ d < c + m ∧ fb_nm T d e = some kk ∧ lo d = some l ∧ ∀ d' k' l', c ≤ d' → d' < d → fb_nm T d' e = some k' → lo d' = some l' → False
  | 0, c, l, kk, h => by cases h
  | m + 1, c, l, kk, h => by
    rw [fb_rp] at h
    have hr : (fb_rp T lo e m (c + 1) = some (l, kk) ∧ (fb_nm T c e = none ∨ lo c = none)) ∨ (fb_nm T c e = some kk ∧ lo c = some l) := by
      cases hn : fb_nm T c e with
      | none => rw [hn] at h; exact Or.inl ⟨h, Or.inl rfl⟩
      | some k2 =>
        rw [hn] at h
        cases hl : lo c with
        | none => rw [hl] at h; exact Or.inl ⟨h, Or.inr rfl⟩
        | some l2 => rw [hl] at h; cases h; exact Or.inr ⟨rfl, rfl⟩
    rcases hr with ⟨h1, h2⟩ | ⟨h1, h2⟩
    · obtain ⟨d, d1, d2, d3, d4, d5⟩ := fb_rp_some h1
      refine ⟨d, by omega, by omega, d3, d4, fun d' k' l' q1 q2 q3 q4 => ?_⟩
      by_cases hd : d' = c
      · subst hd
        rcases h2 with q | q
        · rw [q] at q3; cases q3
        · rw [q] at q4; cases q4
      · exact d5 d' k' l' (by omega) q2 q3 q4
    · exact ⟨c, Nat.le_refl _, by omega, h1, h2, fun d' k' l' q1 q2 => by omega⟩
theorem fb_rp_fo {T : Nat → Int32} {lo : Nat → Option Nat} {fr e : Nat} (hfe : fr ≤ e) : (fb_Ws.foldl (fb_ps T lo fr e) (e + 1, none)).2 = fb_rp T lo e (e + 1 - fr) fr := by
  have hF := fb_FI.fo (T := T) (lo := lo) (fr := fr) (e := e) fb_Ws [] (e + 1, none) (Or.inl ⟨rfl, fun x hx => by cases hx⟩)
  rw [List.nil_append] at hF
  have hbf : ∀ x ∈ fb_Ws, ∀ p, fb_bf T fr x.2.reverse e = some p ↔ (fr ≤ p ∧ fb_pm T x.2 p e) := by
    intro x hx p
    rw [fb_bf_st T fr _ _ hfe, List.reverse_reverse, List.length_reverse]
    by_cases hc : x.2.length + fr ≤ e ∧ fb_st T x.2 (e - x.2.length) = true
    · rw [if_pos hc]
      constructor
      · intro h; cases h; exact ⟨by omega, by omega, hc.2⟩
      · intro h
        have := h.2.1
        rw [show e - x.2.length = p by omega]
    · rw [if_neg hc]
      constructor
      · intro h; cases h
      · intro h
        exfalso
        have h1 := h.2.1
        exact hc ⟨by have := h.1; omega, by rw [show e - x.2.length = p by omega]; exact h.2.2⟩
  generalize fb_Ws.foldl (fb_ps T lo fr e) (e + 1, none) = s at hF
  cases hr : fb_rp T lo e (e + 1 - fr) fr with
  | none =>
    rcases hF with ⟨h1, h2⟩ | ⟨x, hx, p, l, a1, a2, a3, a4⟩
    · rw [h1]
    · exfalso
      obtain ⟨b1, b2⟩ := (hbf x hx p).mp a1
      have := b2.1
      exact fb_rp_none hr p x.1 l b1 (by omega) (fb_nm_of (bs := x.2) hx b2) a2
  | some r =>
    obtain ⟨l, kk⟩ := r
    obtain ⟨d, d1, d2, d3, d4, d5⟩ := fb_rp_some hr
    obtain ⟨bs, m1, m2⟩ := fb_nm_some d3
    have hd := (hbf (kk, bs) m1 d).mpr ⟨d1, m2⟩
    rcases hF with ⟨h1, h2⟩ | ⟨x, hx, p, l', a1, a2, a3, a4⟩
    · exact (h2 _ m1 d l hd d4).elim
    · have hpd := a4 _ m1 d l hd d4
      obtain ⟨b1, b2⟩ := (hbf x hx p).mp a1
      have hnp := fb_nm_of (bs := x.2) hx b2
      have hpd : p = d := by
        by_cases hlt : p < d
        · exact (d5 p x.1 l' b1 hlt hnp a2).elim
        · omega
      subst hpd
      rw [d3] at hnp
      rw [d4] at a2
      cases hnp
      cases a2
      rw [a3]

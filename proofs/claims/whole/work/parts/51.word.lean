/-! define: keywords, and the part that a piece of the text is -/
def fb_wx (k : Nat) : Nat := if k = 0 then 22 else if k ≤ 10 then 11 + k else 10
def fb_by (k : Nat) : List Int32 := fb_byt.getD k []
theorem eSwb {u w : fb_M} {n N : Nat} (hB : fb_B u n N) (h : fb_Wc u w) {k : Nat} (hk : k < 25) {p e : Nat} (hp : p ≤ 200) (he : e ≤ n) : fX0_startsWith w 1 k (nI p) (nI e) = some (if fb_len.getD k 0 + p ≤ e ∧ fb_st (fb_tx u n) (fb_by k) p = true then 1 else 0) := eSw hB h hk hp he
theorem fb_wx_lt (k : Nat) : fb_wx k < 25 := by unfold fb_wx; (split; omega; split <;> omega)
theorem eWordD : ∀ k, k < 11 → (if nI k = 1 then some 12 else if nI k = 2 then some 13 else if nI k = 3 then some 14 else if nI k = 4 then some 15 else if nI k = 5 then some 16 else if nI k = 6 then some 17 else if nI k = 7 then some 18 else if nI k = 8 then some 19 else if nI k = 9 then some 20 else if nI k = 10 then some 21 else some 22) = some (fb_wx k) := by decide +kernel
theorem eWord (w : fb_M) {k : Nat} (hk : k < 11) : fX10_word w (nI k) = some (fb_wx k) := eWordD k hk
/-- the piece from p to e is word k -/
def fb_pm (T : Nat → Int32) (bs : List Int32) (p e : Nat) : Prop := bs.length + p = e ∧ fb_st T bs p = true
def fb_fki (T : Nat → Int32) (s e : Nat) : Nat → Nat → Option Nat
  | 0, _ => none
  | m + 1, k => if (fb_by (fb_wx k)).length + s = e ∧ fb_st T (fb_by (fb_wx k)) s = true then some k else fb_fki T s e m (k + 1)
def fb_nm (T : Nat → Int32) (c e : Nat) : Option Nat :=
  if (fb_by 10).length + c = e ∧ fb_st T (fb_by 10) c = true then some 0 else if 2 + c ≤ e ∧ fb_st T (fb_by 11) c = true then fb_fki T (c + 2) e 11 0 else fb_fki T c e 11 0
theorem eNumL {u w : fb_M} {n N : Nat} (hB : fb_B u n N) (h : fb_Wc u w) {s e : Nat} (hs : s ≤ 190) (he : e ≤ n) : ∀ m k fu, k + m = 11 → m < fu → gX10_numberOf_50 1 (nI e) (nI s) w fu (nI k) = some (fb_on (fb_fki (fb_tx u n) s e m k)) := by
  have h80 := hB.2.1.1
  intro m
  induction m with
  | zero =>
    intro k fu hk hf
    obtain ⟨fu, rfl⟩ : ∃ k, fu = k + 1 := ⟨fu - 1, by omega⟩
    show bX10_numberOf_50 _ 1 (nI e) (nI s) (nI k) w = _
    unfold bX10_numberOf_50
    rw [if_pos (show (10 : Int32) < nI k from nI_lt (a := 10) (by omega) (by omega))]
    rfl
  | succ m ih =>
    intro k fu hk hf
    obtain ⟨fu, rfl⟩ : ∃ k, fu = k + 1 := ⟨fu - 1, by omega⟩
    show bX10_numberOf_50 _ 1 (nI e) (nI s) (nI k) w = _
    unfold bX10_numberOf_50
    have hw := fb_wx_lt k
    obtain ⟨l1, l2, -⟩ := fb_ln (fb_wx k) hw
    have l1' : (fb_by (fb_wx k)).length = fb_len.getD (fb_wx k) 0 := l1.symm
    rw [if_neg (show ¬ (10 : Int32) < nI k from nI_nlt (a := 10) (by omega) (by omega)), eWord w (by omega), Option.bind_some, fb_gdT (show fb_wx k < fb_nS from hw), eSwb hB h hw (by omega) he, nI_1, ih (k + 1) fu (by omega) (by omega), Option.bind_some, fb_fki, l1']
    by_cases hc : fb_len.getD (fb_wx k) 0 + s = e
    · rw [if_pos (show nI e - nI s = Int32.ofNat (fb_len.getD (fb_wx k) 0) from (fb_sub_eq (by omega) (by omega) (by omega)).mpr (by omega))]
      by_cases hd : fb_st (fb_tx u n) (fb_by (fb_wx k)) s = true
      · rw [if_pos (c := fb_len.getD (fb_wx k) 0 + s ≤ e ∧ _) ⟨by omega, hd⟩, if_neg fb_10, if_pos ⟨hc, hd⟩]; rfl
      · rw [if_neg (c := fb_len.getD (fb_wx k) 0 + s ≤ e ∧ _) (fun q => hd q.2), if_pos rfl, if_neg (fun q => hd q.2)]
    · rw [if_neg (show ¬ nI e - nI s = Int32.ofNat (fb_len.getD (fb_wx k) 0) from fun q => hc (by have := (fb_sub_eq (by omega) (by omega) (by omega)).mp q; omega)), if_neg (fun q => hc q.1)]
theorem eNum {u w : fb_M} {n N : Nat} (hB : fb_B u n N) (h : fb_Wc u w) {c e : Nat} (hc : c ≤ 180) (he : e ≤ n) : fX10_numberOf w 1 (nI c) (nI e) = some (fb_on (fb_nm (fb_tx u n) c e)) := by
  have h80 := hB.2.1.1
  have k10 : fb_len.getD 10 0 = 6 := rfl
  have k11 : fb_len.getD 11 0 = 2 := rfl
  have b10 : (fb_by 10).length = 6 := rfl
  have hj : jX10_numberOf_24 1 (nI c) (nI e) w = some (fb_on (if 2 + c ≤ e ∧ fb_st (fb_tx u n) (fb_by 11) c = true then fb_fki (fb_tx u n) (c + 2) e 11 0 else fb_fki (fb_tx u n) c e 11 0)) := by
    unfold jX10_numberOf_24
    have p1 : gX10_numberOf_50 1 (nI e) (nI c) w fb_F 0 = _ := eNumL hB h (s := c) (by omega) he 11 0 fb_F (by omega) (by unfold fb_F; omega)
    have p2 : gX10_numberOf_50 1 (nI e) (nI (c + 2)) w fb_F 0 = _ := eNumL hB h (s := c + 2) (by omega) he 11 0 fb_F (by omega) (by unfold fb_F; omega)
    rw [eSwb hB h (k := 11) (by omega) (by omega) he, Option.bind_some, show nI c + Int32.ofNat (fb_len.getD 11 0) = nI (c + 2) from nI_add c 2, p1, p2, k11]
    by_cases hd : 2 + c ≤ e ∧ fb_st (fb_tx u n) (fb_by 11) c = true
    · rw [if_pos hd, if_pos hd, if_neg fb_10]
    · rw [if_neg hd, if_neg hd, if_pos rfl]
  unfold fX10_numberOf fb_nm
  rw [hj, eSwb hB h (k := 10) (by omega) (by omega) he, k10, b10, Option.bind_some]
  by_cases hd : 6 + c = e
  · rw [if_pos (show nI e - nI c = Int32.ofNat 6 from (fb_sub_eq (by omega) (by omega) (by omega)).mpr (by omega))]
    by_cases hg : fb_st (fb_tx u n) (fb_by 10) c = true
    · rw [if_pos (c := 6 + c ≤ e ∧ _) ⟨by omega, hg⟩, if_neg fb_10, if_pos (c := 6 + c = e ∧ _) ⟨hd, hg⟩]; rfl
    · rw [if_neg (c := 6 + c ≤ e ∧ _) (fun q => hg q.2), if_pos rfl, if_neg (c := 6 + c = e ∧ _) (fun q => hg q.2)]
  · rw [if_neg (show ¬ nI e - nI c = Int32.ofNat 6 from fun q => hd (by have := (fb_sub_eq (by omega) (by omega) (by omega)).mp q; omega)), if_neg (c := 6 + c = e ∧ _) (fun q => hd q.1)]
/-! all keywords there are, with Is and without -/
def fb_Wf : Nat → Nat → List (Nat × List Int32)
  | 0, _ => []
  | m + 1, k => if k < 11 then (k, fb_by (fb_wx k)) :: (k, fb_by 11 ++ fb_by (fb_wx k)) :: fb_Wf m (k + 1) else (0, fb_by 10) :: fb_Wf m (k + 1)
def fb_Ws : List (Nat × List Int32) := fb_Wf 12 0
theorem fb_Ws_eq : fb_Ws = (List.range 11).flatMap (fun k => [(k, fb_by (fb_wx k)), (k, fb_by 11 ++ fb_by (fb_wx k))]) ++ [(0, fb_by 10)] := by decide +kernel
theorem fb_Ws_m (x : Nat × List Int32) : x ∈ fb_Ws ↔ (∃ k, k < 11 ∧ (x = (k, fb_by (fb_wx k)) ∨ x = (k, fb_by 11 ++ fb_by (fb_wx k)))) ∨ x = (0, fb_by 10) := by
  rw [fb_Ws_eq, List.mem_append, List.mem_flatMap, List.mem_singleton]
  constructor
  · rintro (⟨k, h1, h2⟩ | h)
    · refine Or.inl ⟨k, List.mem_range.mp h1, ?_⟩
      simpa using h2
    · exact Or.inr h
  · rintro (⟨k, h1, h2⟩ | h)
    · refine Or.inl ⟨k, List.mem_range.mpr h1, ?_⟩
      simpa using h2
    · exact Or.inr h
theorem fb_Ws_d : ∀ x ∈ fb_Ws, ∀ y ∈ fb_Ws, x.2 = y.2 → x.1 = y.1 := by decide +kernel
theorem fb_Ws_I : ∀ k, k < 11 → fb_by (fb_wx k) = [] ∨ ∃ b ∈ [(66 : Int32), 70, 71, 76, 78, 84], (fb_by (fb_wx k)).head? = some b := by decide +kernel
theorem fb_fk_some {T : Nat → Int32} {s e : Nat} : ∀ {m k kk}, fb_fki T s e m k = some kk → k ≤ kk ∧ kk < k + m ∧ fb_pm T (fb_by (fb_wx kk)) s e
  | 0, k, kk, h => by cases h
  | m + 1, k, kk, h => by
    rw [fb_fki] at h
    by_cases hc : (fb_by (fb_wx k)).length + s = e ∧ fb_st T (fb_by (fb_wx k)) s = true
    · rw [if_pos hc] at h; cases h; exact ⟨Nat.le_refl _, by omega, hc⟩
    · rw [if_neg hc] at h
      obtain ⟨h1, h2, h3⟩ := fb_fk_some h
      exact ⟨by omega, by omega, h3⟩
theorem fb_fk_none {T : Nat → Int32} {s e : Nat} : ∀ {m k}, fb_fki T s e m k = none → ∀ j, k ≤ j → j < k + m → ¬ fb_pm T (fb_by (fb_wx j)) s e
  | 0, k, h, j, h1, h2 => by omega
  | m + 1, k, h, j, h1, h2 => by
    rw [fb_fki] at h
    by_cases hc : (fb_by (fb_wx k)).length + s = e ∧ fb_st T (fb_by (fb_wx k)) s = true
    · rw [if_pos hc] at h; cases h
    · rw [if_neg hc] at h
      by_cases hj : j = k
      · subst hj; exact hc
      · exact fb_fk_none h j (by omega) (by omega)
theorem fb_st_u {T : Nat → Int32} : ∀ {as bs : List Int32} {p : Nat}, as.length = bs.length → fb_st T as p = true → fb_st T bs p = true → as = bs
  | [], [], _, _, _, _ => rfl
  | [], b :: bs, _, h, _, _ => by simp at h
  | a :: as, [], _, h, _, _ => by simp at h
  | a :: as, b :: bs, p, h, h1, h2 => by
    obtain ⟨x1, x2⟩ := fb_st_c.mp h1
    obtain ⟨y1, y2⟩ := fb_st_c.mp h2
    rw [fb_st_u (by simpa using h) x2 y2, ← x1, ← y1]
theorem fb_nm_some {T : Nat → Int32} {c e kk : Nat} (h : fb_nm T c e = some kk) : ∃ bs, (kk, bs) ∈ fb_Ws ∧ fb_pm T bs c e := by
  unfold fb_nm at h
  by_cases h1 : (fb_by 10).length + c = e ∧ fb_st T (fb_by 10) c = true
  · rw [if_pos h1] at h; cases h
    exact ⟨fb_by 10, (fb_Ws_m _).mpr (Or.inr rfl), h1⟩
  · rw [if_neg h1] at h
    by_cases h2 : 2 + c ≤ e ∧ fb_st T (fb_by 11) c = true
    · rw [if_pos h2] at h
      obtain ⟨-, a2, a3, a4⟩ := fb_fk_some h
      refine ⟨fb_by 11 ++ fb_by (fb_wx kk), (fb_Ws_m _).mpr (Or.inl ⟨kk, by omega, Or.inr rfl⟩), ?_, ?_⟩
      · rw [List.length_append, show (fb_by 11).length = 2 from rfl]; omega
      · rw [fb_st_ap]; exact ⟨h2.2, a4⟩
    · rw [if_neg h2] at h
      obtain ⟨-, a2, a3⟩ := fb_fk_some h
      exact ⟨_, (fb_Ws_m _).mpr (Or.inl ⟨kk, by omega, Or.inl rfl⟩), a3⟩
theorem fb_nm_of {T : Nat → Int32} {c e kk : Nat} {bs : List Int32} (hm : (kk, bs) ∈ fb_Ws) (hp : fb_pm T bs c e) : fb_nm T c e = some kk := by
  cases hq : fb_nm T c e with
  | some k2 =>
    obtain ⟨b2, m2, p2⟩ := fb_nm_some hq
    have he : b2 = bs := fb_st_u (by have := hp.1; have := p2.1; omega) p2.2 hp.2
    rw [show k2 = kk from fb_Ws_d _ m2 _ hm he]
  | none =>
    exfalso
    unfold fb_nm at hq
    by_cases h1 : (fb_by 10).length + c = e ∧ fb_st T (fb_by 10) c = true
    · rw [if_pos h1] at hq; cases hq
    · rw [if_neg h1] at hq
      rcases (fb_Ws_m _).mp hm with ⟨k, hk, h | h⟩ | h
      · cases h
        by_cases h2 : 2 + c ≤ e ∧ fb_st T (fb_by 11) c = true
        · have hI : T c = 73 := (fb_st_c.mp (show fb_st T ((73 : Int32) :: [115]) c = true from h2.2)).1
          rcases fb_Ws_I kk hk with h3 | ⟨b, hb, h3⟩
          · have := hp.1
            rw [h3] at this
            simp at this
            omega
          · cases hl : fb_by (fb_wx kk) with
            | nil => rw [hl] at h3; cases h3
            | cons b' bs' =>
              rw [hl] at h3
              cases h3
              have h4 := hp.2
              rw [hl] at h4
              have h5 := (fb_st_c.mp h4).1
              rw [hI] at h5
              subst h5
              revert hb
              decide
        · rw [if_neg h2] at hq
          exact fb_fk_none hq kk (by omega) (by omega) hp
      · cases h
        have h2 := (fb_st_ap T _ _ _).mp hp.2
        have h3 := hp.1
        rw [List.length_append, show (fb_by 11).length = 2 from rfl] at h3
        rw [if_pos ⟨by omega, h2.1⟩] at hq
        exact fb_fk_none hq kk (by omega) (by omega) ⟨by omega, h2.2⟩
      · cases h
        exact h1 hp

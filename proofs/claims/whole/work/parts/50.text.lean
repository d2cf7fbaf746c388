/-! define: words in the text -/
theorem fb_subI {a b : Nat} (ha : a < 2 ^ 30) (hb : b < 2 ^ 30) : (nI a - nI b).toInt = (a : Int) - b := by
  by_cases h : b ≤ a
  · rw [nI_sub h, nI_toInt (by omega)]; omega
  · have h1 : nI a - nI b = -(nI (b - a)) := by
      rw [← nI_sub (show a ≤ b by omega), Int32.neg_sub]
    rw [h1, Int32.toInt_neg, nI_toInt (by omega)]
    rw [Int.bmod_eq_of_le (by omega) (by omega)]
    omega
theorem fb_sub_le {a e p : Nat} (ha : a < 2 ^ 30) (he : e < 2 ^ 30) (hp : p < 2 ^ 30) : nI a ≤ nI e - nI p ↔ a + p ≤ e := by
  rw [Int32.le_iff_toInt_le, fb_subI he hp, nI_toInt (by omega)]; omega
theorem fb_sub_lt {a e p : Nat} (ha : a < 2 ^ 30) (he : e < 2 ^ 30) (hp : p < 2 ^ 30) : nI e - nI p < nI a ↔ e < a + p := by
  rw [Int32.lt_iff_toInt_lt, fb_subI he hp, nI_toInt (by omega)]; omega
theorem fb_sub_eq {a e p : Nat} (ha : a < 2 ^ 30) (he : e < 2 ^ 30) (hp : p < 2 ^ 30) : nI e - nI p = nI a ↔ e = a + p := by
  rw [← Int32.toInt_inj, fb_subI he hp, nI_toInt (by omega)]; omega
def fb_st (t : Nat → Int32) : List Int32 → Nat → Bool
  | [], _ => true
  | b :: bs, p => decide (t p = b) && fb_st t bs (p + 1)
theorem fb_st_c {t : Nat → Int32} {b : Int32} {bs : List Int32} {p : Nat} : fb_st t (b :: bs) p = true ↔ t p = b ∧ fb_st t bs (p + 1) = true := by
  rw [fb_st, Bool.and_eq_true, decide_eq_true_iff]
/-- what is read, fixed while it is read -/
def fb_B (u : fb_M) (n N : Nat) : Prop := fb_St u ∧ fb_Tx u u n ∧ fb_Lx u u N
def fb_Wc (u w : fb_M) : Prop := fb_df u w (fun a _ => 21 ≤ a)
def fb_Vc (u : fb_M) (n N : Nat) (v : fb_M) : Prop := fb_St v ∧ fb_Tx u v n ∧ fb_Lx u v N
def fb_on : Option Nat → Int32
  | none => -1
  | some p => nI p
def fb_lo (u : fb_M) (fr to : Nat) : Option Nat :=
  match fX6_named u 3 1 (nI fr) (nI to) with
  | some r => if r < 0 then none else some r.toNatClampNeg
  | none => none
theorem fb_Wc.Tx {u w : fb_M} {n N : Nat} (hB : fb_B u n N) (h : fb_Wc u w) : fb_Tx w u n := hB.2.1.df h (by omega) (fun k => by omega)
theorem fb_Wc.Lx {u w : fb_M} {n N : Nat} (hB : fb_B u n N) (h : fb_Wc u w) : fb_Lx w u N := by
  have := hB.2.2.1
  exact hB.2.2.df h (by omega) (fun a k h1 h2 => by omega)
theorem fb_B.lo {u : fb_M} {n N : Nat} (hB : fb_B u n N) {fr to : Nat} (hfr : fr ≤ 200) (hto : to ≤ n) : fX6_named u 3 1 (nI fr) (nI to) = some (fb_on (fb_lo u fr to)) ∧ fX9_leafOf u 104 (nI fr) (nI to) = some (fb_on (fb_lo u fr to)) ∧ ∀ b, fb_lo u fr to = some b → b < N := by
  have h8 := hB.2.2.1
  obtain ⟨r, h1, h2, h3⟩ := eNamed hB.1 hB.1 hB.2.1 hB.2.2 hfr hto
  have hl : fb_lo u fr to = if r < 0 then none else some r.toNatClampNeg := by unfold fb_lo; rw [h1]
  rw [hl, h1, h2]
  rcases h3 with rfl | ⟨b, hb, rfl⟩
  · rw [if_pos (by decide)]
    exact ⟨rfl, rfl, fun b hb => by cases hb⟩
  · rw [if_neg (nI_pos (by omega)), nI_clamp (by omega)]
    exact ⟨rfl, rfl, fun c hc => by cases hc; exact hb⟩
theorem fb_Wc.named {u w : fb_M} {n N : Nat} (hB : fb_B u n N) (h : fb_Wc u w) {fr to : Nat} (hfr : fr ≤ 200) (hto : to ≤ n) : fX6_named w 3 1 (nI fr) (nI to) = some (fb_on (fb_lo u fr to)) := by
  obtain ⟨r, h1, h2, -⟩ := eNamed (h.St hB.1) hB.1 (h.Tx hB) (h.Lx hB) hfr hto
  rw [h1, ← h2, (hB.lo hfr hto).2.1]
theorem fb_Vc.leafOf {u v : fb_M} {n N : Nat} (hB : fb_B u n N) (h : fb_Vc u n N v) {fr to : Nat} (hfr : fr ≤ 200) (hto : to ≤ n) : fX9_leafOf v 104 (nI fr) (nI to) = some (fb_on (fb_lo u fr to)) := by
  obtain ⟨r, h1, h2, -⟩ := eNamed hB.1 h.1 h.2.1 h.2.2 hfr hto
  rw [h2, ← h1, (hB.lo hfr hto).1]
theorem fb_Wc.at_ {u w : fb_M} {n N : Nat} (hB : fb_B u n N) (h : fb_Wc u w) {p : Nat} (hp : p < 2 ^ 31) : fX0_at w 1 (nI p) = some (fb_tx u n p) := by
  rw [eX0_at (h.St hB.1) hB.1 (h.Tx hB) hp]
  unfold fb_tx
  rw [h.I (a := 2) (fun k => by omega)]
theorem fb_Vc.at_ {u v : fb_M} {n N : Nat} (hB : fb_B u n N) (h : fb_Vc u n N v) {p : Nat} (hp : p < 2 ^ 31) : fX9_at v 104 (nI p) = some (fb_tx u n p) := eX9_at hB.1 h.1 h.2.1 hp
theorem fb_ln : ∀ w, w < 25 → fb_len.getD w 0 = (fb_byt.getD w []).length ∧ fb_len.getD w 0 ≤ 16 ∧ ∀ i, i < fb_len.getD w 0 → ((fb_byt.getD w []).getD i 0 &&& 255) = (fb_byt.getD w []).getD i 0 := by decide +kernel
theorem eSwL {u w : fb_M} {n N : Nat} (hB : fb_B u n N) (h : fb_Wc u w) {k : Nat} (hk : k < 25) {p : Nat} (hp : p + fb_len.getD k 0 ≤ n) : ∀ m i fu, i + m = fb_len.getD k 0 → m < fu → gX0_startsWith_27 1 k (nI p) w fu (nI i) = some (if fb_st (fb_tx u n) ((fb_byt.getD k []).drop i) (p + i) then 1 else 0) := by
  obtain ⟨l1, l2, l3⟩ := fb_ln k hk
  have h80 := hB.2.1.1
  have hS := h.St hB.1
  intro m
  induction m with
  | zero =>
    intro i fu hi hf
    obtain ⟨fu, rfl⟩ : ∃ k, fu = k + 1 := ⟨fu - 1, by omega⟩
    show bX0_startsWith_27 _ 1 k (nI p) (nI i) w = _
    unfold bX0_startsWith_27
    rw [if_pos (show Int32.ofNat (fb_len.getD k 0) ≤ nI i from nI_le (by omega) (by omega)), List.drop_eq_nil_of_le (by omega)]
    rfl
  | succ m ih =>
    intro i fu hi hf
    obtain ⟨fu, rfl⟩ : ∃ k, fu = k + 1 := ⟨fu - 1, by omega⟩
    show bX0_startsWith_27 _ 1 k (nI p) (nI i) w = _
    unfold bX0_startsWith_27
    rw [if_neg (show ¬ Int32.ofNat (fb_len.getD k 0) ≤ nI i from nI_ge (by omega) (by omega)), hS.ld_1_0, fb_n2, nI_add, fb_gix (show p + i < 80 by omega) (by omega), nI_clamp (n := p + i) (by omega), fb_gix (show i < fb_len.getD k 0 by omega) (by omega), nI_clamp (n := i) (by omega), l3 i (by omega), nI_1, ih (i + 1) fu (by omega) (by omega), h.I (a := 2) (fun k => by omega)]
    rw [List.drop_eq_getElem_cons (show i < (fb_byt.getD k []).length by omega), ← show (fb_byt.getD k []).getD i 0 = (fb_byt.getD k [])[i]'(by omega) by rw [List.getD_eq_getElem?_getD, List.getElem?_eq_getElem (by omega)]; rfl]
    have ht : fb_tx u n (p + i) = fb_I u 2 (p + i) := if_pos (by omega)
    by_cases hc : fb_I u 2 (p + i) = (fb_byt.getD k []).getD i 0
    · rw [if_pos hc]
      by_cases hd : fb_st (fb_tx u n) ((fb_byt.getD k []).drop (i + 1)) (p + (i + 1))
      · rw [if_pos hd, if_pos (fb_st_c.mpr ⟨ht.trans hc, hd⟩)]
      · rw [if_neg hd, if_neg (fun q => hd (by have := (fb_st_c.mp q).2; rwa [Nat.add_assoc] at this))]
    · rw [if_neg hc, if_neg (fun q => hc (ht.symm.trans (fb_st_c.mp q).1))]
theorem eSw {u w : fb_M} {n N : Nat} (hB : fb_B u n N) (h : fb_Wc u w) {k : Nat} (hk : k < 25) {p e : Nat} (hp : p ≤ 200) (he : e ≤ n) : fX0_startsWith w 1 k (nI p) (nI e) = some (if fb_len.getD k 0 + p ≤ e ∧ fb_st (fb_tx u n) (fb_byt.getD k []) p then 1 else 0) := by
  have h80 := hB.2.1.1
  obtain ⟨l1, l2, l3⟩ := fb_ln k hk
  unfold fX0_startsWith
  rw [if_neg (nI_pos (by omega)), (h.Tx hB).2.1, if_neg (nI_nlt he (by omega))]
  by_cases hc : fb_len.getD k 0 + p ≤ e
  · rw [if_pos (show Int32.ofNat (fb_len.getD k 0) ≤ nI e - nI p from (fb_sub_le (by omega) (by omega) (by omega)).mpr hc), show (0 : Int32) = nI 0 from rfl, eSwL hB h hk (by omega) (fb_len.getD k 0) 0 fb_F (by omega) (by unfold fb_F; omega)]
    simp only [List.drop_zero, Nat.add_zero, hc, true_and]
    rfl
  · rw [if_neg (show ¬ Int32.ofNat (fb_len.getD k 0) ≤ nI e - nI p from fun q => hc ((fb_sub_le (by omega) (by omega) (by omega)).mp q)), if_neg (fun q => hc q.1)]
theorem eEw {u w : fb_M} {n N : Nat} (hB : fb_B u n N) (h : fb_Wc u w) {k : Nat} (hk : k < 25) {p e : Nat} (hp : p ≤ 200) (he : e ≤ n) : fX0_endsWith w 1 k (nI p) (nI e) = some (if fb_len.getD k 0 + p ≤ e ∧ fb_st (fb_tx u n) (fb_byt.getD k []) (e - fb_len.getD k 0) then 1 else 0) := by
  have h80 := hB.2.1.1
  obtain ⟨l1, l2, l3⟩ := fb_ln k hk
  unfold fX0_endsWith
  by_cases hc : fb_len.getD k 0 + p ≤ e
  · rw [if_neg (show ¬ nI e - Int32.ofNat (fb_len.getD k 0) < nI p from fun q => absurd ((fb_sub_lt (by omega) (by omega) (by omega)).mp q) (by omega)), show nI e - Int32.ofNat (fb_len.getD k 0) = nI (e - fb_len.getD k 0) from nI_sub (by omega), eSw hB h hk (by omega) he, Option.bind_some]
    by_cases hd : fb_st (fb_tx u n) (fb_byt.getD k []) (e - fb_len.getD k 0)
    · rw [if_pos (c := fb_len.getD k 0 + (e - fb_len.getD k 0) ≤ e ∧ _) ⟨by omega, hd⟩, if_neg fb_10, if_pos ⟨hc, hd⟩]
    · rw [if_neg (c := fb_len.getD k 0 + (e - fb_len.getD k 0) ≤ e ∧ _) (fun q => hd q.2), if_pos rfl, if_neg (fun q => hd q.2)]
  · rw [if_pos (show nI e - Int32.ofNat (fb_len.getD k 0) < nI p from (fb_sub_lt (by omega) (by omega) (by omega)).mpr (by omega)), if_neg (fun q => hc q.1)]
theorem eCut {u w : fb_M} {n N : Nat} (hB : fb_B u n N) (h : fb_Wc u w) {k : Nat} (hk : k < 25) {p e : Nat} (hp : p ≤ 200) (he : e ≤ n) : fX0_isCutAt w 1 k (nI p) (nI e) = some (if fb_len.getD k 0 + p < e ∧ fb_cap (fb_tx u n (p + fb_len.getD k 0)) ∧ fb_st (fb_tx u n) (fb_byt.getD k []) p then 1 else 0) := by
  have h80 := hB.2.1.1
  obtain ⟨l1, l2, l3⟩ := fb_ln k hk
  unfold fX0_isCutAt
  rw [show nI p + Int32.ofNat (fb_len.getD k 0) = nI (p + fb_len.getD k 0) from nI_add _ _]
  by_cases hc : fb_len.getD k 0 + p < e
  · rw [if_neg (nI_ge (by omega) (by omega)), h.at_ hB (by omega), Option.bind_some, eX8_isCapital, Option.bind_some, eSw hB h hk hp he]
    by_cases hd : fb_cap (fb_tx u n (p + fb_len.getD k 0))
    · rw [if_pos hd, if_neg fb_10, Option.bind_some]
      by_cases hg : fb_st (fb_tx u n) (fb_byt.getD k []) p
      · rw [if_pos (c := fb_len.getD k 0 + p ≤ e ∧ _) ⟨by omega, hg⟩, if_neg fb_10, if_pos ⟨hc, hd, hg⟩]
      · rw [if_neg (c := fb_len.getD k 0 + p ≤ e ∧ _) (fun q => hg q.2), if_pos rfl, if_neg (fun q => hg q.2.2)]
    · rw [if_neg hd, if_pos rfl, if_neg (fun q => hd q.2.1)]
  · rw [if_pos (nI_le (by omega) (by omega)), if_neg (fun q => hc q.1)]
/-! the reference's words: letters in a long, the last one lowest -/
def fb_sr (y : Int64) : Int64 := (y.toUInt64 >>> ((8 : Int32).toInt64.toUInt64 &&& Int64.toUInt64 63)).toInt64
def fb_pk : List Int32 → Int64 → Bool
  | [], y => decide (lg_cmp y 0 = 0)
  | b :: bs, y => decide (¬ lg_cmp y 0 = 0) && (decide ((y &&& 255).toInt32 = b) && fb_pk bs (fb_sr y))
theorem fb_pk_n {y : Int64} (h : fb_pk [] y = true) : lg_cmp y 0 = 0 := of_decide_eq_true h
theorem fb_pk_c {b : Int32} {bs : List Int32} {y : Int64} (h : fb_pk (b :: bs) y = true) : (¬ lg_cmp y 0 = 0) ∧ (y &&& 255).toInt32 = b ∧ fb_pk bs (fb_sr y) = true := by
  rw [fb_pk, Bool.and_eq_true, Bool.and_eq_true, decide_eq_true_iff, decide_eq_true_iff] at h
  exact h
def fb_bf (t : Nat → Int32) (fr : Nat) : List Int32 → Nat → Option Nat
  | [], p => some p
  | b :: bs, p => if fr < p ∧ t (p - 1) = b then fb_bf t fr bs (p - 1) else none
theorem fb_bf_ap (t : Nat → Int32) (fr : Nat) : ∀ as bs p, fb_bf t fr (as ++ bs) p = (fb_bf t fr as p).bind (fb_bf t fr bs)
  | [], bs, p => rfl
  | a :: as, bs, p => by
    show (if fr < p ∧ t (p - 1) = a then fb_bf t fr (as ++ bs) (p - 1) else none) = (if fr < p ∧ t (p - 1) = a then fb_bf t fr as (p - 1) else none).bind (fb_bf t fr bs)
    by_cases h : fr < p ∧ t (p - 1) = a
    · rw [if_pos h, if_pos h, fb_bf_ap t fr as bs (p - 1)]
    · rw [if_neg h, if_neg h]; rfl
theorem fb_bf_le (t : Nat → Int32) (fr : Nat) : ∀ bs p q, fb_bf t fr bs p = some q → q ≤ p
  | [], p, q, h => by cases h; exact Nat.le_refl _
  | b :: bs, p, q, h => by
    rw [fb_bf] at h
    by_cases hc : fr < p ∧ t (p - 1) = b
    · rw [if_pos hc] at h
      have := fb_bf_le t fr bs (p - 1) q h
      omega
    · rw [if_neg hc] at h; cases h
theorem fb_st_ap (t : Nat → Int32) : ∀ as bs p, fb_st t (as ++ bs) p = true ↔ fb_st t as p = true ∧ fb_st t bs (p + as.length) = true
  | [], bs, p => by simp [fb_st]
  | a :: as, bs, p => by
    rw [List.cons_append, fb_st_c, fb_st_c, fb_st_ap t as bs (p + 1), show p + 1 + as.length = p + (a :: as).length by simp; omega, and_assoc]
theorem fb_bf_st (t : Nat → Int32) (fr : Nat) : ∀ bs p, fr ≤ p → fb_bf t fr bs p = if bs.length + fr ≤ p ∧ fb_st t bs.reverse (p - bs.length) then some (p - bs.length) else none
  | [], p, hp => by rw [if_pos ⟨by simpa using hp, rfl⟩]; rfl
  | b :: bs, p, hp => by
    have hst : fb_st t (b :: bs).reverse (p - (b :: bs).length) = true ↔ fb_st t bs.reverse (p - (bs.length + 1)) = true ∧ t (p - (bs.length + 1) + bs.length) = b := by
      rw [List.reverse_cons, fb_st_ap, List.length_reverse, List.length_cons, fb_st_c]
      exact ⟨fun h => ⟨h.1, h.2.1⟩, fun h => ⟨h.1, h.2, rfl⟩⟩
    have hln : (b :: bs).length = bs.length + 1 := List.length_cons
    rw [fb_bf]
    by_cases hc : fr < p ∧ t (p - 1) = b
    · rw [if_pos hc, fb_bf_st t fr bs (p - 1) (by omega)]
      by_cases hl : bs.length + 1 + fr ≤ p
      · rw [show p - 1 - bs.length = p - (bs.length + 1) by omega]
        rw [show p - (bs.length + 1) + bs.length = p - 1 by omega] at hst
        by_cases hd : fb_st t bs.reverse (p - (bs.length + 1)) = true
        · rw [if_pos ⟨by omega, hd⟩, if_pos ⟨by omega, hst.mpr ⟨hd, hc.2⟩⟩, hln]
        · rw [if_neg (fun q => hd q.2), if_neg (fun q => hd (hst.mp q.2).1)]
      · rw [if_neg (fun q => hl (by have := q.1; omega)), if_neg (fun q => hl (by have := q.1; omega))]
    · rw [if_neg hc, if_neg (fun q => hc ⟨by have := q.1; omega, by have h2 := (hst.mp q.2).2; rw [show p - (bs.length + 1) + bs.length = p - 1 by have := q.1; omega] at h2; exact h2⟩)]
theorem eBfL {u v : fb_M} {n N : Nat} (hB : fb_B u n N) (h : fb_Vc u n N v) {fr : Nat} (hfr : fr ≤ 200) : ∀ bs y fu o, fb_pk bs y = true → bs.length < fu → (∀ p, o = some p → p ≤ 200) → gX9_before_6 104 (nI fr) v fu (fb_on o) y = some (fb_on (o.bind (fb_bf (fb_tx u n) fr bs))) := by
  intro bs
  induction bs with
  | nil =>
    intro y fu o hy hf ho
    obtain ⟨fu, rfl⟩ : ∃ k, fu = k + 1 := ⟨fu - 1, by omega⟩
    show bX9_before_6 _ 104 (nI fr) (fb_on o) y v = _
    unfold bX9_before_6
    rw [if_pos (fb_pk_n hy)]
    cases o <;> rfl
  | cons b bs ih =>
    intro y fu o hy hf ho
    obtain ⟨fu, rfl⟩ : ∃ k, fu = k + 1 := ⟨fu - 1, by omega⟩
    show bX9_before_6 _ 104 (nI fr) (fb_on o) y v = _
    unfold bX9_before_6
    obtain ⟨y1, y2, y3⟩ := fb_pk_c hy
    rw [if_neg y1]
    have hl : bs.length < fu := by simp at hf; omega
    cases o with
    | none => rw [if_pos (show fb_on none < 0 by decide)]; rfl
    | some p =>
      have hp := ho p rfl
      have hn : gX9_before_6 104 (nI fr) v fu (-1) (fb_sr y) = some (-1) := ih (fb_sr y) fu none y3 hl (fun p hp => by cases hp)
      rw [show fb_on (some p) = nI p from rfl, if_neg (nI_pos (by omega)), Option.bind_some]
      rw [show fb_bf (fb_tx u n) fr (b :: bs) p = if fr < p ∧ fb_tx u n (p - 1) = b then fb_bf (fb_tx u n) fr bs (p - 1) else none from rfl]
      by_cases hc : fr < p
      · rw [if_neg (nI_ge hc (by omega)), show nI p - 1 = nI (p - 1) from nI_sub (b := 1) (by omega), h.at_ hB (by omega), Option.bind_some, y2]
        by_cases hd : fb_tx u n (p - 1) = b
        · rw [if_pos hd, if_pos ⟨hc, hd⟩]
          exact ih (fb_sr y) fu (some (p - 1)) y3 hl (fun q hq => by cases hq; omega)
        · rw [if_neg hd, if_neg (fun q => hd q.2)]
          exact hn
      · rw [if_pos (nI_le (by omega) (by omega)), if_neg (fun q => hc q.1)]
        exact hn
theorem eBf {u v : fb_M} {n N : Nat} (hB : fb_B u n N) (h : fb_Vc u n N v) {fr : Nat} (hfr : fr ≤ 200) {bs : List Int32} {y : Int64} {o : Option Nat} (hy : fb_pk bs y = true) (hb : bs.length ≤ 50) (ho : ∀ p, o = some p → p ≤ 200) : fX9_before v 104 (nI fr) (fb_on o) y = some (fb_on (o.bind (fb_bf (fb_tx u n) fr bs))) :=
  eBfL hB h hfr bs y fb_F o hy (by unfold fb_F; omega) ho
theorem eLtL (v : fb_M) : ∀ bs y fu i, fb_pk bs y = true → bs.length < fu → gX9_letters_4 v fu (nI i) y = some (nI (i + bs.length)) := by
  intro bs
  induction bs with
  | nil =>
    intro y fu i hy hf
    obtain ⟨fu, rfl⟩ : ∃ k, fu = k + 1 := ⟨fu - 1, by omega⟩
    show bX9_letters_4 _ (nI i) y v = _
    unfold bX9_letters_4
    rw [if_pos (fb_pk_n hy)]; rfl
  | cons b bs ih =>
    intro y fu i hy hf
    obtain ⟨fu, rfl⟩ : ∃ k, fu = k + 1 := ⟨fu - 1, by omega⟩
    show bX9_letters_4 _ (nI i) y v = _
    unfold bX9_letters_4
    obtain ⟨y1, y2, y3⟩ := fb_pk_c hy
    rw [if_neg y1, nI_1]
    have := ih (fb_sr y) fu (i + 1) y3 (by simp at hf; omega)
    rw [show i + (b :: bs).length = i + 1 + bs.length by simp; omega]
    exact this
theorem eSd {u v : fb_M} {n N : Nat} (hB : fb_B u n N) (h : fb_Vc u n N v) {bs : List Int32} {y : Int64} (hy : fb_pk bs y = true) (hb : bs.length ≤ 50) {p e : Nat} (hp : p ≤ 140) (he : e ≤ n) : fX9_stands v 104 (nI p) (nI e) y = some (if bs.length + p ≤ e ∧ fb_st (fb_tx u n) bs.reverse p then 1 else 0) := by
  have h80 := hB.2.1.1
  unfold fX9_stands
  rw [show fX9_letters v y = some (nI bs.length) by
    have := eLtL v bs y fb_F 0 hy (by unfold fb_F; omega)
    rw [Nat.zero_add] at this
    exact this]
  rw [Option.bind_some, nI_add]
  by_cases hc : bs.length + p ≤ e
  · rw [if_neg (nI_nlt (by omega) (by omega)), show nI (p + bs.length) = fb_on (some (p + bs.length)) from rfl, eBf hB h (by omega) hy hb (fun q hq => by cases hq; omega), Option.bind_some, Option.bind_some, fb_bf_st _ _ _ _ (by omega)]
    rw [show p + bs.length - bs.length = p by omega]
    by_cases hd : fb_st (fb_tx u n) bs.reverse p
    · rw [if_pos (c := bs.length + p ≤ p + bs.length ∧ _) ⟨by omega, hd⟩, if_pos (c := bs.length + p ≤ e ∧ _) ⟨hc, hd⟩]
      exact if_pos rfl
    · rw [if_neg (c := bs.length + p ≤ p + bs.length ∧ _) (fun q => hd q.2), if_neg (c := bs.length + p ≤ e ∧ _) (fun q => hd q.2)]
      exact if_neg (show ¬ (-1 : Int32) = nI p from fun q => nI_pos (n := p) (by omega) (by rw [← q]; decide))
  · rw [if_pos (nI_lt (by omega) (by omega)), if_neg (fun q => hc q.1)]

/-! characters -/
abbrev fb_cap (c : Int32) : Prop := ¬ c < 65 ∧ ¬ 90 < c
abbrev fb_sml (c : Int32) : Prop := ¬ c < 97 ∧ ¬ 122 < c
abbrev fb_fig (c : Int32) : Prop := ¬ c < 48 ∧ ¬ 57 < c
abbrev fb_lof (c : Int32) : Prop := fb_cap c ∨ fb_sml c ∨ fb_fig c
abbrev fb_okc (c : Int32) : Prop := fb_lof c ∨ c = 95 ∨ c = 46
theorem eX8_isCapital (u : fb_M) (c : Int32) : fX8_isCapital u c = some (if fb_cap c then 1 else 0) := by
  unfold fX8_isCapital
  by_cases h1 : c < 65 <;> by_cases h2 : 90 < c <;> simp [h1, h2]
theorem eX8_isSmall (u : fb_M) (c : Int32) : fX8_isSmall u c = some (if fb_sml c then 1 else 0) := by
  unfold fX8_isSmall
  by_cases h1 : c < 97 <;> by_cases h2 : 122 < c <;> simp [h1, h2]
theorem eX8_isFigure (u : fb_M) (c : Int32) : fX8_isFigure u c = some (if fb_fig c then 1 else 0) := by
  unfold fX8_isFigure
  by_cases h1 : c < 48 <;> by_cases h2 : 57 < c <;> simp [h1, h2]
theorem eX9_capital (u : fb_M) (c : Int32) : fX9_capital u c = some (if fb_cap c then 1 else 0) := by
  unfold fX9_capital
  by_cases h1 : c < 65 <;> by_cases h2 : 90 < c <;> simp [h1, h2]
theorem eX9_small (u : fb_M) (c : Int32) : fX9_small u c = some (if fb_sml c then 1 else 0) := by
  unfold fX9_small
  by_cases h1 : c < 97 <;> by_cases h2 : 122 < c <;> simp [h1, h2]
theorem eX9_figure (u : fb_M) (c : Int32) : fX9_figure u c = some (if fb_fig c then 1 else 0) := by
  unfold fX9_figure
  by_cases h1 : c < 48 <;> by_cases h2 : 57 < c <;> simp [h1, h2]
theorem eX8_isLetterOrFigure (u : fb_M) (c : Int32) : fX8_isLetterOrFigure u c = some (if fb_lof c then 1 else 0) := by
  unfold fX8_isLetterOrFigure
  rw [eX8_isCapital, eX8_isSmall, eX8_isFigure]
  by_cases hA : fb_cap c
  · rw [if_pos hA, if_pos (Or.inl hA)]; rfl
  · rw [if_neg hA]
    by_cases hB : fb_sml c
    · rw [if_pos hB, if_pos (Or.inr (Or.inl hB))]; rfl
    · rw [if_neg hB]
      by_cases hC : fb_fig c
      · rw [if_pos hC, if_pos (Or.inr (Or.inr hC))]; rfl
      · rw [if_neg hC, if_neg (fun h => h.elim hA (fun h => h.elim hB hC))]; rfl
theorem fb_okc_int {c : Int32} (h : fb_okc c) : 46 ≤ c.toInt ∧ c.toInt ≤ 122 := by
  have e65 : (65 : Int32).toInt = 65 := by decide
  have e90 : (90 : Int32).toInt = 90 := by decide
  have e97 : (97 : Int32).toInt = 97 := by decide
  have e122 : (122 : Int32).toInt = 122 := by decide
  have e48 : (48 : Int32).toInt = 48 := by decide
  have e57 : (57 : Int32).toInt = 57 := by decide
  rcases h with (h | h | h) | h | h
  · have h1 := h.1; have h2 := h.2
    rw [Int32.lt_iff_toInt_lt] at h1 h2
    omega
  · have h1 := h.1; have h2 := h.2
    rw [Int32.lt_iff_toInt_lt] at h1 h2
    omega
  · have h1 := h.1; have h2 := h.2
    rw [Int32.lt_iff_toInt_lt] at h1 h2
    omega
  · subst h; decide
  · subst h; decide
theorem fb_okc_nat {c : Int32} (h : fb_okc c) : ∃ j : Nat, 46 ≤ j ∧ j ≤ 122 ∧ c = nI j := by
  obtain ⟨h1, h2⟩ := fb_okc_int h
  refine ⟨c.toInt.toNat, by omega, by omega, ?_⟩
  apply Int32.toInt_inj.mp
  rw [nI_toInt (by omega)]
  omega
theorem fb_okc_char {c : Int32} (h : fb_okc c) : vp_nar .char c = c := by
  obtain ⟨j, h1, h2, rfl⟩ := fb_okc_nat h
  have := (pk_charN (q := j) (by omega)).1
  exact Value.int.inj this
/-! what the two sides have in common -/
def fb_vr (x : Int64) (b v : Int32) : Prop := (b = 1 ∧ x = v.toInt64) ∨ (b = 0 ∧ x = 3000000000)
def fb_IT (u : fb_M) : Prop := ∃ n, n ≤ 80 ∧ fb_I u 1 1 = nI n ∧ fb_I u 104 1 = nI n ∧ ∀ i, i < n → fb_I u 105 i = fb_I u 2 i ∧ fb_okc (fb_I u 2 i)
def fb_IA (u : fb_M) : Prop := ∃ n, n ≤ 12 ∧ fb_I u 0 8 = nI n ∧ fb_I u 104 35 = nI n ∧ ∀ i, i < n → fb_I u 129 i = fb_I u 100 i
def fb_IR (u : fb_M) : Prop := ∃ n, n ≤ 10 ∧ fb_I u 0 11 = nI n ∧ fb_I u 104 37 = nI n ∧ ∀ i, i < n → fb_I u 130 i = fb_I u 103 i
def fb_IO (u : fb_M) : Prop := ∀ l, l < 8 → fb_vr (fb_L u 99 l) (fb_I u 128 l) (fb_I u 127 l)
def fb_IS (u : fb_M) : Prop := ∃ (n : Nat) (p : Nat → Nat), n ≤ 10 ∧ fb_I u 77 1 = nI n ∧ fb_I u 104 28 = nI n ∧ (∀ i, i < 10 → p i < 10 ∧ fb_R u 78 i = some (79 + 2 * p i)) ∧ (∀ i j, i < 10 → j < 10 → p i = p j → i = j) ∧
  (∀ i, i < n → fb_I u (79 + 2 * p i) 0 = fb_I u 124 i ∧ ∀ l, l < 8 → fb_vr (fb_L u (80 + 2 * p i) l) (fb_I u 126 (8 * i + l)) (fb_I u 125 (8 * i + l))) ∧ (∀ i j, i < n → j < n → fb_I u 124 i = fb_I u 124 j → i = j)
/-- how many characters stand in the k-th name of a path -/
def fb_nl (p : Nat → Int32) : Nat → Nat → Nat
  | 0, _ => 0
  | n + 1, 0 => if p 0 = 46 then 0 else fb_nl (fun i => p (i + 1)) n 0 + 1
  | n + 1, k + 1 => if p 0 = 46 then fb_nl (fun i => p (i + 1)) n k else fb_nl (fun i => p (i + 1)) n (k + 1)
def fb_lf (o p : Nat → Int32) (k0 : Int32) (q : Nat → Int32) : Prop := ∃ k, 0 < k ∧ k ≤ 38 ∧ o 1 = nI k ∧ k0 = nI k ∧ (∀ i, i < k → q i = p i ∧ fb_okc (p i)) ∧ o 2 = nI (fb_nl p k 0) ∧ o 3 = nI (fb_nl p k 1)
def fb_IL (u : fb_M) : Prop := ∃ n, n ≤ 8 ∧ fb_I u 3 1 = nI n ∧ fb_I u 104 4 = nI n ∧ ∀ l, l < n → fb_lf (fb_I u (5 + 2 * l)) (fb_I u (6 + 2 * l)) (fb_I u 107 l) (fun i => fb_I u 106 (40 * l + i))
def fb_tk (w : Nat) : Nat := if w = 6 then 2 else if w < 6 then 1 else 0
def fb_tks (w : Nat → Nat) : Nat → Nat
  | 0 => 0
  | n + 1 => fb_tks w n + fb_tk (w n)
/-- a finder: o its object's ints, pl pk pa ol od its arrays; the reference's row by its own functions -/
def fb_fd (o pl pk pa ol od : Nat → Int32) (su li si al pa2 or_ : Int32) (ql qw qo ql2 qd : Nat → Int32) : Prop :=
  ∃ (s lim sg na np no : Nat) (lf wd at_ lo : Nat → Nat) (dn : Nat → Nat), s < 4 ∧ lim < 1000 ∧ (sg < 2 ∧ (sg = 0 ∨ s = 0)) ∧ na ≤ 80 ∧ np ≤ 6 ∧ no ≤ 3 ∧
    (o 0 = nI s ∧ su = nI s) ∧ (o 1 = nI lim ∧ li = nI lim) ∧ (o 2 = nI sg ∧ si = nI sg) ∧ (o 3 = nI na ∧ al = nI na) ∧ (o 4 = nI np ∧ pa2 = nI np) ∧ o 5 = nI (fb_tks wd np) ∧ (o 6 = nI no ∧ or_ = nI no) ∧
    (∀ k, k < np → (lf k < 8 ∧ pl k = nI (lf k) ∧ ql k = nI (lf k)) ∧ (wd k ≤ 10 ∧ pk k = nI (wd k) ∧ qw k = nI (wd k)) ∧ (at_ k < na ∧ pa k = nI (at_ k + 1) ∧ qo k = nI (at_ k))) ∧
    (∀ k, k < no → (lo k < 8 ∧ ol k = nI (lo k) ∧ ql2 k = nI (lo k)) ∧ (dn k < 2 ∧ od k = nI (dn k) ∧ qd k = nI (dn k))) ∧
    (np = 0 → na = 0) ∧ (0 < np → at_ 0 = 0 ∧ at_ (np - 1) + 1 = na) ∧ (∀ k, k + 1 < np → at_ (k + 1) = at_ k ∨ at_ (k + 1) = at_ k + 1)
def fb_fdu (u : fb_M) (f : Nat) : Prop := fb_fd (fb_I u (23 + 6 * f)) (fb_I u (24 + 6 * f)) (fb_I u (25 + 6 * f)) (fb_I u (26 + 6 * f)) (fb_I u (27 + 6 * f)) (fb_I u (28 + 6 * f)) (fb_I u 108 f) (fb_I u 109 f) (fb_I u 110 f) (fb_I u 111 f) (fb_I u 112 f) (fb_I u 113 f)
  (fun k => fb_I u 114 (6 * f + k)) (fun k => fb_I u 115 (6 * f + k)) (fun k => fb_I u 116 (6 * f + k)) (fun k => fb_I u 117 (3 * f + k)) (fun k => fb_I u 118 (3 * f + k))
def fb_IF (u : fb_M) : Prop := ∃ n, n ≤ 8 ∧ fb_I u 0 4 = nI n ∧ fb_I u 104 5 = nI n ∧ ∀ f, f < n → fb_fdu u f
def fb_Inv (u : fb_M) : Prop := fb_St u ∧ fb_IT u ∧ fb_IL u ∧ fb_IF u ∧ fb_IS u ∧ fb_IO u ∧ fb_IA u ∧ fb_IR u
/-! what stays -/
def fb_kp (u u' : fb_M) (P : Nat → Prop) : Prop := ∀ a, P a → fb_I u' a = fb_I u a ∧ fb_L u' a = fb_L u a ∧ fb_R u' a = fb_R u a
theorem fb_kp.rf (u : fb_M) (P : Nat → Prop) : fb_kp u u P := fun _ _ => ⟨rfl, rfl, rfl⟩
theorem fb_kp.tr {u v w : fb_M} {P : Nat → Prop} (h1 : fb_kp u v P) (h2 : fb_kp v w P) : fb_kp u w P := fun a ha => ⟨(h2 a ha).1.trans (h1 a ha).1, (h2 a ha).2.1.trans (h1 a ha).2.1, (h2 a ha).2.2.trans (h1 a ha).2.2⟩
theorem fb_kp.wI {u v : fb_M} {P : Nat → Prop} (h : fb_kp u v P) {b k : Nat} {x : Int32} (hb : ¬ P b) : fb_kp u (fb_wI v b k x) P := h.tr (fun a ha => ⟨fb_I_ne v x (fun e => hb (e ▸ ha)), rfl, rfl⟩)
theorem fb_kp.wL {u v : fb_M} {P : Nat → Prop} (h : fb_kp u v P) {b k : Nat} {x : Int64} (hb : ¬ P b) : fb_kp u (fb_wL v b k x) P := h.tr (fun a ha => ⟨rfl, fb_L_ne v x (fun e => hb (e ▸ ha)), rfl⟩)
theorem fb_kp.wR {u v : fb_M} {P : Nat → Prop} (h : fb_kp u v P) {b k x : Nat} (hb : ¬ P b) : fb_kp u (fb_wR v b k x) P := h.tr (fun a ha => ⟨rfl, rfl, fb_R_ne v x (fun e => hb (e ▸ ha))⟩)
abbrev fb_PT (a : Nat) : Prop := a = 1 ∨ a = 2 ∨ a = 105
abbrev fb_PL (a : Nat) : Prop := (3 ≤ a ∧ a ≤ 20) ∨ a = 106 ∨ a = 107
abbrev fb_PF (a : Nat) : Prop := (23 ≤ a ∧ a ≤ 70) ∨ (108 ≤ a ∧ a ≤ 118)
abbrev fb_PS (a : Nat) : Prop := (77 ≤ a ∧ a ≤ 98) ∨ (124 ≤ a ∧ a ≤ 126)
abbrev fb_PO (a : Nat) : Prop := a = 99 ∨ a = 127 ∨ a = 128
abbrev fb_PA (a : Nat) : Prop := a = 100 ∨ a = 129
abbrev fb_PR (a : Nat) : Prop := a = 103 ∨ a = 130
theorem fb_IT.fr {u u' : fb_M} (h : fb_IT u) (hk : fb_kp u u' fb_PT) (h1 : fb_I u' 104 1 = fb_I u 104 1) : fb_IT u' := by
  unfold fb_IT
  rw [(hk 1 (by decide)).1, (hk 2 (by decide)).1, (hk 105 (by decide)).1, h1]
  exact h
theorem fb_IA.fr {u u' : fb_M} (h : fb_IA u) (hk : fb_kp u u' fb_PA) (h0 : fb_I u' 0 8 = fb_I u 0 8) (h1 : fb_I u' 104 35 = fb_I u 104 35) : fb_IA u' := by
  unfold fb_IA
  rw [(hk 100 (by decide)).1, (hk 129 (by decide)).1, h0, h1]
  exact h
theorem fb_IR.fr {u u' : fb_M} (h : fb_IR u) (hk : fb_kp u u' fb_PR) (h0 : fb_I u' 0 11 = fb_I u 0 11) (h1 : fb_I u' 104 37 = fb_I u 104 37) : fb_IR u' := by
  unfold fb_IR
  rw [(hk 103 (by decide)).1, (hk 130 (by decide)).1, h0, h1]
  exact h
theorem fb_IO.fr {u u' : fb_M} (h : fb_IO u) (hk : fb_kp u u' fb_PO) : fb_IO u' := by
  unfold fb_IO
  rw [(hk 99 (by decide)).2.1, (hk 127 (by decide)).1, (hk 128 (by decide)).1]
  exact h
theorem fb_IS.fr {u u' : fb_M} (h : fb_IS u) (hk : fb_kp u u' fb_PS) (h1 : fb_I u' 104 28 = fb_I u 104 28) : fb_IS u' := by
  obtain ⟨n, p, a1, a2, a3, a4, a5, a6, a7⟩ := h
  refine ⟨n, p, a1, by rw [(hk 77 (by decide)).1]; exact a2, by rw [h1]; exact a3, fun i hi => ⟨(a4 i hi).1, by rw [(hk 78 (by decide)).2.2]; exact (a4 i hi).2⟩, a5, fun i hi => ?_, ?_⟩
  · have hp := (a4 i (by omega)).1
    rw [(hk (79 + 2 * p i) (by unfold fb_PS; omega)).1, (hk (80 + 2 * p i) (by unfold fb_PS; omega)).2.1, (hk 124 (by decide)).1, (hk 126 (by decide)).1, (hk 125 (by decide)).1]
    exact a6 i hi
  · rw [(hk 124 (by decide)).1]
    exact a7
theorem fb_IL.fr {u u' : fb_M} (h : fb_IL u) (hk : fb_kp u u' fb_PL) (h1 : fb_I u' 104 4 = fb_I u 104 4) : fb_IL u' := by
  obtain ⟨n, a1, a2, a3, a4⟩ := h
  refine ⟨n, a1, by rw [(hk 3 (by decide)).1]; exact a2, by rw [h1]; exact a3, fun l hl => ?_⟩
  rw [(hk (5 + 2 * l) (by unfold fb_PL; omega)).1, (hk (6 + 2 * l) (by unfold fb_PL; omega)).1, (hk 107 (by decide)).1, (hk 106 (by decide)).1]
  exact a4 l hl
theorem fb_fdu.fr {u u' : fb_M} {f : Nat} (hf : f < 8) (h : fb_fdu u f) (hk : fb_kp u u' fb_PF) : fb_fdu u' f := by
  unfold fb_fdu
  rw [(hk (23 + 6 * f) (by unfold fb_PF; omega)).1, (hk (24 + 6 * f) (by unfold fb_PF; omega)).1, (hk (25 + 6 * f) (by unfold fb_PF; omega)).1, (hk (26 + 6 * f) (by unfold fb_PF; omega)).1, (hk (27 + 6 * f) (by unfold fb_PF; omega)).1, (hk (28 + 6 * f) (by unfold fb_PF; omega)).1,
    (hk 108 (by decide)).1, (hk 109 (by decide)).1, (hk 110 (by decide)).1, (hk 111 (by decide)).1, (hk 112 (by decide)).1, (hk 113 (by decide)).1, (hk 114 (by decide)).1, (hk 115 (by decide)).1, (hk 116 (by decide)).1, (hk 117 (by decide)).1, (hk 118 (by decide)).1]
  exact h
theorem fb_IF.fr {u u' : fb_M} (h : fb_IF u) (hk : fb_kp u u' fb_PF) (h0 : fb_I u' 0 4 = fb_I u 0 4) (h1 : fb_I u' 104 5 = fb_I u 104 5) : fb_IF u' := by
  obtain ⟨n, a1, a2, a3, a4⟩ := h
  exact ⟨n, a1, by rw [h0]; exact a2, by rw [h1]; exact a3, fun f hf => (a4 f hf).fr (by omega) hk⟩

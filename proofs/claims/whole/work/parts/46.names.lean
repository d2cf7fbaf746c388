/-! names: which leaf a piece of the text spells -/
def fb_Tx (u v : fb_M) (n : Nat) : Prop := n ≤ 80 ∧ fb_I u 1 1 = nI n ∧ fb_I v 104 1 = nI n ∧ ∀ i, i < n → fb_I v 105 i = fb_I u 2 i ∧ fb_okc (fb_I u 2 i)
def fb_lfu (u v : fb_M) (l : Nat) : Prop := fb_lf (fb_I u (5 + 2 * l)) (fb_I u (6 + 2 * l)) (fb_I v 107 l) (fun i => fb_I v 106 (40 * l + i))
def fb_Lx (u v : fb_M) (n : Nat) : Prop := n ≤ 8 ∧ fb_I u 3 1 = nI n ∧ fb_I v 104 4 = nI n ∧ ∀ l, l < n → fb_lfu u v l
def fb_tx (u : fb_M) (n p : Nat) : Int32 := if p < n then fb_I u 2 p else 0
theorem eX9_at {u v : fb_M} (hS : fb_St u) (hV : fb_St v) {n : Nat} (hT : fb_Tx u v n) {p : Nat} (hp : p < 2 ^ 31) : fX9_at v 104 (nI p) = some (fb_tx u n p) := by
  obtain ⟨h80, h1, h2, h3⟩ := hT
  unfold fX9_at fb_tx
  rw [if_neg (nI_pos hp), h2]
  by_cases h : p < n
  · rw [if_neg (nI_ge h (by omega)), hV.ld_104_0, fb_n105, fb_gix (show p < 80 by omega) (by omega), nI_clamp (n := p) hp, if_pos h, (h3 p h).1]
  · rw [if_pos (nI_le (by omega) hp), if_neg h]
theorem eX0_at {u v : fb_M} (hS : fb_St u) (hV : fb_St v) {n : Nat} (hT : fb_Tx u v n) {p : Nat} (hp : p < 2 ^ 31) : fX0_at u 1 (nI p) = some (fb_tx u n p) := by
  obtain ⟨h80, h1, h2, h3⟩ := hT
  unfold fX0_at fb_tx
  rw [if_neg (nI_pos hp), h1]
  by_cases h : p < n
  · rw [if_neg (nI_ge h (by omega)), hS.ld_1_0, fb_n2, fb_gix (show p < 80 by omega) (by omega), nI_clamp (n := p) hp, if_pos h, fb_gdT (fb_okc_char (h3 p h).2)]
  · rw [if_pos (nI_le (by omega) hp), if_neg h]
theorem fb_upn : ∀ j, j < 123 → 46 ≤ j → ((((nI j) - 97) + 65).toUInt32 % 65536).toInt32 = nI j - 32 := by decide +kernel
theorem fb_upc {c : Int32} (h : fb_okc c) : (((c - 97) + 65).toUInt32 % 65536).toInt32 = c - 32 := by
  obtain ⟨j, h1, h2, rfl⟩ := fb_okc_nat h
  exact fb_upn j (by omega) h1
theorem fb_40 (e l : Nat) : (40 : Int32) * nI e + nI l = nI (40 * e + l) := by
  rw [show (40 : Int32) = nI 40 from rfl, pk_mul, nI_add]
theorem fb_p0 (a : Nat) : nI a + 0 = nI a := nI_add a 0
/-- the one loop beside the other -/
theorem eSpells {u v : fb_M} (hS : fb_St u) (hV : fb_St v) {n : Nat} (hT : fb_Tx u v n) {l k to : Nat} (hl : l < 8) (hk : k ≤ 38) (h1 : fb_I u (5 + 2 * l) 1 = nI k) (h2 : fb_I v 107 l = nI k) (h3 : ∀ i, i < k → fb_I v 106 (40 * l + i) = fb_I u (6 + 2 * l) i ∧ fb_okc (fb_I u (6 + 2 * l) i)) (hto : to ≤ n) :
    ∀ m i fu fv p x, i + m = k → m < fu → m < fv → p + m ≤ 1000 → ∃ r, gX5_isSpelledBy_21 (5 + 2 * l) 2 (nI to) u fu (nI p) x (nI i) = some r ∧ gX9_spells_9 104 (nI to) (nI l) v fv (nI p) x (nI i) = some r ∧ (r = 0 ∨ r = 1) := by
  obtain ⟨h80, ht1, ht2, ht3⟩ := id hT
  intro m
  induction m with
  | zero =>
    intro i fu fv p x hi hf hg hp
    obtain ⟨fu, rfl⟩ : ∃ k, fu = k + 1 := ⟨fu - 1, by omega⟩
    obtain ⟨fv, rfl⟩ : ∃ k, fv = k + 1 := ⟨fv - 1, by omega⟩
    refine ⟨if nI p = nI to then 1 else 0, ?_, ?_, ?_⟩
    · show bX5_isSpelledBy_21 _ (5 + 2 * l) 2 (nI to) (nI p) x (nI i) u = _
      unfold bX5_isSpelledBy_21
      rw [h1, if_pos (nI_le (by omega) (by omega))]
      by_cases h : nI p = nI to <;> simp [h]
    · show bX9_spells_9 _ 104 (nI to) (nI l) (nI p) x (nI i) v = _
      unfold bX9_spells_9
      rw [hV.ld_104_3, fb_n107, fb_gix hl (by omega), nI_clamp (n := l) (by omega), h2, if_pos (nI_le (by omega) (by omega))]
      by_cases h : nI p = nI to <;> simp [h]
    · by_cases h : nI p = nI to <;> simp [h]
  | succ m ih =>
    intro i fu fv p x hi hf hg hp
    obtain ⟨fu, rfl⟩ : ∃ k, fu = k + 1 := ⟨fu - 1, by omega⟩
    obtain ⟨fv, rfl⟩ : ∃ k, fv = k + 1 := ⟨fv - 1, by omega⟩
    have hik : i < k := by omega
    have hc := (h3 i hik).2
    have e5 : gX5_isSpelledBy_21 (5 + 2 * l) 2 (nI to) u (fu + 1) (nI p) x (nI i) = bX5_isSpelledBy_21 (gX5_isSpelledBy_21 (5 + 2 * l) 2 (nI to) u fu) (5 + 2 * l) 2 (nI to) (nI p) x (nI i) u := rfl
    have e9 : gX9_spells_9 104 (nI to) (nI l) v (fv + 1) (nI p) x (nI i) = bX9_spells_9 (gX9_spells_9 104 (nI to) (nI l) v fv) 104 (nI to) (nI l) (nI p) x (nI i) v := rfl
    rw [e5, e9]
    unfold bX5_isSpelledBy_21 bX9_spells_9
    rw [h1, if_neg (nI_ge hik (by omega)), hS.ld_path hl, fb_n_path l hl, fb_gix (show i < 38 by omega) (by omega), nI_clamp (n := i) (by omega),
      hV.ld_104_3, fb_n107, fb_gix hl (by omega), nI_clamp (n := l) (by omega), h2, if_neg (nI_ge hik (by omega)), hV.ld_104_2, fb_n106, fb_40, fb_gix (show 40 * l + i < 320 by omega) (by omega), nI_clamp (n := 40 * l + i) (by omega), (h3 i hik).1, fb_upc hc, nI_1, nI_1, fb_p0]
    generalize fb_I u (6 + 2 * l) i = c
    have hj : ∀ d : Int32, ∃ r, jX5_isSpelledBy_96 (gX5_isSpelledBy_21 (5 + 2 * l) 2 (nI to) u fu) (5 + 2 * l) 2 (nI to) (nI p) (nI i) d u = some r ∧ jX9_spells_90 (gX9_spells_9 104 (nI to) (nI l) v fv) 104 (nI to) (nI l) (nI p) (nI i) d v = some r ∧ (r = 0 ∨ r = 1) := by
      intro d
      unfold jX5_isSpelledBy_96 jX9_spells_90
      by_cases hpt : p < to
      · rw [if_neg (nI_ge hpt (by omega)), if_neg (nI_ge hpt (by omega)), fb_n2, fb_gix (show p < 80 by omega) (by omega), nI_clamp (n := p) (by omega), eX9_at hS hV hT (by omega), Option.bind_some, show fb_tx u n p = fb_I u 2 p from if_pos (by omega)]
        by_cases hd : fb_I u 2 p = d
        · rw [if_pos hd, if_pos hd, nI_1, nI_1]
          exact ih (i + 1) fu fv (p + 1) 0 (by omega) (by omega) (by omega) (by omega)
        · rw [if_neg hd, if_neg hd]
          exact ⟨0, rfl, rfl, Or.inl rfl⟩
      · rw [if_pos (nI_le (by omega) (by omega)), if_pos (nI_le (by omega) (by omega))]
        exact ⟨0, rfl, rfl, Or.inl rfl⟩
    by_cases hd : c = 46
    · rw [if_pos hd, if_pos hd]
      by_cases hpt : p < to
      · rw [if_neg (nI_ge hpt (by omega)), if_neg (nI_ge hpt (by omega)), fb_n2, fb_gix (show p < 80 by omega) (by omega), nI_clamp (n := p) (by omega), eX9_at hS hV hT (by omega), Option.bind_some, show fb_tx u n p = fb_I u 2 p from if_pos (by omega)]
        by_cases h95 : fb_I u 2 p = 95
        · rw [if_pos h95, if_pos h95]
          exact ih (i + 1) fu fv (p + 1) 1 (by omega) (by omega) (by omega) (by omega)
        · rw [if_neg h95, if_neg h95]
          exact ih (i + 1) fu fv p 1 (by omega) (by omega) (by omega) (by omega)
      · rw [if_pos (nI_le (by omega) (by omega)), if_pos (nI_le (by omega) (by omega))]
        exact ih (i + 1) fu fv p 1 (by omega) (by omega) (by omega) (by omega)
    · rw [if_neg hd, if_neg hd]
      by_cases hx : x = 0
      · rw [if_pos hx, if_pos hx]
        exact hj _
      · rw [if_neg hx, if_neg hx]
        exact hj _
theorem eSpell {u v : fb_M} (hS : fb_St u) (hV : fb_St v) {n : Nat} (hT : fb_Tx u v n) {l fr to : Nat} (hl : l < 8) (hlf : fb_lfu u v l) (hfr : fr ≤ 200) (hto : to ≤ n) : ∃ r, fX5_isSpelledBy u (5 + 2 * l) 2 (nI fr) (nI to) = some r ∧ fX9_spells v 104 (nI fr) (nI to) (nI l) = some r ∧ (r = 0 ∨ r = 1) := by
  obtain ⟨k, hk0, hk, a1, a2, a3, -, -⟩ := hlf
  unfold fX5_isSpelledBy fX9_spells
  have h80 := hT.1
  rw [if_neg (nI_pos (by omega)), fb_n2, if_pos (show nI to ≤ Int32.ofNat 80 from nI_le (by omega) (by omega))]
  exact eSpells hS hV hT hl hk a1 a2 a3 hto k 0 fb_F fb_F fr 1 (by omega) (by unfold fb_F; omega) (by unfold fb_F; omega) (by omega)
theorem fb_nl_le (p : Nat → Int32) : ∀ n k, fb_nl p n k ≤ n := by
  intro n
  induction n generalizing p with
  | zero => intro k; simp [fb_nl]
  | succ n ih =>
    intro k
    cases k with
    | zero =>
      simp only [fb_nl]
      split
      · omega
      · have := ih (fun i => p (i + 1)) 0; omega
    | succ k =>
      simp only [fb_nl]
      split
      · have := ih (fun i => p (i + 1)) k; omega
      · have := ih (fun i => p (i + 1)) (k + 1); omega
theorem eNameLenL {v : fb_M} (hV : fb_St v) {l k : Nat} (hl : l < 8) (hk : k ≤ 38) (h2 : fb_I v 107 l = nI k) (p : Nat → Int32) (h3 : ∀ i, i < k → fb_I v 106 (40 * l + i) = p i) {nn : Nat} (hn : nn ≤ 5) :
    ∀ m i kk run fu, i + m = k → m < fu → kk ≤ i → run ≤ i → gX9_nameLength_8 104 (nI l) (nI nn) v fu (nI kk) (nI run) (nI i) = some (nI (if kk ≤ nn then run + fb_nl (fun j => p (i + j)) m (nn - kk) else run)) := by
  intro m
  induction m with
  | zero =>
    intro i kk run fu hi hf h5 h6
    obtain ⟨fu, rfl⟩ : ∃ k, fu = k + 1 := ⟨fu - 1, by omega⟩
    show bX9_nameLength_8 _ 104 (nI l) (nI nn) (nI kk) (nI run) (nI i) v = _
    unfold bX9_nameLength_8
    rw [hV.ld_104_3, fb_n107, fb_gix hl (by omega), nI_clamp (n := l) (by omega), h2, if_pos (nI_le (by omega) (by omega))]
    simp [fb_nl]
  | succ m ih =>
    intro i kk run fu hi hf h5 h6
    obtain ⟨fu, rfl⟩ : ∃ k, fu = k + 1 := ⟨fu - 1, by omega⟩
    have hik : i < k := by omega
    have hsh : (fun j => p (i + (j + 1))) = (fun j => p (i + 1 + j)) := funext fun j => by rw [show i + (j + 1) = i + 1 + j by omega]
    show bX9_nameLength_8 _ 104 (nI l) (nI nn) (nI kk) (nI run) (nI i) v = _
    unfold bX9_nameLength_8
    rw [hV.ld_104_3, fb_n107, fb_gix hl (by omega), nI_clamp (n := l) (by omega), h2, if_neg (nI_ge hik (by omega)), hV.ld_104_2, fb_n106, fb_40, fb_gix (show 40 * l + i < 320 by omega) (by omega), nI_clamp (n := 40 * l + i) (by omega), h3 i hik]
    unfold jX9_nameLength_41 jX9_nameLength_55
    by_cases hd : p i = 46
    · rw [if_pos hd, if_neg (by decide), if_neg (by decide), nI_1, nI_1, ih (i + 1) (kk + 1) run fu (by omega) (by omega) (by omega) (by omega)]
      by_cases hkn : kk ≤ nn
      · rw [if_pos hkn]
        obtain ⟨d, hd2⟩ : ∃ d, nn = kk + d := ⟨nn - kk, by omega⟩
        cases d with
        | zero =>
          rw [if_neg (by omega), show nn - kk = 0 by omega]
          simp [fb_nl, hd]
        | succ d =>
          rw [if_pos (by omega), show nn - kk = d + 1 by omega, show nn - (kk + 1) = d by omega]
          simp only [fb_nl, Nat.add_zero, hd, if_true, hsh]
      · rw [if_neg hkn, if_neg (by omega)]
    · rw [if_neg hd, if_pos rfl, if_pos rfl, nI_1, nI_1]
      by_cases hkn : kk = nn
      · rw [if_pos (show nI kk = nI nn by rw [hkn]), ih (i + 1) kk (run + 1) fu (by omega) (by omega) (by omega) (by omega), if_pos (by omega), if_pos (by omega), show nn - kk = 0 by omega]
        simp only [fb_nl, Nat.add_zero, hd, if_false, hsh]
        rw [show run + 1 + fb_nl (fun j => p (i + 1 + j)) m 0 = run + (fb_nl (fun j => p (i + 1 + j)) m 0 + 1) by omega]
      · rw [if_neg (fun q => hkn ((nI_eq (by omega) (by omega)).mp q)), ih (i + 1) kk run fu (by omega) (by omega) (by omega) (by omega)]
        by_cases hkn2 : kk ≤ nn
        · rw [if_pos hkn2, if_pos hkn2]
          obtain ⟨d, hd2⟩ : ∃ d, nn - kk = d + 1 := ⟨nn - kk - 1, by omega⟩
          rw [hd2]
          simp only [fb_nl, Nat.add_zero, hd, if_false, hsh]
        · rw [if_neg hkn2, if_neg hkn2]
theorem fb_nl_cg {p q : Nat → Int32} : ∀ n k, (∀ i, i < n → p i = q i) → fb_nl p n k = fb_nl q n k := by
  intro n
  induction n generalizing p q with
  | zero => intro k _; simp [fb_nl]
  | succ n ih =>
    intro k h
    have h0 := h 0 (by omega)
    have hr : ∀ k, fb_nl (fun i => p (i + 1)) n k = fb_nl (fun i => q (i + 1)) n k := fun k => ih k (fun i hi => h (i + 1) (by omega))
    cases k with
    | zero => simp only [fb_nl, h0, hr]
    | succ k => simp only [fb_nl, h0, hr]
theorem eNameLen {u v : fb_M} (hV : fb_St v) {l : Nat} (hl : l < 8) (hlf : fb_lfu u v l) : ∃ a b, a ≤ 38 ∧ b ≤ 38 ∧ fb_I u (5 + 2 * l) 2 = nI a ∧ fb_I u (5 + 2 * l) 3 = nI b ∧ fX9_nameLength v 104 (nI l) 0 = some (nI a) ∧ fX9_nameLength v 104 (nI l) 1 = some (nI b) := by
  obtain ⟨k, hk0, hk, a1, a2, a3, a4, a5⟩ := hlf
  have hz : (fun j => fb_I u (6 + 2 * l) (0 + j)) = fb_I u (6 + 2 * l) := funext fun j => by rw [Nat.zero_add]
  refine ⟨_, _, ?_, ?_, a4, a5, ?_, ?_⟩
  · have := fb_nl_le (fb_I u (6 + 2 * l)) k 0; omega
  · have := fb_nl_le (fb_I u (6 + 2 * l)) k 1; omega
  · have := eNameLenL hV hl hk a2 (fb_I u (6 + 2 * l)) (fun i hi => (a3 i hi).1) (nn := 0) (by omega) k 0 0 0 fb_F (by omega) (by unfold fb_F; omega) (by omega) (by omega)
    rw [if_pos (by omega), hz, Nat.zero_add] at this
    exact this
  · have := eNameLenL hV hl hk a2 (fb_I u (6 + 2 * l)) (fun i hi => (a3 i hi).1) (nn := 1) (by omega) k 0 0 0 fb_F (by omega) (by unfold fb_F; omega) (by omega) (by omega)
    rw [if_pos (by omega), hz, Nat.zero_add] at this
    exact this
theorem fb_dif : ∀ a, a < 39 → ∀ b, b < 39 → ((nI a - nI b = 0) ↔ a = b) ∧ ((nI a - nI b ≤ 0) ↔ a ≤ b) := by decide +kernel
theorem eNamedL {u v : fb_M} (hS : fb_St u) (hV : fb_St v) {n N : Nat} (hT : fb_Tx u v n) (hL : fb_Lx u v N) {fr to : Nat} (hfr : fr ≤ 200) (hto : to ≤ n) :
    ∀ m i fu fv x, i + m = N → m < fu → m < fv → (x = -1 ∨ ∃ b, b < i ∧ x = nI b) → ∃ r, gX6_named_6 3 1 (nI fr) (nI to) u fu x (nI i) = some r ∧ gX9_leafOf_5 104 (nI fr) (nI to) v fv x (nI i) = some r ∧ (r = -1 ∨ ∃ b, b < N ∧ r = nI b) := by
  obtain ⟨h8, hl1, hl2, hl3⟩ := id hL
  intro m
  induction m with
  | zero =>
    intro i fu fv x hi hf hg hx
    obtain ⟨fu, rfl⟩ : ∃ k, fu = k + 1 := ⟨fu - 1, by omega⟩
    obtain ⟨fv, rfl⟩ : ∃ k, fv = k + 1 := ⟨fv - 1, by omega⟩
    refine ⟨x, ?_, ?_, hx.imp id (fun ⟨b, h1, h2⟩ => ⟨b, by omega, h2⟩)⟩
    · show bX6_named_6 _ 3 1 (nI fr) (nI to) x (nI i) u = _
      unfold bX6_named_6
      rw [hl1, if_pos (nI_le (by omega) (by omega))]
    · show bX9_leafOf_5 _ 104 (nI fr) (nI to) x (nI i) v = _
      unfold bX9_leafOf_5
      rw [hl2, if_pos (nI_le (by omega) (by omega))]
  | succ m ih =>
    intro i fu fv x hi hf hg hx
    obtain ⟨fu, rfl⟩ : ∃ k, fu = k + 1 := ⟨fu - 1, by omega⟩
    obtain ⟨fv, rfl⟩ : ∃ k, fv = k + 1 := ⟨fv - 1, by omega⟩
    have hik : i < N := by omega
    have e5 : gX6_named_6 3 1 (nI fr) (nI to) u (fu + 1) x (nI i) = bX6_named_6 (gX6_named_6 3 1 (nI fr) (nI to) u fu) 3 1 (nI fr) (nI to) x (nI i) u := rfl
    have e9 : gX9_leafOf_5 104 (nI fr) (nI to) v (fv + 1) x (nI i) = bX9_leafOf_5 (gX9_leafOf_5 104 (nI fr) (nI to) v fv) 104 (nI fr) (nI to) x (nI i) v := rfl
    rw [e5, e9]
    unfold bX6_named_6 bX9_leafOf_5
    obtain ⟨r, s1, s2, s3⟩ := eSpell hS hV hT (show i < 8 by omega) (hl3 i hik) hfr hto
    rw [hl1, if_neg (nI_ge hik (by omega)), hS.ld_3_0, fb_n4, fb_gix (show i < 8 by omega) (by omega), nI_clamp (n := i) (by omega), hS.ld_leaf (show i < 8 by omega), hS.ld_1_0, s1, Option.bind_some,
      hl2, if_neg (nI_ge hik (by omega)), s2, Option.bind_some, nI_1]
    by_cases hr : r = 0
    · rw [if_pos hr, if_pos hr]
      exact ih (i + 1) fu fv x (by omega) (by omega) (by omega) (hx.imp id (fun ⟨b, h1, h2⟩ => ⟨b, by omega, h2⟩))
    · rw [if_neg hr, if_neg hr]
      rcases hx with rfl | ⟨b, hb, rfl⟩
      · rw [if_pos (by decide), if_neg (by decide)]
        unfold jX9_leafOf_47 jX9_leafOf_73
        rw [if_neg (by decide), if_neg (by decide), nI_1]
        exact ih (i + 1) fu fv (nI i) (by omega) (by omega) (by omega) (Or.inr ⟨i, by omega, rfl⟩)
      · obtain ⟨a, a', p1, p2, p3, p4, p5, p6⟩ := eNameLen hV (show i < 8 by omega) (hl3 i hik)
        obtain ⟨c, c', q1, q2, q3, q4, q5, q6⟩ := eNameLen hV (show b < 8 by omega) (hl3 b (by omega))
        rw [if_neg (nI_pos (by omega)), hS.ld_3_0, fb_n4, fb_gix2 (show i < 8 by omega) (by omega), hS.ld_leaf (show i < 8 by omega), hS.ld_3_0, fb_n4, fb_gix (show b < 8 by omega) (by omega), nI_clamp (n := b) (by omega), hS.ld_leaf (show b < 8 by omega),
          if_pos (nI_pos' (by omega)), p5, Option.bind_some, q5, Option.bind_some]
        unfold fX5_goesBefore jX9_leafOf_47 jX9_leafOf_73
        have hk1 := ih (i + 1) fu fv (nI b) (by omega) (by omega) (by omega) (Or.inr ⟨b, by omega, rfl⟩)
        have hk2 := ih (i + 1) fu fv (nI i) (by omega) (by omega) (by omega) (Or.inr ⟨i, by omega, rfl⟩)
        rw [p3, p4, q3, q4, p6, q6, Option.bind_some, Option.bind_some, nI_1]
        by_cases h0 : a = c
        · rw [if_pos ((nI_eq (by omega) (by omega)).mpr h0), if_pos ((fb_dif a (by omega) c (by omega)).1.mpr h0)]
          by_cases h1 : a' ≤ c'
          · rw [if_pos (nI_le h1 (by omega)), if_pos ((fb_dif a' (by omega) c' (by omega)).2.mpr h1), Option.bind_some, if_pos rfl]
            exact hk1
          · rw [if_neg (nI_ge (by omega) (by omega)), if_neg (fun q => h1 ((fb_dif a' (by omega) c' (by omega)).2.mp q)), Option.bind_some, if_neg (by decide)]
            exact hk2
        · rw [if_neg (fun q => h0 ((nI_eq (by omega) (by omega)).mp q)), if_neg (fun q => h0 ((fb_dif a (by omega) c (by omega)).1.mp q))]
          by_cases h1 : a ≤ c
          · rw [if_pos (nI_le h1 (by omega)), if_pos ((fb_dif a (by omega) c (by omega)).2.mpr h1), Option.bind_some, if_pos rfl]
            exact hk1
          · rw [if_neg (nI_ge (by omega) (by omega)), if_neg (fun q => h1 ((fb_dif a (by omega) c (by omega)).2.mp q)), Option.bind_some, if_neg (by decide)]
            exact hk2
theorem eNamed {u v : fb_M} (hS : fb_St u) (hV : fb_St v) {n N : Nat} (hT : fb_Tx u v n) (hL : fb_Lx u v N) {fr to : Nat} (hfr : fr ≤ 200) (hto : to ≤ n) : ∃ r, fX6_named u 3 1 (nI fr) (nI to) = some r ∧ fX9_leafOf v 104 (nI fr) (nI to) = some r ∧ (r = -1 ∨ ∃ b, b < N ∧ r = nI b) := by
  have h8 := hL.1
  exact eNamedL hS hV hT hL hfr hto N 0 fb_F fb_F (-1) (by omega) (by unfold fb_F; omega) (by unfold fb_F; omega) (Or.inl rfl)
theorem op_names {u : fb_M} (hv : fb_Inv u) : ∃ r, fX8_names u 0 = some r ∧ fX9_names u 104 = some r := by
  obtain ⟨hS, ⟨n, hT⟩, ⟨N, hL⟩, -⟩ := hv
  obtain ⟨r, h1, h2, -⟩ := eNamed hS hS hT hL (fr := 0) (to := n) (by omega) (by omega)
  refine ⟨r, ?_, ?_⟩
  · unfold fX8_names fX0_length
    rw [hS.ld_0_1, hS.ld_0_0, hS.ld_0_0, hT.2.1, Option.bind_some, show (0 : Int32) = nI 0 from rfl, h1]
    rfl
  · unfold fX9_names
    rw [hT.2.2.1, show (0 : Int32) = nI 0 from rfl, h2]
    rfl

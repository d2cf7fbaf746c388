/-! declare: the leaf that is added -/
theorem fb_nl_1 : ∀ (n : Nat) (p : Nat → Int32), fb_nl p n 1 = if fb_nl p n 0 < n then fb_nl (fun j => p (fb_nl p n 0 + 1 + j)) (n - fb_nl p n 0 - 1) 0 else 0 := by
  intro n
  induction n with
  | zero => intro p; simp [fb_nl]
  | succ n ih =>
    intro p
    by_cases h : p 0 = 46
    · have h0 : fb_nl p (n + 1) 0 = 0 := by simp [fb_nl, h]
      rw [h0, if_pos (by omega)]
      simp only [fb_nl, h, if_true]
      rw [show (fun i => p (i + 1)) = (fun j => p (0 + 1 + j)) from funext fun j => by rw [show j + 1 = 0 + 1 + j by omega]]
      rfl
    · have h0 : fb_nl p (n + 1) 0 = fb_nl (fun i => p (i + 1)) n 0 + 1 := by simp [fb_nl, h]
      have h1 : fb_nl p (n + 1) 1 = fb_nl (fun i => p (i + 1)) n 1 := by simp [fb_nl, h]
      rw [h0, h1, ih]
      have hz : (fun j => p (fb_nl (fun i => p (i + 1)) n 0 + 1 + j + 1)) = (fun j => p (fb_nl (fun i => p (i + 1)) n 0 + 1 + 1 + j)) := funext fun j => by rw [show fb_nl (fun i => p (i + 1)) n 0 + 1 + j + 1 = fb_nl (fun i => p (i + 1)) n 0 + 1 + 1 + j by omega]
      by_cases hc : fb_nl (fun i => p (i + 1)) n 0 < n
      · rw [if_pos hc, if_pos (by omega), hz, show n + 1 - (fb_nl (fun i => p (i + 1)) n 0 + 1) - 1 = n - fb_nl (fun i => p (i + 1)) n 0 - 1 by omega]
      · rw [if_neg hc, if_neg (by omega)]
theorem eNl5L {u : fb_M} (hS : fb_St u) {l k s : Nat} (hl : l < 8) (hk : k ≤ 38) (h1 : fb_I u (5 + 2 * l) 1 = nI k) : ∀ m j fu, j + m = k → m < fu → s ≤ j → gX5_nameLength_2 (5 + 2 * l) (nI s) u fu (nI j) = some (nI (j - s + fb_nl (fun i => fb_I u (6 + 2 * l) (j + i)) m 0)) := by
  intro m
  induction m with
  | zero =>
    intro j fu hj hf hs
    obtain ⟨fu, rfl⟩ : ∃ k, fu = k + 1 := ⟨fu - 1, by omega⟩
    show bX5_nameLength_2 _ (5 + 2 * l) (nI s) (nI j) u = _
    unfold bX5_nameLength_2
    rw [h1, if_pos (nI_le (by omega) (by omega)), nI_sub hs]
    simp [fb_nl]
  | succ m ih =>
    intro j fu hj hf hs
    obtain ⟨fu, rfl⟩ : ∃ k, fu = k + 1 := ⟨fu - 1, by omega⟩
    show bX5_nameLength_2 _ (5 + 2 * l) (nI s) (nI j) u = _
    unfold bX5_nameLength_2
    rw [h1, if_neg (nI_ge (by omega) (by omega)), hS.ld_path hl, fb_n_path l hl, fb_gix (show j < 38 by omega) (by omega), nI_clamp (n := j) (by omega)]
    by_cases hc : fb_I u (6 + 2 * l) j = 46
    · rw [if_pos hc, nI_sub hs]
      simp [fb_nl, hc]
    · rw [if_neg hc, nI_1, ih (j + 1) fu (by omega) (by omega) (by omega)]
      simp only [fb_nl, Nat.add_zero, hc, if_false]
      rw [show (fun i => fb_I u (6 + 2 * l) (j + (i + 1))) = (fun i => fb_I u (6 + 2 * l) (j + 1 + i)) from funext fun i => by rw [show j + (i + 1) = j + 1 + i by omega]]
      rw [show j + 1 - s + fb_nl (fun i => fb_I u (6 + 2 * l) (j + 1 + i)) m 0 = j - s + (fb_nl (fun i => fb_I u (6 + 2 * l) (j + 1 + i)) m 0 + 1) by omega]
theorem eNl5_0 {u : fb_M} (hS : fb_St u) {l k : Nat} (hl : l < 8) (hk : k ≤ 38) (h1 : fb_I u (5 + 2 * l) 1 = nI k) : fX5_nameLength u (5 + 2 * l) 0 = some (nI (fb_nl (fb_I u (6 + 2 * l)) k 0)) := by
  have := eNl5L hS (s := 0) hl hk h1 k 0 fb_F (by omega) (by unfold fb_F; omega) (by omega)
  rw [show (fun i => fb_I u (6 + 2 * l) (0 + i)) = fb_I u (6 + 2 * l) from funext fun i => by rw [Nat.zero_add], Nat.sub_self, Nat.zero_add] at this
  exact this
theorem eNl5_1 {u : fb_M} (hS : fb_St u) {l k : Nat} (hl : l < 8) (hk : k ≤ 38) (h1 : fb_I u (5 + 2 * l) 1 = nI k) : fX5_nameLength u (5 + 2 * l) (nI (fb_nl (fb_I u (6 + 2 * l)) k 0 + 1)) = some (nI (fb_nl (fb_I u (6 + 2 * l)) k 1)) := by
  rw [fb_nl_1]
  have hle := fb_nl_le (fb_I u (6 + 2 * l)) k 0
  generalize fb_nl (fb_I u (6 + 2 * l)) k 0 = a at *
  unfold fX5_nameLength
  by_cases h : a < k
  · rw [if_pos h, eNl5L hS (s := a + 1) hl hk h1 (k - a - 1) (a + 1) fb_F (by omega) (by unfold fb_F; omega) (by omega), Nat.sub_self, Nat.zero_add]
  · rw [if_neg h]
    show bX5_nameLength_2 _ (5 + 2 * l) (nI (a + 1)) (nI (a + 1)) u = _
    unfold bX5_nameLength_2
    rw [h1, if_pos (nI_le (by omega) (by omega)), nI_sub (Nat.le_refl _), Nat.sub_self]
theorem fb_Tx.df {u v w : fb_M} {n : Nat} (hT : fb_Tx u v n) {D : Nat → Nat → Prop} (h : fb_df u w D) (h1 : ¬ D 1 1) (h2 : ∀ k, ¬ D 2 k) : fb_Tx w v n := by
  unfold fb_Tx
  rw [h.2.2 1 1 h1, h.I h2]
  exact hT
theorem fb_Tx.dfv {u v w : fb_M} {n : Nat} (hT : fb_Tx u v n) {D : Nat → Nat → Prop} (h : fb_df v w D) (h1 : ¬ D 104 1) (h2 : ∀ k, ¬ D 105 k) : fb_Tx u w n := by
  unfold fb_Tx
  rw [h.2.2 104 1 h1, h.I h2]
  exact hT
theorem fb_Lx.df {u v w : fb_M} {n : Nat} (hL : fb_Lx u v n) {D : Nat → Nat → Prop} (h : fb_df u w D) (h1 : ¬ D 3 1) (h2 : ∀ a k, 5 ≤ a → a < 5 + 2 * n → ¬ D a k) : fb_Lx w v n := by
  refine ⟨hL.1, by rw [h.2.2 3 1 h1]; exact hL.2.1, hL.2.2.1, fun l hl => ?_⟩
  unfold fb_lfu
  rw [h.I (a := 5 + 2 * l) (fun k => h2 _ k (by omega) (by omega)), h.I (a := 6 + 2 * l) (fun k => h2 _ k (by omega) (by omega))]
  exact hL.2.2.2 l hl
theorem fb_Lx.dfv {u v w : fb_M} {n : Nat} (hL : fb_Lx u v n) {D : Nat → Nat → Prop} (h : fb_df v w D) (h1 : ¬ D 104 4) (h2 : ∀ k, ¬ D 106 k) (h3 : ∀ k, ¬ D 107 k) : fb_Lx u w n := by
  refine ⟨hL.1, hL.2.1, by rw [h.2.2 104 4 h1]; exact hL.2.2.1, fun l hl => ?_⟩
  unfold fb_lfu
  rw [h.I h2, h.I h3]
  exact hL.2.2.2 l hl
theorem eSetPathL {u : fb_M} (hS : fb_St u) {n l : Nat} (hT : fb_Tx u u n) (hl : l < 8) (hn : n ≤ 38) : ∀ m i fu w, i + m = n → m < fu → fb_df u w (fun a _ => a = 5 + 2 * l ∨ a = 6 + 2 * l) → fb_I w (5 + 2 * l) 1 = nI n → (∀ j, j < i → fb_I w (6 + 2 * l) j = fb_I u 2 j) →
    ∃ w', gX5_setPath_15 (5 + 2 * l) 1 fu (nI i) w = some w' ∧ fb_df u w' (fun a _ => a = 5 + 2 * l ∨ a = 6 + 2 * l) ∧ fb_I w' (5 + 2 * l) 1 = nI n ∧ (∀ j, j < n → fb_I w' (6 + 2 * l) j = fb_I u 2 j) ∧ fb_I w' (5 + 2 * l) 2 = nI (fb_nl (fb_I w' (6 + 2 * l)) n 0) ∧ fb_I w' (5 + 2 * l) 3 = nI (fb_nl (fb_I w' (6 + 2 * l)) n 1) := by
  intro m
  induction m with
  | zero =>
    intro i fu w hi hf hd h1 h2
    obtain ⟨fu, rfl⟩ : ∃ k, fu = k + 1 := ⟨fu - 1, by omega⟩
    have e5 : gX5_setPath_15 (5 + 2 * l) 1 (fu + 1) (nI i) w = bX5_setPath_15 (gX5_setPath_15 (5 + 2 * l) 1 fu) (5 + 2 * l) 1 (nI i) w := rfl
    have hSw := hd.St hS
    rw [e5]
    unfold bX5_setPath_15
    rw [h1, if_pos (nI_le (by omega) (by omega)), eNl5_0 hSw hl hn h1, Option.bind_some, fb_IwI_eq, nI_1]
    generalize hw2 : fb_wI w (5 + 2 * l) 2 (nI (fb_nl (fb_I w (6 + 2 * l)) n 0)) = w2
    have hd2 : fb_df u w2 (fun a _ => a = 5 + 2 * l ∨ a = 6 + 2 * l) := by rw [← hw2]; exact hd.wI (Or.inl rfl)
    have hp2 : fb_I w2 (6 + 2 * l) = fb_I w (6 + 2 * l) := by rw [← hw2]; exact funext fun j => fb_IwI_ne _ _ (by omega)
    have h12 : fb_I w2 (5 + 2 * l) 1 = nI n := by rw [← hw2, fb_IwI_ne _ _ (by omega)]; exact h1
    have hx := eNl5_1 (hd2.St hS) hl hn h12
    rw [hp2] at hx
    rw [hx, Option.bind_some]
    refine ⟨_, rfl, hd2.wI (Or.inl rfl), ?_, fun j hj => ?_, ?_, ?_⟩
    · rw [fb_IwI_ne _ _ (by omega)]; exact h12
    · rw [fb_IwI_ne _ _ (by omega), hp2]; exact h2 j (by omega)
    · rw [fb_IwI_ne _ _ (by omega), ← hw2, fb_IwI_eq, show fb_I (fb_wI (fb_wI w (5 + 2 * l) 2 (nI (fb_nl (fb_I w (6 + 2 * l)) n 0))) (5 + 2 * l) 3 (nI (fb_nl (fb_I w (6 + 2 * l)) n 1))) (6 + 2 * l) = fb_I w (6 + 2 * l) from funext fun j => by rw [fb_IwI_ne _ _ (by omega), fb_IwI_ne _ _ (by omega)]]
    · rw [fb_IwI_eq, ← hw2, show fb_I (fb_wI (fb_wI w (5 + 2 * l) 2 (nI (fb_nl (fb_I w (6 + 2 * l)) n 0))) (5 + 2 * l) 3 (nI (fb_nl (fb_I w (6 + 2 * l)) n 1))) (6 + 2 * l) = fb_I w (6 + 2 * l) from funext fun j => by rw [fb_IwI_ne _ _ (by omega), fb_IwI_ne _ _ (by omega)]]
  | succ m ih =>
    intro i fu w hi hf hd h1 h2
    obtain ⟨fu, rfl⟩ : ∃ k, fu = k + 1 := ⟨fu - 1, by omega⟩
    have e5 : gX5_setPath_15 (5 + 2 * l) 1 (fu + 1) (nI i) w = bX5_setPath_15 (gX5_setPath_15 (5 + 2 * l) 1 fu) (5 + 2 * l) 1 (nI i) w := rfl
    have hSw := hd.St hS
    have hTw : fb_Tx w u n := hT.df hd (by omega) (fun k => by omega)
    rw [e5]
    unfold bX5_setPath_15
    rw [h1, if_neg (nI_ge (by omega) (by omega)), hSw.ld_path hl, eX0_at hSw hS hTw (by omega), Option.bind_some, fb_n_path l hl, fb_gix (show i < 38 by omega) (by omega), nI_clamp (n := i) (by omega), show fb_tx w n i = fb_I w 2 i from if_pos (by omega), fb_okc_char (hTw.2.2.2 i (by omega)).2, nI_1]
    refine ih (i + 1) fu _ (by omega) (by omega) (hd.wI (Or.inr rfl)) (by rw [fb_IwI_ne _ _ (by omega)]; exact h1) (fun j hj => ?_)
    by_cases hji : j = i
    · subst hji
      rw [fb_IwI_eq, hd.I (a := 2) (fun k => by omega)]
    · rw [fb_IwI_ne _ _ (by omega)]
      exact h2 j (by omega)
theorem eSetPath {u : fb_M} (hS : fb_St u) {n l : Nat} (hT : fb_Tx u u n) (hl : l < 8) (hn : n ≤ 38) : ∃ w', fX5_setPath u (5 + 2 * l) 1 = some w' ∧ fb_df u w' (fun a _ => a = 5 + 2 * l ∨ a = 6 + 2 * l) ∧ fb_I w' (5 + 2 * l) 1 = nI n ∧ (∀ j, j < n → fb_I w' (6 + 2 * l) j = fb_I u 2 j) ∧ fb_I w' (5 + 2 * l) 2 = nI (fb_nl (fb_I w' (6 + 2 * l)) n 0) ∧ fb_I w' (5 + 2 * l) 3 = nI (fb_nl (fb_I w' (6 + 2 * l)) n 1) := by
  unfold fX5_setPath fX0_length
  rw [Option.bind_some, hT.2.1, if_neg (show ¬ (38 : Int32) < nI n from nI_nlt (a := 38) hn (by omega))]
  exact eSetPathL hS hT hl hn n 0 fb_F _ (by omega) (by unfold fb_F; omega) ((fb_df.rf u _).wI (Or.inl rfl)) (fb_IwI_eq _ _ _ _) (fun j hj => by omega)
theorem eDeclL {u : fb_M} (hS : fb_St u) {n N : Nat} (hN : N < 8) (hn : n ≤ 38) (h1 : fb_I u 104 1 = nI n) (h4 : fb_I u 104 4 = nI N) : ∀ m i fu w, i + m = n → m < fu → fb_df u w (fun a k => a = 106 ∧ 40 * N ≤ k) → (∀ j, j < i → fb_I w 106 (40 * N + j) = fb_I u 105 j) →
    ∃ w', gX9_declare_50 104 fu (nI i) w = some (nI N, fb_wI (fb_wI (fb_wI w' 107 N (nI n)) 104 1 0) 104 4 (nI (N + 1))) ∧ fb_df u w' (fun a k => a = 106 ∧ 40 * N ≤ k) ∧ (∀ j, j < n → fb_I w' 106 (40 * N + j) = fb_I u 105 j) := by
  intro m
  induction m with
  | zero =>
    intro i fu w hi hf hd h2
    obtain ⟨fu, rfl⟩ : ∃ k, fu = k + 1 := ⟨fu - 1, by omega⟩
    have e5 : gX9_declare_50 104 (fu + 1) (nI i) w = bX9_declare_50 (gX9_declare_50 104 fu) 104 (nI i) w := rfl
    have hSw := hd.St hS
    have w1 : fb_I w 104 1 = nI n := by rw [hd.2.2 104 1 (by omega)]; exact h1
    have w4 : fb_I w 104 4 = nI N := by rw [hd.2.2 104 4 (by omega)]; exact h4
    refine ⟨w, ?_, hd, fun j hj => h2 j (by omega)⟩
    rw [e5]
    unfold bX9_declare_50
    rw [w1, if_pos (nI_le (by omega) (by omega)), hSw.ld_104_3, fb_n107, w4, fb_gix hN (by omega), nI_clamp (n := N) (by omega), fb_IwI_eq, fb_IwI_ne _ _ (by omega), fb_IwI_ne _ _ (by omega), w4, nI_1, nI_pred]
  | succ m ih =>
    intro i fu w hi hf hd h2
    obtain ⟨fu, rfl⟩ : ∃ k, fu = k + 1 := ⟨fu - 1, by omega⟩
    have e5 : gX9_declare_50 104 (fu + 1) (nI i) w = bX9_declare_50 (gX9_declare_50 104 fu) 104 (nI i) w := rfl
    have hSw := hd.St hS
    have w1 : fb_I w 104 1 = nI n := by rw [hd.2.2 104 1 (by omega)]; exact h1
    have w4 : fb_I w 104 4 = nI N := by rw [hd.2.2 104 4 (by omega)]; exact h4
    rw [e5]
    unfold bX9_declare_50
    rw [w1, if_neg (nI_ge (by omega) (by omega)), hSw.ld_104_2, hSw.ld_104_0, fb_n105, fb_gix (show i < 80 by omega) (by omega), w4, fb_40, fb_n106, fb_gix (show 40 * N + i < 320 by omega) (by omega), nI_clamp (n := 40 * N + i) (by omega), nI_clamp (n := i) (by omega), nI_1]
    refine ih (i + 1) fu _ (by omega) (by omega) (hd.wI ⟨rfl, by omega⟩) (fun j hj => ?_)
    by_cases hji : j = i
    · subst hji
      rw [fb_IwI_eq, hd.I (a := 105) (fun k => by omega)]
    · rw [fb_IwI_ne _ _ (by omega)]
      exact h2 j (by omega)

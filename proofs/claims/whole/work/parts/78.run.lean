/-! run: both sides' finding -/
def fb_SS (u : fb_M) (lo dn : Nat → Nat) (d k : Nat) : Int := fb_sk (dn k) (fb_I u 126 (8 * d + lo k)) (fb_I u 125 (8 * d + lo k))
def fb_hh (u : fb_M) (lf wd : Nat → Nat) (d k : Nat) : Int32 := fb_hw (wd k) (fb_I u 126 (8 * d + lf k)) (fb_I u 125 (8 * d + lf k)) (fb_ag u (fb_tks wd k)) (fb_ag u (fb_tks wd k + 1))
def fb_fit (u : fb_M) (lf wd at_ : Nat → Nat) (np d : Nat) : Bool := decide (fb_ft (fb_hh u lf wd d) at_ np 0 1 = 1)
theorem fb_fit_v {u : fb_M} {lf wd at_ : Nat → Nat} {np d : Nat} (h : fb_ft (fb_hh u lf wd d) at_ np 0 1 = 0 ∨ fb_ft (fb_hh u lf wd d) at_ np 0 1 = 1) : fb_ft (fb_hh u lf wd d) at_ np 0 1 = if fb_fit u lf wd at_ np d = true then 1 else 0 := by
  unfold fb_fit
  rcases h with h | h
  · rw [h]; decide
  · rw [h]; decide
theorem eGather {u : fb_M} {n f lim na np no : Nat} {p lf wd at_ lo dn : Nat → Nat} (hS : fb_St u) (hf8 : f < 8) (h10 : n ≤ 10) (hn : fb_I u 77 1 = nI n) (hp : ∀ i, i < 10 → p i < 10 ∧ fb_R u 78 i = some (79 + 2 * p i)) (hx : ∀ i, i < n → ∀ l, l < 8 → fb_vr (fb_L u (80 + 2 * p i) l) (fb_I u 126 (8 * i + l)) (fb_I u 125 (8 * i + l)))
    (hlim : lim < 1000) (hl : fb_I u (23 + 6 * f) 1 = nI lim) (hFP : fb_FP u f na np lf wd at_) (hGP : fb_GP u f no lo dn) (hs : ∀ k, k + 1 < np → at_ (k + 1) = at_ k ∨ at_ (k + 1) = at_ k + 1) (hz : np = 0 → na = 0) (hlt : 0 < np → at_ 0 = 0 ∧ at_ (np - 1) + 1 = na) {ub : fb_M} (hub : fb_df u ub (fun a _ => a = 0)) :
    ∃ w' c q, fX4_gather ub 101 77 (23 + 6 * f) 100 = some w' ∧ fb_G2 ub w' ∧ fb_I w' 101 1 = nI (fb_lm lim c) ∧ (∀ j, j < c → fb_R w' 102 j = some (79 + 2 * p (q j))) ∧ fb_sq (fb_SS u lo dn) no (fb_fit u lf wd at_ np) n c q := by
  have hSb := hub.St hS
  have hI : ∀ w, fb_G2 ub w → ∀ a k, a ≠ 0 → a ≠ 101 → fb_I w a k = fb_I u a k := fun w hG a k h1 h2 => (hG.1 a k (fun z => h2 z.1)).trans (hub.2.2 a k h1)
  have hL : ∀ w, fb_G2 ub w → fb_L w = fb_L u := fun w hG => hG.2.1.trans hub.2.1
  refine eGatL hSb (n := n) (no := no) (f := f) (lim := lim) (p := p) (S := fb_SS u lo dn) (fit := fb_fit u lf wd at_ np) h10 (fun i hi => ⟨(hp i hi).1, by rw [hub.1]; exact (hp i hi).2⟩) ((hub.2.2 77 1 (by omega)).trans hn) hf8 hlim ((hub.2.2 (23 + 6 * f) 1 (by omega)).trans hl) ?_ ?_ n 0 fb_F (fb_wI ub 101 1 0) 0 (fun j => j) (by omega) (by unfold fb_F; omega) ((fb_G2.rf ub).wI 0) (by rw [fb_IwI_eq]; rfl) (fun j hj => absurd hj (by omega)) ⟨Nat.le_refl _, fun j hj => absurd hj (by omega), fun d hd => absurd hd (by omega), fun j k _ hk => absurd hk (by omega)⟩
  · intro w hG i j hi hj
    have hw := hI w hG
    refine ePutsL (hG.St hSb) (f := f) (no := no) (lo := lo) (dn := dn) (by omega) ⟨hGP.1, by rw [hw _ _ (by omega) (by omega)]; exact hGP.2.1, fun k hk => by rw [hw _ _ (by omega) (by omega), hw _ _ (by omega) (by omega)]; exact hGP.2.2 k hk⟩ (hp i (by omega)).1 (hp j (by omega)).1 (f1 := fun l => fb_I u 126 (8 * i + l)) (v1 := fun l => fb_I u 125 (8 * i + l)) (f2 := fun l => fb_I u 126 (8 * j + l)) (v2 := fun l => fb_I u 125 (8 * j + l)) (fun l h8 => by rw [hL w hG]; exact hx i hi l h8) (fun l h8 => by rw [hL w hG]; exact hx j hj l h8) (A := fb_SS u lo dn i) (B := fb_SS u lo dn j) (fun k _ => rfl) (fun k _ => rfl) no 0 fb_F (by omega) (by have := hGP.1; unfold fb_F; omega)
  · intro w hG i hi
    have hw := hI w hG
    have hag : ∀ k, fb_ag w k = fb_ag u k := fun k => by unfold fb_ag; rw [hw 100 k (by omega) (by omega)]
    have h1 := eFitsC (hG.St hSb) (f := f) (na := na) (np := np) (lf := lf) (wd := wd) (at_ := at_) (by omega) ⟨hFP.1, by rw [hw _ _ (by omega) (by omega)]; exact hFP.2.1, fun k hk => by rw [hw _ _ (by omega) (by omega), hw _ _ (by omega) (by omega), hw _ _ (by omega) (by omega)]; exact hFP.2.2 k hk⟩ (hp i (by omega)).1 (full := fun l => fb_I u 126 (8 * i + l)) (val := fun l => fb_I u 125 (8 * i + l)) (fun l h8 => by rw [hL w hG]; exact hx i hi l h8) np 0 fb_F 1 (by omega) (by have := hFP.1; unfold fb_F; omega) (Or.inr rfl)
    have h2 : (fun k => fb_hw (wd k) (fb_I u 126 (8 * i + lf k)) (fb_I u 125 (8 * i + lf k)) (fb_ag w (fb_tks wd k)) (fb_ag w (fb_tks wd k + 1))) = fb_hh u lf wd i := funext fun k => by rw [hag, hag]; rfl
    rw [h2, fb_fit_v (fb_ft_an (fun k => fb_hw01 _ _ _ _ _) hs hz hlt).2] at h1
    exact h1
theorem eRunM {u v : fb_M} (hV : fb_St v) (hvu : ∀ a, 104 ≤ a → fb_I v a = fb_I u a) {n f nf lim na np no c : Nat} {lf wd at_ lo dn q : Nat → Nat} (hf : f < nf) (hnf : nf ≤ 8) (h10 : n ≤ 10) (hm : fb_I u 104 28 = nI n) (h5 : fb_I u 104 5 = nI nf) (h35 : fb_I u 104 35 = nI (fb_tks wd np)) (h01 : ∀ j, j < 8 * n → fb_I u 126 j = 0 ∨ fb_I u 126 j = 1)
    (hlim : lim < 1000) (hl : fb_I u 109 f = nI lim) (hFQ : fb_FQ u f na np lf wd at_) (hGQ : fb_GQ u f no lo dn) (hs : ∀ k, k + 1 < np → at_ (k + 1) = at_ k ∨ at_ (k + 1) = at_ k + 1) (hz : np = 0 → na = 0) (hlt : 0 < np → at_ 0 = 0 ∧ at_ (np - 1) + 1 = na) (hg : ∀ i, i < fb_tks wd np → i < 12 ∧ fb_I u 129 i = fb_ag u i) (hq : fb_sq (fb_SS u lo dn) no (fb_fit u lf wd at_ np) n c q) :
    ∃ w', fX9_run v 104 (nI f) = gX9_run_77 104 (nI f) 1 (nI (fb_lm lim c)) (nI n) w' ∧ fb_df v w' (fun a k => fb_D3 a k ∨ (a = 104 ∧ k = 35)) ∧ fb_I w' 104 35 = 0 ∧ (∀ d, d < n → fb_I w' 132 d = if fb_in q (fb_lm lim c) d = true then 1 else 0) ∧ (∀ k, k < fb_lm lim c → fb_I w' 130 k = fb_I u 124 (q k)) := by
  have hv : ∀ a k, 104 ≤ a → fb_I v a k = fb_I u a k := fun a k h => by rw [hvu a h]
  obtain ⟨v1, q1⟩ : ∃ y, y = fb_wI v 104 35 0 := ⟨_, rfl⟩
  have hV1 : fb_St v1 := by rw [q1]; exact hV.wI _ _ _
  have hv1 : ∀ a k, 104 ≤ a → ¬ (a = 104 ∧ k = 35) → fb_I v1 a k = fb_I u a k := fun a k h h2 => by rw [q1, fb_IwI_ne _ _ h2]; exact hv a k h
  have hw1 : ∀ w, fb_df v1 w fb_D3 → ∀ a k, 104 ≤ a → a ≤ 129 → ¬ (a = 104 ∧ k = 35) → fb_I w a k = fb_I u a k := fun w hd a k h1 h2 h3 => (hd.2.2 a k (by unfold fb_D3; omega)).trans (hv1 a k h1 h3)
  have hfit : ∀ w, fb_df v1 w fb_D3 → ∀ i, i < n → fX9_fits w 104 (nI f) (nI i) = some (if fb_fit u lf wd at_ np i = true then 1 else 0) := by
    intro w hd i hi
    have hw := hw1 w hd
    have h1 := eFitsM (hd.St hV1) (f := f) (na := na) (np := np) (lf := lf) (wd := wd) (at_ := at_) (by omega) ⟨hFQ.1, hFQ.2.1, by rw [hw _ _ (by omega) (by omega) (by omega)]; exact hFQ.2.2.1, by rw [hw _ _ (by omega) (by omega) (by omega)]; exact hFQ.2.2.2.1, fun k hk => by rw [hw _ _ (by omega) (by omega) (by omega), hw _ _ (by omega) (by omega) (by omega), hw _ _ (by omega) (by omega) (by omega)]; exact hFQ.2.2.2.2 k hk⟩ (show i < 10 by omega) (full := fun l => fb_I u 126 (8 * i + l)) (val := fun l => fb_I u 125 (8 * i + l)) (fun l h8 => ⟨h01 _ (by omega), hw _ _ (by omega) (by omega) (by omega), hw _ _ (by omega) (by omega) (by omega)⟩) (ag := fb_ag u) (fun j hj => ⟨(hg j hj).1, by rw [hw _ _ (by omega) (by omega) (by omega)]; exact (hg j hj).2⟩)
    have h2 := fb_ft_an (h := fb_hh u lf wd i) (fun k => fb_hw01 _ _ _ _ _) hs hz hlt
    rw [← fb_fit_v h2.2, h2.1]
    exact h1
  have hcmp : ∀ w, fb_df v1 w fb_D3 → ∀ d e, d < n → e < n → fX9_compare w 104 (nI f) (nI d) (nI e) = some (fb_cp (fb_SS u lo dn d) (fb_SS u lo dn e) no 0) := by
    intro w hd d e hdn hen
    have hw := hw1 w hd
    exact eCmpL (hd.St hV1) (f := f) (no := no) (lo := lo) (dn := dn) (by omega) ⟨hGQ.1, by rw [hw _ _ (by omega) (by omega) (by omega)]; exact hGQ.2.1, fun k hk => by rw [hw _ _ (by omega) (by omega) (by omega), hw _ _ (by omega) (by omega) (by omega)]; exact hGQ.2.2 k hk⟩ (show d < 10 by omega) (show e < 10 by omega) (A := fb_SS u lo dn d) (B := fb_SS u lo dn e) (fun k _ => by rw [hw _ _ (by omega) (by omega) (by omega), hw _ _ (by omega) (by omega) (by omega)]; rfl) (fun k _ => by rw [hw _ _ (by omega) (by omega) (by omega), hw _ _ (by omega) (by omega) (by omega)]; rfl) no 0 fb_F (by omega) (by have := hGQ.1; unfold fb_F; omega)
  have m1 : fb_I v1 104 28 = nI n := (hv1 104 28 (by omega) (by omega)).trans hm
  obtain ⟨w1, a1, a2, a3⟩ := eRun46 hV1 (f := f) m1 h10 hfit n 0 fb_F v1 (by omega) (by unfold fb_F; omega) (fb_df.rf _ _) (fun d hd => absurd hd (by omega))
  obtain ⟨w', b1, b2, b3, b4⟩ := eRun77 hV1 (f := f) (show f < 8 by omega) m1 h10 hlim ((hv1 109 f (by omega) (by omega)).trans hl) hcmp hq n 0 fb_F w1 (by omega) (by unfold fb_F; omega) a2 a3 (fun d hd => absurd hd (by omega)) (fun k _ hk => absurd hk (by omega))
  have hta := eX9_takesAll hV (f := f) (np := np) (wd := wd) (show f < 8 by omega) hFQ.1 ((hv 112 f (by omega)).trans hFQ.2.2.1) (fun k hk => by rw [hv _ _ (by omega)]; exact (hFQ.2.2.2.2 k hk).2.1)
  refine ⟨w', ?_, ?_, ?_, b3, fun k hk => (b4 k hk).trans (hv1 _ _ (by omega) (by omega))⟩
  · unfold fX9_run
    rw [if_neg (nI_pos (by omega)), hv 104 5 (by omega), h5, if_pos (nI_lt hf (by omega)), hta, Option.bind_some, hv 104 35 (by omega), h35, if_pos rfl]
    unfold jX9_run_31
    rw [if_neg fb_10, ← q1]
    exact a1.trans b1
  · refine fb_df.tr (v := v1) ?_ (b2.mo (fun a k h => Or.inl h))
    rw [q1]
    exact (fb_df.rf _ _).wI (Or.inr ⟨rfl, rfl⟩)
  · rw [b2.2.2 104 35 (by unfold fb_D3; omega), q1, fb_IwI_eq]
/-- the reference's answer, when nothing is deleted -/
def fb_an3 (s sg L : Nat) : Int32 := if s = 2 then (if L = 0 then 0 else 1) else if sg = 0 ∨ L ≤ 1 then nI L else -3
def fb_fo (s sg L : Nat) : Nat := if s = 0 ∧ (sg = 0 ∨ L ≤ 1) then L else 0
theorem e247 {w : fb_M} (hS : fb_St w) {f s sg L : Nat} (hf8 : f < 8) (hs4 : s < 4) (hsg : sg < 2) (hL : L ≤ 10) (h108 : fb_I w 108 f = nI s) (h110 : fb_I w 110 f = nI sg) : jX9_run_247 104 (nI f) (nI L) w = some (fb_an3 s sg L, w) := by
  unfold jX9_run_247 fb_an3
  rw [hS.ld_104_6, fb_n108, fb_gix hf8 (by omega), nI_clamp (n := f) (by omega), h108, hS.ld_104_8, fb_n110, fb_gix2 hf8 (by omega), h110]
  by_cases h2 : s = 2
  · rw [if_pos (show nI s = 2 by rw [h2]; rfl), if_pos h2]
    by_cases h0 : L = 0
    · rw [if_pos (show nI L ≤ 0 by rw [h0]; decide), if_pos h0]
    · rw [if_neg (nI_nle (by omega) (by omega)), if_neg h0]
  · rw [if_neg (show ¬ nI s = 2 from fun z => h2 ((nI_eq (b := 2) (by omega) (by omega)).mp z)), if_neg h2]
    by_cases h3 : sg = 0
    · rw [if_pos (show nI sg = 0 by rw [h3]; rfl), if_pos (Or.inl h3)]
    · rw [if_neg (nI_ne0 (by omega) (by omega))]
      by_cases h4 : L ≤ 1
      · rw [if_pos (show nI L ≤ 1 from nI_le (b := 1) h4 (by omega)), if_pos (Or.inr h4)]
      · rw [if_neg (show ¬ nI L ≤ 1 from nI_ge (a := 1) (by omega) (by omega)), if_neg (fun z => z.elim h3 h4)]
theorem eTail {w : fb_M} (hS : fb_St w) {f s sg L n : Nat} (hf8 : f < 8) (hs4 : s < 4) (hsg : sg < 2) (hL : L ≤ 10) (h10 : n ≤ 10) (hm : fb_I w 104 28 = nI n) (h108 : fb_I w 108 f = nI s) (h110 : fb_I w 110 f = nI sg) :
    gX9_run_77 104 (nI f) 1 (nI L) (nI n) w = gX9_run_210 104 (nI f) (nI L) fb_F (nI n - 1) (fb_wI w 104 37 (nI (fb_fo s sg L))) := by
  have e28 : ∀ x, fb_I (fb_wI w 104 37 x) 104 28 = nI n := fun x => by rw [fb_IwI_ne _ _ (by omega), hm]
  show bX9_run_77 _ 104 (nI f) (nI L) (nI n) w = _
  unfold bX9_run_77 fb_fo
  rw [hm, if_pos (nI_le (Nat.le_refl _) (by omega)), hS.ld_104_6, fb_n108, fb_gix hf8 (by omega), nI_clamp (n := f) (by omega), h108, hS.ld_104_8, fb_n110, fb_gix2 hf8 (by omega), h110, e28, e28]
  by_cases h0 : s = 0
  · rw [if_pos (show nI s = 0 by rw [h0]; rfl)]
    by_cases h3 : sg = 0
    · rw [if_pos (show nI sg = 0 by rw [h3]; rfl), if_pos ⟨h0, Or.inl h3⟩]
    · rw [if_neg (nI_ne0 (by omega) (by omega))]
      by_cases h4 : L ≤ 1
      · rw [if_neg (show ¬ 1 < nI L from nI_nlt (a := 1) h4 (by omega)), if_pos ⟨h0, Or.inr h4⟩]
      · rw [if_pos (show 1 < nI L from nI_lt (a := 1) (by omega) (by omega)), if_neg (fun z => z.2.elim h3 h4)]
        rfl
  · rw [if_neg (nI_ne0 (by omega) (by omega)), if_neg (fun z => h0 z.1)]
    rfl
theorem e210n {w : fb_M} (hS : fb_St w) {f s sg L n : Nat} (hf8 : f < 8) (hs4 : s < 4) (hs3 : s ≠ 3) (hsg : sg < 2) (hL : L ≤ 10) (h108 : fb_I w 108 f = nI s) (h110 : fb_I w 110 f = nI sg) (x : Int32) : gX9_run_210 104 (nI f) (nI L) fb_F x w = some (fb_an3 s sg L, w) := by
  show bX9_run_210 _ 104 (nI f) (nI L) x w = _
  unfold bX9_run_210
  rw [e247 hS hf8 hs4 hsg hL h108 h110]
  by_cases h : x < 0
  · rw [if_pos h]
  · rw [if_neg h, hS.ld_104_6, fb_n108, fb_gix hf8 (by omega), nI_clamp (n := f) (by omega), h108, if_neg (show ¬ nI s = 3 from fun z => hs3 ((nI_eq (b := 3) (by omega) (by omega)).mp z))]

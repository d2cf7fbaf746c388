/-! run: whether a part holds, by the reference -/
theorem fb_hv_a {w : Nat} (h : 6 < w) {x a b a' b' : Int32} : fb_hv w x a b = fb_hv w x a' b' := by
  unfold fb_hv
  simp only [show ¬ w = 0 by omega, show ¬ w = 1 by omega, show ¬ w = 2 by omega, show ¬ w = 3 by omega, show ¬ w = 4 by omega, show ¬ w = 5 by omega, show ¬ w = 6 by omega, if_false]
theorem eH98_0 {v : fb_M} (hV : fb_St v) {i : Nat} (hi : i ≤ 12) {x a b : Int32} : jX9_holds_98 104 (nI i) (nI 0) x a v = some (fb_hv 0 x a b) := by
  unfold jX9_holds_98
  rw [show fb_hv 0 x a b = (if x = a then 1 else 0) from rfl, if_pos (by decide)]
  by_cases h : x = a <;> simp [h]
theorem eH98_1 {v : fb_M} (hV : fb_St v) {i : Nat} (hi : i ≤ 12) {x a b : Int32} : jX9_holds_98 104 (nI i) (nI 1) x a v = some (fb_hv 1 x a b) := by
  unfold jX9_holds_98
  rw [show fb_hv 1 x a b = (if x = a then 0 else 1) from rfl, if_neg (by decide), if_pos (by decide)]
  by_cases h : x = a <;> simp [h]
theorem eH98_2 {v : fb_M} (hV : fb_St v) {i : Nat} (hi : i ≤ 12) {x a b : Int32} : jX9_holds_98 104 (nI i) (nI 2) x a v = some (fb_hv 2 x a b) := by
  unfold jX9_holds_98
  rw [show fb_hv 2 x a b = (if x < a then 1 else 0) from rfl, if_neg (by decide), if_neg (by decide), if_pos (by decide)]
  by_cases h : x < a
  · have h2 : ¬ a ≤ x := by rw [fb_le3]; exact fun q => q h
    simp [h, h2]
  · have h2 : a ≤ x := by rw [fb_le3]; exact h
    simp [h, h2]
theorem eH98_3 {v : fb_M} (hV : fb_St v) {i : Nat} (hi : i ≤ 12) {x a b : Int32} : jX9_holds_98 104 (nI i) (nI 3) x a v = some (fb_hv 3 x a b) := by
  unfold jX9_holds_98
  rw [show fb_hv 3 x a b = (if a < x then 0 else 1) from rfl, if_neg (by decide), if_neg (by decide), if_neg (by decide), if_pos (by decide)]
  by_cases h : a < x <;> simp [h]
theorem eH98_4 {v : fb_M} (hV : fb_St v) {i : Nat} (hi : i ≤ 12) {x a b : Int32} : jX9_holds_98 104 (nI i) (nI 4) x a v = some (fb_hv 4 x a b) := by
  unfold jX9_holds_98
  rw [show fb_hv 4 x a b = (if a < x then 1 else 0) from rfl, if_neg (by decide), if_neg (by decide), if_neg (by decide), if_neg (by decide), if_pos (by decide)]
  by_cases h : a < x
  · have h2 : ¬ x ≤ a := by rw [fb_le3]; exact fun q => q h
    simp [h, h2]
  · have h2 : x ≤ a := by rw [fb_le3]; exact h
    simp [h, h2]
theorem eH98_5 {v : fb_M} (hV : fb_St v) {i : Nat} (hi : i ≤ 12) {x a b : Int32} : jX9_holds_98 104 (nI i) (nI 5) x a v = some (fb_hv 5 x a b) := by
  unfold jX9_holds_98
  rw [show fb_hv 5 x a b = (if x < a then 0 else 1) from rfl, if_neg (by decide), if_neg (by decide), if_neg (by decide), if_neg (by decide), if_neg (by decide), if_pos (by decide)]
  by_cases h : x < a <;> simp [h]
theorem eH98_6a {v : fb_M} (hV : fb_St v) {i : Nat} {x b : Int32} (h6 : i + 1 < 12 ∧ fb_I v 129 (i + 1) = b) : (if (11 : Int32) ≤ nI i then some (0 : Int32) else ((fb_R v 104 34).bind fun q255 => fb_gd (q255 < fb_NT ∧ (fb_sh q255).1 = 100) ((fb_gd (¬ (nI i + 1 < 0 ∨ (fb_sh q255).2 ≤ (nI i + 1).toNatClampNeg)) (if (fb_I v q255 (nI i + 1).toNatClampNeg) < x then (some 0) else (some 1)))))) = some (if b < x then 0 else 1) := by
  obtain ⟨g1, g2⟩ := h6
  rw [if_neg (show ¬ (11 : Int32) ≤ nI i from nI_ge (b := 11) (by omega) (by omega)), hV.ld_104_34, fb_n129, nI_1, fb_gix g1 (by omega), nI_clamp (n := i + 1) (by omega), g2]
  by_cases g : b < x
  · rw [if_pos g, if_pos g]
  · rw [if_neg g, if_neg g]
theorem fb_hv6 (x a b : Int32) : fb_hv 6 x a b = if x < a then 0 else if b < x then 0 else 1 := by
  unfold fb_hv
  rw [if_neg (show ¬ (6 : Nat) = 0 by omega), if_neg (show ¬ (6 : Nat) = 1 by omega), if_neg (show ¬ (6 : Nat) = 2 by omega), if_neg (show ¬ (6 : Nat) = 3 by omega), if_neg (show ¬ (6 : Nat) = 4 by omega), if_neg (show ¬ (6 : Nat) = 5 by omega), if_pos rfl]
theorem fb_n6 : (nI 6 : Int32) = 6 ∧ ¬ (6 : Int32) = 0 ∧ ¬ (6 : Int32) = 1 ∧ ¬ (6 : Int32) = 2 ∧ ¬ (6 : Int32) = 3 ∧ ¬ (6 : Int32) = 4 ∧ ¬ (6 : Int32) = 5 := by decide
theorem eH98_6l {v : fb_M} (hV : fb_St v) {i : Nat} {x a b : Int32} (h6 : i + 1 < 12 ∧ fb_I v 129 (i + 1) = b) : jX9_holds_98 104 (nI i) 6 x a v = if x < a then some 0 else some (if b < x then 0 else 1) := by
  unfold jX9_holds_98
  rw [if_neg fb_n6.2.1, if_neg fb_n6.2.2.1, if_neg fb_n6.2.2.2.1, if_neg fb_n6.2.2.2.2.1, if_neg fb_n6.2.2.2.2.2.1, if_neg fb_n6.2.2.2.2.2.2, if_pos rfl, eH98_6a hV h6]
theorem eH98_6 {v : fb_M} (hV : fb_St v) {i : Nat} (hi : i ≤ 12) {x a b : Int32} (h6 : i + 1 < 12 ∧ fb_I v 129 (i + 1) = b) : jX9_holds_98 104 (nI i) (nI 6) x a v = some (fb_hv 6 x a b) := by
  rw [fb_hv6, fb_n6.1, eH98_6l hV h6]
  by_cases h : x < a
  · rw [if_pos h, if_pos h]
  · rw [if_neg h, if_neg h]
theorem eH98_8 {v : fb_M} (hV : fb_St v) {i : Nat} (hi : i ≤ 12) {x a b : Int32} : jX9_holds_98 104 (nI i) (nI 8) x a v = some (fb_hv 8 x a b) := by
  unfold jX9_holds_98
  rw [show fb_hv 8 x a b = (1) from rfl, if_neg (by decide), if_neg (by decide), if_neg (by decide), if_neg (by decide), if_neg (by decide), if_neg (by decide), if_neg (by decide), if_neg (by decide), if_pos (by decide)]
theorem eH98_9 {v : fb_M} (hV : fb_St v) {i : Nat} (hi : i ≤ 12) {x a b : Int32} : jX9_holds_98 104 (nI i) (nI 9) x a v = some (fb_hv 9 x a b) := by
  unfold jX9_holds_98
  rw [show fb_hv 9 x a b = (if x = 0 then 0 else 1) from rfl, if_neg (by decide), if_neg (by decide), if_neg (by decide), if_neg (by decide), if_neg (by decide), if_neg (by decide), if_neg (by decide), if_neg (by decide), if_neg (by decide), if_pos (by decide)]
  by_cases h : x = 0 <;> simp [h]
theorem eH98_10 {v : fb_M} (hV : fb_St v) {i : Nat} (hi : i ≤ 12) {x a b : Int32} : jX9_holds_98 104 (nI i) (nI 10) x a v = some (fb_hv 10 x a b) := by
  unfold jX9_holds_98
  rw [show fb_hv 10 x a b = (if x = 0 then 1 else 0) from rfl, if_neg (by decide), if_neg (by decide), if_neg (by decide), if_neg (by decide), if_neg (by decide), if_neg (by decide), if_neg (by decide), if_neg (by decide), if_neg (by decide), if_neg (by decide), if_pos (by decide)]
  by_cases h : x = 0 <;> simp [h]
theorem eHolds98 {v : fb_M} (hV : fb_St v) {w i : Nat} (hw : w ≤ 10) (hw7 : w ≠ 7) (hi : i ≤ 12) {x a b : Int32} (h6 : w = 6 → i + 1 < 12 ∧ fb_I v 129 (i + 1) = b) : jX9_holds_98 104 (nI i) (nI w) x a v = some (fb_hv w x a b) := by
  rcases (show w = 0 ∨ w = 1 ∨ w = 2 ∨ w = 3 ∨ w = 4 ∨ w = 5 ∨ w = 6 ∨ w = 7 ∨ w = 8 ∨ w = 9 ∨ w = 10 by omega) with rfl | rfl | rfl | rfl | rfl | rfl | rfl | rfl | rfl | rfl | rfl
  · exact eH98_0 hV hi
  · exact eH98_1 hV hi
  · exact eH98_2 hV hi
  · exact eH98_3 hV hi
  · exact eH98_4 hV hi
  · exact eH98_5 hV hi
  · exact eH98_6 hV hi (h6 rfl)
  · exact absurd rfl hw7
  · exact eH98_8 hV hi
  · exact eH98_9 hV hi
  · exact eH98_10 hV hi
theorem eHoldsM {v : fb_M} (hV : fb_St v) {f k e i lf w : Nat} (hf : f < 8) (hk : k < 6) (he : e < 10) (hl : lf < 8) (hw : w ≤ 10) (hi : i ≤ 12) (h114 : fb_I v 114 (6 * f + k) = nI lf) (h115 : fb_I v 115 (6 * f + k) = nI w) {ff x a b : Int32} (hff : ff = 0 ∨ ff = 1) (h126 : fb_I v 126 (8 * e + lf) = ff) (h125 : fb_I v 125 (8 * e + lf) = x) (ha : w ≤ 6 → i < 12 ∧ fb_I v 129 i = a) (hb : w = 6 → i + 1 < 12 ∧ fb_I v 129 (i + 1) = b) :
    fX9_holds v 104 (nI f) (nI k) (nI e) (nI i) = some (fb_hw w ff x a b) := by
  unfold fX9_holds jX9_holds_48 fb_hw
  rw [hV.ld_104_12, fb_n114, fb_6, fb_gix (show 6 * f + k < 48 by omega) (by omega), nI_clamp (n := 6 * f + k) (by omega), h114, hV.ld_104_13, fb_n115, fb_gix2 (show 6 * f + k < 48 by omega) (by omega), h115, hV.ld_104_31, fb_n126, fb_8, fb_gix (show 8 * e + lf < 80 by omega) (by omega), nI_clamp (n := 8 * e + lf) (by omega), h126, hV.ld_104_31, fb_n126, fb_gix2 (show 8 * e + lf < 80 by omega) (by omega), h126]
  by_cases h0 : ff = 0
  · rw [if_pos h0, if_pos h0, if_pos h0]
    by_cases h7 : w = 7
    · rw [if_pos (show nI w = 7 by rw [h7]; decide), if_pos h7]
    · rw [if_neg (show ¬ nI w = 7 from fun q => h7 ((nI_eq (b := 7) (by omega) (by omega)).mp q)), if_neg h7]
  · rw [if_neg h0, if_neg h0, if_neg h0]
    by_cases h7 : w = 7
    · rw [if_pos (show nI w = 7 by rw [h7]; decide)]
      unfold fb_hv
      rw [h7]
      rfl
    · rw [if_neg (show ¬ nI w = 7 from fun q => h7 ((nI_eq (b := 7) (by omega) (by omega)).mp q)), hV.ld_104_30, fb_n125, fb_gix2 (show 8 * e + lf < 80 by omega) (by omega), h125]
      by_cases hi12 : i < 12
      · rw [if_neg (show ¬ (12 : Int32) ≤ nI i from nI_ge (b := 12) hi12 (by omega)), hV.ld_104_34, fb_n129, fb_gix hi12 (by omega), nI_clamp (n := i) (by omega)]
        by_cases hw6 : w ≤ 6
        · rw [(ha hw6).2]
          exact eHolds98 hV hw h7 hi hb
        · rw [eHolds98 hV hw h7 hi (b := b) hb]
          exact congrArg some (fb_hv_a (by omega))
      · rw [if_pos (show (12 : Int32) ≤ nI i from nI_le (a := 12) (by omega) (by omega)), eHolds98 hV hw h7 hi (b := b) hb]
        have hw6 : ¬ w ≤ 6 := fun q => hi12 (ha q).1
        exact congrArg some (fb_hv_a (by omega))

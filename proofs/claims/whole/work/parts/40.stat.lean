/-! the references that never change: all but the rows of the store (78) and of the finding (102) -/
def fb_St (u : fb_M) : Prop := ∀ a k, a ≠ 78 → a ≠ 102 → fb_R u a k = fb_R fb_u1 a k
theorem fb_St0 : fb_St fb_u1 := fun _ _ _ _ => rfl
theorem fb_gdT {ρ : Type} {c : Prop} [Decidable c] {x : Option ρ} (h : c) : fb_gd c x = x := if_pos h
theorem fb_gix {ρ : Type} {x : Option ρ} {i N : Nat} (hi : i < N) (hN : N < 2 ^ 31) : fb_gd (¬ (nI i < 0 ∨ N ≤ (nI i).toNatClampNeg)) x = x := fb_gdT (nI_in hi hN)
theorem fb_I_wI (u : fb_M) (a k : Nat) (x : Int32) (b j : Nat) : fb_I (fb_wI u a k x) b j = if b = a ∧ j = k then x else fb_I u b j := rfl
theorem fb_I_wL (u : fb_M) (a k : Nat) (x : Int64) (b j : Nat) : fb_I (fb_wL u a k x) b j = fb_I u b j := rfl
theorem fb_I_wR (u : fb_M) (a k x b j : Nat) : fb_I (fb_wR u a k x) b j = fb_I u b j := rfl
theorem fb_I_cp (u : fb_M) (a b sp dp n c j : Nat) : fb_I (fb_cpL u a b sp dp n) c j = fb_I u c j := rfl
theorem fb_L_wI (u : fb_M) (a k : Nat) (x : Int32) (b j : Nat) : fb_L (fb_wI u a k x) b j = fb_L u b j := rfl
theorem fb_L_wL (u : fb_M) (a k : Nat) (x : Int64) (b j : Nat) : fb_L (fb_wL u a k x) b j = if b = a ∧ j = k then x else fb_L u b j := rfl
theorem fb_L_wR (u : fb_M) (a k x b j : Nat) : fb_L (fb_wR u a k x) b j = fb_L u b j := rfl
theorem fb_R_wI (u : fb_M) (a k : Nat) (x : Int32) (b j : Nat) : fb_R (fb_wI u a k x) b j = fb_R u b j := rfl
theorem fb_R_wL (u : fb_M) (a k : Nat) (x : Int64) (b j : Nat) : fb_R (fb_wL u a k x) b j = fb_R u b j := rfl
theorem fb_R_cp (u : fb_M) (a b sp dp n c j : Nat) : fb_R (fb_cpL u a b sp dp n) c j = fb_R u c j := rfl
theorem fb_R_wR (u : fb_M) (a k x b j : Nat) : fb_R (fb_wR u a k x) b j = if b = a ∧ j = k then some x else fb_R u b j := rfl
theorem fb_I_ne (u : fb_M) {a k b : Nat} (x : Int32) (h : b ≠ a) : fb_I (fb_wI u a k x) b = fb_I u b := fb_up_ne u.1 x h
theorem fb_L_ne (u : fb_M) {a k b : Nat} (x : Int64) (h : b ≠ a) : fb_L (fb_wL u a k x) b = fb_L u b := fb_up_ne u.2.1 x h
theorem fb_R_ne (u : fb_M) {a k b : Nat} (x : Nat) (h : b ≠ a) : fb_R (fb_wR u a k x) b = fb_R u b := fb_up_ne u.2.2 (some x) h
theorem fb_St.wI {u : fb_M} (h : fb_St u) (a k : Nat) (x : Int32) : fb_St (fb_wI u a k x) := h
theorem fb_St.wL {u : fb_M} (h : fb_St u) (a k : Nat) (x : Int64) : fb_St (fb_wL u a k x) := h
theorem fb_St.cp {u : fb_M} (h : fb_St u) (a b sp dp n : Nat) : fb_St (fb_cpL u a b sp dp n) := h
theorem fb_St.wR78 {u : fb_M} (h : fb_St u) (k x : Nat) : fb_St (fb_wR u 78 k x) := fun a j h1 h2 => by rw [fb_R_ne u x h1]; exact h a j h1 h2
theorem fb_St.wR102 {u : fb_M} (h : fb_St u) (k x : Nat) : fb_St (fb_wR u 102 k x) := fun a j h1 h2 => by rw [fb_R_ne u x h2]; exact h a j h1 h2
theorem fb_St.r_0_0 {u : fb_M} (h : fb_St u) : fb_R u 0 0 = some 1 := (h 0 0 (by decide) (by decide)).trans (by decide +kernel)
theorem fb_St.ld_0_0 {u : fb_M} (h : fb_St u) {ρ : Type} (F : Nat → Option ρ) : ((fb_R u 0 0).bind fun q => fb_gd (q < fb_NT ∧ fb_sh q = (0, 2)) (F q)) = F 1 := by rw [h.r_0_0]; rfl
theorem fb_St.r_0_1 {u : fb_M} (h : fb_St u) : fb_R u 0 1 = some 3 := (h 0 1 (by decide) (by decide)).trans (by decide +kernel)
theorem fb_St.ld_0_1 {u : fb_M} (h : fb_St u) {ρ : Type} (F : Nat → Option ρ) : ((fb_R u 0 1).bind fun q => fb_gd (q < fb_NT ∧ fb_sh q = (6, 2)) (F q)) = F 3 := by rw [h.r_0_1]; rfl
theorem fb_St.r_0_2 {u : fb_M} (h : fb_St u) : fb_R u 0 2 = some 21 := (h 0 2 (by decide) (by decide)).trans (by decide +kernel)
theorem fb_St.ld_0_2 {u : fb_M} (h : fb_St u) {ρ : Type} (F : Nat → Option ρ) : ((fb_R u 0 2).bind fun q => fb_gd (q < fb_NT ∧ fb_sh q = (3, 3)) (F q)) = F 21 := by rw [h.r_0_2]; rfl
theorem fb_St.r_0_3 {u : fb_M} (h : fb_St u) : fb_R u 0 3 = some 22 := (h 0 3 (by decide) (by decide)).trans (by decide +kernel)
theorem fb_St.ld_0_3 {u : fb_M} (h : fb_St u) {ρ : Type} (F : Nat → Option ρ) : ((fb_R u 0 3).bind fun q => fb_gd (q < fb_NT ∧ (fb_sh q).1 = 105) (F q)) = F 22 := by rw [h.r_0_3]; rfl
theorem fb_St.r_0_5 {u : fb_M} (h : fb_St u) : fb_R u 0 5 = some 77 := (h 0 5 (by decide) (by decide)).trans (by decide +kernel)
theorem fb_St.ld_0_5 {u : fb_M} (h : fb_St u) {ρ : Type} (F : Nat → Option ρ) : ((fb_R u 0 5).bind fun q => fb_gd (q < fb_NT ∧ fb_sh q = (7, 2)) (F q)) = F 77 := by rw [h.r_0_5]; rfl
theorem fb_St.r_0_6 {u : fb_M} (h : fb_St u) : fb_R u 0 6 = some 99 := (h 0 6 (by decide) (by decide)).trans (by decide +kernel)
theorem fb_St.ld_0_6 {u : fb_M} (h : fb_St u) {ρ : Type} (F : Nat → Option ρ) : ((fb_R u 0 6).bind fun q => fb_gd (q < fb_NT ∧ (fb_sh q).1 = 103) (F q)) = F 99 := by rw [h.r_0_6]; rfl
theorem fb_St.r_0_7 {u : fb_M} (h : fb_St u) : fb_R u 0 7 = some 100 := (h 0 7 (by decide) (by decide)).trans (by decide +kernel)
theorem fb_St.ld_0_7 {u : fb_M} (h : fb_St u) {ρ : Type} (F : Nat → Option ρ) : ((fb_R u 0 7).bind fun q => fb_gd (q < fb_NT ∧ (fb_sh q).1 = 100) (F q)) = F 100 := by rw [h.r_0_7]; rfl
theorem fb_St.r_0_9 {u : fb_M} (h : fb_St u) : fb_R u 0 9 = some 101 := (h 0 9 (by decide) (by decide)).trans (by decide +kernel)
theorem fb_St.ld_0_9 {u : fb_M} (h : fb_St u) {ρ : Type} (F : Nat → Option ρ) : ((fb_R u 0 9).bind fun q => fb_gd (q < fb_NT ∧ fb_sh q = (4, 2)) (F q)) = F 101 := by rw [h.r_0_9]; rfl
theorem fb_St.r_0_10 {u : fb_M} (h : fb_St u) : fb_R u 0 10 = some 103 := (h 0 10 (by decide) (by decide)).trans (by decide +kernel)
theorem fb_St.ld_0_10 {u : fb_M} (h : fb_St u) {ρ : Type} (F : Nat → Option ρ) : ((fb_R u 0 10).bind fun q => fb_gd (q < fb_NT ∧ (fb_sh q).1 = 100) (F q)) = F 103 := by rw [h.r_0_10]; rfl
theorem fb_St.r_1_0 {u : fb_M} (h : fb_St u) : fb_R u 1 0 = some 2 := (h 1 0 (by decide) (by decide)).trans (by decide +kernel)
theorem fb_St.ld_1_0 {u : fb_M} (h : fb_St u) {ρ : Type} (F : Nat → Option ρ) : ((fb_R u 1 0).bind fun q => fb_gd (q < fb_NT ∧ (fb_sh q).1 = 101) (F q)) = F 2 := by rw [h.r_1_0]; rfl
theorem fb_St.r_3_0 {u : fb_M} (h : fb_St u) : fb_R u 3 0 = some 4 := (h 3 0 (by decide) (by decide)).trans (by decide +kernel)
theorem fb_St.ld_3_0 {u : fb_M} (h : fb_St u) {ρ : Type} (F : Nat → Option ρ) : ((fb_R u 3 0).bind fun q => fb_gd (q < fb_NT ∧ (fb_sh q).1 = 104) (F q)) = F 4 := by rw [h.r_3_0]; rfl
theorem fb_St.r_21_0 {u : fb_M} (h : fb_St u) : fb_R u 21 0 = some 1 := (h 21 0 (by decide) (by decide)).trans (by decide +kernel)
theorem fb_St.ld_21_0 {u : fb_M} (h : fb_St u) {ρ : Type} (F : Nat → Option ρ) : ((fb_R u 21 0).bind fun q => fb_gd (q < fb_NT ∧ fb_sh q = (0, 2)) (F q)) = F 1 := by rw [h.r_21_0]; rfl
theorem fb_St.r_21_1 {u : fb_M} (h : fb_St u) : fb_R u 21 1 = some 3 := (h 21 1 (by decide) (by decide)).trans (by decide +kernel)
theorem fb_St.ld_21_1 {u : fb_M} (h : fb_St u) {ρ : Type} (F : Nat → Option ρ) : ((fb_R u 21 1).bind fun q => fb_gd (q < fb_NT ∧ fb_sh q = (6, 2)) (F q)) = F 3 := by rw [h.r_21_1]; rfl
theorem fb_St.r_77_0 {u : fb_M} (h : fb_St u) : fb_R u 77 0 = some 78 := (h 77 0 (by decide) (by decide)).trans (by decide +kernel)
theorem fb_St.ld_77_0 {u : fb_M} (h : fb_St u) {ρ : Type} (F : Nat → Option ρ) : ((fb_R u 77 0).bind fun q => fb_gd (q < fb_NT ∧ (fb_sh q).1 = 106) (F q)) = F 78 := by rw [h.r_77_0]; rfl
theorem fb_St.r_101_0 {u : fb_M} (h : fb_St u) : fb_R u 101 0 = some 102 := (h 101 0 (by decide) (by decide)).trans (by decide +kernel)
theorem fb_St.ld_101_0 {u : fb_M} (h : fb_St u) {ρ : Type} (F : Nat → Option ρ) : ((fb_R u 101 0).bind fun q => fb_gd (q < fb_NT ∧ (fb_sh q).1 = 106) (F q)) = F 102 := by rw [h.r_101_0]; rfl
theorem fb_St.r_104_0 {u : fb_M} (h : fb_St u) : fb_R u 104 0 = some 105 := (h 104 0 (by decide) (by decide)).trans (by decide +kernel)
theorem fb_St.ld_104_0 {u : fb_M} (h : fb_St u) {ρ : Type} (F : Nat → Option ρ) : ((fb_R u 104 0).bind fun q => fb_gd (q < fb_NT ∧ (fb_sh q).1 = 100) (F q)) = F 105 := by rw [h.r_104_0]; rfl
theorem fb_St.r_104_2 {u : fb_M} (h : fb_St u) : fb_R u 104 2 = some 106 := (h 104 2 (by decide) (by decide)).trans (by decide +kernel)
theorem fb_St.ld_104_2 {u : fb_M} (h : fb_St u) {ρ : Type} (F : Nat → Option ρ) : ((fb_R u 104 2).bind fun q => fb_gd (q < fb_NT ∧ (fb_sh q).1 = 100) (F q)) = F 106 := by rw [h.r_104_2]; rfl
theorem fb_St.r_104_3 {u : fb_M} (h : fb_St u) : fb_R u 104 3 = some 107 := (h 104 3 (by decide) (by decide)).trans (by decide +kernel)
theorem fb_St.ld_104_3 {u : fb_M} (h : fb_St u) {ρ : Type} (F : Nat → Option ρ) : ((fb_R u 104 3).bind fun q => fb_gd (q < fb_NT ∧ (fb_sh q).1 = 100) (F q)) = F 107 := by rw [h.r_104_3]; rfl
theorem fb_St.r_104_6 {u : fb_M} (h : fb_St u) : fb_R u 104 6 = some 108 := (h 104 6 (by decide) (by decide)).trans (by decide +kernel)
theorem fb_St.ld_104_6 {u : fb_M} (h : fb_St u) {ρ : Type} (F : Nat → Option ρ) : ((fb_R u 104 6).bind fun q => fb_gd (q < fb_NT ∧ (fb_sh q).1 = 100) (F q)) = F 108 := by rw [h.r_104_6]; rfl
theorem fb_St.r_104_7 {u : fb_M} (h : fb_St u) : fb_R u 104 7 = some 109 := (h 104 7 (by decide) (by decide)).trans (by decide +kernel)
theorem fb_St.ld_104_7 {u : fb_M} (h : fb_St u) {ρ : Type} (F : Nat → Option ρ) : ((fb_R u 104 7).bind fun q => fb_gd (q < fb_NT ∧ (fb_sh q).1 = 100) (F q)) = F 109 := by rw [h.r_104_7]; rfl
theorem fb_St.r_104_8 {u : fb_M} (h : fb_St u) : fb_R u 104 8 = some 110 := (h 104 8 (by decide) (by decide)).trans (by decide +kernel)
theorem fb_St.ld_104_8 {u : fb_M} (h : fb_St u) {ρ : Type} (F : Nat → Option ρ) : ((fb_R u 104 8).bind fun q => fb_gd (q < fb_NT ∧ (fb_sh q).1 = 102) (F q)) = F 110 := by rw [h.r_104_8]; rfl
theorem fb_St.r_104_9 {u : fb_M} (h : fb_St u) : fb_R u 104 9 = some 111 := (h 104 9 (by decide) (by decide)).trans (by decide +kernel)
theorem fb_St.ld_104_9 {u : fb_M} (h : fb_St u) {ρ : Type} (F : Nat → Option ρ) : ((fb_R u 104 9).bind fun q => fb_gd (q < fb_NT ∧ (fb_sh q).1 = 100) (F q)) = F 111 := by rw [h.r_104_9]; rfl
theorem fb_St.r_104_10 {u : fb_M} (h : fb_St u) : fb_R u 104 10 = some 112 := (h 104 10 (by decide) (by decide)).trans (by decide +kernel)
theorem fb_St.ld_104_10 {u : fb_M} (h : fb_St u) {ρ : Type} (F : Nat → Option ρ) : ((fb_R u 104 10).bind fun q => fb_gd (q < fb_NT ∧ (fb_sh q).1 = 100) (F q)) = F 112 := by rw [h.r_104_10]; rfl
theorem fb_St.r_104_11 {u : fb_M} (h : fb_St u) : fb_R u 104 11 = some 113 := (h 104 11 (by decide) (by decide)).trans (by decide +kernel)
theorem fb_St.ld_104_11 {u : fb_M} (h : fb_St u) {ρ : Type} (F : Nat → Option ρ) : ((fb_R u 104 11).bind fun q => fb_gd (q < fb_NT ∧ (fb_sh q).1 = 100) (F q)) = F 113 := by rw [h.r_104_11]; rfl
theorem fb_St.r_104_12 {u : fb_M} (h : fb_St u) : fb_R u 104 12 = some 114 := (h 104 12 (by decide) (by decide)).trans (by decide +kernel)
theorem fb_St.ld_104_12 {u : fb_M} (h : fb_St u) {ρ : Type} (F : Nat → Option ρ) : ((fb_R u 104 12).bind fun q => fb_gd (q < fb_NT ∧ (fb_sh q).1 = 100) (F q)) = F 114 := by rw [h.r_104_12]; rfl
theorem fb_St.r_104_13 {u : fb_M} (h : fb_St u) : fb_R u 104 13 = some 115 := (h 104 13 (by decide) (by decide)).trans (by decide +kernel)
theorem fb_St.ld_104_13 {u : fb_M} (h : fb_St u) {ρ : Type} (F : Nat → Option ρ) : ((fb_R u 104 13).bind fun q => fb_gd (q < fb_NT ∧ (fb_sh q).1 = 100) (F q)) = F 115 := by rw [h.r_104_13]; rfl
theorem fb_St.r_104_14 {u : fb_M} (h : fb_St u) : fb_R u 104 14 = some 116 := (h 104 14 (by decide) (by decide)).trans (by decide +kernel)
theorem fb_St.ld_104_14 {u : fb_M} (h : fb_St u) {ρ : Type} (F : Nat → Option ρ) : ((fb_R u 104 14).bind fun q => fb_gd (q < fb_NT ∧ (fb_sh q).1 = 100) (F q)) = F 116 := by rw [h.r_104_14]; rfl
theorem fb_St.r_104_15 {u : fb_M} (h : fb_St u) : fb_R u 104 15 = some 117 := (h 104 15 (by decide) (by decide)).trans (by decide +kernel)
theorem fb_St.ld_104_15 {u : fb_M} (h : fb_St u) {ρ : Type} (F : Nat → Option ρ) : ((fb_R u 104 15).bind fun q => fb_gd (q < fb_NT ∧ (fb_sh q).1 = 100) (F q)) = F 117 := by rw [h.r_104_15]; rfl
theorem fb_St.r_104_16 {u : fb_M} (h : fb_St u) : fb_R u 104 16 = some 118 := (h 104 16 (by decide) (by decide)).trans (by decide +kernel)
theorem fb_St.ld_104_16 {u : fb_M} (h : fb_St u) {ρ : Type} (F : Nat → Option ρ) : ((fb_R u 104 16).bind fun q => fb_gd (q < fb_NT ∧ (fb_sh q).1 = 102) (F q)) = F 118 := by rw [h.r_104_16]; rfl
theorem fb_St.r_104_22 {u : fb_M} (h : fb_St u) : fb_R u 104 22 = some 119 := (h 104 22 (by decide) (by decide)).trans (by decide +kernel)
theorem fb_St.ld_104_22 {u : fb_M} (h : fb_St u) {ρ : Type} (F : Nat → Option ρ) : ((fb_R u 104 22).bind fun q => fb_gd (q < fb_NT ∧ (fb_sh q).1 = 100) (F q)) = F 119 := by rw [h.r_104_22]; rfl
theorem fb_St.r_104_23 {u : fb_M} (h : fb_St u) : fb_R u 104 23 = some 120 := (h 104 23 (by decide) (by decide)).trans (by decide +kernel)
theorem fb_St.ld_104_23 {u : fb_M} (h : fb_St u) {ρ : Type} (F : Nat → Option ρ) : ((fb_R u 104 23).bind fun q => fb_gd (q < fb_NT ∧ (fb_sh q).1 = 100) (F q)) = F 120 := by rw [h.r_104_23]; rfl
theorem fb_St.r_104_24 {u : fb_M} (h : fb_St u) : fb_R u 104 24 = some 121 := (h 104 24 (by decide) (by decide)).trans (by decide +kernel)
theorem fb_St.ld_104_24 {u : fb_M} (h : fb_St u) {ρ : Type} (F : Nat → Option ρ) : ((fb_R u 104 24).bind fun q => fb_gd (q < fb_NT ∧ (fb_sh q).1 = 100) (F q)) = F 121 := by rw [h.r_104_24]; rfl
theorem fb_St.r_104_25 {u : fb_M} (h : fb_St u) : fb_R u 104 25 = some 122 := (h 104 25 (by decide) (by decide)).trans (by decide +kernel)
theorem fb_St.ld_104_25 {u : fb_M} (h : fb_St u) {ρ : Type} (F : Nat → Option ρ) : ((fb_R u 104 25).bind fun q => fb_gd (q < fb_NT ∧ (fb_sh q).1 = 100) (F q)) = F 122 := by rw [h.r_104_25]; rfl
theorem fb_St.r_104_26 {u : fb_M} (h : fb_St u) : fb_R u 104 26 = some 123 := (h 104 26 (by decide) (by decide)).trans (by decide +kernel)
theorem fb_St.ld_104_26 {u : fb_M} (h : fb_St u) {ρ : Type} (F : Nat → Option ρ) : ((fb_R u 104 26).bind fun q => fb_gd (q < fb_NT ∧ (fb_sh q).1 = 102) (F q)) = F 123 := by rw [h.r_104_26]; rfl
theorem fb_St.r_104_29 {u : fb_M} (h : fb_St u) : fb_R u 104 29 = some 124 := (h 104 29 (by decide) (by decide)).trans (by decide +kernel)
theorem fb_St.ld_104_29 {u : fb_M} (h : fb_St u) {ρ : Type} (F : Nat → Option ρ) : ((fb_R u 104 29).bind fun q => fb_gd (q < fb_NT ∧ (fb_sh q).1 = 100) (F q)) = F 124 := by rw [h.r_104_29]; rfl
theorem fb_St.r_104_30 {u : fb_M} (h : fb_St u) : fb_R u 104 30 = some 125 := (h 104 30 (by decide) (by decide)).trans (by decide +kernel)
theorem fb_St.ld_104_30 {u : fb_M} (h : fb_St u) {ρ : Type} (F : Nat → Option ρ) : ((fb_R u 104 30).bind fun q => fb_gd (q < fb_NT ∧ (fb_sh q).1 = 100) (F q)) = F 125 := by rw [h.r_104_30]; rfl
theorem fb_St.r_104_31 {u : fb_M} (h : fb_St u) : fb_R u 104 31 = some 126 := (h 104 31 (by decide) (by decide)).trans (by decide +kernel)
theorem fb_St.ld_104_31 {u : fb_M} (h : fb_St u) {ρ : Type} (F : Nat → Option ρ) : ((fb_R u 104 31).bind fun q => fb_gd (q < fb_NT ∧ (fb_sh q).1 = 102) (F q)) = F 126 := by rw [h.r_104_31]; rfl
theorem fb_St.r_104_32 {u : fb_M} (h : fb_St u) : fb_R u 104 32 = some 127 := (h 104 32 (by decide) (by decide)).trans (by decide +kernel)
theorem fb_St.ld_104_32 {u : fb_M} (h : fb_St u) {ρ : Type} (F : Nat → Option ρ) : ((fb_R u 104 32).bind fun q => fb_gd (q < fb_NT ∧ (fb_sh q).1 = 100) (F q)) = F 127 := by rw [h.r_104_32]; rfl
theorem fb_St.r_104_33 {u : fb_M} (h : fb_St u) : fb_R u 104 33 = some 128 := (h 104 33 (by decide) (by decide)).trans (by decide +kernel)
theorem fb_St.ld_104_33 {u : fb_M} (h : fb_St u) {ρ : Type} (F : Nat → Option ρ) : ((fb_R u 104 33).bind fun q => fb_gd (q < fb_NT ∧ (fb_sh q).1 = 102) (F q)) = F 128 := by rw [h.r_104_33]; rfl
theorem fb_St.r_104_34 {u : fb_M} (h : fb_St u) : fb_R u 104 34 = some 129 := (h 104 34 (by decide) (by decide)).trans (by decide +kernel)
theorem fb_St.ld_104_34 {u : fb_M} (h : fb_St u) {ρ : Type} (F : Nat → Option ρ) : ((fb_R u 104 34).bind fun q => fb_gd (q < fb_NT ∧ (fb_sh q).1 = 100) (F q)) = F 129 := by rw [h.r_104_34]; rfl
theorem fb_St.r_104_36 {u : fb_M} (h : fb_St u) : fb_R u 104 36 = some 130 := (h 104 36 (by decide) (by decide)).trans (by decide +kernel)
theorem fb_St.ld_104_36 {u : fb_M} (h : fb_St u) {ρ : Type} (F : Nat → Option ρ) : ((fb_R u 104 36).bind fun q => fb_gd (q < fb_NT ∧ (fb_sh q).1 = 100) (F q)) = F 130 := by rw [h.r_104_36]; rfl
theorem fb_St.r_104_38 {u : fb_M} (h : fb_St u) : fb_R u 104 38 = some 131 := (h 104 38 (by decide) (by decide)).trans (by decide +kernel)
theorem fb_St.ld_104_38 {u : fb_M} (h : fb_St u) {ρ : Type} (F : Nat → Option ρ) : ((fb_R u 104 38).bind fun q => fb_gd (q < fb_NT ∧ (fb_sh q).1 = 102) (F q)) = F 131 := by rw [h.r_104_38]; rfl
theorem fb_St.r_104_39 {u : fb_M} (h : fb_St u) : fb_R u 104 39 = some 132 := (h 104 39 (by decide) (by decide)).trans (by decide +kernel)
theorem fb_St.ld_104_39 {u : fb_M} (h : fb_St u) {ρ : Type} (F : Nat → Option ρ) : ((fb_R u 104 39).bind fun q => fb_gd (q < fb_NT ∧ (fb_sh q).1 = 102) (F q)) = F 132 := by rw [h.r_104_39]; rfl
theorem fb_c_leaf : ∀ i, i < 8 → fb_R fb_u1 4 i = some (5 + 2 * i) ∧ 4 ≠ 78 ∧ 4 ≠ 102 ∧ (5 + 2 * i < fb_NT ∧ fb_sh (5 + 2 * i) = (5, 4)) := by decide +kernel
theorem fb_St.r_leaf {u : fb_M} (h : fb_St u) {i : Nat} (hi : i < 8) : fb_R u 4 i = some (5 + 2 * i) := (h _ _ (fb_c_leaf i hi).2.1 (fb_c_leaf i hi).2.2.1).trans (fb_c_leaf i hi).1
theorem fb_St.ld_leaf {u : fb_M} (h : fb_St u) {i : Nat} (hi : i < 8) {ρ : Type} (F : Nat → Option ρ) : ((fb_R u 4 i).bind fun q => fb_gd (q < fb_NT ∧ fb_sh q = (5, 4)) (F q)) = F (5 + 2 * i) := by rw [h.r_leaf hi]; exact fb_gdT (fb_c_leaf i hi).2.2.2
theorem fb_c_path : ∀ i, i < 8 → fb_R fb_u1 (5 + 2 * i) 0 = some (6 + 2 * i) ∧ (5 + 2 * i) ≠ 78 ∧ (5 + 2 * i) ≠ 102 ∧ (6 + 2 * i < fb_NT ∧ (fb_sh (6 + 2 * i)).1 = 101) := by decide +kernel
theorem fb_St.r_path {u : fb_M} (h : fb_St u) {i : Nat} (hi : i < 8) : fb_R u (5 + 2 * i) 0 = some (6 + 2 * i) := (h _ _ (fb_c_path i hi).2.1 (fb_c_path i hi).2.2.1).trans (fb_c_path i hi).1
theorem fb_St.ld_path {u : fb_M} (h : fb_St u) {i : Nat} (hi : i < 8) {ρ : Type} (F : Nat → Option ρ) : ((fb_R u (5 + 2 * i) 0).bind fun q => fb_gd (q < fb_NT ∧ (fb_sh q).1 = 101) (F q)) = F (6 + 2 * i) := by rw [h.r_path hi]; exact fb_gdT (fb_c_path i hi).2.2.2
theorem fb_c_find : ∀ i, i < 9 → fb_R fb_u1 22 i = some (23 + 6 * i) ∧ 22 ≠ 78 ∧ 22 ≠ 102 ∧ (23 + 6 * i < fb_NT ∧ fb_sh (23 + 6 * i) = (2, 12)) := by decide +kernel
theorem fb_St.r_find {u : fb_M} (h : fb_St u) {i : Nat} (hi : i < 9) : fb_R u 22 i = some (23 + 6 * i) := (h _ _ (fb_c_find i hi).2.1 (fb_c_find i hi).2.2.1).trans (fb_c_find i hi).1
theorem fb_St.ld_find {u : fb_M} (h : fb_St u) {i : Nat} (hi : i < 9) {ρ : Type} (F : Nat → Option ρ) : ((fb_R u 22 i).bind fun q => fb_gd (q < fb_NT ∧ fb_sh q = (2, 12)) (F q)) = F (23 + 6 * i) := by rw [h.r_find hi]; exact fb_gdT (fb_c_find i hi).2.2.2
theorem fb_c_ent : ∀ i, i < 10 → fb_R fb_u1 (79 + 2 * i) 1 = some (80 + 2 * i) ∧ (79 + 2 * i) ≠ 78 ∧ (79 + 2 * i) ≠ 102 ∧ (80 + 2 * i < fb_NT ∧ (fb_sh (80 + 2 * i)).1 = 103) := by decide +kernel
theorem fb_St.r_ent {u : fb_M} (h : fb_St u) {i : Nat} (hi : i < 10) : fb_R u (79 + 2 * i) 1 = some (80 + 2 * i) := (h _ _ (fb_c_ent i hi).2.1 (fb_c_ent i hi).2.2.1).trans (fb_c_ent i hi).1
theorem fb_St.ld_ent {u : fb_M} (h : fb_St u) {i : Nat} (hi : i < 10) {ρ : Type} (F : Nat → Option ρ) : ((fb_R u (79 + 2 * i) 1).bind fun q => fb_gd (q < fb_NT ∧ (fb_sh q).1 = 103) (F q)) = F (80 + 2 * i) := by rw [h.r_ent hi]; exact fb_gdT (fb_c_ent i hi).2.2.2
theorem fb_c_fpl : ∀ i, i < 9 → fb_R fb_u1 (23 + 6 * i) 7 = some (24 + 6 * i) ∧ (23 + 6 * i) ≠ 78 ∧ (23 + 6 * i) ≠ 102 ∧ (24 + 6 * i < fb_NT ∧ (fb_sh (24 + 6 * i)).1 = 100) := by decide +kernel
theorem fb_St.r_fpl {u : fb_M} (h : fb_St u) {i : Nat} (hi : i < 9) : fb_R u (23 + 6 * i) 7 = some (24 + 6 * i) := (h _ _ (fb_c_fpl i hi).2.1 (fb_c_fpl i hi).2.2.1).trans (fb_c_fpl i hi).1
theorem fb_St.ld_fpl {u : fb_M} (h : fb_St u) {i : Nat} (hi : i < 9) {ρ : Type} (F : Nat → Option ρ) : ((fb_R u (23 + 6 * i) 7).bind fun q => fb_gd (q < fb_NT ∧ (fb_sh q).1 = 100) (F q)) = F (24 + 6 * i) := by rw [h.r_fpl hi]; exact fb_gdT (fb_c_fpl i hi).2.2.2
theorem fb_c_fpk : ∀ i, i < 9 → fb_R fb_u1 (23 + 6 * i) 8 = some (25 + 6 * i) ∧ (23 + 6 * i) ≠ 78 ∧ (23 + 6 * i) ≠ 102 ∧ (25 + 6 * i < fb_NT ∧ (fb_sh (25 + 6 * i)).1 = 100) := by decide +kernel
theorem fb_St.r_fpk {u : fb_M} (h : fb_St u) {i : Nat} (hi : i < 9) : fb_R u (23 + 6 * i) 8 = some (25 + 6 * i) := (h _ _ (fb_c_fpk i hi).2.1 (fb_c_fpk i hi).2.2.1).trans (fb_c_fpk i hi).1
theorem fb_St.ld_fpk {u : fb_M} (h : fb_St u) {i : Nat} (hi : i < 9) {ρ : Type} (F : Nat → Option ρ) : ((fb_R u (23 + 6 * i) 8).bind fun q => fb_gd (q < fb_NT ∧ (fb_sh q).1 = 100) (F q)) = F (25 + 6 * i) := by rw [h.r_fpk hi]; exact fb_gdT (fb_c_fpk i hi).2.2.2
theorem fb_c_fpa : ∀ i, i < 9 → fb_R fb_u1 (23 + 6 * i) 9 = some (26 + 6 * i) ∧ (23 + 6 * i) ≠ 78 ∧ (23 + 6 * i) ≠ 102 ∧ (26 + 6 * i < fb_NT ∧ (fb_sh (26 + 6 * i)).1 = 100) := by decide +kernel
theorem fb_St.r_fpa {u : fb_M} (h : fb_St u) {i : Nat} (hi : i < 9) : fb_R u (23 + 6 * i) 9 = some (26 + 6 * i) := (h _ _ (fb_c_fpa i hi).2.1 (fb_c_fpa i hi).2.2.1).trans (fb_c_fpa i hi).1
theorem fb_St.ld_fpa {u : fb_M} (h : fb_St u) {i : Nat} (hi : i < 9) {ρ : Type} (F : Nat → Option ρ) : ((fb_R u (23 + 6 * i) 9).bind fun q => fb_gd (q < fb_NT ∧ (fb_sh q).1 = 100) (F q)) = F (26 + 6 * i) := by rw [h.r_fpa hi]; exact fb_gdT (fb_c_fpa i hi).2.2.2
theorem fb_c_fol : ∀ i, i < 9 → fb_R fb_u1 (23 + 6 * i) 10 = some (27 + 6 * i) ∧ (23 + 6 * i) ≠ 78 ∧ (23 + 6 * i) ≠ 102 ∧ (27 + 6 * i < fb_NT ∧ (fb_sh (27 + 6 * i)).1 = 100) := by decide +kernel
theorem fb_St.r_fol {u : fb_M} (h : fb_St u) {i : Nat} (hi : i < 9) : fb_R u (23 + 6 * i) 10 = some (27 + 6 * i) := (h _ _ (fb_c_fol i hi).2.1 (fb_c_fol i hi).2.2.1).trans (fb_c_fol i hi).1
theorem fb_St.ld_fol {u : fb_M} (h : fb_St u) {i : Nat} (hi : i < 9) {ρ : Type} (F : Nat → Option ρ) : ((fb_R u (23 + 6 * i) 10).bind fun q => fb_gd (q < fb_NT ∧ (fb_sh q).1 = 100) (F q)) = F (27 + 6 * i) := by rw [h.r_fol hi]; exact fb_gdT (fb_c_fol i hi).2.2.2
theorem fb_c_fod : ∀ i, i < 9 → fb_R fb_u1 (23 + 6 * i) 11 = some (28 + 6 * i) ∧ (23 + 6 * i) ≠ 78 ∧ (23 + 6 * i) ≠ 102 ∧ (28 + 6 * i < fb_NT ∧ (fb_sh (28 + 6 * i)).1 = 102) := by decide +kernel
theorem fb_St.r_fod {u : fb_M} (h : fb_St u) {i : Nat} (hi : i < 9) : fb_R u (23 + 6 * i) 11 = some (28 + 6 * i) := (h _ _ (fb_c_fod i hi).2.1 (fb_c_fod i hi).2.2.1).trans (fb_c_fod i hi).1
theorem fb_St.ld_fod {u : fb_M} (h : fb_St u) {i : Nat} (hi : i < 9) {ρ : Type} (F : Nat → Option ρ) : ((fb_R u (23 + 6 * i) 11).bind fun q => fb_gd (q < fb_NT ∧ (fb_sh q).1 = 102) (F q)) = F (28 + 6 * i) := by rw [h.r_fod hi]; exact fb_gdT (fb_c_fod i hi).2.2.2
theorem fb_n2 : (fb_sh 2).2 = 80 := rfl
theorem fb_n4 : (fb_sh 4).2 = 8 := rfl
theorem fb_n22 : (fb_sh 22).2 = 9 := rfl
theorem fb_n78 : (fb_sh 78).2 = 10 := rfl
theorem fb_n99 : (fb_sh 99).2 = 8 := rfl
theorem fb_n100 : (fb_sh 100).2 = 12 := rfl
theorem fb_n102 : (fb_sh 102).2 = 10 := rfl
theorem fb_n103 : (fb_sh 103).2 = 10 := rfl
theorem fb_n105 : (fb_sh 105).2 = 80 := rfl
theorem fb_n106 : (fb_sh 106).2 = 320 := rfl
theorem fb_n107 : (fb_sh 107).2 = 8 := rfl
theorem fb_n108 : (fb_sh 108).2 = 8 := rfl
theorem fb_n109 : (fb_sh 109).2 = 8 := rfl
theorem fb_n110 : (fb_sh 110).2 = 8 := rfl
theorem fb_n111 : (fb_sh 111).2 = 8 := rfl
theorem fb_n112 : (fb_sh 112).2 = 8 := rfl
theorem fb_n113 : (fb_sh 113).2 = 8 := rfl
theorem fb_n114 : (fb_sh 114).2 = 48 := rfl
theorem fb_n115 : (fb_sh 115).2 = 48 := rfl
theorem fb_n116 : (fb_sh 116).2 = 48 := rfl
theorem fb_n117 : (fb_sh 117).2 = 24 := rfl
theorem fb_n118 : (fb_sh 118).2 = 24 := rfl
theorem fb_n119 : (fb_sh 119).2 = 6 := rfl
theorem fb_n120 : (fb_sh 120).2 = 6 := rfl
theorem fb_n121 : (fb_sh 121).2 = 6 := rfl
theorem fb_n122 : (fb_sh 122).2 = 3 := rfl
theorem fb_n123 : (fb_sh 123).2 = 3 := rfl
theorem fb_n124 : (fb_sh 124).2 = 10 := rfl
theorem fb_n125 : (fb_sh 125).2 = 80 := rfl
theorem fb_n126 : (fb_sh 126).2 = 80 := rfl
theorem fb_n127 : (fb_sh 127).2 = 8 := rfl
theorem fb_n128 : (fb_sh 128).2 = 8 := rfl
theorem fb_n129 : (fb_sh 129).2 = 12 := rfl
theorem fb_n130 : (fb_sh 130).2 = 10 := rfl
theorem fb_n131 : (fb_sh 131).2 = 10 := rfl
theorem fb_n132 : (fb_sh 132).2 = 10 := rfl
theorem fb_n_path : ∀ i, i < 8 → (fb_sh (6 + 2 * i)).2 = 38 := by decide +kernel
theorem fb_n_fpl : ∀ i, i < 9 → (fb_sh (24 + 6 * i)).2 = 6 := by decide +kernel
theorem fb_n_fpk : ∀ i, i < 9 → (fb_sh (25 + 6 * i)).2 = 6 := by decide +kernel
theorem fb_n_fpa : ∀ i, i < 9 → (fb_sh (26 + 6 * i)).2 = 6 := by decide +kernel
theorem fb_n_fol : ∀ i, i < 9 → (fb_sh (27 + 6 * i)).2 = 3 := by decide +kernel
theorem fb_n_fod : ∀ i, i < 9 → (fb_sh (28 + 6 * i)).2 = 3 := by decide +kernel
theorem fb_n_ent : ∀ i, i < 10 → (fb_sh (80 + 2 * i)).2 = 8 := by decide +kernel

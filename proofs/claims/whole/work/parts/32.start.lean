def fb_u0 : fb_M := (fun _ _ => 0, fun _ _ => 0, fun _ _ => none)
def fb_u1 : fb_M := uX9_init (uX8_init fb_u0)
def fb_flat : List Cond := flatC (Jvm.Cond.and given_1 narrow_1)
def fb_tm (i : Nat) : Term := .string (fb_SR.getD i ("", 0, "", 0)).1 (fb_SR.getD i ("", 0, "", 0)).2.1
def fb_exI : List Nat := [9, 18, 29, 41, 52, 63, 77, 89, 107, 121, 137, 157, 174, 193, 218, 249, 279, 315, 343, 369, 399, 427, 457, 483, 513]
def fb_coI : List Nat := [10, 19, 30, 42, 53, 64, 78, 90, 108, 122, 138, 158, 175, 194, 219, 250, 280, 316, 344, 370, 400, 428, 458, 484, 514]
def fb_arI : List Nat := [11, 20, 31, 43, 54, 65, 79, 91, 109, 123, 139, 159, 176, 195, 220, 251, 281, 317, 345, 371, 401, 429, 459, 485, 515]
def fb_leI : List Nat := [12, 21, 32, 44, 55, 66, 80, 92, 110, 124, 140, 160, 177, 196, 221, 252, 282, 318, 346, 372, 402, 430, 460, 486, 516]
def fb_elI : List (List Nat) := [[13, 14, 15, 16, 17], [22, 23, 24, 25, 26, 27], [33, 34, 35, 36, 37, 38], [45, 46, 47, 48], [56, 57, 58], [67, 68, 69, 70, 71], [81, 82], [93, 94, 95, 96, 97, 98, 99], [111, 112], [125, 126, 127], [141, 142, 143, 144, 145, 146], [161, 162], [178, 179, 180], [197, 198, 199, 200, 201, 202, 203, 204], [222, 223, 224, 225, 226, 227, 228, 229, 230, 231, 232, 233, 234], [253, 254, 255, 256, 257, 258, 259, 260, 261, 262, 263], [283, 284, 285, 286, 287, 288, 289, 290, 291, 292, 293, 294, 295, 296, 297, 298], [319, 320, 321, 322, 323, 324, 325], [347, 348, 349, 350], [373, 374, 375, 376, 377, 378, 379], [403, 404, 405, 406], [431, 432, 433, 434, 435], [], [487, 488, 489], [517, 518, 519, 520]]
def fb_neI : List (List Nat) := [[0, 28, 39, 49, 59, 72, 83, 100, 113, 128, 147, 163, 181, 205, 235, 264, 299, 326, 351, 380, 407, 436, 461, 490, 521], [0, 0, 40, 50, 60, 73, 84, 101, 114, 129, 148, 164, 182, 206, 236, 265, 300, 327, 352, 381, 408, 437, 462, 491, 522], [0, 0, 0, 51, 61, 74, 85, 102, 115, 130, 149, 165, 183, 207, 237, 266, 301, 328, 353, 382, 409, 438, 463, 492, 523], [0, 0, 0, 0, 62, 75, 86, 103, 116, 131, 150, 166, 184, 208, 238, 267, 302, 329, 354, 383, 410, 439, 464, 493, 524], [0, 0, 0, 0, 0, 76, 87, 104, 117, 132, 151, 167, 185, 209, 239, 268, 303, 330, 355, 384, 411, 440, 465, 494, 525], [0, 0, 0, 0, 0, 0, 88, 105, 118, 133, 152, 168, 186, 210, 240, 269, 304, 331, 356, 385, 412, 441, 466, 495, 526], [0, 0, 0, 0, 0, 0, 0, 106, 119, 134, 153, 169, 187, 211, 241, 270, 305, 332, 357, 386, 413, 442, 467, 496, 527], [0, 0, 0, 0, 0, 0, 0, 0, 120, 135, 154, 170, 188, 212, 242, 271, 306, 333, 358, 387, 414, 443, 468, 497, 528], [0, 0, 0, 0, 0, 0, 0, 0, 0, 136, 155, 171, 189, 213, 243, 272, 307, 334, 359, 388, 415, 444, 469, 498, 529], [0, 0, 0, 0, 0, 0, 0, 0, 0, 0, 156, 172, 190, 214, 244, 273, 308, 335, 360, 389, 416, 445, 470, 499, 530], [0, 0, 0, 0, 0, 0, 0, 0, 0, 0, 0, 173, 191, 215, 245, 274, 309, 336, 361, 390, 417, 446, 471, 500, 531], [0, 0, 0, 0, 0, 0, 0, 0, 0, 0, 0, 0, 192, 216, 246, 275, 310, 337, 362, 391, 418, 447, 472, 501, 532], [0, 0, 0, 0, 0, 0, 0, 0, 0, 0, 0, 0, 0, 217, 247, 276, 311, 338, 363, 392, 419, 448, 473, 502, 533], [0, 0, 0, 0, 0, 0, 0, 0, 0, 0, 0, 0, 0, 0, 248, 277, 312, 339, 364, 393, 420, 449, 474, 503, 534], [0, 0, 0, 0, 0, 0, 0, 0, 0, 0, 0, 0, 0, 0, 0, 278, 313, 340, 365, 394, 421, 450, 475, 504, 535], [0, 0, 0, 0, 0, 0, 0, 0, 0, 0, 0, 0, 0, 0, 0, 0, 314, 341, 366, 395, 422, 451, 476, 505, 536], [0, 0, 0, 0, 0, 0, 0, 0, 0, 0, 0, 0, 0, 0, 0, 0, 0, 342, 367, 396, 423, 452, 477, 506, 537], [0, 0, 0, 0, 0, 0, 0, 0, 0, 0, 0, 0, 0, 0, 0, 0, 0, 0, 368, 397, 424, 453, 478, 507, 538], [0, 0, 0, 0, 0, 0, 0, 0, 0, 0, 0, 0, 0, 0, 0, 0, 0, 0, 0, 398, 425, 454, 479, 508, 539], [0, 0, 0, 0, 0, 0, 0, 0, 0, 0, 0, 0, 0, 0, 0, 0, 0, 0, 0, 0, 426, 455, 480, 509, 540], [0, 0, 0, 0, 0, 0, 0, 0, 0, 0, 0, 0, 0, 0, 0, 0, 0, 0, 0, 0, 0, 456, 481, 510, 541], [0, 0, 0, 0, 0, 0, 0, 0, 0, 0, 0, 0, 0, 0, 0, 0, 0, 0, 0, 0, 0, 0, 482, 511, 542], [0, 0, 0, 0, 0, 0, 0, 0, 0, 0, 0, 0, 0, 0, 0, 0, 0, 0, 0, 0, 0, 0, 0, 512, 543], [0, 0, 0, 0, 0, 0, 0, 0, 0, 0, 0, 0, 0, 0, 0, 0, 0, 0, 0, 0, 0, 0, 0, 0, 544], [0, 0, 0, 0, 0, 0, 0, 0, 0, 0, 0, 0, 0, 0, 0, 0, 0, 0, 0, 0, 0, 0, 0, 0, 0]]
theorem fb_ex : ∀ i, i < fb_nS → fb_flat[fb_exI.getD i 0]? = some (Cond.exactly (fb_tm i) "java/lang/String") := by decide +kernel
theorem fb_co : ∀ i, i < fb_nS → fb_flat[fb_coI.getD i 0]? = some (Cond.eq (.field (fb_tm i) "java/lang/String" "coder" "B") (.int 0)) := by decide +kernel
theorem fb_ar : ∀ i, i < fb_nS → fb_flat[fb_arI.getD i 0]? = some (Cond.arrayOf (.field (fb_tm i) "java/lang/String" "value" "[B") .byte) := by decide +kernel
theorem fb_le : ∀ i, i < fb_nS → fb_flat[fb_leI.getD i 0]? = some (Cond.eq (.length (.field (fb_tm i) "java/lang/String" "value" "[B")) (.int (Int32.ofNat (fb_len.getD i 0)))) := by decide +kernel
theorem fb_el : ∀ i, i < fb_nS → ∀ j, j < fb_len.getD i 0 → fb_flat[(fb_elI.getD i []).getD j 0]? = some (Cond.eq (.elem (.field (fb_tm i) "java/lang/String" "value" "[B") (.int (Int32.ofNat j))) (.int ((fb_byt.getD i []).getD j 0))) := by decide +kernel
theorem fb_ne : ∀ i, i < fb_nS → ∀ j, j < fb_nS → i ≠ j → fb_flat[(fb_neI.getD i []).getD j 0]? = some (Cond.not (Cond.eq (fb_tm i) (fb_tm j))) ∨ fb_flat[(fb_neI.getD j []).getD i 0]? = some (Cond.not (Cond.eq (fb_tm j) (fb_tm i))) := by decide +kernel
theorem fb_srI : ∀ i, i < fb_nS → (fb_SR.getD i ("", 0, "", 0)).2.2.2 = i := by decide +kernel
theorem fb_fl {args : Array Value} {s : State} {c : Cond} {i : Nat} (hb : (Jvm.Cond.and given_1 narrow_1).before args s = true) (h : fb_flat[i]? = some c) : c.before args s = true := flat_of_before _ hb c (List.mem_of_getElem? h)
theorem fb_u0z : fb_zero fb_u0 0 := fun a _ => ⟨fun _ => rfl, fun _ => rfl, fun _ => rfl⟩
theorem fb_sref0 : Cond.stringRef RX3 78 "count" ∈ lw_tbl := (List.mem_append_right _ (List.mem_append_right _ (List.mem_append_left _ (List.mem_of_getElem? (l := tables_1_2) (i := 97) rfl))))
theorem fb_sref1 : Cond.stringRef RX3 80 "exists" ∈ lw_tbl := (List.mem_append_right _ (List.mem_append_right _ (List.mem_append_left _ (List.mem_of_getElem? (l := tables_1_2) (i := 98) rfl))))
theorem fb_sref2 : Cond.stringRef RX3 82 "delete" ∈ lw_tbl := (List.mem_append_right _ (List.mem_append_right _ (List.mem_append_left _ (List.mem_of_getElem? (l := tables_1_2) (i := 99) rfl))))
theorem fb_sref3 : Cond.stringRef RX3 84 "find" ∈ lw_tbl := (List.mem_append_right _ (List.mem_append_right _ (List.mem_append_left _ (List.mem_of_getElem? (l := tables_1_2) (i := 100) rfl))))
theorem fb_sref4 : Cond.stringRef RX3 86 "Top" ∈ lw_tbl := (List.mem_append_right _ (List.mem_append_right _ (List.mem_append_left _ (List.mem_of_getElem? (l := tables_1_2) (i := 163) rfl))))
theorem fb_sref5 : Cond.stringRef RX3 88 "First" ∈ lw_tbl := (List.mem_append_right _ (List.mem_append_right _ (List.mem_append_left _ (List.mem_of_getElem? (l := tables_1_2) (i := 164) rfl))))
theorem fb_sref6 : Cond.stringRef RX3 35 "By" ∈ lw_tbl := (List.mem_append_right _ (List.mem_append_right _ (List.mem_append_left _ (List.mem_of_getElem? (l := tables_1_2) (i := 167) rfl))))
theorem fb_sref7 : Cond.stringRef RX3 47 "OrderBy" ∈ lw_tbl := (List.mem_append_right _ (List.mem_append_right _ (List.mem_append_left _ (List.mem_of_getElem? (l := tables_1_2) (i := 168) rfl))))
theorem fb_sref8 : Cond.stringRef RX3 101 "Or" ∈ lw_tbl := (List.mem_append_right _ (List.mem_append_right _ (List.mem_append_left _ (List.mem_of_getElem? (l := tables_1_2) (i := 178) rfl))))
theorem fb_sref9 : Cond.stringRef RX3 112 "And" ∈ lw_tbl := (List.mem_append_right _ (List.mem_append_right _ (List.mem_append_left _ (List.mem_of_getElem? (l := tables_1_2) (i := 189) rfl))))
theorem fb_sref10 : Cond.stringRef RX10 33 "Equals" ∈ lw_tbl := (List.mem_append_right _ (List.mem_append_right _ (List.mem_append_left _ (List.mem_of_getElem? (l := tables_1_2) (i := 197) rfl))))
theorem fb_sref11 : Cond.stringRef RX10 47 "Is" ∈ lw_tbl := (List.mem_append_right _ (List.mem_append_right _ (List.mem_append_left _ (List.mem_of_getElem? (l := tables_1_2) (i := 200) rfl))))
theorem fb_sref12 : Cond.stringRef RX10 9 "Not" ∈ lw_tbl := (List.mem_append_right _ (List.mem_append_right _ (List.mem_append_left _ (List.mem_of_getElem? (l := tables_1_2) (i := 204) rfl))))
theorem fb_sref13 : Cond.stringRef RX10 11 "LessThan" ∈ lw_tbl := (List.mem_append_right _ (List.mem_append_right _ (List.mem_append_left _ (List.mem_of_getElem? (l := tables_1_2) (i := 205) rfl))))
theorem fb_sref14 : Cond.stringRef RX10 13 "LessThanEqual" ∈ lw_tbl := (List.mem_append_right _ (List.mem_append_right _ (List.mem_append_left _ (List.mem_of_getElem? (l := tables_1_2) (i := 206) rfl))))
theorem fb_sref15 : Cond.stringRef RX10 15 "GreaterThan" ∈ lw_tbl := (List.mem_append_right _ (List.mem_append_right _ (List.mem_append_left _ (List.mem_of_getElem? (l := tables_1_2) (i := 207) rfl))))
theorem fb_sref16 : Cond.stringRef RX10 17 "GreaterThanEqual" ∈ lw_tbl := (List.mem_append_right _ (List.mem_append_right _ (List.mem_append_left _ (List.mem_of_getElem? (l := tables_1_2) (i := 208) rfl))))
theorem fb_sref17 : Cond.stringRef RX10 19 "Between" ∈ lw_tbl := (List.mem_append_right _ (List.mem_append_right _ (List.mem_append_left _ (List.mem_of_getElem? (l := tables_1_2) (i := 209) rfl))))
theorem fb_sref18 : Cond.stringRef RX10 21 "Null" ∈ lw_tbl := (List.mem_append_right _ (List.mem_append_right _ (List.mem_append_left _ (List.mem_of_getElem? (l := tables_1_2) (i := 210) rfl))))
theorem fb_sref19 : Cond.stringRef RX10 23 "NotNull" ∈ lw_tbl := (List.mem_append_right _ (List.mem_append_right _ (List.mem_append_left _ (List.mem_of_getElem? (l := tables_1_2) (i := 211) rfl))))
theorem fb_sref20 : Cond.stringRef RX10 25 "True" ∈ lw_tbl := (List.mem_append_right _ (List.mem_append_right _ (List.mem_append_left _ (List.mem_of_getElem? (l := tables_1_2) (i := 212) rfl))))
theorem fb_sref21 : Cond.stringRef RX10 27 "False" ∈ lw_tbl := (List.mem_append_right _ (List.mem_append_right _ (List.mem_append_left _ (List.mem_of_getElem? (l := tables_1_2) (i := 213) rfl))))
theorem fb_sref22 : Cond.stringRef RX10 29 "" ∈ lw_tbl := (List.mem_append_right _ (List.mem_append_right _ (List.mem_append_left _ (List.mem_of_getElem? (l := tables_1_2) (i := 214) rfl))))
theorem fb_sref23 : Cond.stringRef RX3 142 "Asc" ∈ lw_tbl := (List.mem_append_right _ (List.mem_append_right _ (List.mem_append_left _ (List.mem_of_getElem? (l := tables_1_2) (i := 232) rfl))))
theorem fb_sref24 : Cond.stringRef RX3 147 "Desc" ∈ lw_tbl := (List.mem_append_right _ (List.mem_append_right _ (List.mem_append_left _ (List.mem_of_getElem? (l := tables_1_2) (i := 237) rfl))))
theorem fb_aov0 : Cond.arrayOver (.object RX5) ∈ lw_tbl := (List.mem_append_right _ (List.mem_append_left _ (List.mem_of_getElem? (l := tables_1_1) (i := 49) rfl)))
theorem fb_aov1 : Cond.arrayOver (.object RX2) ∈ lw_tbl := (List.mem_append_right _ (List.mem_append_left _ (List.mem_of_getElem? (l := tables_1_1) (i := 92) rfl)))
theorem fb_aov2 : Cond.arrayOver (.object RX1) ∈ lw_tbl := (List.mem_append_right _ (List.mem_append_left _ (List.mem_of_getElem? (l := tables_1_1) (i := 151) rfl)))
theorem fb_srefs : ∀ i, i < fb_nS → Cond.stringRef (fb_SR.getD i ("", 0, "", 0)).1 (fb_SR.getD i ("", 0, "", 0)).2.1 (fb_SR.getD i ("", 0, "", 0)).2.2.1 ∈ lw_tbl := by
  intro i hi
  match i, hi with
  | 0, _ => exact fb_sref0
  | 1, _ => exact fb_sref1
  | 2, _ => exact fb_sref2
  | 3, _ => exact fb_sref3
  | 4, _ => exact fb_sref4
  | 5, _ => exact fb_sref5
  | 6, _ => exact fb_sref6
  | 7, _ => exact fb_sref7
  | 8, _ => exact fb_sref8
  | 9, _ => exact fb_sref9
  | 10, _ => exact fb_sref10
  | 11, _ => exact fb_sref11
  | 12, _ => exact fb_sref12
  | 13, _ => exact fb_sref13
  | 14, _ => exact fb_sref14
  | 15, _ => exact fb_sref15
  | 16, _ => exact fb_sref16
  | 17, _ => exact fb_sref17
  | 18, _ => exact fb_sref18
  | 19, _ => exact fb_sref19
  | 20, _ => exact fb_sref20
  | 21, _ => exact fb_sref21
  | 22, _ => exact fb_sref22
  | 23, _ => exact fb_sref23
  | 24, _ => exact fb_sref24
  | i + 25, hi => exact absurd hi (by show ¬ i + 25 < 25; omega)
theorem fb_known {args : Array Value} {s : State} (c0 : ClassId) (hts : ∀ w ∈ fb_W, w.before args s = true) : ∀ c : Nat, ∃ x : ClassId × (Nat → Nat), ∀ q : vw_C, vwCl[c]? = some q → u_Kn s q.1 q.2.1 q.2.2 x.1 x.2 := by
  intro c
  match c with
  | 0 => obtain ⟨cC, iS, h⟩ := u_known (C := RX0) (T := TX0) (N := 2) hts inX0 (hts _ wi1X0); exact ⟨(cC, iS), fun q hq => by cases hq; exact h⟩
  | 1 => obtain ⟨cC, iS, h⟩ := u_known (C := RX1) (T := TX1) (N := 2) hts inX1 (hts _ wi1X1); exact ⟨(cC, iS), fun q hq => by cases hq; exact h⟩
  | 2 => obtain ⟨cC, iS, h⟩ := u_known (C := RX2) (T := TX2) (N := 12) hts inX2 (hts _ wi1X2); exact ⟨(cC, iS), fun q hq => by cases hq; exact h⟩
  | 3 => obtain ⟨cC, iS, h⟩ := u_known (C := RX3) (T := TX3) (N := 3) hts inX3 (hts _ wi1X3); exact ⟨(cC, iS), fun q hq => by cases hq; exact h⟩
  | 4 => obtain ⟨cC, iS, h⟩ := u_known (C := RX4) (T := TX4) (N := 2) hts inX4 (hts _ wi1X4); exact ⟨(cC, iS), fun q hq => by cases hq; exact h⟩
  | 5 => obtain ⟨cC, iS, h⟩ := u_known (C := RX5) (T := TX5) (N := 4) hts inX5 (hts _ wi1X5); exact ⟨(cC, iS), fun q hq => by cases hq; exact h⟩
  | 6 => obtain ⟨cC, iS, h⟩ := u_known (C := RX6) (T := TX6) (N := 2) hts inX6 (hts _ wi1X6); exact ⟨(cC, iS), fun q hq => by cases hq; exact h⟩
  | 7 => obtain ⟨cC, iS, h⟩ := u_known (C := RX7) (T := TX7) (N := 2) hts inX7 (hts _ wi1X7); exact ⟨(cC, iS), fun q hq => by cases hq; exact h⟩
  | 8 => obtain ⟨cC, iS, h⟩ := u_known (C := RX8) (T := TX8) (N := 12) hts inX8 (hts _ wi1X8); exact ⟨(cC, iS), fun q hq => by cases hq; exact h⟩
  | 9 => obtain ⟨cC, iS, h⟩ := u_known (C := RX9) (T := TX9) (N := 40) hts inX9 (hts _ wi1X9); exact ⟨(cC, iS), fun q hq => by cases hq; exact h⟩
  | n + 10 => exact ⟨(c0, fun _ => 0), fun q hq => by simp [vwCl] at hq⟩
theorem fb_arrs {args : Array Value} {s : State} (c0 : ClassId) (hts : ∀ w ∈ fb_W, w.before args s = true) (htl : ∀ w ∈ lw_tbl, w.before args s = true) : ∀ t : Nat, ∃ c : ClassId, t < fb_nT → ArrOfT s c (fb_ty t) ∧ va_RA s c (fb_ty t) := by
  intro t
  match t with
  | 0 => obtain ⟨c, k, comp, h1, h2, h3⟩ := Cond.arrayClass_spec (type := .int) (hts _ wa0); exact ⟨c, fun _ => ⟨fun n z => ⟨fun k h => (by cases h), k, h2, comp, h3⟩, h1⟩⟩
  | 1 => obtain ⟨c, k, comp, h1, h2, h3⟩ := Cond.arrayClass_spec (type := .char) (hts _ wa1); exact ⟨c, fun _ => ⟨fun n z => ⟨fun k h => (by cases h), k, h2, comp, h3⟩, h1⟩⟩
  | 2 => obtain ⟨c, k, comp, h1, h2, h3⟩ := Cond.arrayClass_spec (type := .boolean) (hts _ wa2); exact ⟨c, fun _ => ⟨fun n z => ⟨fun k h => (by cases h), k, h2, comp, h3⟩, h1⟩⟩
  | 3 => obtain ⟨c, k, comp, h1, h2, h3⟩ := Cond.arrayClass_spec (type := .long) (hts _ wa3); exact ⟨c, fun _ => ⟨fun n z => ⟨fun k h => (by cases h), k, h2, comp, h3⟩, h1⟩⟩
  | 4 => obtain ⟨comp, c, k, h1, _, h3, h4, h5⟩ := Cond.arrayOver_spec (n := RX5) (htl _ fb_aov0); exact ⟨c, fun _ => ⟨fun n z => ⟨fun k h => (by cases h), k, h3, comp, h4⟩, k, comp, h3, h4, h1, h5⟩⟩
  | 5 => obtain ⟨comp, c, k, h1, _, h3, h4, h5⟩ := Cond.arrayOver_spec (n := RX2) (htl _ fb_aov1); exact ⟨c, fun _ => ⟨fun n z => ⟨fun k h => (by cases h), k, h3, comp, h4⟩, k, comp, h3, h4, h1, h5⟩⟩
  | 6 => obtain ⟨comp, c, k, h1, _, h3, h4, h5⟩ := Cond.arrayOver_spec (n := RX1) (htl _ fb_aov2); exact ⟨c, fun _ => ⟨fun n z => ⟨fun k h => (by cases h), k, h3, comp, h4⟩, k, comp, h3, h4, h1, h5⟩⟩
  | t + 7 => exact ⟨c0, fun h => absurd h (by show ¬ t + 7 < 7; omega)⟩
set_option maxRecDepth 100000 in
set_option maxHeartbeats 4000000 in
theorem fb_begin (g : fb_G) (h : fXL_law (fb_sL g) (fb_sx g) fb_u1 = some 1) : fb_V g RXL code 4 ret "law" room_1 (fb_Qlaw g) 0 0 0 fb_u0 0 [(0, .ref (fb_sb g))] [] := by
  have hz := fb_u0z
  refine fb_newO (pc := 0) (ci := 8) tyX8 dXL_law_0 rfl (by decide) inX8 tyX8_ok (fb_inW1 19 rfl rfl) wi1X8 wi2X8 (by decide) rfl (dvX8 hz) (Nat.le_of_ble_eq_true rfl) (Nat.le_of_ble_eq_true rfl) ?_
  have hz1 := fb_zs hz
  refine fb_dup (pc := 3) dXL_law_3 rfl ?_
  refine fb_callIn (pc := 4) [] dXL_law_4 (mX8_init g _ hz1) ymX8_init ⟨rfl, yinX8_init⟩ (Or.inl (fb_inW1 21 rfl rfl)) rfl (Nat.le_of_ble_eq_true rfl) ⟨Nat.le_of_ble_eq_true rfl, Nat.le_of_ble_eq_true rfl⟩ ⟨Nat.le_of_ble_eq_true rfl, Nat.le_of_ble_eq_true rfl⟩ ?_
  have hz2 := uX8_init_z hz1
  refine fb_astore_n (pc := 7) (lv' := [(1, .ref (fb_b g + 0)), (0, .ref (fb_sb g))]) dXL_law_7 rfl (by decide) rfl ?_
  refine fb_newO (pc := 8) (ci := 9) tyX9 dXL_law_8 rfl (by decide) inX9 tyX9_ok (fb_inW3 143 rfl rfl) wi1X9 wi2X9 (by decide) rfl (dvX9 hz2) (Nat.le_of_ble_eq_true rfl) (Nat.le_of_ble_eq_true rfl) ?_
  have hz3 := fb_zs hz2
  refine fb_dup (pc := 11) dXL_law_11 rfl ?_
  refine fb_callIn (pc := 12) [] dXL_law_12 (mX9_init g _ hz3) ymX9_init ⟨rfl, yinX9_init⟩ (Or.inl (fb_inW3 145 rfl rfl)) rfl (Nat.le_of_ble_eq_true rfl) ⟨Nat.le_of_ble_eq_true rfl, Nat.le_of_ble_eq_true rfl⟩ ⟨Nat.le_of_ble_eq_true rfl, Nat.le_of_ble_eq_true rfl⟩ ?_
  refine fb_astore_n (pc := 15) (lv' := [(2, .ref (fb_b g + 104)), (1, .ref (fb_b g + 0)), (0, .ref (fb_sb g))]) dXL_law_15 rfl (by decide) rfl ?_
  exact mXL_law g fb_u1 h
set_option maxHeartbeats 4000000 in
theorem fb_whole (hp : ∀ (L : Nat) (xs : Nat → Int32), L ≤ 1536 → fXL_law L xs fb_u1 = some 1) {p : Program} {e : Env} {s : State} {m : MethodId} {below : List Frame} {meth : Method} {c : Code} (l : Launch) {b L : Nat} {xs : Nat → Int32} (hL : L ≤ 1536) (C0 : lw_At p s m meth c b L xs) : W p l e room_1 s m #[Value.ref b] below meth c s.heap [] 0 0 (lw_Z below #[Value.ref b] s) (entryFrame m ([Value.ref b] : List Value).toArray 4) := by
  obtain ⟨hx, hb, hr, hml, hown, htl, hX, hbl, hlk, hpre⟩ := C0
  have hts : ∀ w ∈ fb_W, w.before #[Value.ref b] s = true := fun w hw => htl w (List.mem_filter.mp hw).1
  obtain ⟨D, hD⟩ := Classical.axiomOfChoice (fb_known m.cls hts)
  obtain ⟨tA, htA⟩ := Classical.axiomOfChoice (fb_arrs m.cls hts htl)
  have hA : ∀ a : Nat, a < s.heap.size → ¬ (fun q : Nat => s.heap.size ≤ q) a := fun a h1 h2 => absurd h1 (Nat.not_lt.mpr h2)
  obtain ⟨adK, adV, hS, hev⟩ := vk_Sof (args := #[Value.ref b]) (s := s) (N := fb_nS) (tm := fb_tm) (len := fb_len) (byt := fb_byt) (A := fun q => s.heap.size ≤ q) (fun i hi => by have := fb_lenlt i hi; omega) (fun i hi => fb_fl hpre (fb_ex i hi)) (fun i hi => fb_fl hpre (fb_co i hi)) (fun i hi => fb_fl hpre (fb_ar i hi)) (fun i hi => fb_fl hpre (fb_le i hi)) (fun i hi j hj => fb_fl hpre (fb_el i hi j hj)) (fun i j hi hj hij => (fb_ne i hi j hj hij).imp (fb_fl hpre) (fb_fl hpre)) hA
  let g : fb_G := (s.heap.size, (fun k => (D k).1, fun k => (D k).2), tA, adK, adV, b, L, xs)
  have hK : va_K (fb_D g) vwCl (fb_tys g) s := by
    refine ⟨fun k q hq => hD k q hq, fun k q hq => ?_⟩
    have hk : k < fb_nT := by
      have := (List.getElem?_eq_some_iff.mp hq).1
      simpa [fb_tys] using this
    rw [fb_tys_at g hk] at hq
    cases hq
    exact htA k hk
  have hSR : ∀ q ∈ fb_SR, vk_R q.1 q.2.1 q.2.2.1 (fb_K g q.2.2.2) s := by
    intro q hq
    obtain ⟨i, hi⟩ := List.getElem?_of_mem hq
    have hlt : i < fb_nS := (List.getElem?_eq_some_iff.mp hi).1
    have e : fb_SR.getD i ("", 0, "", 0) = q := by rw [List.getD_eq_getElem?_getD, hi]; rfl
    have h1 := fb_srefs i hlt
    have h2 := hev i hlt
    have h3 := fb_srI i hlt
    unfold fb_tm at h2
    rw [e] at h1 h2 h3
    rw [h3]
    exact vk_R.of (htl _ h1) h2
  have hN : ∀ w ∈ fb_NW, va_Nw w s := fun w hw => by
    have hw2 := List.mem_filter.mp hw
    have hw3 := hw2.2
    have hbf := htl w hw2.1
    cases w <;> first | exact va_Nw.of rfl hbf | (simp [fb_isN] at hw3)
  have hAO : ∀ C ∈ fb_AOs, va_AO C s := by
    intro C hC
    simp only [fb_AOs, List.mem_cons, List.not_mem_nil, or_false] at hC
    rcases hC with rfl | rfl | rfl
    · exact va_AO.of (htl _ fb_aov0)
    · exact va_AO.of (htl _ fb_aov1)
    · exact va_AO.of (htl _ fb_aov2)
  have hZ : va_Z "java/lang/String" "COMPACT_STRINGS" "Z" (.int 1) (fb_A g) s s.heap := va_Zof (htl _ (List.mem_append_right _ (List.mem_append_right _ (List.mem_append_left _ (List.mem_of_getElem? (l := tables_1_2) (i := 119) rfl))))) (hts _ (fb_inW1 13 rfl rfl)) (va_eqi (fb_fl (i := 4) hpre (by decide +kernel))) hA
  have hZq : ∃ v : Value, (v = .null ∨ ∃ a, v = .ref a) ∧ va_Z "jdk/internal/util/Preconditions" "SIOOBE_FORMATTER" "Ljava/util/function/BiFunction;" v (fb_A g) s s.heap := by
    rcases va_Zqof (A := fb_A g) (htl _ (List.mem_append_right _ (List.mem_append_right _ (List.mem_append_left _ (List.mem_of_getElem? (l := tables_1_2) (i := 135) rfl))))) (hts _ (fb_inW1 15 rfl rfl)) (fb_fl (i := 5) hpre (by decide +kernel)) hA with h | ⟨t, h⟩
    · exact ⟨_, Or.inl rfl, h⟩
    · exact ⟨_, Or.inr ⟨t, rfl⟩, h⟩
  have hG : fb_Gl g s := ⟨hN, hS, hSR, hX, hbl, Nat.le_refl _, hZ, hAO, hZq⟩
  have hl := lv_entry ([.ref b] : List Value) (n := 4) (Nat.le_of_ble_eq_true rfl)
  rw [lg_entry_eq]
  have w := fb_begin g (hp L xs hL) p l e s m #[Value.ref b] below meth c s.heap [] _ ⟨hx, hb, hml, hr, hlk, hts, hown, fun h => by simp at h, hK, hG⟩ ⟨fun k q hk => by simp [fb_cs] at hk, va_S.rf, fun _ => rfl⟩ hl
  intro T hT X
  obtain ⟨t, a1, b1⟩ := w T hT X
  exact ⟨t, a1, b1 ⟨rfl, Nat.le_refl _⟩⟩

def fb_NT : Nat := 133
def fb_nT : Nat := 7
def fb_F : Nat := 4000
def fb_ty : Nat → FieldType := fun t => match t with
  | 0 => .int
  | 1 => .char
  | 2 => .boolean
  | 3 => .long
  | 4 => .object RX5
  | 5 => .object RX2
  | _ => .object RX1
def fb_AOs : List String := [RX5, RX2, RX1]
def fb_shL : List (Nat × Nat) := [(8, 12), (0, 2), (101, 80), (6, 2), (104, 8), (5, 4), (101, 38), (5, 4), (101, 38), (5, 4), (101, 38), (5, 4), (101, 38), (5, 4), (101, 38), (5, 4), (101, 38), (5, 4), (101, 38), (5, 4), (101, 38), (3, 3), (105, 9), (2, 12), (100, 6), (100, 6), (100, 6), (100, 3), (102, 3), (2, 12), (100, 6), (100, 6), (100, 6), (100, 3), (102, 3), (2, 12), (100, 6), (100, 6), (100, 6), (100, 3), (102, 3), (2, 12), (100, 6), (100, 6), (100, 6), (100, 3), (102, 3), (2, 12), (100, 6), (100, 6), (100, 6), (100, 3), (102, 3), (2, 12), (100, 6), (100, 6), (100, 6), (100, 3), (102, 3), (2, 12), (100, 6), (100, 6), (100, 6), (100, 3), (102, 3), (2, 12), (100, 6), (100, 6), (100, 6), (100, 3), (102, 3), (2, 12), (100, 6), (100, 6), (100, 6), (100, 3), (102, 3), (7, 2), (106, 10), (1, 2), (103, 8), (1, 2), (103, 8), (1, 2), (103, 8), (1, 2), (103, 8), (1, 2), (103, 8), (1, 2), (103, 8), (1, 2), (103, 8), (1, 2), (103, 8), (1, 2), (103, 8), (1, 2), (103, 8), (103, 8), (100, 12), (4, 2), (106, 10), (100, 10), (9, 40), (100, 80), (100, 320), (100, 8), (100, 8), (100, 8), (102, 8), (100, 8), (100, 8), (100, 8), (100, 48), (100, 48), (100, 48), (100, 24), (102, 24), (100, 6), (100, 6), (100, 6), (100, 3), (102, 3), (100, 10), (100, 80), (102, 80), (100, 8), (102, 8), (100, 12), (100, 10), (102, 10), (102, 10)]
def fb_sh (a : Nat) : Nat × Nat := fb_shL.getD a (999, 0)
def fb_fkL : List (List Nat) := [[2, 0], [0, 2], [0, 0, 0, 0, 0, 0, 0, 2, 2, 2, 2, 2], [2, 2, 0], [2, 0], [2, 0, 0, 0], [2, 0], [2, 0], [2, 2, 2, 2, 0, 2, 2, 2, 0, 2, 2, 0], [2, 0, 2, 2, 0, 0, 2, 2, 2, 2, 2, 2, 2, 2, 2, 2, 2, 0, 0, 0, 0, 0, 2, 2, 2, 2, 2, 0, 0, 2, 2, 2, 2, 2, 2, 0, 2, 0, 2, 2]]
def fb_fk (ci k : Nat) : Nat := (fb_fkL.getD ci []).getD k 0
def fb_nS : Nat := 25
def fb_len : List Nat := [5, 6, 6, 4, 3, 5, 2, 7, 2, 3, 6, 2, 3, 8, 13, 11, 16, 7, 4, 7, 4, 5, 0, 3, 4]
def fb_byt : List (List Int32) := [[99, 111, 117, 110, 116], [101, 120, 105, 115, 116, 115], [100, 101, 108, 101, 116, 101], [102, 105, 110, 100], [84, 111, 112], [70, 105, 114, 115, 116], [66, 121], [79, 114, 100, 101, 114, 66, 121], [79, 114], [65, 110, 100], [69, 113, 117, 97, 108, 115], [73, 115], [78, 111, 116], [76, 101, 115, 115, 84, 104, 97, 110], [76, 101, 115, 115, 84, 104, 97, 110, 69, 113, 117, 97, 108], [71, 114, 101, 97, 116, 101, 114, 84, 104, 97, 110], [71, 114, 101, 97, 116, 101, 114, 84, 104, 97, 110, 69, 113, 117, 97, 108], [66, 101, 116, 119, 101, 101, 110], [78, 117, 108, 108], [78, 111, 116, 78, 117, 108, 108], [84, 114, 117, 101], [70, 97, 108, 115, 101], [], [65, 115, 99], [68, 101, 115, 99]]
def fb_SR : List (String × Nat × String × Nat) := [(RX3, 78, "count", 0), (RX3, 80, "exists", 1), (RX3, 82, "delete", 2), (RX3, 84, "find", 3), (RX3, 86, "Top", 4), (RX3, 88, "First", 5), (RX3, 35, "By", 6), (RX3, 47, "OrderBy", 7), (RX3, 101, "Or", 8), (RX3, 112, "And", 9), (RX10, 33, "Equals", 10), (RX10, 47, "Is", 11), (RX10, 9, "Not", 12), (RX10, 11, "LessThan", 13), (RX10, 13, "LessThanEqual", 14), (RX10, 15, "GreaterThan", 15), (RX10, 17, "GreaterThanEqual", 16), (RX10, 19, "Between", 17), (RX10, 21, "Null", 18), (RX10, 23, "NotNull", 19), (RX10, 25, "True", 20), (RX10, 27, "False", 21), (RX10, 29, "", 22), (RX3, 142, "Asc", 23), (RX3, 147, "Desc", 24)]
/-! memory: ints, longs and references by (cell, place); cells are numbered from 0 in the order of their making -/
abbrev fb_M : Type := (Nat → Nat → Int32) × (Nat → Nat → Int64) × (Nat → Nat → Option Nat)
def fb_I (u : fb_M) (a k : Nat) : Int32 := u.1 a k
def fb_L (u : fb_M) (a k : Nat) : Int64 := u.2.1 a k
def fb_R (u : fb_M) (a k : Nat) : Option Nat := u.2.2 a k
def fb_up {α : Type} (f : Nat → Nat → α) (a k : Nat) (x : α) : Nat → Nat → α := fun b j => if b = a ∧ j = k then x else f b j
def fb_wI (u : fb_M) (a k : Nat) (x : Int32) : fb_M := (fb_up u.1 a k x, u.2.1, u.2.2)
def fb_wL (u : fb_M) (a k : Nat) (x : Int64) : fb_M := (u.1, fb_up u.2.1 a k x, u.2.2)
def fb_wR (u : fb_M) (a k : Nat) (x : Nat) : fb_M := (u.1, u.2.1, fb_up u.2.2 a k (some x))
def fb_cpL (u : fb_M) (a b sp dp n : Nat) : fb_M := (u.1, (fun q => if q = b then va_cpy (u.2.1 a) (u.2.1 b) sp dp n else u.2.1 q), u.2.2)
/-! what is fixed: where the cells begin, the classes' numbers, the array classes, the literals' addresses, the script -/
abbrev fb_G : Type := Nat × va_G × (Nat → ClassId) × (Nat → Nat) × (Nat → Nat) × Nat × Nat × (Nat → Int32)
def fb_b (g : fb_G) : Nat := g.1
def fb_D (g : fb_G) : va_G := g.2.1
def fb_tA (g : fb_G) : Nat → ClassId := g.2.2.1
def fb_K (g : fb_G) : Nat → Nat := g.2.2.2.1
def fb_Kv (g : fb_G) : Nat → Nat := g.2.2.2.2.1
def fb_sb (g : fb_G) : Nat := g.2.2.2.2.2.1
def fb_sL (g : fb_G) : Nat := g.2.2.2.2.2.2.1
def fb_sx (g : fb_G) : Nat → Int32 := g.2.2.2.2.2.2.2
def fb_A (g : fb_G) : Nat → Prop := fun q => fb_b g ≤ q
def fb_tys (g : fb_G) : List (ClassId × FieldType) := (List.range fb_nT).map (fun t => (fb_tA g t, fb_ty t))
theorem fb_tys_at (g : fb_G) {t : Nat} (h : t < fb_nT) : (fb_tys g)[t]? = some (fb_tA g t, fb_ty t) := by
  simp [fb_tys, h]
def fb_rv (g : fb_G) (o : Option Nat) : Option Nat := o.map (fun q => fb_b g + q)
def fb_fv (g : fb_G) (u : fb_M) (a ci k : Nat) : Value := if fb_fk ci k = 0 then .int (fb_I u a k) else va_rf (fb_rv g (fb_R u a k))
def fb_cont (g : fb_G) (u : fb_M) (a t : Nat) : (Nat → Int32) ⊕ (Nat → Int64) ⊕ (Nat → UInt32) ⊕ (Nat → UInt64) ⊕ (Nat → Option Nat) :=
  if t < 3 then .inl (fb_I u a) else if t = 3 then .inr (.inl (fb_L u a)) else .inr (.inr (.inr (.inr (fun j => fb_rv g (fb_R u a j)))))
def fb_cell (g : fb_G) (u : fb_M) (a : Nat) : va_E :=
  if (fb_sh a).1 < 100 then .inr ((fb_sh a).1, (List.range (fb_sh a).2).map (fb_fv g u a (fb_sh a).1)) else .inl (fb_tA g ((fb_sh a).1 - 100), (fb_sh a).2, fb_cont g u a ((fb_sh a).1 - 100))
def fb_cs (g : fb_G) (n : Nat) (u : fb_M) : va_W := (List.range n).map (fun a => (fb_b g + a, fb_cell g u a))
theorem fb_cs_at (g : fb_G) (u : fb_M) {n a : Nat} (h : a < n) : (fb_cs g n u)[a]? = some (fb_b g + a, fb_cell g u a) := by
  simp [fb_cs, h]
theorem fb_cell_o (g : fb_G) (u : fb_M) {a ci N : Nat} (h : fb_sh a = (ci, N)) (hc : ci < 100) : fb_cell g u a = .inr (ci, (List.range N).map (fb_fv g u a ci)) := by
  simp [fb_cell, h, hc]
theorem fb_cell_i (g : fb_G) (u : fb_M) {a t N : Nat} (h : fb_sh a = (100 + t, N)) (ht : t < 3) : fb_cell g u a = .inl (fb_tA g t, N, .inl (fb_I u a)) := by
  have e : ¬ 100 + t < 100 := by omega
  simp [fb_cell, h, e, fb_cont, ht]
theorem fb_cell_l (g : fb_G) (u : fb_M) {a N : Nat} (h : fb_sh a = (103, N)) : fb_cell g u a = .inl (fb_tA g 3, N, .inr (.inl (fb_L u a))) := by
  simp [fb_cell, h, fb_cont]
theorem fb_cell_q (g : fb_G) (u : fb_M) {a t N : Nat} (h : fb_sh a = (100 + t, N)) (ht : 3 < t) : fb_cell g u a = .inl (fb_tA g t, N, .inr (.inr (.inr (.inr (fun j => fb_rv g (fb_R u a j)))))) := by
  have e : ¬ 100 + t < 100 := by omega
  have e2 : ¬ t < 3 := by omega
  have e3 : ¬ t = 3 := by omega
  simp [fb_cell, h, e, fb_cont, e2, e3]
theorem fb_D_cs (g : fb_G) (n : Nat) (u : fb_M) : va_D (fb_A g) (fb_cs g n u) := by
  refine ⟨fun i j p q hi hj hpq => ?_, fun k q hk => ?_⟩
  · obtain ⟨li, -⟩ := List.getElem?_eq_some_iff.mp hi
    obtain ⟨lj, -⟩ := List.getElem?_eq_some_iff.mp hj
    simp only [fb_cs, List.length_map, List.length_range] at li lj
    rw [fb_cs_at g u li] at hi
    rw [fb_cs_at g u lj] at hj
    obtain rfl := Option.some.inj hi
    obtain rfl := Option.some.inj hj
    simp only at hpq
    omega
  · obtain ⟨lk, -⟩ := List.getElem?_eq_some_iff.mp hk
    simp only [fb_cs, List.length_map, List.length_range] at lk
    rw [fb_cs_at g u lk] at hk
    obtain rfl := Option.some.inj hk
    exact Nat.le_add_right _ _
theorem fb_cs_set (g : fb_G) {n a : Nat} {u u' : fb_M} {e : va_E} (he : fb_cell g u' a = e) (ho : ∀ j, j ≠ a → fb_cell g u' j = fb_cell g u j) : (fb_cs g n u).set a (fb_b g + a, e) = fb_cs g n u' := by
  subst he
  apply List.ext_getElem?
  intro i
  by_cases hi : i < n
  · rw [fb_cs_at g u' hi, List.getElem?_set]
    by_cases ha : a = i
    · subst ha
      simp [fb_cs, hi]
    · rw [if_neg ha, fb_cs_at g u hi, ho i (fun q => ha q.symm)]
  · rw [List.getElem?_eq_none (by simp [fb_cs]; omega), List.getElem?_eq_none (by simp [fb_cs]; omega)]
theorem fb_cs_push (g : fb_G) (n : Nat) (u : fb_M) {e : va_E} (he : fb_cell g u n = e) : fb_cs g n u ++ [(fb_b g + n, e)] = fb_cs g (n + 1) u := by
  subst he
  simp [fb_cs, List.range_succ]
theorem fb_up_ne {α : Type} (f : Nat → Nat → α) {a k b : Nat} (x : α) (h : b ≠ a) : fb_up f a k x b = f b := by
  funext j
  simp [fb_up, h]
theorem fb_cell_wI (g : fb_G) (u : fb_M) {a k j : Nat} (x : Int32) (h : j ≠ a) : fb_cell g (fb_wI u a k x) j = fb_cell g u j := by
  have e : fb_I (fb_wI u a k x) j = fb_I u j := fb_up_ne u.1 x h
  have e1 : ∀ ci, fb_fv g (fb_wI u a k x) j ci = fb_fv g u j ci := fun ci => by
    funext q
    simp only [fb_fv, e]
    rfl
  simp only [fb_cell, fb_cont, e, e1]
  rfl
theorem fb_cell_wL (g : fb_G) (u : fb_M) {a k j : Nat} (x : Int64) (h : j ≠ a) : fb_cell g (fb_wL u a k x) j = fb_cell g u j := by
  have e : fb_L (fb_wL u a k x) j = fb_L u j := fb_up_ne u.2.1 x h
  simp only [fb_cell, fb_cont, e]
  rfl
theorem fb_cell_cpL (g : fb_G) (u : fb_M) {a b sp dp n j : Nat} (h : j ≠ b) : fb_cell g (fb_cpL u a b sp dp n) j = fb_cell g u j := by
  have e : fb_L (fb_cpL u a b sp dp n) j = fb_L u j := by
    funext q
    simp [fb_L, fb_cpL, h]
  simp only [fb_cell, fb_cont, e]
  rfl
theorem fb_cell_wR (g : fb_G) (u : fb_M) {a k j x : Nat} (h : j ≠ a) : fb_cell g (fb_wR u a k x) j = fb_cell g u j := by
  have e : fb_R (fb_wR u a k x) j = fb_R u j := fb_up_ne u.2.2 (some x) h
  have e1 : ∀ ci, fb_fv g (fb_wR u a k x) j ci = fb_fv g u j ci := fun ci => by
    funext q
    simp only [fb_fv, e]
    rfl
  simp only [fb_cell, fb_cont, e, e1]
  rfl
/-! the world of every method -/
def fb_isN : Cond → Bool
  | .fieldLinkNest _ _ _ _ _ _ => true
  | .methodLinkNest _ _ _ _ => true
  | _ => false
def fb_W : List Cond := lw_tbl.filter goodWord
def fb_NW : List Cond := lw_tbl.filter fb_isN
theorem fb_inW {w : Cond} (i : Nat) (h : lw_tbl[i]? = some w) (hg : goodWord w = true) : w ∈ fb_W := List.mem_filter.mpr ⟨List.mem_of_getElem? h, hg⟩
theorem fb_inN {w : Cond} (i : Nat) (h : lw_tbl[i]? = some w) (hg : fb_isN w = true) : w ∈ fb_NW := List.mem_filter.mpr ⟨List.mem_of_getElem? h, hg⟩
theorem fb_good {y : MethodName} {cc : ByteArray} {mL : Nat} {ret : Option FieldType} (h : Cond.code y cc mL ret ∈ fb_W) : GoodIn fb_W (Cond.code y cc mL ret :: fb_W) := by
  intro w hw
  have hw2 : w ∈ fb_W := by
    rcases List.mem_cons.mp hw with rfl | h2
    · exact h
    · exact h2
  exact ⟨hw2, good_of_word (List.mem_filter.mp hw2).2⟩
theorem fb_nwarm {w : Cond} (hn : fb_isN w = true) {s U : State} (hW : s.WarmedH U.vm) (h : va_Nw w s) : va_Nw w U := by
  cases w <;> first | exact va_Nw.warmF hW h | exact va_Nw.warmM hW h | (simp [fb_isN] at hn)
theorem fb_nsame {w : Cond} (hn : fb_isN w = true) {s U : State} (hv : s.vm = U.vm) (h : va_Nw w s) : va_Nw w U := by
  cases w <;> first | exact va_Nw.same rfl hv h | (simp [fb_isN] at hn)
def fb_Gl (g : fb_G) (U : State) : Prop :=
  (∀ w ∈ fb_NW, va_Nw w U) ∧ vk_S fb_nS fb_len fb_byt (fb_K g) (fb_Kv g) (fb_A g) U U.heap ∧ (∀ q ∈ fb_SR, vk_R q.1 q.2.1 q.2.2.1 (fb_K g q.2.2.2) U) ∧ va_X (fb_sb g) (fb_sL g) (fb_sx g) U U.heap ∧ fb_sb g < fb_b g ∧ fb_b g ≤ U.heap.size ∧ va_Z "java/lang/String" "COMPACT_STRINGS" "Z" (.int 1) (fb_A g) U U.heap ∧ (∀ C ∈ fb_AOs, va_AO C U) ∧ ∃ v : Value, (v = .null ∨ ∃ a, v = .ref a) ∧ va_Z "jdk/internal/util/Preconditions" "SIOOBE_FORMATTER" "Ljava/util/function/BiFunction;" v (fb_A g) U U.heap
theorem fb_Gl.to {g : fb_G} {s U : State} {locs : List Loc} (h : fb_Gl g s) (hW : s.WarmedH U.vm) (hS : va_S (fb_A g) s.heap U.heap locs) : fb_Gl g U := by
  obtain ⟨h1, h2, h3, h4, h5, h6, h7, h8, v9, h9, h10⟩ := h
  refine ⟨fun w hw => fb_nwarm (List.mem_filter.mp hw).2 hW (h1 w hw), (h2.kept hS.2.1).moved hW.alike, fun q hq => vk_R.warm hW (h3 q hq), (h4.kept ?_).moved hW.alike, h5, Nat.le_trans h6 hS.1, (h7.kept hS.2.1).moved hW.alike, fun C hc => (h8 C hc).moved hW.alike, v9, h9, (h10.kept hS.2.1).moved hW.alike⟩
  exact hS.2.1 _ (Nat.lt_of_lt_of_le h5 h6) (fun z => absurd h5 (Nat.not_lt.mpr z))
theorem fb_Gl.same {g : fb_G} {s U : State} (h : fb_Gl g s) (hv : U.vm = s.vm) (hh : U.heap = s.heap) : fb_Gl g U := by
  have ha : s.vm.Alike U.vm := by rw [hv]; exact Vm.Alike.refl _
  obtain ⟨h1, h2, h3, h4, h5, h6, h7, h8, v9, h9, h10⟩ := h
  refine ⟨fun w hw => fb_nsame (List.mem_filter.mp hw).2 hv.symm (h1 w hw), ?_, fun q hq => vk_R.same hv (h3 q hq), ?_, h5, by rw [hh]; exact h6, ?_, fun C hc => (h8 C hc).moved ha, v9, h9, ?_⟩
  · rw [hh]; exact h2.moved ha
  · rw [hh]; exact h4.moved ha
  · rw [hh]; exact h7.moved ha
  · rw [hh]; exact h10.moved ha
def fb_room (d lo mc ms : Nat) : Room := { frames := d, cells := mc, slots := ms, locals := lo }
def fb_Pre (g : fb_G) (n : Nat) (u : fb_M) (U : State) : Prop := va_P (fb_D g) vwCl (fb_cs g n u) U.heap ∧ (n < fb_NT → U.heap.size = fb_b g + n) ∧ va_K (fb_D g) vwCl (fb_tys g) U ∧ fb_Gl g U
def fb_Q (g : fb_G) (r : Option Value) (n2 : Nat) (u2 : fb_M) : Array Value → State → Outcome → State → Prop := fun _ st o t => o = .returned r ∧ va_P (fb_D g) vwCl (fb_cs g n2 u2) t.heap ∧ (n2 < fb_NT → t.heap.size = fb_b g + n2) ∧ va_F (fb_A g) st t
def fb_Runs (g : fb_G) (d lo mc ms n n2 : Nat) (y : MethodName) (cc : ByteArray) (mL : Nat) (ret : Option FieldType) (av : List Value) (u : fb_M) (r : Option Value) (u2 : fb_M) : Prop :=
  ∀ l : Launch, Met l y (Cond.code y cc mL ret :: fb_W) (fb_room d lo mc ms) (va_Pc av (fb_Pre g n u)) (fb_Q g r n2 u2) mc ms (fb_A g)
def fb_Cx (g : fb_G) (own : String) (cc : ByteArray) (nL : Nat) (ret : Option FieldType) (nm : String) (p : Program) (s : State) (m : MethodId) (args : Array Value) (meth : Method) (c : Code) : Prop :=
  p.tables.exec = Jvm.exec ∧ c.code = cc ∧ c.maxLocals = nL ∧ meth.sig.returnType = ret ∧ meth.locks = false ∧ (∀ w ∈ fb_W, w.before args s = true) ∧ s.vm.findClass own = some m.cls ∧ (nm = "<init>" → meth.name = "<init>") ∧ va_K (fb_D g) vwCl (fb_tys g) s ∧ fb_Gl g s
def fb_Hp (g : fb_G) (n : Nat) (u : fb_M) (s : State) (H : Heap) (locs : List Loc) : Prop :=
  va_P (fb_D g) vwCl (fb_cs g n u) H ∧ va_S (fb_A g) s.heap H locs ∧ (n < fb_NT → H.size = fb_b g + n)
abbrev fb_QT : Type := State → Array Value → List Frame → State → Prop
def fb_Qm (g : fb_G) (r : Option Value) (n2 : Nat) (u2 : fb_M) (mc ms : Nat) : fb_QT := fun s args below => MQ below (fb_Q g r n2 u2) args s mc ms (fb_A g)
def fb_V (g : fb_G) (own : String) (cc : ByteArray) (nL : Nat) (ret : Option FieldType) (nm : String) (R : Room) (Qf : fb_QT) (k ks n : Nat) (u : fb_M) (pc : Nat) (lv : List (Nat × Value)) (st : List Value) : Prop :=
  ∀ (p : Program) (l : Launch) (e : Env) (s : State) (m : MethodId) (args : Array Value) (below : List Frame) (meth : Method) (c : Code) (H : Heap) (locs : List Loc) (ls : Array Slot),
    fb_Cx g own cc nL ret nm p s m args meth c → fb_Hp g n u s H locs → lv_has ls nL lv → W p l e R s m args below meth c H locs k ks (Qf s args below) (F0 m pc ls st)
theorem fb_blind (g : fb_G) (n : Nat) (u : fb_M) (av : List Value) : FrameBlind (va_Pc av (fb_Pre g n u)) := by
  intro a U q mk h
  obtain ⟨h1, h2, h3, h4, h5⟩ := h
  exact ⟨h1, h2, h3, va_K.moved (u := U) (U := U.calling q mk a) (Vm.Alike.refl U.vm) h4, fb_Gl.same (s := U) (U := U.calling q mk a) h5 rfl rfl⟩
theorem fb_enter {g : fb_G} {d lo mc ms n n2 : Nat} {y : MethodName} {cc : ByteArray} {mL : Nat} {ret : Option FieldType} {av : List Value} {u : fb_M} {r : Option Value} {u2 : fb_M} (hy : plainName y.cls = true) (hsl : (lg_sl av).length ≤ mL)
    (hV : fb_V g y.cls cc mL ret y.name (fb_room d lo mc ms) (fb_Qm g r n2 u2 mc ms) 0 0 n u 0 (lv_args 0 av) []) : fb_Runs g d lo mc ms n n2 y cc mL ret av u r u2 := by
  intro l
  refine Met.ofW (cc := cc) (maxL := mL) (ret := ret) hy rfl ?_
  intro p e s m args below meth c s₁ B hml hv
  obtain ⟨rfl, hP, hz, hK, hG⟩ := hv
  have hts := atoms_spec (ws := Cond.code y cc mL ret :: fb_W) B.pre
  have hl := lv_entry av (n := mL) hsl
  rw [lg_entry_eq]
  exact hV p l e s m _ below meth c s.heap [] _ ⟨B.exec, B.bytes, hml, B.returns, B.notSynchronized, fun w hw => hts w (List.mem_cons_of_mem _ hw), findClass_of_methodNamed B.named, fun hn => (name_of_methodNamed B.named B.method).1.trans hn, hK, hG⟩ ⟨hP, va_S.rf, hz⟩ hl
theorem fb_inW1 {w : Cond} (i : Nat) (h : tables_1_1[i]? = some w) (hg : goodWord w = true) : w ∈ fb_W := List.mem_filter.mpr ⟨List.mem_append_right _ (List.mem_append_left _ (List.mem_of_getElem? h)), hg⟩
theorem fb_inN1 {w : Cond} (i : Nat) (h : tables_1_1[i]? = some w) (hg : fb_isN w = true) : w ∈ fb_NW := List.mem_filter.mpr ⟨List.mem_append_right _ (List.mem_append_left _ (List.mem_of_getElem? h)), hg⟩
theorem fb_inW2 {w : Cond} (i : Nat) (h : tables_1_2[i]? = some w) (hg : goodWord w = true) : w ∈ fb_W := List.mem_filter.mpr ⟨List.mem_append_right _ (List.mem_append_right _ (List.mem_append_left _ (List.mem_of_getElem? h))), hg⟩
theorem fb_inN2 {w : Cond} (i : Nat) (h : tables_1_2[i]? = some w) (hg : fb_isN w = true) : w ∈ fb_NW := List.mem_filter.mpr ⟨List.mem_append_right _ (List.mem_append_right _ (List.mem_append_left _ (List.mem_of_getElem? h))), hg⟩
theorem fb_inW3 {w : Cond} (i : Nat) (h : tables_1_3[i]? = some w) (hg : goodWord w = true) : w ∈ fb_W := List.mem_filter.mpr ⟨List.mem_append_right _ (List.mem_append_right _ (List.mem_append_right _ (List.mem_append_left _ (List.mem_of_getElem? h)))), hg⟩
theorem fb_inN3 {w : Cond} (i : Nat) (h : tables_1_3[i]? = some w) (hg : fb_isN w = true) : w ∈ fb_NW := List.mem_filter.mpr ⟨List.mem_append_right _ (List.mem_append_right _ (List.mem_append_right _ (List.mem_append_left _ (List.mem_of_getElem? h)))), hg⟩
theorem fb_inW4 {w : Cond} (i : Nat) (h : tables_1_4[i]? = some w) (hg : goodWord w = true) : w ∈ fb_W := List.mem_filter.mpr ⟨List.mem_append_right _ (List.mem_append_right _ (List.mem_append_right _ (List.mem_append_right _ (List.mem_append_left _ (List.mem_of_getElem? h))))), hg⟩
theorem fb_inN4 {w : Cond} (i : Nat) (h : tables_1_4[i]? = some w) (hg : fb_isN w = true) : w ∈ fb_NW := List.mem_filter.mpr ⟨List.mem_append_right _ (List.mem_append_right _ (List.mem_append_right _ (List.mem_append_right _ (List.mem_append_left _ (List.mem_of_getElem? h))))), hg⟩
theorem fb_inW5 {w : Cond} (i : Nat) (h : tables_1_5[i]? = some w) (hg : goodWord w = true) : w ∈ fb_W := List.mem_filter.mpr ⟨List.mem_append_right _ (List.mem_append_right _ (List.mem_append_right _ (List.mem_append_right _ (List.mem_append_right _ (List.mem_of_getElem? h))))), hg⟩
theorem fb_inN5 {w : Cond} (i : Nat) (h : tables_1_5[i]? = some w) (hg : fb_isN w = true) : w ∈ fb_NW := List.mem_filter.mpr ⟨List.mem_append_right _ (List.mem_append_right _ (List.mem_append_right _ (List.mem_append_right _ (List.mem_append_right _ (List.mem_of_getElem? h))))), hg⟩
theorem fb_inWs {w : Cond} (i : Nat) (h : (k2_sels lw_privs)[i]? = some w) (hg : goodWord w = true) : w ∈ fb_W := List.mem_filter.mpr ⟨List.mem_append_left _ (List.mem_of_getElem? h), hg⟩

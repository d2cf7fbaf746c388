section
-- ===== PART A: goes FIRST, ahead of the names: the tables' words, and 'selects' of the private methods out of them =====
/-- a private method of a class that the tables say can be made, by its rows of tables_1 -/
def lw_okq (q : MethodName × Nat) : Prop := (q.1.cls ≠ "java/lang/invoke/MethodHandle" ∧ q.1.cls ≠ "java/lang/invoke/VarHandle") ∧ Cond.instantiable q.1.cls q.2 ∈ tables_1 ∧ Cond.privateMethod q.1 ∈ tables_1 ∧ Cond.instanceMethod q.1 ∈ tables_1
theorem lw_p0 : lw_okq (⟨"FinderBook$Leaf", "nameLength", "(I)I"⟩, 4) := ⟨⟨by decide +kernel, by decide +kernel⟩, List.mem_of_getElem? (i := 50) (by decide +kernel), List.mem_of_getElem? (i := 298) (by decide +kernel), List.mem_of_getElem? (i := 299) (by decide +kernel)⟩
theorem lw_p1 : lw_okq (⟨"FinderBook$FinderReader", "readSubject", "(LFinderBook$Finder;)Z"⟩, 3) := ⟨⟨by decide +kernel, by decide +kernel⟩, List.mem_of_getElem? (i := 76) (by decide +kernel), List.mem_of_getElem? (i := 331) (by decide +kernel), List.mem_of_getElem? (i := 332) (by decide +kernel)⟩
theorem lw_p2 : lw_okq (⟨"FinderBook$FinderReader", "skip", "(Ljava/lang/String;)Z"⟩, 3) := ⟨⟨by decide +kernel, by decide +kernel⟩, List.mem_of_getElem? (i := 76) (by decide +kernel), List.mem_of_getElem? (i := 342) (by decide +kernel), List.mem_of_getElem? (i := 343) (by decide +kernel)⟩
theorem lw_p3 : lw_okq (⟨"FinderBook$FinderReader", "readLimit", "(LFinderBook$Finder;)Z"⟩, 3) := ⟨⟨by decide +kernel, by decide +kernel⟩, List.mem_of_getElem? (i := 76) (by decide +kernel), List.mem_of_getElem? (i := 400) (by decide +kernel), List.mem_of_getElem? (i := 401) (by decide +kernel)⟩
theorem lw_p4 : lw_okq (⟨"FinderBook$FinderReader", "readCondition", "(LFinderBook$Finder;II)Z"⟩, 3) := ⟨⟨by decide +kernel, by decide +kernel⟩, List.mem_of_getElem? (i := 76) (by decide +kernel), List.mem_of_getElem? (i := 415) (by decide +kernel), List.mem_of_getElem? (i := 416) (by decide +kernel)⟩
theorem lw_p5 : lw_okq (⟨"FinderBook$FinderReader", "readAlternative", "(LFinderBook$Finder;II)Z"⟩, 3) := ⟨⟨by decide +kernel, by decide +kernel⟩, List.mem_of_getElem? (i := 76) (by decide +kernel), List.mem_of_getElem? (i := 426) (by decide +kernel), List.mem_of_getElem? (i := 427) (by decide +kernel)⟩
theorem lw_p6 : lw_okq (⟨"FinderBook$FinderReader", "readPart", "(LFinderBook$Finder;II)Z"⟩, 3) := ⟨⟨by decide +kernel, by decide +kernel⟩, List.mem_of_getElem? (i := 76) (by decide +kernel), List.mem_of_getElem? (i := 431) (by decide +kernel), List.mem_of_getElem? (i := 432) (by decide +kernel)⟩
theorem lw_p7 : lw_okq (⟨"FinderBook$FinderReader", "readOrders", "(LFinderBook$Finder;II)Z"⟩, 3) := ⟨⟨by decide +kernel, by decide +kernel⟩, List.mem_of_getElem? (i := 76) (by decide +kernel), List.mem_of_getElem? (i := 464) (by decide +kernel), List.mem_of_getElem? (i := 465) (by decide +kernel)⟩
theorem lw_p8 : lw_okq (⟨"FinderBook$FinderReader", "endsWithDirection", "(II)Z"⟩, 3) := ⟨⟨by decide +kernel, by decide +kernel⟩, List.mem_of_getElem? (i := 76) (by decide +kernel), List.mem_of_getElem? (i := 469) (by decide +kernel), List.mem_of_getElem? (i := 470) (by decide +kernel)⟩
theorem lw_p9 : lw_okq (⟨"FinderBook$FinderReader", "readOrder", "(LFinderBook$Finder;II)Z"⟩, 3) := ⟨⟨by decide +kernel, by decide +kernel⟩, List.mem_of_getElem? (i := 76) (by decide +kernel), List.mem_of_getElem? (i := 479) (by decide +kernel), List.mem_of_getElem? (i := 480) (by decide +kernel)⟩
theorem lw_p10 : lw_okq (⟨"FinderBook", "isFinder", "(I)Z"⟩, 12) := ⟨⟨by decide +kernel, by decide +kernel⟩, List.mem_of_getElem? (i := 20) (by decide +kernel), List.mem_of_getElem? (i := 496) (by decide +kernel), List.mem_of_getElem? (i := 497) (by decide +kernel)⟩
theorem lw_p11 : lw_okq (⟨"FinderBook", "enter", "(IJ)Z"⟩, 12) := ⟨⟨by decide +kernel, by decide +kernel⟩, List.mem_of_getElem? (i := 20) (by decide +kernel), List.mem_of_getElem? (i := 516) (by decide +kernel), List.mem_of_getElem? (i := 517) (by decide +kernel)⟩
theorem lw_p12 : lw_okq (⟨"FinderBook$Finding", "insert", "(LFinderBook$Entity;LFinderBook$Finder;)V"⟩, 2) := ⟨⟨by decide +kernel, by decide +kernel⟩, List.mem_of_getElem? (i := 181) (by decide +kernel), List.mem_of_getElem? (i := 582) (by decide +kernel), List.mem_of_getElem? (i := 583) (by decide +kernel)⟩
theorem lw_p13 : lw_okq (⟨"FinderBook", "deleteFinding", "()I"⟩, 12) := ⟨⟨by decide +kernel, by decide +kernel⟩, List.mem_of_getElem? (i := 20) (by decide +kernel), List.mem_of_getElem? (i := 596) (by decide +kernel), List.mem_of_getElem? (i := 597) (by decide +kernel)⟩
theorem lw_p14 : lw_okq (⟨"FinderBook", "keepFinding", "(Z)I"⟩, 12) := ⟨⟨by decide +kernel, by decide +kernel⟩, List.mem_of_getElem? (i := 20) (by decide +kernel), List.mem_of_getElem? (i := 600) (by decide +kernel), List.mem_of_getElem? (i := 601) (by decide +kernel)⟩
theorem lw_p15 : lw_okq (⟨"FinderBookModel", "isPath", "()Z"⟩, 40) := ⟨⟨by decide +kernel, by decide +kernel⟩, List.mem_of_getElem? (i := 624) (by decide +kernel), List.mem_of_getElem? (i := 772) (by decide +kernel), List.mem_of_getElem? (i := 773) (by decide +kernel)⟩
def lw_privs_1 : List (MethodName × Nat) := [(⟨"FinderBook$Leaf", "nameLength", "(I)I"⟩, 4), (⟨"FinderBook$FinderReader", "readSubject", "(LFinderBook$Finder;)Z"⟩, 3), (⟨"FinderBook$FinderReader", "skip", "(Ljava/lang/String;)Z"⟩, 3), (⟨"FinderBook$FinderReader", "readLimit", "(LFinderBook$Finder;)Z"⟩, 3), (⟨"FinderBook$FinderReader", "readCondition", "(LFinderBook$Finder;II)Z"⟩, 3), (⟨"FinderBook$FinderReader", "readAlternative", "(LFinderBook$Finder;II)Z"⟩, 3), (⟨"FinderBook$FinderReader", "readPart", "(LFinderBook$Finder;II)Z"⟩, 3), (⟨"FinderBook$FinderReader", "readOrders", "(LFinderBook$Finder;II)Z"⟩, 3), (⟨"FinderBook$FinderReader", "endsWithDirection", "(II)Z"⟩, 3), (⟨"FinderBook$FinderReader", "readOrder", "(LFinderBook$Finder;II)Z"⟩, 3), (⟨"FinderBook", "isFinder", "(I)Z"⟩, 12), (⟨"FinderBook", "enter", "(IJ)Z"⟩, 12), (⟨"FinderBook$Finding", "insert", "(LFinderBook$Entity;LFinderBook$Finder;)V"⟩, 2), (⟨"FinderBook", "deleteFinding", "()I"⟩, 12), (⟨"FinderBook", "keepFinding", "(Z)I"⟩, 12), (⟨"FinderBookModel", "isPath", "()Z"⟩, 40)]
theorem lw_r1 : ∀ q ∈ lw_privs_1, lw_okq q := List.forall_mem_cons.mpr ⟨lw_p0, List.forall_mem_cons.mpr ⟨lw_p1, List.forall_mem_cons.mpr ⟨lw_p2, List.forall_mem_cons.mpr ⟨lw_p3, List.forall_mem_cons.mpr ⟨lw_p4, List.forall_mem_cons.mpr ⟨lw_p5, List.forall_mem_cons.mpr ⟨lw_p6, List.forall_mem_cons.mpr ⟨lw_p7, List.forall_mem_cons.mpr ⟨lw_p8, List.forall_mem_cons.mpr ⟨lw_p9, List.forall_mem_cons.mpr ⟨lw_p10, List.forall_mem_cons.mpr ⟨lw_p11, List.forall_mem_cons.mpr ⟨lw_p12, List.forall_mem_cons.mpr ⟨lw_p13, List.forall_mem_cons.mpr ⟨lw_p14, List.forall_mem_cons.mpr ⟨lw_p15, fun _ h => absurd h List.not_mem_nil⟩⟩⟩⟩⟩⟩⟩⟩⟩⟩⟩⟩⟩⟩⟩⟩
theorem lw_p16 : lw_okq (⟨"FinderBookModel", "clashes", "(I)Z"⟩, 40) := ⟨⟨by decide +kernel, by decide +kernel⟩, List.mem_of_getElem? (i := 624) (by decide +kernel), List.mem_of_getElem? (i := 776) (by decide +kernel), List.mem_of_getElem? (i := 777) (by decide +kernel)⟩
theorem lw_p17 : lw_okq (⟨"FinderBookModel", "leafOf", "(II)I"⟩, 40) := ⟨⟨by decide +kernel, by decide +kernel⟩, List.mem_of_getElem? (i := 624) (by decide +kernel), List.mem_of_getElem? (i := 784) (by decide +kernel), List.mem_of_getElem? (i := 785) (by decide +kernel)⟩
theorem lw_p18 : lw_okq (⟨"FinderBookModel", "spells", "(III)Z"⟩, 40) := ⟨⟨by decide +kernel, by decide +kernel⟩, List.mem_of_getElem? (i := 624) (by decide +kernel), List.mem_of_getElem? (i := 788) (by decide +kernel), List.mem_of_getElem? (i := 789) (by decide +kernel)⟩
theorem lw_p19 : lw_okq (⟨"FinderBookModel", "at", "(I)I"⟩, 40) := ⟨⟨by decide +kernel, by decide +kernel⟩, List.mem_of_getElem? (i := 624) (by decide +kernel), List.mem_of_getElem? (i := 792) (by decide +kernel), List.mem_of_getElem? (i := 793) (by decide +kernel)⟩
theorem lw_p20 : lw_okq (⟨"FinderBookModel", "nameLength", "(II)I"⟩, 40) := ⟨⟨by decide +kernel, by decide +kernel⟩, List.mem_of_getElem? (i := 624) (by decide +kernel), List.mem_of_getElem? (i := 796) (by decide +kernel), List.mem_of_getElem? (i := 797) (by decide +kernel)⟩
theorem lw_p21 : lw_okq (⟨"FinderBookModel", "subjectOf", "()I"⟩, 40) := ⟨⟨by decide +kernel, by decide +kernel⟩, List.mem_of_getElem? (i := 624) (by decide +kernel), List.mem_of_getElem? (i := 804) (by decide +kernel), List.mem_of_getElem? (i := 805) (by decide +kernel)⟩
theorem lw_p22 : lw_okq (⟨"FinderBookModel", "stands", "(IIJ)Z"⟩, 40) := ⟨⟨by decide +kernel, by decide +kernel⟩, List.mem_of_getElem? (i := 624) (by decide +kernel), List.mem_of_getElem? (i := 809) (by decide +kernel), List.mem_of_getElem? (i := 810) (by decide +kernel)⟩
theorem lw_p23 : lw_okq (⟨"FinderBookModel", "before", "(IIJ)I"⟩, 40) := ⟨⟨by decide +kernel, by decide +kernel⟩, List.mem_of_getElem? (i := 624) (by decide +kernel), List.mem_of_getElem? (i := 816) (by decide +kernel), List.mem_of_getElem? (i := 817) (by decide +kernel)⟩
theorem lw_p24 : lw_okq (⟨"FinderBookModel", "readRest", "(I)V"⟩, 40) := ⟨⟨by decide +kernel, by decide +kernel⟩, List.mem_of_getElem? (i := 624) (by decide +kernel), List.mem_of_getElem? (i := 827) (by decide +kernel), List.mem_of_getElem? (i := 828) (by decide +kernel)⟩
theorem lw_p25 : lw_okq (⟨"FinderBookModel", "takeCondition", "(II)V"⟩, 40) := ⟨⟨by decide +kernel, by decide +kernel⟩, List.mem_of_getElem? (i := 624) (by decide +kernel), List.mem_of_getElem? (i := 832) (by decide +kernel), List.mem_of_getElem? (i := 833) (by decide +kernel)⟩
theorem lw_p26 : lw_okq (⟨"FinderBookModel", "takeAlternative", "(II)V"⟩, 40) := ⟨⟨by decide +kernel, by decide +kernel⟩, List.mem_of_getElem? (i := 624) (by decide +kernel), List.mem_of_getElem? (i := 837) (by decide +kernel), List.mem_of_getElem? (i := 838) (by decide +kernel)⟩
theorem lw_p27 : lw_okq (⟨"FinderBookModel", "takePart", "(II)V"⟩, 40) := ⟨⟨by decide +kernel, by decide +kernel⟩, List.mem_of_getElem? (i := 624) (by decide +kernel), List.mem_of_getElem? (i := 842) (by decide +kernel), List.mem_of_getElem? (i := 843) (by decide +kernel)⟩
theorem lw_p28 : lw_okq (⟨"FinderBookModel", "readPart", "(II)I"⟩, 40) := ⟨⟨by decide +kernel, by decide +kernel⟩, List.mem_of_getElem? (i := 624) (by decide +kernel), List.mem_of_getElem? (i := 846) (by decide +kernel), List.mem_of_getElem? (i := 847) (by decide +kernel)⟩
theorem lw_p29 : lw_okq (⟨"FinderBookModel", "keywordStart", "(III)I"⟩, 40) := ⟨⟨by decide +kernel, by decide +kernel⟩, List.mem_of_getElem? (i := 624) (by decide +kernel), List.mem_of_getElem? (i := 850) (by decide +kernel), List.mem_of_getElem? (i := 851) (by decide +kernel)⟩
theorem lw_p30 : lw_okq (⟨"FinderBookModel", "takeOrders", "(II)V"⟩, 40) := ⟨⟨by decide +kernel, by decide +kernel⟩, List.mem_of_getElem? (i := 624) (by decide +kernel), List.mem_of_getElem? (i := 865) (by decide +kernel), List.mem_of_getElem? (i := 866) (by decide +kernel)⟩
theorem lw_p31 : lw_okq (⟨"FinderBookModel", "takeOrder", "(II)V"⟩, 40) := ⟨⟨by decide +kernel, by decide +kernel⟩, List.mem_of_getElem? (i := 624) (by decide +kernel), List.mem_of_getElem? (i := 871) (by decide +kernel), List.mem_of_getElem? (i := 872) (by decide +kernel)⟩
def lw_privs_2 : List (MethodName × Nat) := [(⟨"FinderBookModel", "clashes", "(I)Z"⟩, 40), (⟨"FinderBookModel", "leafOf", "(II)I"⟩, 40), (⟨"FinderBookModel", "spells", "(III)Z"⟩, 40), (⟨"FinderBookModel", "at", "(I)I"⟩, 40), (⟨"FinderBookModel", "nameLength", "(II)I"⟩, 40), (⟨"FinderBookModel", "subjectOf", "()I"⟩, 40), (⟨"FinderBookModel", "stands", "(IIJ)Z"⟩, 40), (⟨"FinderBookModel", "before", "(IIJ)I"⟩, 40), (⟨"FinderBookModel", "readRest", "(I)V"⟩, 40), (⟨"FinderBookModel", "takeCondition", "(II)V"⟩, 40), (⟨"FinderBookModel", "takeAlternative", "(II)V"⟩, 40), (⟨"FinderBookModel", "takePart", "(II)V"⟩, 40), (⟨"FinderBookModel", "readPart", "(II)I"⟩, 40), (⟨"FinderBookModel", "keywordStart", "(III)I"⟩, 40), (⟨"FinderBookModel", "takeOrders", "(II)V"⟩, 40), (⟨"FinderBookModel", "takeOrder", "(II)V"⟩, 40)]
theorem lw_r2 : ∀ q ∈ lw_privs_2, lw_okq q := List.forall_mem_cons.mpr ⟨lw_p16, List.forall_mem_cons.mpr ⟨lw_p17, List.forall_mem_cons.mpr ⟨lw_p18, List.forall_mem_cons.mpr ⟨lw_p19, List.forall_mem_cons.mpr ⟨lw_p20, List.forall_mem_cons.mpr ⟨lw_p21, List.forall_mem_cons.mpr ⟨lw_p22, List.forall_mem_cons.mpr ⟨lw_p23, List.forall_mem_cons.mpr ⟨lw_p24, List.forall_mem_cons.mpr ⟨lw_p25, List.forall_mem_cons.mpr ⟨lw_p26, List.forall_mem_cons.mpr ⟨lw_p27, List.forall_mem_cons.mpr ⟨lw_p28, List.forall_mem_cons.mpr ⟨lw_p29, List.forall_mem_cons.mpr ⟨lw_p30, List.forall_mem_cons.mpr ⟨lw_p31, fun _ h => absurd h List.not_mem_nil⟩⟩⟩⟩⟩⟩⟩⟩⟩⟩⟩⟩⟩⟩⟩⟩
theorem lw_p32 : lw_okq (⟨"FinderBookModel", "keepFinder", "(IIZ)V"⟩, 40) := ⟨⟨by decide +kernel, by decide +kernel⟩, List.mem_of_getElem? (i := 624) (by decide +kernel), List.mem_of_getElem? (i := 875) (by decide +kernel), List.mem_of_getElem? (i := 876) (by decide +kernel)⟩
theorem lw_p33 : lw_okq (⟨"FinderBookModel", "takesAll", "(I)I"⟩, 40) := ⟨⟨by decide +kernel, by decide +kernel⟩, List.mem_of_getElem? (i := 624) (by decide +kernel), List.mem_of_getElem? (i := 883) (by decide +kernel), List.mem_of_getElem? (i := 884) (by decide +kernel)⟩
theorem lw_p34 : lw_okq (⟨"FinderBookModel", "isLeaf", "(I)Z"⟩, 40) := ⟨⟨by decide +kernel, by decide +kernel⟩, List.mem_of_getElem? (i := 624) (by decide +kernel), List.mem_of_getElem? (i := 898) (by decide +kernel), List.mem_of_getElem? (i := 899) (by decide +kernel)⟩
theorem lw_p35 : lw_okq (⟨"FinderBookModel", "place", "(I)I"⟩, 40) := ⟨⟨by decide +kernel, by decide +kernel⟩, List.mem_of_getElem? (i := 624) (by decide +kernel), List.mem_of_getElem? (i := 910) (by decide +kernel), List.mem_of_getElem? (i := 911) (by decide +kernel)⟩
theorem lw_p36 : lw_okq (⟨"FinderBookModel", "removeAt", "(I)V"⟩, 40) := ⟨⟨by decide +kernel, by decide +kernel⟩, List.mem_of_getElem? (i := 624) (by decide +kernel), List.mem_of_getElem? (i := 918) (by decide +kernel), List.mem_of_getElem? (i := 919) (by decide +kernel)⟩
theorem lw_p37 : lw_okq (⟨"FinderBookModel", "fits", "(II)Z"⟩, 40) := ⟨⟨by decide +kernel, by decide +kernel⟩, List.mem_of_getElem? (i := 624) (by decide +kernel), List.mem_of_getElem? (i := 930) (by decide +kernel), List.mem_of_getElem? (i := 931) (by decide +kernel)⟩
theorem lw_p38 : lw_okq (⟨"FinderBookModel", "holds", "(IIII)Z"⟩, 40) := ⟨⟨by decide +kernel, by decide +kernel⟩, List.mem_of_getElem? (i := 624) (by decide +kernel), List.mem_of_getElem? (i := 934) (by decide +kernel), List.mem_of_getElem? (i := 935) (by decide +kernel)⟩
theorem lw_p39 : lw_okq (⟨"FinderBookModel", "rank", "(II)I"⟩, 40) := ⟨⟨by decide +kernel, by decide +kernel⟩, List.mem_of_getElem? (i := 624) (by decide +kernel), List.mem_of_getElem? (i := 938) (by decide +kernel), List.mem_of_getElem? (i := 939) (by decide +kernel)⟩
theorem lw_p40 : lw_okq (⟨"FinderBookModel", "compare", "(III)I"⟩, 40) := ⟨⟨by decide +kernel, by decide +kernel⟩, List.mem_of_getElem? (i := 624) (by decide +kernel), List.mem_of_getElem? (i := 942) (by decide +kernel), List.mem_of_getElem? (i := 943) (by decide +kernel)⟩
def lw_privs_3 : List (MethodName × Nat) := [(⟨"FinderBookModel", "keepFinder", "(IIZ)V"⟩, 40), (⟨"FinderBookModel", "takesAll", "(I)I"⟩, 40), (⟨"FinderBookModel", "isLeaf", "(I)Z"⟩, 40), (⟨"FinderBookModel", "place", "(I)I"⟩, 40), (⟨"FinderBookModel", "removeAt", "(I)V"⟩, 40), (⟨"FinderBookModel", "fits", "(II)Z"⟩, 40), (⟨"FinderBookModel", "holds", "(IIII)Z"⟩, 40), (⟨"FinderBookModel", "rank", "(II)I"⟩, 40), (⟨"FinderBookModel", "compare", "(III)I"⟩, 40)]
theorem lw_r3 : ∀ q ∈ lw_privs_3, lw_okq q := List.forall_mem_cons.mpr ⟨lw_p32, List.forall_mem_cons.mpr ⟨lw_p33, List.forall_mem_cons.mpr ⟨lw_p34, List.forall_mem_cons.mpr ⟨lw_p35, List.forall_mem_cons.mpr ⟨lw_p36, List.forall_mem_cons.mpr ⟨lw_p37, List.forall_mem_cons.mpr ⟨lw_p38, List.forall_mem_cons.mpr ⟨lw_p39, List.forall_mem_cons.mpr ⟨lw_p40, fun _ h => absurd h List.not_mem_nil⟩⟩⟩⟩⟩⟩⟩⟩⟩
def lw_privs : List (MethodName × Nat) := lw_privs_1 ++ (lw_privs_2 ++ (lw_privs_3))
def lw_tbl : List Cond := k2_sels lw_privs ++ tables_1
theorem lw_privs_ok : ∀ q ∈ lw_privs, lw_okq q := by
  show ∀ q ∈ lw_privs_1 ++ (lw_privs_2 ++ (lw_privs_3)), lw_okq q
  exact List.forall_mem_append.mpr ⟨lw_r1, List.forall_mem_append.mpr ⟨lw_r2, lw_r3⟩⟩

def RX0 : String := "FinderBook$Draft"
def TX0 : u_T := fun k => match k with
  | 0 => ("FinderBook$Draft", "characters", "[C", true)
  | _ => ("FinderBook$Draft", "length", "I", false)
def tyX0 : Nat → FieldType := fun k => match k with
  | 0 => .array .char
  | _ => .int
theorem nmX0 : ∀ a, a < 2 → ∀ b, b < 2 → a ≠ b → (TX0 a).2.1 ≠ (TX0 b).2.1 := by decide +kernel
theorem tyX0_ok : ∀ k, k < 2 → parseFieldDescriptor (TX0 k).2.2.1 = some (tyX0 k) := by decide +kernel
def RX1 : String := "FinderBook$Entity"
def TX1 : u_T := fun k => match k with
  | 0 => ("FinderBook$Entity", "id", "I", false)
  | _ => ("FinderBook$Entity", "values", "[J", true)
def tyX1 : Nat → FieldType := fun k => match k with
  | 0 => .int
  | _ => .array .long
theorem nmX1 : ∀ a, a < 2 → ∀ b, b < 2 → a ≠ b → (TX1 a).2.1 ≠ (TX1 b).2.1 := by decide +kernel
theorem tyX1_ok : ∀ k, k < 2 → parseFieldDescriptor (TX1 k).2.2.1 = some (tyX1 k) := by decide +kernel
def RX2 : String := "FinderBook$Finder"
def TX2 : u_T := fun k => match k with
  | 0 => ("FinderBook$Finder", "subject", "I", false)
  | 1 => ("FinderBook$Finder", "limit", "I", false)
  | 2 => ("FinderBook$Finder", "single", "Z", false)
  | 3 => ("FinderBook$Finder", "alternatives", "I", false)
  | 4 => ("FinderBook$Finder", "parts", "I", false)
  | 5 => ("FinderBook$Finder", "argumentsTaken", "I", false)
  | 6 => ("FinderBook$Finder", "orders", "I", false)
  | 7 => ("FinderBook$Finder", "partLeaf", "[I", true)
  | 8 => ("FinderBook$Finder", "partKeyword", "[I", true)
  | 9 => ("FinderBook$Finder", "partAlternative", "[I", true)
  | 10 => ("FinderBook$Finder", "orderLeaf", "[I", true)
  | _ => ("FinderBook$Finder", "orderDescends", "[Z", true)
def tyX2 : Nat → FieldType := fun k => match k with
  | 0 => .int
  | 1 => .int
  | 2 => .boolean
  | 3 => .int
  | 4 => .int
  | 5 => .int
  | 6 => .int
  | 7 => .array .int
  | 8 => .array .int
  | 9 => .array .int
  | 10 => .array .int
  | _ => .array .boolean
theorem nmX2 : ∀ a, a < 12 → ∀ b, b < 12 → a ≠ b → (TX2 a).2.1 ≠ (TX2 b).2.1 := by decide +kernel
theorem tyX2_ok : ∀ k, k < 12 → parseFieldDescriptor (TX2 k).2.2.1 = some (tyX2 k) := by decide +kernel
def RX3 : String := "FinderBook$FinderReader"
def TX3 : u_T := fun k => match k with
  | 0 => ("FinderBook$FinderReader", "draft", "LFinderBook$Draft;", true)
  | 1 => ("FinderBook$FinderReader", "leaves", "LFinderBook$LeafList;", true)
  | _ => ("FinderBook$FinderReader", "place", "I", false)
def tyX3 : Nat → FieldType := fun k => match k with
  | 0 => .object "FinderBook$Draft"
  | 1 => .object "FinderBook$LeafList"
  | _ => .int
theorem nmX3 : ∀ a, a < 3 → ∀ b, b < 3 → a ≠ b → (TX3 a).2.1 ≠ (TX3 b).2.1 := by decide +kernel
theorem tyX3_ok : ∀ k, k < 3 → parseFieldDescriptor (TX3 k).2.2.1 = some (tyX3 k) := by decide +kernel
def RX4 : String := "FinderBook$Finding"
def TX4 : u_T := fun k => match k with
  | 0 => ("FinderBook$Finding", "entities", "[LFinderBook$Entity;", true)
  | _ => ("FinderBook$Finding", "count", "I", false)
def tyX4 : Nat → FieldType := fun k => match k with
  | 0 => .array (.object "FinderBook$Entity")
  | _ => .int
theorem nmX4 : ∀ a, a < 2 → ∀ b, b < 2 → a ≠ b → (TX4 a).2.1 ≠ (TX4 b).2.1 := by decide +kernel
theorem tyX4_ok : ∀ k, k < 2 → parseFieldDescriptor (TX4 k).2.2.1 = some (tyX4 k) := by decide +kernel
def RX5 : String := "FinderBook$Leaf"
def TX5 : u_T := fun k => match k with
  | 0 => ("FinderBook$Leaf", "path", "[C", true)
  | 1 => ("FinderBook$Leaf", "length", "I", false)
  | 2 => ("FinderBook$Leaf", "firstName", "I", false)
  | _ => ("FinderBook$Leaf", "secondName", "I", false)
def tyX5 : Nat → FieldType := fun k => match k with
  | 0 => .array .char
  | 1 => .int
  | 2 => .int
  | _ => .int
theorem nmX5 : ∀ a, a < 4 → ∀ b, b < 4 → a ≠ b → (TX5 a).2.1 ≠ (TX5 b).2.1 := by decide +kernel
theorem tyX5_ok : ∀ k, k < 4 → parseFieldDescriptor (TX5 k).2.2.1 = some (tyX5 k) := by decide +kernel
def RX6 : String := "FinderBook$LeafList"
def TX6 : u_T := fun k => match k with
  | 0 => ("FinderBook$LeafList", "leaves", "[LFinderBook$Leaf;", true)
  | _ => ("FinderBook$LeafList", "count", "I", false)
def tyX6 : Nat → FieldType := fun k => match k with
  | 0 => .array (.object "FinderBook$Leaf")
  | _ => .int
theorem nmX6 : ∀ a, a < 2 → ∀ b, b < 2 → a ≠ b → (TX6 a).2.1 ≠ (TX6 b).2.1 := by decide +kernel
theorem tyX6_ok : ∀ k, k < 2 → parseFieldDescriptor (TX6 k).2.2.1 = some (tyX6 k) := by decide +kernel
def RX7 : String := "FinderBook$Store"
def TX7 : u_T := fun k => match k with
  | 0 => ("FinderBook$Store", "rows", "[LFinderBook$Entity;", true)
  | _ => ("FinderBook$Store", "count", "I", false)
def tyX7 : Nat → FieldType := fun k => match k with
  | 0 => .array (.object "FinderBook$Entity")
  | _ => .int
theorem nmX7 : ∀ a, a < 2 → ∀ b, b < 2 → a ≠ b → (TX7 a).2.1 ≠ (TX7 b).2.1 := by decide +kernel
theorem tyX7_ok : ∀ k, k < 2 → parseFieldDescriptor (TX7 k).2.2.1 = some (tyX7 k) := by decide +kernel
def RX8 : String := "FinderBook"
def TX8 : u_T := fun k => match k with
  | 0 => ("FinderBook", "draft", "LFinderBook$Draft;", true)
  | 1 => ("FinderBook", "leaves", "LFinderBook$LeafList;", true)
  | 2 => ("FinderBook", "reader", "LFinderBook$FinderReader;", true)
  | 3 => ("FinderBook", "finders", "[LFinderBook$Finder;", true)
  | 4 => ("FinderBook", "finderCount", "I", false)
  | 5 => ("FinderBook", "store", "LFinderBook$Store;", true)
  | 6 => ("FinderBook", "form", "[J", true)
  | 7 => ("FinderBook", "arguments", "[I", true)
  | 8 => ("FinderBook", "argumentCount", "I", false)
  | 9 => ("FinderBook", "finding", "LFinderBook$Finding;", true)
  | 10 => ("FinderBook", "resultIds", "[I", true)
  | _ => ("FinderBook", "resultCount", "I", false)
def tyX8 : Nat → FieldType := fun k => match k with
  | 0 => .object "FinderBook$Draft"
  | 1 => .object "FinderBook$LeafList"
  | 2 => .object "FinderBook$FinderReader"
  | 3 => .array (.object "FinderBook$Finder")
  | 4 => .int
  | 5 => .object "FinderBook$Store"
  | 6 => .array .long
  | 7 => .array .int
  | 8 => .int
  | 9 => .object "FinderBook$Finding"
  | 10 => .array .int
  | _ => .int
theorem nmX8 : ∀ a, a < 12 → ∀ b, b < 12 → a ≠ b → (TX8 a).2.1 ≠ (TX8 b).2.1 := by decide +kernel
theorem tyX8_ok : ∀ k, k < 12 → parseFieldDescriptor (TX8 k).2.2.1 = some (tyX8 k) := by decide +kernel
def RX9 : String := "FinderBookModel"
def TX9 : u_T := fun k => match k with
  | 0 => ("FinderBookModel", "text", "[I", true)
  | 1 => ("FinderBookModel", "length", "I", false)
  | 2 => ("FinderBookModel", "path", "[I", true)
  | 3 => ("FinderBookModel", "pathLength", "[I", true)
  | 4 => ("FinderBookModel", "leaves", "I", false)
  | 5 => ("FinderBookModel", "finders", "I", false)
  | 6 => ("FinderBookModel", "subjects", "[I", true)
  | 7 => ("FinderBookModel", "limits", "[I", true)
  | 8 => ("FinderBookModel", "singles", "[Z", true)
  | 9 => ("FinderBookModel", "alternatives", "[I", true)
  | 10 => ("FinderBookModel", "parts", "[I", true)
  | 11 => ("FinderBookModel", "orders", "[I", true)
  | 12 => ("FinderBookModel", "partLeaf", "[I", true)
  | 13 => ("FinderBookModel", "partWord", "[I", true)
  | 14 => ("FinderBookModel", "partOf", "[I", true)
  | 15 => ("FinderBookModel", "orderLeaf", "[I", true)
  | 16 => ("FinderBookModel", "orderDown", "[Z", true)
  | 17 => ("FinderBookModel", "readAlternatives", "I", false)
  | 18 => ("FinderBookModel", "readParts", "I", false)
  | 19 => ("FinderBookModel", "readOrders", "I", false)
  | 20 => ("FinderBookModel", "badPart", "Z", false)
  | 21 => ("FinderBookModel", "badOrder", "Z", false)
  | 22 => ("FinderBookModel", "readLeaf", "[I", true)
  | 23 => ("FinderBookModel", "readWord", "[I", true)
  | 24 => ("FinderBookModel", "readOf", "[I", true)
  | 25 => ("FinderBookModel", "readOrder", "[I", true)
  | 26 => ("FinderBookModel", "readDown", "[Z", true)
  | 27 => ("FinderBookModel", "word", "I", false)
  | 28 => ("FinderBookModel", "stored", "I", false)
  | 29 => ("FinderBookModel", "ids", "[I", true)
  | 30 => ("FinderBookModel", "values", "[I", true)
  | 31 => ("FinderBookModel", "full", "[Z", true)
  | 32 => ("FinderBookModel", "form", "[I", true)
  | 33 => ("FinderBookModel", "formFull", "[Z", true)
  | 34 => ("FinderBookModel", "given", "[I", true)
  | 35 => ("FinderBookModel", "givens", "I", false)
  | 36 => ("FinderBookModel", "found", "[I", true)
  | 37 => ("FinderBookModel", "founds", "I", false)
  | 38 => ("FinderBookModel", "fit", "[Z", true)
  | _ => ("FinderBookModel", "taken", "[Z", true)
def tyX9 : Nat → FieldType := fun k => match k with
  | 0 => .array .int
  | 1 => .int
  | 2 => .array .int
  | 3 => .array .int
  | 4 => .int
  | 5 => .int
  | 6 => .array .int
  | 7 => .array .int
  | 8 => .array .boolean
  | 9 => .array .int
  | 10 => .array .int
  | 11 => .array .int
  | 12 => .array .int
  | 13 => .array .int
  | 14 => .array .int
  | 15 => .array .int
  | 16 => .array .boolean
  | 17 => .int
  | 18 => .int
  | 19 => .int
  | 20 => .boolean
  | 21 => .boolean
  | 22 => .array .int
  | 23 => .array .int
  | 24 => .array .int
  | 25 => .array .int
  | 26 => .array .boolean
  | 27 => .int
  | 28 => .int
  | 29 => .array .int
  | 30 => .array .int
  | 31 => .array .boolean
  | 32 => .array .int
  | 33 => .array .boolean
  | 34 => .array .int
  | 35 => .int
  | 36 => .array .int
  | 37 => .int
  | 38 => .array .boolean
  | _ => .array .boolean
theorem nmX9 : ∀ a, a < 40 → ∀ b, b < 40 → a ≠ b → (TX9 a).2.1 ≠ (TX9 b).2.1 := by decide +kernel
theorem tyX9_ok : ∀ k, k < 40 → parseFieldDescriptor (TX9 k).2.2.1 = some (tyX9 k) := by decide +kernel
def RX10 : String := "FinderBook$Keyword"
def RXL : String := "FinderBookLaw"
abbrev vwCl : List vw_C := [(RX0, TX0, 2), (RX1, TX1, 2), (RX2, TX2, 12), (RX3, TX3, 3), (RX4, TX4, 2), (RX5, TX5, 4), (RX6, TX6, 2), (RX7, TX7, 2), (RX8, TX8, 12), (RX9, TX9, 40)]
abbrev cX0_init : ByteArray := prog_2_method_1_code
def yX0_init : MethodName := ⟨RX0, "<init>", "()V"⟩
abbrev cX0_append : ByteArray := prog_2_method_2_code
def yX0_append : MethodName := ⟨RX0, "append", "(C)Z"⟩
abbrev cX0_clear : ByteArray := prog_2_method_3_code
def yX0_clear : MethodName := ⟨RX0, "clear", "()V"⟩
abbrev cX0_length : ByteArray := prog_2_method_4_code
def yX0_length : MethodName := ⟨RX0, "length", "()I"⟩
abbrev cX0_at : ByteArray := prog_2_method_5_code
def yX0_at : MethodName := ⟨RX0, "at", "(I)C"⟩
abbrev cX0_isPath : ByteArray := prog_2_method_6_code
def yX0_isPath : MethodName := ⟨RX0, "isPath", "()Z"⟩
abbrev cX0_startsWith : ByteArray := prog_2_method_7_code
def yX0_startsWith : MethodName := ⟨RX0, "startsWith", "(Ljava/lang/String;II)Z"⟩
abbrev cX0_endsWith : ByteArray := prog_2_method_8_code
def yX0_endsWith : MethodName := ⟨RX0, "endsWith", "(Ljava/lang/String;II)Z"⟩
abbrev cX0_placeOf : ByteArray := prog_2_method_9_code
def yX0_placeOf : MethodName := ⟨RX0, "placeOf", "(Ljava/lang/String;II)I"⟩
abbrev cX0_isCutAt : ByteArray := prog_2_method_10_code
def yX0_isCutAt : MethodName := ⟨RX0, "isCutAt", "(Ljava/lang/String;II)Z"⟩
abbrev cX1_init : ByteArray := prog_3_method_1_code
def yX1_init : MethodName := ⟨RX1, "<init>", "()V"⟩
abbrev cX1_sortKey : ByteArray := prog_3_method_2_code
def yX1_sortKey : MethodName := ⟨RX1, "sortKey", "(I)J"⟩
abbrev cX2_init : ByteArray := prog_4_method_1_code
def yX2_init : MethodName := ⟨RX2, "<init>", "()V"⟩
abbrev cX2_clear : ByteArray := prog_4_method_2_code
def yX2_clear : MethodName := ⟨RX2, "clear", "()V"⟩
abbrev cX2_addPart : ByteArray := prog_4_method_3_code
def yX2_addPart : MethodName := ⟨RX2, "addPart", "(II)V"⟩
abbrev cX2_addOrder : ByteArray := prog_4_method_4_code
def yX2_addOrder : MethodName := ⟨RX2, "addOrder", "(IZ)V"⟩
abbrev cX2_isTooLong : ByteArray := prog_4_method_5_code
def yX2_isTooLong : MethodName := ⟨RX2, "isTooLong", "()Z"⟩
abbrev cX2_measure : ByteArray := prog_4_method_6_code
def yX2_measure : MethodName := ⟨RX2, "measure", "(I)I"⟩
abbrev cX2_partCode : ByteArray := prog_4_method_7_code
def yX2_partCode : MethodName := ⟨RX2, "partCode", "(I)I"⟩
abbrev cX2_fits : ByteArray := prog_4_method_8_code
def yX2_fits : MethodName := ⟨RX2, "fits", "(LFinderBook$Entity;[I)Z"⟩
abbrev cX2_argumentAt : ByteArray := prog_4_method_9_code
def yX2_argumentAt : MethodName := ⟨RX2, "argumentAt", "([II)I"⟩
abbrev cX2_putsBefore : ByteArray := prog_4_method_10_code
def yX2_putsBefore : MethodName := ⟨RX2, "putsBefore", "(LFinderBook$Entity;LFinderBook$Entity;)Z"⟩
abbrev cX3_init : ByteArray := prog_5_method_1_code
def yX3_init : MethodName := ⟨RX3, "<init>", "(LFinderBook$Draft;LFinderBook$LeafList;)V"⟩
abbrev cX3_read : ByteArray := prog_5_method_2_code
def yX3_read : MethodName := ⟨RX3, "read", "(LFinderBook$Finder;)I"⟩
abbrev cX3_skip : ByteArray := prog_5_method_3_code
def yX3_skip : MethodName := ⟨RX3, "skip", "(Ljava/lang/String;)Z"⟩
abbrev cX3_readSubject : ByteArray := prog_5_method_4_code
def yX3_readSubject : MethodName := ⟨RX3, "readSubject", "(LFinderBook$Finder;)Z"⟩
abbrev cX3_subjectWord : ByteArray := prog_5_method_5_code
def yX3_subjectWord : MethodName := ⟨RX3, "subjectWord", "(I)Ljava/lang/String;"⟩
abbrev cX3_readLimit : ByteArray := prog_5_method_6_code
def yX3_readLimit : MethodName := ⟨RX3, "readLimit", "(LFinderBook$Finder;)Z"⟩
abbrev cX3_readCondition : ByteArray := prog_5_method_7_code
def yX3_readCondition : MethodName := ⟨RX3, "readCondition", "(LFinderBook$Finder;II)Z"⟩
abbrev cX3_readAlternative : ByteArray := prog_5_method_8_code
def yX3_readAlternative : MethodName := ⟨RX3, "readAlternative", "(LFinderBook$Finder;II)Z"⟩
abbrev cX3_readPart : ByteArray := prog_5_method_9_code
def yX3_readPart : MethodName := ⟨RX3, "readPart", "(LFinderBook$Finder;II)Z"⟩
abbrev cX3_readOrders : ByteArray := prog_5_method_10_code
def yX3_readOrders : MethodName := ⟨RX3, "readOrders", "(LFinderBook$Finder;II)Z"⟩
abbrev cX3_endsWithDirection : ByteArray := prog_5_method_11_code
def yX3_endsWithDirection : MethodName := ⟨RX3, "endsWithDirection", "(II)Z"⟩
abbrev cX3_readOrder : ByteArray := prog_5_method_12_code
def yX3_readOrder : MethodName := ⟨RX3, "readOrder", "(LFinderBook$Finder;II)Z"⟩
abbrev cX4_init : ByteArray := prog_6_method_1_code
def yX4_init : MethodName := ⟨RX4, "<init>", "()V"⟩
abbrev cX4_gather : ByteArray := prog_6_method_2_code
def yX4_gather : MethodName := ⟨RX4, "gather", "(LFinderBook$Store;LFinderBook$Finder;[I)V"⟩
abbrev cX4_insert : ByteArray := prog_6_method_3_code
def yX4_insert : MethodName := ⟨RX4, "insert", "(LFinderBook$Entity;LFinderBook$Finder;)V"⟩
abbrev cX10_word : ByteArray := prog_7_method_2_code
def yX10_word : MethodName := ⟨RX10, "word", "(I)Ljava/lang/String;"⟩
abbrev cX10_numberOf : ByteArray := prog_7_method_3_code
def yX10_numberOf : MethodName := ⟨RX10, "numberOf", "(LFinderBook$Draft;II)I"⟩
abbrev cX10_argumentsTaken : ByteArray := prog_7_method_4_code
def yX10_argumentsTaken : MethodName := ⟨RX10, "argumentsTaken", "(I)I"⟩
abbrev cX10_holds : ByteArray := prog_7_method_5_code
def yX10_holds : MethodName := ⟨RX10, "holds", "(IJII)Z"⟩
abbrev cX5_init : ByteArray := prog_8_method_1_code
def yX5_init : MethodName := ⟨RX5, "<init>", "()V"⟩
abbrev cX5_setPath : ByteArray := prog_8_method_2_code
def yX5_setPath : MethodName := ⟨RX5, "setPath", "(LFinderBook$Draft;)V"⟩
abbrev cX5_nameLength : ByteArray := prog_8_method_3_code
def yX5_nameLength : MethodName := ⟨RX5, "nameLength", "(I)I"⟩
abbrev cX5_clashesWith : ByteArray := prog_8_method_4_code
def yX5_clashesWith : MethodName := ⟨RX5, "clashesWith", "(LFinderBook$Draft;)Z"⟩
abbrev cX5_isSpelledBy : ByteArray := prog_8_method_5_code
def yX5_isSpelledBy : MethodName := ⟨RX5, "isSpelledBy", "([CII)Z"⟩
abbrev cX5_goesBefore : ByteArray := prog_8_method_6_code
def yX5_goesBefore : MethodName := ⟨RX5, "goesBefore", "(LFinderBook$Leaf;)Z"⟩
abbrev cX6_init : ByteArray := prog_9_method_1_code
def yX6_init : MethodName := ⟨RX6, "<init>", "()V"⟩
abbrev cX6_has : ByteArray := prog_9_method_2_code
def yX6_has : MethodName := ⟨RX6, "has", "(I)Z"⟩
abbrev cX6_clashWith : ByteArray := prog_9_method_3_code
def yX6_clashWith : MethodName := ⟨RX6, "clashWith", "(LFinderBook$Draft;)Z"⟩
abbrev cX6_add : ByteArray := prog_9_method_4_code
def yX6_add : MethodName := ⟨RX6, "add", "(LFinderBook$Draft;)I"⟩
abbrev cX6_named : ByteArray := prog_9_method_5_code
def yX6_named : MethodName := ⟨RX6, "named", "(LFinderBook$Draft;II)I"⟩
abbrev cX7_init : ByteArray := prog_10_method_1_code
def yX7_init : MethodName := ⟨RX7, "<init>", "()V"⟩
abbrev cX7_count : ByteArray := prog_10_method_2_code
def yX7_count : MethodName := ⟨RX7, "count", "()I"⟩
abbrev cX7_at : ByteArray := prog_10_method_3_code
def yX7_at : MethodName := ⟨RX7, "at", "(I)LFinderBook$Entity;"⟩
abbrev cX7_placeOf : ByteArray := prog_10_method_4_code
def yX7_placeOf : MethodName := ⟨RX7, "placeOf", "(I)I"⟩
abbrev cX7_put : ByteArray := prog_10_method_5_code
def yX7_put : MethodName := ⟨RX7, "put", "(I[J)Z"⟩
abbrev cX7_drop : ByteArray := prog_10_method_6_code
def yX7_drop : MethodName := ⟨RX7, "drop", "(I)Z"⟩
abbrev cX8_init : ByteArray := prog_1_method_1_code
def yX8_init : MethodName := ⟨RX8, "<init>", "()V"⟩
abbrev cX8_type : ByteArray := prog_1_method_2_code
def yX8_type : MethodName := ⟨RX8, "type", "(C)Z"⟩
abbrev cX8_scrap : ByteArray := prog_1_method_3_code
def yX8_scrap : MethodName := ⟨RX8, "scrap", "()V"⟩
abbrev cX8_declare : ByteArray := prog_1_method_4_code
def yX8_declare : MethodName := ⟨RX8, "declare", "()I"⟩
abbrev cX8_names : ByteArray := prog_1_method_5_code
def yX8_names : MethodName := ⟨RX8, "names", "()I"⟩
abbrev cX8_define : ByteArray := prog_1_method_6_code
def yX8_define : MethodName := ⟨RX8, "define", "(Z)I"⟩
abbrev cX8_shape : ByteArray := prog_1_method_7_code
def yX8_shape : MethodName := ⟨RX8, "shape", "(II)I"⟩
abbrev cX8_part : ByteArray := prog_1_method_8_code
def yX8_part : MethodName := ⟨RX8, "part", "(II)I"⟩
abbrev cX8_fill : ByteArray := prog_1_method_9_code
def yX8_fill : MethodName := ⟨RX8, "fill", "(II)Z"⟩
abbrev cX8_blank : ByteArray := prog_1_method_10_code
def yX8_blank : MethodName := ⟨RX8, "blank", "(I)Z"⟩
abbrev cX8_save : ByteArray := prog_1_method_11_code
def yX8_save : MethodName := ⟨RX8, "save", "(I)Z"⟩
abbrev cX8_remove : ByteArray := prog_1_method_12_code
def yX8_remove : MethodName := ⟨RX8, "remove", "(I)Z"⟩
abbrev cX8_arg : ByteArray := prog_1_method_13_code
def yX8_arg : MethodName := ⟨RX8, "arg", "(I)Z"⟩
abbrev cX8_run : ByteArray := prog_1_method_14_code
def yX8_run : MethodName := ⟨RX8, "run", "(I)I"⟩
abbrev cX8_results : ByteArray := prog_1_method_15_code
def yX8_results : MethodName := ⟨RX8, "results", "()I"⟩
abbrev cX8_result : ByteArray := prog_1_method_16_code
def yX8_result : MethodName := ⟨RX8, "result", "(I)I"⟩
abbrev cX8_value : ByteArray := prog_1_method_17_code
def yX8_value : MethodName := ⟨RX8, "value", "(II)J"⟩
abbrev cX8_size : ByteArray := prog_1_method_18_code
def yX8_size : MethodName := ⟨RX8, "size", "()I"⟩
abbrev cX8_isFinder : ByteArray := prog_1_method_19_code
def yX8_isFinder : MethodName := ⟨RX8, "isFinder", "(I)Z"⟩
abbrev cX8_enter : ByteArray := prog_1_method_20_code
def yX8_enter : MethodName := ⟨RX8, "enter", "(IJ)Z"⟩
abbrev cX8_deleteFinding : ByteArray := prog_1_method_21_code
def yX8_deleteFinding : MethodName := ⟨RX8, "deleteFinding", "()I"⟩
abbrev cX8_keepFinding : ByteArray := prog_1_method_22_code
def yX8_keepFinding : MethodName := ⟨RX8, "keepFinding", "(Z)I"⟩
abbrev cX8_isCapital : ByteArray := prog_1_method_23_code
def yX8_isCapital : MethodName := ⟨RX8, "isCapital", "(C)Z"⟩
abbrev cX8_isSmall : ByteArray := prog_1_method_24_code
def yX8_isSmall : MethodName := ⟨RX8, "isSmall", "(C)Z"⟩
abbrev cX8_isFigure : ByteArray := prog_1_method_25_code
def yX8_isFigure : MethodName := ⟨RX8, "isFigure", "(C)Z"⟩
abbrev cX8_isLetterOrFigure : ByteArray := prog_1_method_26_code
def yX8_isLetterOrFigure : MethodName := ⟨RX8, "isLetterOrFigure", "(C)Z"⟩
abbrev cX9_init : ByteArray := prog_12_method_1_code
def yX9_init : MethodName := ⟨RX9, "<init>", "()V"⟩
abbrev cX9_capital : ByteArray := prog_12_method_2_code
def yX9_capital : MethodName := ⟨RX9, "capital", "(I)Z"⟩
abbrev cX9_small : ByteArray := prog_12_method_3_code
def yX9_small : MethodName := ⟨RX9, "small", "(I)Z"⟩
abbrev cX9_figure : ByteArray := prog_12_method_4_code
def yX9_figure : MethodName := ⟨RX9, "figure", "(I)Z"⟩
abbrev cX9_at : ByteArray := prog_12_method_5_code
def yX9_at : MethodName := ⟨RX9, "at", "(I)I"⟩
abbrev cX9_before : ByteArray := prog_12_method_6_code
def yX9_before : MethodName := ⟨RX9, "before", "(IIJ)I"⟩
abbrev cX9_letters : ByteArray := prog_12_method_7_code
def yX9_letters : MethodName := ⟨RX9, "letters", "(J)I"⟩
abbrev cX9_stands : ByteArray := prog_12_method_8_code
def yX9_stands : MethodName := ⟨RX9, "stands", "(IIJ)Z"⟩
abbrev cX9_type : ByteArray := prog_12_method_9_code
def yX9_type : MethodName := ⟨RX9, "type", "(C)Z"⟩
abbrev cX9_scrap : ByteArray := prog_12_method_10_code
def yX9_scrap : MethodName := ⟨RX9, "scrap", "()V"⟩
abbrev cX9_isPath : ByteArray := prog_12_method_11_code
def yX9_isPath : MethodName := ⟨RX9, "isPath", "()Z"⟩
abbrev cX9_clashes : ByteArray := prog_12_method_12_code
def yX9_clashes : MethodName := ⟨RX9, "clashes", "(I)Z"⟩
abbrev cX9_declare : ByteArray := prog_12_method_13_code
def yX9_declare : MethodName := ⟨RX9, "declare", "()I"⟩
abbrev cX9_spells : ByteArray := prog_12_method_14_code
def yX9_spells : MethodName := ⟨RX9, "spells", "(III)Z"⟩
abbrev cX9_nameLength : ByteArray := prog_12_method_15_code
def yX9_nameLength : MethodName := ⟨RX9, "nameLength", "(II)I"⟩
abbrev cX9_leafOf : ByteArray := prog_12_method_16_code
def yX9_leafOf : MethodName := ⟨RX9, "leafOf", "(II)I"⟩
abbrev cX9_names : ByteArray := prog_12_method_17_code
def yX9_names : MethodName := ⟨RX9, "names", "()I"⟩
abbrev cX9_keywordStart : ByteArray := prog_12_method_18_code
def yX9_keywordStart : MethodName := ⟨RX9, "keywordStart", "(III)I"⟩
abbrev cX9_readPart : ByteArray := prog_12_method_19_code
def yX9_readPart : MethodName := ⟨RX9, "readPart", "(II)I"⟩
abbrev cX9_takePart : ByteArray := prog_12_method_20_code
def yX9_takePart : MethodName := ⟨RX9, "takePart", "(II)V"⟩
abbrev cX9_takeAlternative : ByteArray := prog_12_method_21_code
def yX9_takeAlternative : MethodName := ⟨RX9, "takeAlternative", "(II)V"⟩
abbrev cX9_takeCondition : ByteArray := prog_12_method_22_code
def yX9_takeCondition : MethodName := ⟨RX9, "takeCondition", "(II)V"⟩
abbrev cX9_takeOrder : ByteArray := prog_12_method_23_code
def yX9_takeOrder : MethodName := ⟨RX9, "takeOrder", "(II)V"⟩
abbrev cX9_takeOrders : ByteArray := prog_12_method_24_code
def yX9_takeOrders : MethodName := ⟨RX9, "takeOrders", "(II)V"⟩
abbrev cX9_subjectOf : ByteArray := prog_12_method_25_code
def yX9_subjectOf : MethodName := ⟨RX9, "subjectOf", "()I"⟩
abbrev cX9_readRest : ByteArray := prog_12_method_26_code
def yX9_readRest : MethodName := ⟨RX9, "readRest", "(I)V"⟩
abbrev cX9_define : ByteArray := prog_12_method_27_code
def yX9_define : MethodName := ⟨RX9, "define", "(Z)I"⟩
abbrev cX9_keepFinder : ByteArray := prog_12_method_28_code
def yX9_keepFinder : MethodName := ⟨RX9, "keepFinder", "(IIZ)V"⟩
abbrev cX9_takes : ByteArray := prog_12_method_29_code
def yX9_takes : MethodName := ⟨RX9, "takes", "(I)I"⟩
abbrev cX9_takesAll : ByteArray := prog_12_method_30_code
def yX9_takesAll : MethodName := ⟨RX9, "takesAll", "(I)I"⟩
abbrev cX9_shape : ByteArray := prog_12_method_31_code
def yX9_shape : MethodName := ⟨RX9, "shape", "(II)I"⟩
abbrev cX9_part : ByteArray := prog_12_method_32_code
def yX9_part : MethodName := ⟨RX9, "part", "(II)I"⟩
abbrev cX9_isLeaf : ByteArray := prog_12_method_33_code
def yX9_isLeaf : MethodName := ⟨RX9, "isLeaf", "(I)Z"⟩
abbrev cX9_fill : ByteArray := prog_12_method_34_code
def yX9_fill : MethodName := ⟨RX9, "fill", "(II)Z"⟩
abbrev cX9_blank : ByteArray := prog_12_method_35_code
def yX9_blank : MethodName := ⟨RX9, "blank", "(I)Z"⟩
abbrev cX9_place : ByteArray := prog_12_method_36_code
def yX9_place : MethodName := ⟨RX9, "place", "(I)I"⟩
abbrev cX9_save : ByteArray := prog_12_method_37_code
def yX9_save : MethodName := ⟨RX9, "save", "(I)Z"⟩
abbrev cX9_removeAt : ByteArray := prog_12_method_38_code
def yX9_removeAt : MethodName := ⟨RX9, "removeAt", "(I)V"⟩
abbrev cX9_remove : ByteArray := prog_12_method_39_code
def yX9_remove : MethodName := ⟨RX9, "remove", "(I)Z"⟩
abbrev cX9_arg : ByteArray := prog_12_method_40_code
def yX9_arg : MethodName := ⟨RX9, "arg", "(I)Z"⟩
abbrev cX9_holds : ByteArray := prog_12_method_41_code
def yX9_holds : MethodName := ⟨RX9, "holds", "(IIII)Z"⟩
abbrev cX9_fits : ByteArray := prog_12_method_42_code
def yX9_fits : MethodName := ⟨RX9, "fits", "(II)Z"⟩
abbrev cX9_compare : ByteArray := prog_12_method_43_code
def yX9_compare : MethodName := ⟨RX9, "compare", "(III)I"⟩
abbrev cX9_rank : ByteArray := prog_12_method_44_code
def yX9_rank : MethodName := ⟨RX9, "rank", "(II)I"⟩
abbrev cX9_run : ByteArray := prog_12_method_45_code
def yX9_run : MethodName := ⟨RX9, "run", "(I)I"⟩
abbrev cX9_results : ByteArray := prog_12_method_46_code
def yX9_results : MethodName := ⟨RX9, "results", "()I"⟩
abbrev cX9_result : ByteArray := prog_12_method_47_code
def yX9_result : MethodName := ⟨RX9, "result", "(I)I"⟩
abbrev cX9_value : ByteArray := prog_12_method_48_code
def yX9_value : MethodName := ⟨RX9, "value", "(II)J"⟩
abbrev cX9_size : ByteArray := prog_12_method_49_code
def yX9_size : MethodName := ⟨RX9, "size", "()I"⟩
abbrev cJ_length : ByteArray := prog_14_method_54_code
def yJ_length : MethodName := ⟨"java/lang/String", "length", "()I"⟩
abbrev cJ_charAt : ByteArray := prog_14_method_56_code
def yJ_charAt : MethodName := ⟨"java/lang/String", "charAt", "(I)C"⟩
end
section
def fb_NT : Nat := 133
def fb_nT : Nat := 7
def fb_F : Nat := 4000
def fb_ty : Nat → FieldType := fun t => match t with
  | 0 => .int
  | 1 => .char
  | 2 => .boolean
  | 3 => .long
  | 4 => .object RX5
  | 5 => .object RX2
  | _ => .object RX1
def fb_AOs : List String := [RX5, RX2, RX1]
def fb_shL : List (Nat × Nat) := [(8, 12), (0, 2), (101, 80), (6, 2), (104, 8), (5, 4), (101, 38), (5, 4), (101, 38), (5, 4), (101, 38), (5, 4), (101, 38), (5, 4), (101, 38), (5, 4), (101, 38), (5, 4), (101, 38), (5, 4), (101, 38), (3, 3), (105, 9), (2, 12), (100, 6), (100, 6), (100, 6), (100, 3), (102, 3), (2, 12), (100, 6), (100, 6), (100, 6), (100, 3), (102, 3), (2, 12), (100, 6), (100, 6), (100, 6), (100, 3), (102, 3), (2, 12), (100, 6), (100, 6), (100, 6), (100, 3), (102, 3), (2, 12), (100, 6), (100, 6), (100, 6), (100, 3), (102, 3), (2, 12), (100, 6), (100, 6), (100, 6), (100, 3), (102, 3), (2, 12), (100, 6), (100, 6), (100, 6), (100, 3), (102, 3), (2, 12), (100, 6), (100, 6), (100, 6), (100, 3), (102, 3), (2, 12), (100, 6), (100, 6), (100, 6), (100, 3), (102, 3), (7, 2), (106, 10), (1, 2), (103, 8), (1, 2), (103, 8), (1, 2), (103, 8), (1, 2), (103, 8), (1, 2), (103, 8), (1, 2), (103, 8), (1, 2), (103, 8), (1, 2), (103, 8), (1, 2), (103, 8), (1, 2), (103, 8), (103, 8), (100, 12), (4, 2), (106, 10), (100, 10), (9, 40), (100, 80), (100, 320), (100, 8), (100, 8), (100, 8), (102, 8), (100, 8), (100, 8), (100, 8), (100, 48), (100, 48), (100, 48), (100, 24), (102, 24), (100, 6), (100, 6), (100, 6), (100, 3), (102, 3), (100, 10), (100, 80), (102, 80), (100, 8), (102, 8), (100, 12), (100, 10), (102, 10), (102, 10)]
def fb_sh (a : Nat) : Nat × Nat := fb_shL.getD a (999, 0)
def fb_fkL : List (List Nat) := [[2, 0], [0, 2], [0, 0, 0, 0, 0, 0, 0, 2, 2, 2, 2, 2], [2, 2, 0], [2, 0], [2, 0, 0, 0], [2, 0], [2, 0], [2, 2, 2, 2, 0, 2, 2, 2, 0, 2, 2, 0], [2, 0, 2, 2, 0, 0, 2, 2, 2, 2, 2, 2, 2, 2, 2, 2, 2, 0, 0, 0, 0, 0, 2, 2, 2, 2, 2, 0, 0, 2, 2, 2, 2, 2, 2, 0, 2, 0, 2, 2]]
def fb_fk (ci k : Nat) : Nat := (fb_fkL.getD ci []).getD k 0
def fb_nS : Nat := 25
def fb_len : List Nat := [5, 6, 6, 4, 3, 5, 2, 7, 2, 3, 6, 2, 3, 8, 13, 11, 16, 7, 4, 7, 4, 5, 0, 3, 4]
def fb_byt : List (List Int32) := [[99, 111, 117, 110, 116], [101, 120, 105, 115, 116, 115], [100, 101, 108, 101, 116, 101], [102, 105, 110, 100], [84, 111, 112], [70, 105, 114, 115, 116], [66, 121], [79, 114, 100, 101, 114, 66, 121], [79, 114], [65, 110, 100], [69, 113, 117, 97, 108, 115], [73, 115], [78, 111, 116], [76, 101, 115, 115, 84, 104, 97, 110], [76, 101, 115, 115, 84, 104, 97, 110, 69, 113, 117, 97, 108], [71, 114, 101, 97, 116, 101, 114, 84, 104, 97, 110], [71, 114, 101, 97, 116, 101, 114, 84, 104, 97, 110, 69, 113, 117, 97, 108], [66, 101, 116, 119, 101, 101, 110], [78, 117, 108, 108], [78, 111, 116, 78, 117, 108, 108], [84, 114, 117, 101], [70, 97, 108, 115, 101], [], [65, 115, 99], [68, 101, 115, 99]]
def fb_SR : List (String × Nat × String × Nat) := [(RX3, 78, "count", 0), (RX3, 80, "exists", 1), (RX3, 82, "delete", 2), (RX3, 84, "find", 3), (RX3, 86, "Top", 4), (RX3, 88, "First", 5), (RX3, 35, "By", 6), (RX3, 47, "OrderBy", 7), (RX3, 101, "Or", 8), (RX3, 112, "And", 9), (RX10, 33, "Equals", 10), (RX10, 47, "Is", 11), (RX10, 9, "Not", 12), (RX10, 11, "LessThan", 13), (RX10, 13, "LessThanEqual", 14), (RX10, 15, "GreaterThan", 15), (RX10, 17, "GreaterThanEqual", 16), (RX10, 19, "Between", 17), (RX10, 21, "Null", 18), (RX10, 23, "NotNull", 19), (RX10, 25, "True", 20), (RX10, 27, "False", 21), (RX10, 29, "", 22), (RX3, 142, "Asc", 23), (RX3, 147, "Desc", 24)]
/-! memory: ints, longs and references by (cell, place); cells are numbered from 0 in the order of their making -/
abbrev fb_M : Type := (Nat → Nat → Int32) × (Nat → Nat → Int64) × (Nat → Nat → Option Nat)
def fb_I (u : fb_M) (a k : Nat) : Int32 := u.1 a k
def fb_L (u : fb_M) (a k : Nat) : Int64 := u.2.1 a k
def fb_R (u : fb_M) (a k : Nat) : Option Nat := u.2.2 a k
def fb_up {α : Type} (f : Nat → Nat → α) (a k : Nat) (x : α) : Nat → Nat → α := fun b j => if b = a ∧ j = k then x else f b j
def fb_wI (u : fb_M) (a k : Nat) (x : Int32) : fb_M := (fb_up u.1 a k x, u.2.1, u.2.2)
def fb_wL (u : fb_M) (a k : Nat) (x : Int64) : fb_M := (u.1, fb_up u.2.1 a k x, u.2.2)
def fb_wR (u : fb_M) (a k : Nat) (x : Nat) : fb_M := (u.1, u.2.1, fb_up u.2.2 a k (some x))
def fb_cpL (u : fb_M) (a b sp dp n : Nat) : fb_M := (u.1, (fun q => if q = b then va_cpy (u.2.1 a) (u.2.1 b) sp dp n else u.2.1 q), u.2.2)
/-! what is fixed: where the cells begin, the classes' numbers, the array classes, the literals' addresses, the script -/
abbrev fb_G : Type := Nat × va_G × (Nat → ClassId) × (Nat → Nat) × (Nat → Nat) × Nat × Nat × (Nat → Int32)
def fb_b (g : fb_G) : Nat := g.1
def fb_D (g : fb_G) : va_G := g.2.1
def fb_tA (g : fb_G) : Nat → ClassId := g.2.2.1
def fb_K (g : fb_G) : Nat → Nat := g.2.2.2.1
def fb_Kv (g : fb_G) : Nat → Nat := g.2.2.2.2.1
def fb_sb (g : fb_G) : Nat := g.2.2.2.2.2.1
def fb_sL (g : fb_G) : Nat := g.2.2.2.2.2.2.1
def fb_sx (g : fb_G) : Nat → Int32 := g.2.2.2.2.2.2.2
def fb_A (g : fb_G) : Nat → Prop := fun q => fb_b g ≤ q
def fb_tys (g : fb_G) : List (ClassId × FieldType) := (List.range fb_nT).map (fun t => (fb_tA g t, fb_ty t))
theorem fb_tys_at (g : fb_G) {t : Nat} (h : t < fb_nT) : (fb_tys g)[t]? = some (fb_tA g t, fb_ty t) := by
  simp [fb_tys, h]
def fb_rv (g : fb_G) (o : Option Nat) : Option Nat := o.map (fun q => fb_b g + q)
def fb_fv (g : fb_G) (u : fb_M) (a ci k : Nat) : Value := if fb_fk ci k = 0 then .int (fb_I u a k) else va_rf (fb_rv g (fb_R u a k))
def fb_cont (g : fb_G) (u : fb_M) (a t : Nat) : (Nat → Int32) ⊕ (Nat → Int64) ⊕ (Nat → UInt32) ⊕ (Nat → UInt64) ⊕ (Nat → Option Nat) :=
  if t < 3 then .inl (fb_I u a) else if t = 3 then .inr (.inl (fb_L u a)) else .inr (.inr (.inr (.inr (fun j => fb_rv g (fb_R u a j)))))
def fb_cell (g : fb_G) (u : fb_M) (a : Nat) : va_E :=
  if (fb_sh a).1 < 100 then .inr ((fb_sh a).1, (List.range (fb_sh a).2).map (fb_fv g u a (fb_sh a).1)) else .inl (fb_tA g ((fb_sh a).1 - 100), (fb_sh a).2, fb_cont g u a ((fb_sh a).1 - 100))
def fb_cs (g : fb_G) (n : Nat) (u : fb_M) : va_W := (List.range n).map (fun a => (fb_b g + a, fb_cell g u a))
theorem fb_cs_at (g : fb_G) (u : fb_M) {n a : Nat} (h : a < n) : (fb_cs g n u)[a]? = some (fb_b g + a, fb_cell g u a) := by
  simp [fb_cs, h]
theorem fb_cell_o (g : fb_G) (u : fb_M) {a ci N : Nat} (h : fb_sh a = (ci, N)) (hc : ci < 100) : fb_cell g u a = .inr (ci, (List.range N).map (fb_fv g u a ci)) := by
  simp [fb_cell, h, hc]
theorem fb_cell_i (g : fb_G) (u : fb_M) {a t N : Nat} (h : fb_sh a = (100 + t, N)) (ht : t < 3) : fb_cell g u a = .inl (fb_tA g t, N, .inl (fb_I u a)) := by
  have e : ¬ 100 + t < 100 := by omega
  simp [fb_cell, h, e, fb_cont, ht]
theorem fb_cell_l (g : fb_G) (u : fb_M) {a N : Nat} (h : fb_sh a = (103, N)) : fb_cell g u a = .inl (fb_tA g 3, N, .inr (.inl (fb_L u a))) := by
  simp [fb_cell, h, fb_cont]
theorem fb_cell_q (g : fb_G) (u : fb_M) {a t N : Nat} (h : fb_sh a = (100 + t, N)) (ht : 3 < t) : fb_cell g u a = .inl (fb_tA g t, N, .inr (.inr (.inr (.inr (fun j => fb_rv g (fb_R u a j)))))) := by
  have e : ¬ 100 + t < 100 := by omega
  have e2 : ¬ t < 3 := by omega
  have e3 : ¬ t = 3 := by omega
  simp [fb_cell, h, e, fb_cont, e2, e3]
theorem fb_D_cs (g : fb_G) (n : Nat) (u : fb_M) : va_D (fb_A g) (fb_cs g n u) := by
  refine ⟨fun i j p q hi hj hpq => ?_, fun k q hk => ?_⟩
  · obtain ⟨li, -⟩ := List.getElem?_eq_some_iff.mp hi
    obtain ⟨lj, -⟩ := List.getElem?_eq_some_iff.mp hj
    simp only [fb_cs, List.length_map, List.length_range] at li lj
    rw [fb_cs_at g u li] at hi
    rw [fb_cs_at g u lj] at hj
    obtain rfl := Option.some.inj hi
    obtain rfl := Option.some.inj hj
    simp only at hpq
    omega
  · obtain ⟨lk, -⟩ := List.getElem?_eq_some_iff.mp hk
    simp only [fb_cs, List.length_map, List.length_range] at lk
    rw [fb_cs_at g u lk] at hk
    obtain rfl := Option.some.inj hk
    exact Nat.le_add_right _ _
theorem fb_cs_set (g : fb_G) {n a : Nat} {u u' : fb_M} {e : va_E} (he : fb_cell g u' a = e) (ho : ∀ j, j ≠ a → fb_cell g u' j = fb_cell g u j) : (fb_cs g n u).set a (fb_b g + a, e) = fb_cs g n u' := by
  subst he
  apply List.ext_getElem?
  intro i
  by_cases hi : i < n
  · rw [fb_cs_at g u' hi, List.getElem?_set]
    by_cases ha : a = i
    · subst ha
      simp [fb_cs, hi]
    · rw [if_neg ha, fb_cs_at g u hi, ho i (fun q => ha q.symm)]
  · rw [List.getElem?_eq_none (by simp [fb_cs]; omega), List.getElem?_eq_none (by simp [fb_cs]; omega)]
theorem fb_cs_push (g : fb_G) (n : Nat) (u : fb_M) {e : va_E} (he : fb_cell g u n = e) : fb_cs g n u ++ [(fb_b g + n, e)] = fb_cs g (n + 1) u := by
  subst he
  simp [fb_cs, List.range_succ]
theorem fb_up_ne {α : Type} (f : Nat → Nat → α) {a k b : Nat} (x : α) (h : b ≠ a) : fb_up f a k x b = f b := by
  funext j
  simp [fb_up, h]
theorem fb_cell_wI (g : fb_G) (u : fb_M) {a k j : Nat} (x : Int32) (h : j ≠ a) : fb_cell g (fb_wI u a k x) j = fb_cell g u j := by
  have e : fb_I (fb_wI u a k x) j = fb_I u j := fb_up_ne u.1 x h
  have e1 : ∀ ci, fb_fv g (fb_wI u a k x) j ci = fb_fv g u j ci := fun ci => by
    funext q
    simp only [fb_fv, e]
    rfl
  simp only [fb_cell, fb_cont, e, e1]
  rfl
theorem fb_cell_wL (g : fb_G) (u : fb_M) {a k j : Nat} (x : Int64) (h : j ≠ a) : fb_cell g (fb_wL u a k x) j = fb_cell g u j := by
  have e : fb_L (fb_wL u a k x) j = fb_L u j := fb_up_ne u.2.1 x h
  simp only [fb_cell, fb_cont, e]
  rfl
theorem fb_cell_cpL (g : fb_G) (u : fb_M) {a b sp dp n j : Nat} (h : j ≠ b) : fb_cell g (fb_cpL u a b sp dp n) j = fb_cell g u j := by
  have e : fb_L (fb_cpL u a b sp dp n) j = fb_L u j := by
    funext q
    simp [fb_L, fb_cpL, h]
  simp only [fb_cell, fb_cont, e]
  rfl
theorem fb_cell_wR (g : fb_G) (u : fb_M) {a k j x : Nat} (h : j ≠ a) : fb_cell g (fb_wR u a k x) j = fb_cell g u j := by
  have e : fb_R (fb_wR u a k x) j = fb_R u j := fb_up_ne u.2.2 (some x) h
  have e1 : ∀ ci, fb_fv g (fb_wR u a k x) j ci = fb_fv g u j ci := fun ci => by
    funext q
    simp only [fb_fv, e]
    rfl
  simp only [fb_cell, fb_cont, e, e1]
  rfl
/-! the world of every method -/
def fb_isN : Cond → Bool
  | .fieldLinkNest _ _ _ _ _ _ => true
  | .methodLinkNest _ _ _ _ => true
  | _ => false
def fb_W : List Cond := lw_tbl.filter goodWord
def fb_NW : List Cond := lw_tbl.filter fb_isN
theorem fb_inW {w : Cond} (i : Nat) (h : lw_tbl[i]? = some w) (hg : goodWord w = true) : w ∈ fb_W := List.mem_filter.mpr ⟨List.mem_of_getElem? h, hg⟩
theorem fb_inN {w : Cond} (i : Nat) (h : lw_tbl[i]? = some w) (hg : fb_isN w = true) : w ∈ fb_NW := List.mem_filter.mpr ⟨List.mem_of_getElem? h, hg⟩
theorem fb_good {y : MethodName} {cc : ByteArray} {mL : Nat} {ret : Option FieldType} (h : Cond.code y cc mL ret ∈ fb_W) : GoodIn fb_W (Cond.code y cc mL ret :: fb_W) := by
  intro w hw
  have hw2 : w ∈ fb_W := by
    rcases List.mem_cons.mp hw with rfl | h2
    · exact h
    · exact h2
  exact ⟨hw2, good_of_word (List.mem_filter.mp hw2).2⟩
theorem fb_nwarm {w : Cond} (hn : fb_isN w = true) {s U : State} (hW : s.WarmedH U.vm) (h : va_Nw w s) : va_Nw w U := by
  cases w <;> first | exact va_Nw.warmF hW h | exact va_Nw.warmM hW h | (simp [fb_isN] at hn)
theorem fb_nsame {w : Cond} (hn : fb_isN w = true) {s U : State} (hv : s.vm = U.vm) (h : va_Nw w s) : va_Nw w U := by
  cases w <;> first | exact va_Nw.same rfl hv h | (simp [fb_isN] at hn)
def fb_Gl (g : fb_G) (U : State) : Prop :=
  (∀ w ∈ fb_NW, va_Nw w U) ∧ vk_S fb_nS fb_len fb_byt (fb_K g) (fb_Kv g) (fb_A g) U U.heap ∧ (∀ q ∈ fb_SR, vk_R q.1 q.2.1 q.2.2.1 (fb_K g q.2.2.2) U) ∧ va_X (fb_sb g) (fb_sL g) (fb_sx g) U U.heap ∧ fb_sb g < fb_b g ∧ fb_b g ≤ U.heap.size ∧ va_Z "java/lang/String" "COMPACT_STRINGS" "Z" (.int 1) (fb_A g) U U.heap ∧ ∀ C ∈ fb_AOs, va_AO C U
theorem fb_Gl.to {g : fb_G} {s U : State} {locs : List Loc} (h : fb_Gl g s) (hW : s.WarmedH U.vm) (hS : va_S (fb_A g) s.heap U.heap locs) : fb_Gl g U := by
  obtain ⟨h1, h2, h3, h4, h5, h6, h7, h8⟩ := h
  refine ⟨fun w hw => fb_nwarm (List.mem_filter.mp hw).2 hW (h1 w hw), (h2.kept hS.2.1).moved hW.alike, fun q hq => vk_R.warm hW (h3 q hq), (h4.kept ?_).moved hW.alike, h5, Nat.le_trans h6 hS.1, (h7.kept hS.2.1).moved hW.alike, fun C hc => (h8 C hc).moved hW.alike⟩
  exact hS.2.1 _ (Nat.lt_of_lt_of_le h5 h6) (fun z => absurd h5 (Nat.not_lt.mpr z))
theorem fb_Gl.same {g : fb_G} {s U : State} (h : fb_Gl g s) (hv : U.vm = s.vm) (hh : U.heap = s.heap) : fb_Gl g U := by
  have ha : s.vm.Alike U.vm := by rw [hv]; exact Vm.Alike.refl _
  obtain ⟨h1, h2, h3, h4, h5, h6, h7, h8⟩ := h
  refine ⟨fun w hw => fb_nsame (List.mem_filter.mp hw).2 hv.symm (h1 w hw), ?_, fun q hq => vk_R.same hv (h3 q hq), ?_, h5, by rw [hh]; exact h6, ?_, fun C hc => (h8 C hc).moved ha⟩
  · rw [hh]; exact h2.moved ha
  · rw [hh]; exact h4.moved ha
  · rw [hh]; exact h7.moved ha
def fb_room (d lo mc ms : Nat) : Room := { frames := d, cells := mc, slots := ms, locals := lo }
def fb_Pre (g : fb_G) (n : Nat) (u : fb_M) (U : State) : Prop := va_P (fb_D g) vwCl (fb_cs g n u) U.heap ∧ (n < fb_NT → U.heap.size = fb_b g + n) ∧ va_K (fb_D g) vwCl (fb_tys g) U ∧ fb_Gl g U
def fb_Q (g : fb_G) (r : Option Value) (n2 : Nat) (u2 : fb_M) : Array Value → State → Outcome → State → Prop := fun _ st o t => o = .returned r ∧ va_P (fb_D g) vwCl (fb_cs g n2 u2) t.heap ∧ (n2 < fb_NT → t.heap.size = fb_b g + n2) ∧ va_F (fb_A g) st t
def fb_Runs (g : fb_G) (d lo mc ms n n2 : Nat) (y : MethodName) (cc : ByteArray) (mL : Nat) (ret : Option FieldType) (av : List Value) (u : fb_M) (r : Option Value) (u2 : fb_M) : Prop :=
  ∀ l : Launch, Met l y (Cond.code y cc mL ret :: fb_W) (fb_room d lo mc ms) (va_Pc av (fb_Pre g n u)) (fb_Q g r n2 u2) mc ms (fb_A g)
def fb_Cx (g : fb_G) (own : String) (cc : ByteArray) (nL : Nat) (ret : Option FieldType) (nm : String) (p : Program) (s : State) (m : MethodId) (args : Array Value) (meth : Method) (c : Code) : Prop :=
  p.tables.exec = Jvm.exec ∧ c.code = cc ∧ c.maxLocals = nL ∧ meth.sig.returnType = ret ∧ meth.locks = false ∧ (∀ w ∈ fb_W, w.before args s = true) ∧ s.vm.findClass own = some m.cls ∧ (nm = "<init>" → meth.name = "<init>") ∧ va_K (fb_D g) vwCl (fb_tys g) s ∧ fb_Gl g s
def fb_Hp (g : fb_G) (n : Nat) (u : fb_M) (s : State) (H : Heap) (locs : List Loc) : Prop :=
  va_P (fb_D g) vwCl (fb_cs g n u) H ∧ va_S (fb_A g) s.heap H locs ∧ (n < fb_NT → H.size = fb_b g + n)
abbrev fb_QT : Type := State → Array Value → List Frame → State → Prop
def fb_Qm (g : fb_G) (r : Option Value) (n2 : Nat) (u2 : fb_M) (mc ms : Nat) : fb_QT := fun s args below => MQ below (fb_Q g r n2 u2) args s mc ms (fb_A g)
def fb_V (g : fb_G) (own : String) (cc : ByteArray) (nL : Nat) (ret : Option FieldType) (nm : String) (R : Room) (Qf : fb_QT) (k ks n : Nat) (u : fb_M) (pc : Nat) (lv : List (Nat × Value)) (st : List Value) : Prop :=
  ∀ (p : Program) (l : Launch) (e : Env) (s : State) (m : MethodId) (args : Array Value) (below : List Frame) (meth : Method) (c : Code) (H : Heap) (locs : List Loc) (ls : Array Slot),
    fb_Cx g own cc nL ret nm p s m args meth c → fb_Hp g n u s H locs → lv_has ls nL lv → W p l e R s m args below meth c H locs k ks (Qf s args below) (F0 m pc ls st)
theorem fb_blind (g : fb_G) (n : Nat) (u : fb_M) (av : List Value) : FrameBlind (va_Pc av (fb_Pre g n u)) := by
  intro a U q mk h
  obtain ⟨h1, h2, h3, h4, h5⟩ := h
  exact ⟨h1, h2, h3, va_K.moved (u := U) (U := U.calling q mk a) (Vm.Alike.refl U.vm) h4, fb_Gl.same (s := U) (U := U.calling q mk a) h5 rfl rfl⟩
theorem fb_enter {g : fb_G} {d lo mc ms n n2 : Nat} {y : MethodName} {cc : ByteArray} {mL : Nat} {ret : Option FieldType} {av : List Value} {u : fb_M} {r : Option Value} {u2 : fb_M} (hy : plainName y.cls = true) (hsl : (lg_sl av).length ≤ mL)
    (hV : fb_V g y.cls cc mL ret y.name (fb_room d lo mc ms) (fb_Qm g r n2 u2 mc ms) 0 0 n u 0 (lv_args 0 av) []) : fb_Runs g d lo mc ms n n2 y cc mL ret av u r u2 := by
  intro l
  refine Met.ofW (cc := cc) (maxL := mL) (ret := ret) hy rfl ?_
  intro p e s m args below meth c s₁ B hml hv
  obtain ⟨rfl, hP, hz, hK, hG⟩ := hv
  have hts := atoms_spec (ws := Cond.code y cc mL ret :: fb_W) B.pre
  have hl := lv_entry av (n := mL) hsl
  rw [lg_entry_eq]
  exact hV p l e s m _ below meth c s.heap [] _ ⟨B.exec, B.bytes, hml, B.returns, B.notSynchronized, fun w hw => hts w (List.mem_cons_of_mem _ hw), findClass_of_methodNamed B.named, fun hn => (name_of_methodNamed B.named B.method).1.trans hn, hK, hG⟩ ⟨hP, va_S.rf, hz⟩ hl
theorem fb_inW1 {w : Cond} (i : Nat) (h : tables_1_1[i]? = some w) (hg : goodWord w = true) : w ∈ fb_W := List.mem_filter.mpr ⟨List.mem_append_right _ (List.mem_append_left _ (List.mem_of_getElem? h)), hg⟩
theorem fb_inN1 {w : Cond} (i : Nat) (h : tables_1_1[i]? = some w) (hg : fb_isN w = true) : w ∈ fb_NW := List.mem_filter.mpr ⟨List.mem_append_right _ (List.mem_append_left _ (List.mem_of_getElem? h)), hg⟩
theorem fb_inW2 {w : Cond} (i : Nat) (h : tables_1_2[i]? = some w) (hg : goodWord w = true) : w ∈ fb_W := List.mem_filter.mpr ⟨List.mem_append_right _ (List.mem_append_right _ (List.mem_append_left _ (List.mem_of_getElem? h))), hg⟩
theorem fb_inN2 {w : Cond} (i : Nat) (h : tables_1_2[i]? = some w) (hg : fb_isN w = true) : w ∈ fb_NW := List.mem_filter.mpr ⟨List.mem_append_right _ (List.mem_append_right _ (List.mem_append_left _ (List.mem_of_getElem? h))), hg⟩
theorem fb_inW3 {w : Cond} (i : Nat) (h : tables_1_3[i]? = some w) (hg : goodWord w = true) : w ∈ fb_W := List.mem_filter.mpr ⟨List.mem_append_right _ (List.mem_append_right _ (List.mem_append_right _ (List.mem_append_left _ (List.mem_of_getElem? h)))), hg⟩
theorem fb_inN3 {w : Cond} (i : Nat) (h : tables_1_3[i]? = some w) (hg : fb_isN w = true) : w ∈ fb_NW := List.mem_filter.mpr ⟨List.mem_append_right _ (List.mem_append_right _ (List.mem_append_right _ (List.mem_append_left _ (List.mem_of_getElem? h)))), hg⟩
theorem fb_inW4 {w : Cond} (i : Nat) (h : tables_1_4[i]? = some w) (hg : goodWord w = true) : w ∈ fb_W := List.mem_filter.mpr ⟨List.mem_append_right _ (List.mem_append_right _ (List.mem_append_right _ (List.mem_append_right _ (List.mem_append_left _ (List.mem_of_getElem? h))))), hg⟩
theorem fb_inN4 {w : Cond} (i : Nat) (h : tables_1_4[i]? = some w) (hg : fb_isN w = true) : w ∈ fb_NW := List.mem_filter.mpr ⟨List.mem_append_right _ (List.mem_append_right _ (List.mem_append_right _ (List.mem_append_right _ (List.mem_append_left _ (List.mem_of_getElem? h))))), hg⟩
theorem fb_inW5 {w : Cond} (i : Nat) (h : tables_1_5[i]? = some w) (hg : goodWord w = true) : w ∈ fb_W := List.mem_filter.mpr ⟨List.mem_append_right _ (List.mem_append_right _ (List.mem_append_right _ (List.mem_append_right _ (List.mem_append_right _ (List.mem_of_getElem? h))))), hg⟩
theorem fb_inN5 {w : Cond} (i : Nat) (h : tables_1_5[i]? = some w) (hg : fb_isN w = true) : w ∈ fb_NW := List.mem_filter.mpr ⟨List.mem_append_right _ (List.mem_append_right _ (List.mem_append_right _ (List.mem_append_right _ (List.mem_append_right _ (List.mem_of_getElem? h))))), hg⟩
theorem fb_inWs {w : Cond} (i : Nat) (h : (k2_sels lw_privs)[i]? = some w) (hg : goodWord w = true) : w ∈ fb_W := List.mem_filter.mpr ⟨List.mem_append_left _ (List.mem_of_getElem? h), hg⟩
end
section
section FBR
variable {g : fb_G} {own : String} {cc : ByteArray} {nL : Nat} {ret : Option FieldType} {nm : String} {R : Room} {Qf : fb_QT} {k ks n : Nat} {u : fb_M} {pc : Nat} {lv : List (Nat × Value)} {st : List Value}
theorem fb_iconst {v : Int32} {z : Int} (hd : decode cc pc = .ok (.iconst z, 1)) (hv : Int32.ofInt z = v) (kk : fb_V g own cc nL ret nm R Qf k ks n u (pc + 1) lv (.int v :: st)) : fb_V g own cc nL ret nm R Qf k ks n u pc lv st :=
  fun p l e s m args below meth c H locs ls hC hH hl => lv_iconst hC.1 hC.2.1 hd hv (kk p l e s m args below meth c H locs ls hC hH hl)
theorem fb_bipush {v : Int32} {z : Int} (hd : decode cc pc = .ok (.bipush z, 2)) (hv : (Int8.ofInt z).toInt32 = v) (kk : fb_V g own cc nL ret nm R Qf k ks n u (pc + 2) lv (.int v :: st)) : fb_V g own cc nL ret nm R Qf k ks n u pc lv st :=
  fun p l e s m args below meth c H locs ls hC hH hl => lv_bipush hC.1 hC.2.1 hd hv (kk p l e s m args below meth c H locs ls hC hH hl)
theorem fb_sipush {v : Int32} {z : Int} (hd : decode cc pc = .ok (.sipush z, 3)) (hv : (Int16.ofInt z).toInt32 = v) (kk : fb_V g own cc nL ret nm R Qf k ks n u (pc + 3) lv (.int v :: st)) : fb_V g own cc nL ret nm R Qf k ks n u pc lv st :=
  fun p l e s m args below meth c H locs ls hC hH hl => lv_sipush hC.1 hC.2.1 hd hv (kk p l e s m args below meth c H locs ls hC hH hl)
theorem fb_lconst {v : Int64} {z : Fin 2} (hd : decode cc pc = .ok (.lconst z, 1)) (hv : Int64.ofNat (z : Nat) = v) (kk : fb_V g own cc nL ret nm R Qf k ks n u (pc + 1) lv (.long v :: st)) : fb_V g own cc nL ret nm R Qf k ks n u pc lv st :=
  fun p l e s m args below meth c H locs ls hC hH hl => lv_lconst hC.1 hC.2.1 hd hv (kk p l e s m args below meth c H locs ls hC hH hl)
theorem fb_iload_n {x : Int32} {z : Fin 4} (hd : decode cc pc = .ok (.iload_n z, 1)) (q : Nat) (hq : lv[q]? = some ((z : Nat), .int x)) (kk : fb_V g own cc nL ret nm R Qf k ks n u (pc + 1) lv (.int x :: st)) : fb_V g own cc nL ret nm R Qf k ks n u pc lv st :=
  fun p l e s m args below meth c H locs ls hC hH hl => lv_iload_n hC.1 hC.2.1 hd rfl (lv_at hl q hq) (kk p l e s m args below meth c H locs ls hC hH hl)
theorem fb_iload {x : Int32} {z : Nat} (hd : decode cc pc = .ok (.iload z, 2)) (q : Nat) (hq : lv[q]? = some (z, .int x)) (kk : fb_V g own cc nL ret nm R Qf k ks n u (pc + 2) lv (.int x :: st)) : fb_V g own cc nL ret nm R Qf k ks n u pc lv st :=
  fun p l e s m args below meth c H locs ls hC hH hl => lv_iload hC.1 hC.2.1 hd (lv_at hl q hq) (kk p l e s m args below meth c H locs ls hC hH hl)
theorem fb_istore_n {x : Int32} {w : Fin 4} {z : Nat} {lv' : List (Nat × Value)} (hd : decode cc pc = .ok (.istore_n w, 1)) (hw : (w : Nat) = z) (hn : z < nL) (hq : (z, Value.int x) :: lv.filter (fun q => !(q.1 == z) && !(q.1 + 1 == z && q.2.category == 2)) = lv') (kk : fb_V g own cc nL ret nm R Qf k ks n u (pc + 1) lv' st) : fb_V g own cc nL ret nm R Qf k ks n u pc lv (.int x :: st) :=
  fun p l e s m args below meth c H locs ls hC hH hl => lv_istore_n hC.1 hC.2.1 hd hw hl hn hq fun ls' hl' => kk p l e s m args below meth c H locs ls' hC hH hl'
theorem fb_istore {x : Int32} {z : Nat} {lv' : List (Nat × Value)} (hd : decode cc pc = .ok (.istore z, 2)) (hn : z < nL) (hq : (z, Value.int x) :: lv.filter (fun q => !(q.1 == z) && !(q.1 + 1 == z && q.2.category == 2)) = lv') (kk : fb_V g own cc nL ret nm R Qf k ks n u (pc + 2) lv' st) : fb_V g own cc nL ret nm R Qf k ks n u pc lv (.int x :: st) :=
  fun p l e s m args below meth c H locs ls hC hH hl => lv_istore hC.1 hC.2.1 hd hl hn hq fun ls' hl' => kk p l e s m args below meth c H locs ls' hC hH hl'
theorem fb_lload_n {x : Int64} {z : Fin 4} (hd : decode cc pc = .ok (.lload_n z, 1)) (q : Nat) (hq : lv[q]? = some ((z : Nat), .long x)) (kk : fb_V g own cc nL ret nm R Qf k ks n u (pc + 1) lv (.long x :: st)) : fb_V g own cc nL ret nm R Qf k ks n u pc lv st :=
  fun p l e s m args below meth c H locs ls hC hH hl => lv_lload_n hC.1 hC.2.1 hd rfl (lv_at hl q hq) (kk p l e s m args below meth c H locs ls hC hH hl)
theorem fb_lload {x : Int64} {z : Nat} (hd : decode cc pc = .ok (.lload z, 2)) (q : Nat) (hq : lv[q]? = some (z, .long x)) (kk : fb_V g own cc nL ret nm R Qf k ks n u (pc + 2) lv (.long x :: st)) : fb_V g own cc nL ret nm R Qf k ks n u pc lv st :=
  fun p l e s m args below meth c H locs ls hC hH hl => lv_lload hC.1 hC.2.1 hd (lv_at hl q hq) (kk p l e s m args below meth c H locs ls hC hH hl)
theorem fb_lstore_n {x : Int64} {w : Fin 4} {z : Nat} {lv' : List (Nat × Value)} (hd : decode cc pc = .ok (.lstore_n w, 1)) (hw : (w : Nat) = z) (hn : z + 1 < nL) (hq : (z, Value.long x) :: lv.filter (fun q => !(q.1 == z) && (!(q.1 == z + 1) && !(q.1 + 1 == z && q.2.category == 2))) = lv') (kk : fb_V g own cc nL ret nm R Qf k ks n u (pc + 1) lv' st) : fb_V g own cc nL ret nm R Qf k ks n u pc lv (.long x :: st) :=
  fun p l e s m args below meth c H locs ls hC hH hl => lv_lstore_n hC.1 hC.2.1 hd hw hl hn hq fun ls' hl' => kk p l e s m args below meth c H locs ls' hC hH hl'
theorem fb_lstore {x : Int64} {z : Nat} {lv' : List (Nat × Value)} (hd : decode cc pc = .ok (.lstore z, 2)) (hn : z + 1 < nL) (hq : (z, Value.long x) :: lv.filter (fun q => !(q.1 == z) && (!(q.1 == z + 1) && !(q.1 + 1 == z && q.2.category == 2))) = lv') (kk : fb_V g own cc nL ret nm R Qf k ks n u (pc + 2) lv' st) : fb_V g own cc nL ret nm R Qf k ks n u pc lv (.long x :: st) :=
  fun p l e s m args below meth c H locs ls hC hH hl => lv_lstore hC.1 hC.2.1 hd hl hn hq fun ls' hl' => kk p l e s m args below meth c H locs ls' hC hH hl'
theorem fb_aload_n {x : Nat} {z : Fin 4} (hd : decode cc pc = .ok (.aload_n z, 1)) (q : Nat) (hq : lv[q]? = some ((z : Nat), .ref x)) (kk : fb_V g own cc nL ret nm R Qf k ks n u (pc + 1) lv (.ref x :: st)) : fb_V g own cc nL ret nm R Qf k ks n u pc lv st :=
  fun p l e s m args below meth c H locs ls hC hH hl => lv_aload_n hC.1 hC.2.1 hd rfl (lv_at hl q hq) (kk p l e s m args below meth c H locs ls hC hH hl)
theorem fb_aload {x : Nat} {z : Nat} (hd : decode cc pc = .ok (.aload z, 2)) (q : Nat) (hq : lv[q]? = some (z, .ref x)) (kk : fb_V g own cc nL ret nm R Qf k ks n u (pc + 2) lv (.ref x :: st)) : fb_V g own cc nL ret nm R Qf k ks n u pc lv st :=
  fun p l e s m args below meth c H locs ls hC hH hl => lv_aload hC.1 hC.2.1 hd (lv_at hl q hq) (kk p l e s m args below meth c H locs ls hC hH hl)
theorem fb_astore_n {x : Nat} {w : Fin 4} {z : Nat} {lv' : List (Nat × Value)} (hd : decode cc pc = .ok (.astore_n w, 1)) (hw : (w : Nat) = z) (hn : z < nL) (hq : (z, Value.ref x) :: lv.filter (fun q => !(q.1 == z) && !(q.1 + 1 == z && q.2.category == 2)) = lv') (kk : fb_V g own cc nL ret nm R Qf k ks n u (pc + 1) lv' st) : fb_V g own cc nL ret nm R Qf k ks n u pc lv (.ref x :: st) :=
  fun p l e s m args below meth c H locs ls hC hH hl => lv_astore_n hC.1 hC.2.1 hd hw hl hn hq fun ls' hl' => kk p l e s m args below meth c H locs ls' hC hH hl'
theorem fb_astore {x : Nat} {z : Nat} {lv' : List (Nat × Value)} (hd : decode cc pc = .ok (.astore z, 2)) (hn : z < nL) (hq : (z, Value.ref x) :: lv.filter (fun q => !(q.1 == z) && !(q.1 + 1 == z && q.2.category == 2)) = lv') (kk : fb_V g own cc nL ret nm R Qf k ks n u (pc + 2) lv' st) : fb_V g own cc nL ret nm R Qf k ks n u pc lv (.ref x :: st) :=
  fun p l e s m args below meth c H locs ls hC hH hl => lv_astore hC.1 hC.2.1 hd hl hn hq fun ls' hl' => kk p l e s m args below meth c H locs ls' hC hH hl'
theorem fb_iinc {x v : Int32} {z : Nat} {w : Int} {lv' : List (Nat × Value)} (hd : decode cc pc = .ok (.iinc z w, 3)) (q : Nat) (hg : lv[q]? = some (z, .int x)) (hv : Int32.ofInt w = v) (hn : z < nL) (hq : (z, Value.int (x + v)) :: lv.filter (fun q => !(q.1 == z) && !(q.1 + 1 == z && q.2.category == 2)) = lv') (kk : fb_V g own cc nL ret nm R Qf k ks n u (pc + 3) lv' st) : fb_V g own cc nL ret nm R Qf k ks n u pc lv st :=
  fun p l e s m args below meth c H locs ls hC hH hl => lv_iinc hC.1 hC.2.1 hd hl hg (by rw [hv]) hn hq fun ls' hl' => kk p l e s m args below meth c H locs ls' hC hH hl'
theorem fb_iadd {x y : Int32} (hd : decode cc pc = .ok (.iadd, 1)) (kk : fb_V g own cc nL ret nm R Qf k ks n u (pc + 1) lv (.int (x + y) :: st)) : fb_V g own cc nL ret nm R Qf k ks n u pc lv (.int y :: .int x :: st) :=
  fun p l e s m args below meth c H locs ls hC hH hl => lv_iadd hC.1 hC.2.1 hd (kk p l e s m args below meth c H locs ls hC hH hl)
theorem fb_isub {x y : Int32} (hd : decode cc pc = .ok (.isub, 1)) (kk : fb_V g own cc nL ret nm R Qf k ks n u (pc + 1) lv (.int (x - y) :: st)) : fb_V g own cc nL ret nm R Qf k ks n u pc lv (.int y :: .int x :: st) :=
  fun p l e s m args below meth c H locs ls hC hH hl => lv_isub hC.1 hC.2.1 hd (kk p l e s m args below meth c H locs ls hC hH hl)
theorem fb_imul {x y : Int32} (hd : decode cc pc = .ok (.imul, 1)) (kk : fb_V g own cc nL ret nm R Qf k ks n u (pc + 1) lv (.int (x * y) :: st)) : fb_V g own cc nL ret nm R Qf k ks n u pc lv (.int y :: .int x :: st) :=
  fun p l e s m args below meth c H locs ls hC hH hl => lv_imul hC.1 hC.2.1 hd (kk p l e s m args below meth c H locs ls hC hH hl)
theorem fb_iand {x y : Int32} (hd : decode cc pc = .ok (.iand, 1)) (kk : fb_V g own cc nL ret nm R Qf k ks n u (pc + 1) lv (.int (x &&& y) :: st)) : fb_V g own cc nL ret nm R Qf k ks n u pc lv (.int y :: .int x :: st) :=
  fun p l e s m args below meth c H locs ls hC hH hl => lv_iand hC.1 hC.2.1 hd (kk p l e s m args below meth c H locs ls hC hH hl)
theorem fb_ineg {x : Int32} (hd : decode cc pc = .ok (.ineg, 1)) (kk : fb_V g own cc nL ret nm R Qf k ks n u (pc + 1) lv (.int (-x) :: st)) : fb_V g own cc nL ret nm R Qf k ks n u pc lv (.int x :: st) :=
  fun p l e s m args below meth c H locs ls hC hH hl => lv_ineg hC.1 hC.2.1 hd (kk p l e s m args below meth c H locs ls hC hH hl)
theorem fb_land {x y : Int64} (hd : decode cc pc = .ok (.land, 1)) (kk : fb_V g own cc nL ret nm R Qf k ks n u (pc + 1) lv (.long (x &&& y) :: st)) : fb_V g own cc nL ret nm R Qf k ks n u pc lv (.long y :: .long x :: st) :=
  fun p l e s m args below meth c H locs ls hC hH hl => lv_land hC.1 hC.2.1 hd (kk p l e s m args below meth c H locs ls hC hH hl)
theorem fb_irem {x y : Int32} (hd : decode cc pc = .ok (.irem, 1)) (hne : ¬ y = 0) (kk : fb_V g own cc nL ret nm R Qf k ks n u (pc + 1) lv (.int (x - x / y * y) :: st)) : fb_V g own cc nL ret nm R Qf k ks n u pc lv (.int y :: .int x :: st) :=
  fun p l e s m args below meth c H locs ls hC hH hl => lv_irem hC.1 hC.2.1 hd hne (kk p l e s m args below meth c H locs ls hC hH hl)
theorem fb_lushr {x : Int64} {y : Int32} (hd : decode cc pc = .ok (.lushr, 1)) (kk : fb_V g own cc nL ret nm R Qf k ks n u (pc + 1) lv (.long (x.toUInt64 >>> (y.toInt64.toUInt64 &&& Int64.toUInt64 63)).toInt64 :: st)) : fb_V g own cc nL ret nm R Qf k ks n u pc lv (.int y :: .long x :: st) :=
  fun p l e s m args below meth c H locs ls hC hH hl => lv_lushr hC.1 hC.2.1 hd rfl (kk p l e s m args below meth c H locs ls hC hH hl)
theorem fb_i2l {x : Int32} (hd : decode cc pc = .ok (.i2l, 1)) (kk : fb_V g own cc nL ret nm R Qf k ks n u (pc + 1) lv (.long x.toInt64 :: st)) : fb_V g own cc nL ret nm R Qf k ks n u pc lv (.int x :: st) :=
  fun p l e s m args below meth c H locs ls hC hH hl => lv_i2l hC.1 hC.2.1 hd rfl (kk p l e s m args below meth c H locs ls hC hH hl)
theorem fb_l2i {x : Int64} (hd : decode cc pc = .ok (.l2i, 1)) (kk : fb_V g own cc nL ret nm R Qf k ks n u (pc + 1) lv (.int x.toInt32 :: st)) : fb_V g own cc nL ret nm R Qf k ks n u pc lv (.long x :: st) :=
  fun p l e s m args below meth c H locs ls hC hH hl => lv_l2i hC.1 hC.2.1 hd rfl (kk p l e s m args below meth c H locs ls hC hH hl)
theorem fb_i2c {x : Int32} (hd : decode cc pc = .ok (.i2c, 1)) (kk : fb_V g own cc nL ret nm R Qf k ks n u (pc + 1) lv (.int (x.toUInt32 % 65536).toInt32 :: st)) : fb_V g own cc nL ret nm R Qf k ks n u pc lv (.int x :: st) :=
  fun p l e s m args below meth c H locs ls hC hH hl => lv_i2c hC.1 hC.2.1 hd rfl (kk p l e s m args below meth c H locs ls hC hH hl)
theorem fb_lcmp {x y : Int64} (hd : decode cc pc = .ok (.lcmp, 1)) (kk : fb_V g own cc nL ret nm R Qf k ks n u (pc + 1) lv (.int (lg_cmp x y) :: st)) : fb_V g own cc nL ret nm R Qf k ks n u pc lv (.long y :: .long x :: st) :=
  fun p l e s m args below meth c H locs ls hC hH hl => W.lcmp hC.1 hC.2.1 hd (kk p l e s m args below meth c H locs ls hC hH hl)
theorem fb_dup {v : Value} (hd : decode cc pc = .ok (.dup, 1)) (hv : v.category = 1) (kk : fb_V g own cc nL ret nm R Qf k ks n u (pc + 1) lv (v :: v :: st)) : fb_V g own cc nL ret nm R Qf k ks n u pc lv (v :: st) :=
  fun p l e s m args below meth c H locs ls hC hH hl => lv_dup hC.1 hC.2.1 hd hv (kk p l e s m args below meth c H locs ls hC hH hl)
theorem fb_pop {v : Value} (hd : decode cc pc = .ok (.pop, 1)) (hv : v.category = 1) (kk : fb_V g own cc nL ret nm R Qf k ks n u (pc + 1) lv st) : fb_V g own cc nL ret nm R Qf k ks n u pc lv (v :: st) :=
  fun p l e s m args below meth c H locs ls hC hH hl => lv_pop hC.1 hC.2.1 hd hv (kk p l e s m args below meth c H locs ls hC hH hl)
theorem fb_ldc2 {z : Nat} {v : Int64} (hd : decode cc pc = .ok (.ldc2_w z, 3)) (hw : Cond.constantLong own z v ∈ fb_W) (kk : fb_V g own cc nL ret nm R Qf k ks n u (pc + 3) lv (.long v :: st)) : fb_V g own cc nL ret nm R Qf k ks n u pc lv st :=
  fun p l e s m args below meth c H locs ls hC hH hl => lv_ldc2 hC.1 hC.2.1 hC.2.2.2.2.2.2.1 (hC.2.2.2.2.2.1 _ hw) hd (kk p l e s m args below meth c H locs ls hC hH hl)
theorem fb_ldcI {z : Nat} {v : Int32} (hd : decode cc pc = .ok (.ldc z, 2)) (hw : Cond.constant own z v ∈ fb_W) (kk : fb_V g own cc nL ret nm R Qf k ks n u (pc + 2) lv (.int v :: st)) : fb_V g own cc nL ret nm R Qf k ks n u pc lv st :=
  fun p l e s m args below meth c H locs ls hC hH hl => lv_ldc hC.1 hC.2.1 hC.2.2.2.2.2.2.1 (hC.2.2.2.2.2.1 _ hw) hd (kk p l e s m args below meth c H locs ls hC hH hl)
theorem fb_ldcS {z i : Nat} {tx : String} (hd : decode cc pc = .ok (.ldc z, 2)) (hw : (own, z, tx, i) ∈ fb_SR) (kk : fb_V g own cc nL ret nm R Qf k ks n u (pc + 2) lv (.ref (fb_K g i) :: st)) : fb_V g own cc nL ret nm R Qf k ks n u pc lv st :=
  fun p l e s m args below meth c H locs ls hC hH hl => va_ldcS hC.1 hC.2.1 hC.2.2.2.2.2.2.1 (hC.2.2.2.2.2.2.2.2.2.2.2.1 _ hw) hd (kk p l e s m args below meth c H locs ls hC hH hl)
theorem fb_if_eq {ρ : Type} {A B : Option ρ} {res : ρ} {x : Int32} {off : Int} {tgt : Nat} (h : (if x = 0 then A else B) = some res) (hd : decode cc pc = .ok (.ifCond .eq off, 3)) (ht : (pc : Int) + off = (tgt : Int)) (kt : A = some res → fb_V g own cc nL ret nm R Qf k ks n u tgt lv st) (kf : B = some res → fb_V g own cc nL ret nm R Qf k ks n u (pc + 3) lv st) : fb_V g own cc nL ret nm R Qf k ks n u pc lv (.int x :: st) :=
  fun p l e s m args below meth c H locs ls hC hH hl => lv_if_eq hC.1 hC.2.1 hd ht (fun z => kt (by rw [if_pos z] at h; exact h) p l e s m args below meth c H locs ls hC hH hl) (fun z => kf (by rw [if_neg z] at h; exact h) p l e s m args below meth c H locs ls hC hH hl)
theorem fb_icmp_eq {ρ : Type} {A B : Option ρ} {res : ρ} {x y : Int32} {off : Int} {tgt : Nat} (h : (if x = y then A else B) = some res) (hd : decode cc pc = .ok (.if_icmp .eq off, 3)) (ht : (pc : Int) + off = (tgt : Int)) (kt : A = some res → fb_V g own cc nL ret nm R Qf k ks n u tgt lv st) (kf : B = some res → fb_V g own cc nL ret nm R Qf k ks n u (pc + 3) lv st) : fb_V g own cc nL ret nm R Qf k ks n u pc lv (.int y :: .int x :: st) :=
  fun p l e s m args below meth c H locs ls hC hH hl => lv_icmp_eq hC.1 hC.2.1 hd ht (fun z => kt (by rw [if_pos z] at h; exact h) p l e s m args below meth c H locs ls hC hH hl) (fun z => kf (by rw [if_neg z] at h; exact h) p l e s m args below meth c H locs ls hC hH hl)
theorem fb_if_ne {ρ : Type} {A B : Option ρ} {res : ρ} {x : Int32} {off : Int} {tgt : Nat} (h : (if x = 0 then A else B) = some res) (hd : decode cc pc = .ok (.ifCond .ne off, 3)) (ht : (pc : Int) + off = (tgt : Int)) (kt : B = some res → fb_V g own cc nL ret nm R Qf k ks n u tgt lv st) (kf : A = some res → fb_V g own cc nL ret nm R Qf k ks n u (pc + 3) lv st) : fb_V g own cc nL ret nm R Qf k ks n u pc lv (.int x :: st) :=
  fun p l e s m args below meth c H locs ls hC hH hl => lv_if_ne hC.1 hC.2.1 hd ht (fun z => kt (by rw [if_neg z] at h; exact h) p l e s m args below meth c H locs ls hC hH hl) (fun z => kf (by rw [if_pos z] at h; exact h) p l e s m args below meth c H locs ls hC hH hl)
theorem fb_icmp_ne {ρ : Type} {A B : Option ρ} {res : ρ} {x y : Int32} {off : Int} {tgt : Nat} (h : (if x = y then A else B) = some res) (hd : decode cc pc = .ok (.if_icmp .ne off, 3)) (ht : (pc : Int) + off = (tgt : Int)) (kt : B = some res → fb_V g own cc nL ret nm R Qf k ks n u tgt lv st) (kf : A = some res → fb_V g own cc nL ret nm R Qf k ks n u (pc + 3) lv st) : fb_V g own cc nL ret nm R Qf k ks n u pc lv (.int y :: .int x :: st) :=
  fun p l e s m args below meth c H locs ls hC hH hl => lv_icmp_ne hC.1 hC.2.1 hd ht (fun z => kt (by rw [if_neg z] at h; exact h) p l e s m args below meth c H locs ls hC hH hl) (fun z => kf (by rw [if_pos z] at h; exact h) p l e s m args below meth c H locs ls hC hH hl)
theorem fb_if_lt {ρ : Type} {A B : Option ρ} {res : ρ} {x : Int32} {off : Int} {tgt : Nat} (h : (if x < 0 then A else B) = some res) (hd : decode cc pc = .ok (.ifCond .lt off, 3)) (ht : (pc : Int) + off = (tgt : Int)) (kt : A = some res → fb_V g own cc nL ret nm R Qf k ks n u tgt lv st) (kf : B = some res → fb_V g own cc nL ret nm R Qf k ks n u (pc + 3) lv st) : fb_V g own cc nL ret nm R Qf k ks n u pc lv (.int x :: st) :=
  fun p l e s m args below meth c H locs ls hC hH hl => lv_if_lt hC.1 hC.2.1 hd ht (fun z => kt (by rw [if_pos z] at h; exact h) p l e s m args below meth c H locs ls hC hH hl) (fun z => kf (by rw [if_neg z] at h; exact h) p l e s m args below meth c H locs ls hC hH hl)
theorem fb_icmp_lt {ρ : Type} {A B : Option ρ} {res : ρ} {x y : Int32} {off : Int} {tgt : Nat} (h : (if x < y then A else B) = some res) (hd : decode cc pc = .ok (.if_icmp .lt off, 3)) (ht : (pc : Int) + off = (tgt : Int)) (kt : A = some res → fb_V g own cc nL ret nm R Qf k ks n u tgt lv st) (kf : B = some res → fb_V g own cc nL ret nm R Qf k ks n u (pc + 3) lv st) : fb_V g own cc nL ret nm R Qf k ks n u pc lv (.int y :: .int x :: st) :=
  fun p l e s m args below meth c H locs ls hC hH hl => lv_icmp_lt hC.1 hC.2.1 hd ht (fun z => kt (by rw [if_pos z] at h; exact h) p l e s m args below meth c H locs ls hC hH hl) (fun z => kf (by rw [if_neg z] at h; exact h) p l e s m args below meth c H locs ls hC hH hl)
theorem fb_if_ge {ρ : Type} {A B : Option ρ} {res : ρ} {x : Int32} {off : Int} {tgt : Nat} (h : (if 0 ≤ x then A else B) = some res) (hd : decode cc pc = .ok (.ifCond .ge off, 3)) (ht : (pc : Int) + off = (tgt : Int)) (kt : A = some res → fb_V g own cc nL ret nm R Qf k ks n u tgt lv st) (kf : B = some res → fb_V g own cc nL ret nm R Qf k ks n u (pc + 3) lv st) : fb_V g own cc nL ret nm R Qf k ks n u pc lv (.int x :: st) :=
  fun p l e s m args below meth c H locs ls hC hH hl => lv_if_ge hC.1 hC.2.1 hd ht (fun z => kt (by rw [if_pos z] at h; exact h) p l e s m args below meth c H locs ls hC hH hl) (fun z => kf (by rw [if_neg z] at h; exact h) p l e s m args below meth c H locs ls hC hH hl)
theorem fb_icmp_ge {ρ : Type} {A B : Option ρ} {res : ρ} {x y : Int32} {off : Int} {tgt : Nat} (h : (if y ≤ x then A else B) = some res) (hd : decode cc pc = .ok (.if_icmp .ge off, 3)) (ht : (pc : Int) + off = (tgt : Int)) (kt : A = some res → fb_V g own cc nL ret nm R Qf k ks n u tgt lv st) (kf : B = some res → fb_V g own cc nL ret nm R Qf k ks n u (pc + 3) lv st) : fb_V g own cc nL ret nm R Qf k ks n u pc lv (.int y :: .int x :: st) :=
  fun p l e s m args below meth c H locs ls hC hH hl => lv_icmp_ge hC.1 hC.2.1 hd ht (fun z => kt (by rw [if_pos z] at h; exact h) p l e s m args below meth c H locs ls hC hH hl) (fun z => kf (by rw [if_neg z] at h; exact h) p l e s m args below meth c H locs ls hC hH hl)
theorem fb_if_gt {ρ : Type} {A B : Option ρ} {res : ρ} {x : Int32} {off : Int} {tgt : Nat} (h : (if 0 < x then A else B) = some res) (hd : decode cc pc = .ok (.ifCond .gt off, 3)) (ht : (pc : Int) + off = (tgt : Int)) (kt : A = some res → fb_V g own cc nL ret nm R Qf k ks n u tgt lv st) (kf : B = some res → fb_V g own cc nL ret nm R Qf k ks n u (pc + 3) lv st) : fb_V g own cc nL ret nm R Qf k ks n u pc lv (.int x :: st) :=
  fun p l e s m args below meth c H locs ls hC hH hl => lv_if_gt hC.1 hC.2.1 hd ht (fun z => kt (by rw [if_pos z] at h; exact h) p l e s m args below meth c H locs ls hC hH hl) (fun z => kf (by rw [if_neg z] at h; exact h) p l e s m args below meth c H locs ls hC hH hl)
theorem fb_icmp_gt {ρ : Type} {A B : Option ρ} {res : ρ} {x y : Int32} {off : Int} {tgt : Nat} (h : (if y < x then A else B) = some res) (hd : decode cc pc = .ok (.if_icmp .gt off, 3)) (ht : (pc : Int) + off = (tgt : Int)) (kt : A = some res → fb_V g own cc nL ret nm R Qf k ks n u tgt lv st) (kf : B = some res → fb_V g own cc nL ret nm R Qf k ks n u (pc + 3) lv st) : fb_V g own cc nL ret nm R Qf k ks n u pc lv (.int y :: .int x :: st) :=
  fun p l e s m args below meth c H locs ls hC hH hl => lv_icmp_gt hC.1 hC.2.1 hd ht (fun z => kt (by rw [if_pos z] at h; exact h) p l e s m args below meth c H locs ls hC hH hl) (fun z => kf (by rw [if_neg z] at h; exact h) p l e s m args below meth c H locs ls hC hH hl)
theorem fb_if_le {ρ : Type} {A B : Option ρ} {res : ρ} {x : Int32} {off : Int} {tgt : Nat} (h : (if x ≤ 0 then A else B) = some res) (hd : decode cc pc = .ok (.ifCond .le off, 3)) (ht : (pc : Int) + off = (tgt : Int)) (kt : A = some res → fb_V g own cc nL ret nm R Qf k ks n u tgt lv st) (kf : B = some res → fb_V g own cc nL ret nm R Qf k ks n u (pc + 3) lv st) : fb_V g own cc nL ret nm R Qf k ks n u pc lv (.int x :: st) :=
  fun p l e s m args below meth c H locs ls hC hH hl => lv_if_le hC.1 hC.2.1 hd ht (fun z => kt (by rw [if_pos z] at h; exact h) p l e s m args below meth c H locs ls hC hH hl) (fun z => kf (by rw [if_neg z] at h; exact h) p l e s m args below meth c H locs ls hC hH hl)
theorem fb_icmp_le {ρ : Type} {A B : Option ρ} {res : ρ} {x y : Int32} {off : Int} {tgt : Nat} (h : (if x ≤ y then A else B) = some res) (hd : decode cc pc = .ok (.if_icmp .le off, 3)) (ht : (pc : Int) + off = (tgt : Int)) (kt : A = some res → fb_V g own cc nL ret nm R Qf k ks n u tgt lv st) (kf : B = some res → fb_V g own cc nL ret nm R Qf k ks n u (pc + 3) lv st) : fb_V g own cc nL ret nm R Qf k ks n u pc lv (.int y :: .int x :: st) :=
  fun p l e s m args below meth c H locs ls hC hH hl => lv_icmp_le hC.1 hC.2.1 hd ht (fun z => kt (by rw [if_pos z] at h; exact h) p l e s m args below meth c H locs ls hC hH hl) (fun z => kf (by rw [if_neg z] at h; exact h) p l e s m args below meth c H locs ls hC hH hl)
theorem fb_goto {off : Int} {tgt : Nat} (hd : decode cc pc = .ok (.goto off, 3)) (ht : (pc : Int) + off = (tgt : Int)) (kk : fb_V g own cc nL ret nm R Qf k ks n u tgt lv st) : fb_V g own cc nL ret nm R Qf k ks n u pc lv st :=
  fun p l e s m args below meth c H locs ls hC hH hl => lv_goto hC.1 hC.2.1 hd ht (kk p l e s m args below meth c H locs ls hC hH hl)
theorem fb_tabIn {x v : Int32} {dflt lo hi off : Int} {offs : Array Int} {len tgt : Nat} (hx : x = v) (hd : decode cc pc = .ok (.tableswitch dflt lo hi offs, len)) (h1 : ¬ v.toInt < lo) (h2 : ¬ hi < v.toInt) (ho : offs[(v.toInt - lo).toNat]? = some off) (ht : (pc : Int) + off = (tgt : Int)) (kk : fb_V g own cc nL ret nm R Qf k ks n u tgt lv st) : fb_V g own cc nL ret nm R Qf k ks n u pc lv (.int x :: st) := by
  subst hx
  exact fun p l e s m args below meth c H locs ls hC hH hl => lv_tableIn hC.1 hC.2.1 hd h1 h2 ho ht (kk p l e s m args below meth c H locs ls hC hH hl)
theorem fb_tabOut {x : Int32} {dflt lo hi : Int} {offs : Array Int} {len tgt : Nat} (hx : x.toInt < lo ∨ hi < x.toInt) (hd : decode cc pc = .ok (.tableswitch dflt lo hi offs, len)) (ht : (pc : Int) + dflt = (tgt : Int)) (kk : fb_V g own cc nL ret nm R Qf k ks n u tgt lv st) : fb_V g own cc nL ret nm R Qf k ks n u pc lv (.int x :: st) :=
  fun p l e s m args below meth c H locs ls hC hH hl => lv_tableOut hC.1 hC.2.1 hd hx ht (kk p l e s m args below meth c H locs ls hC hH hl)
theorem fb_sub {lv' : List (Nat × Value)} (is : List Nat) (hq : lv_pick lv is = lv') (kk : fb_V g own cc nL ret nm R Qf k ks n u pc lv' st) : fb_V g own cc nL ret nm R Qf k ks n u pc lv st :=
  fun p l e s m args below meth c H locs ls hC hH hl => kk p l e s m args below meth c H locs ls hC hH (lv_sub hl is hq)
theorem fb_iretM {v : Int32} {res : Int32 × fb_M} (h : some (v, u) = some res) (hd : decode cc pc = .ok (.ireturn, 1)) : fb_V g own cc nL (some .int) nm R (fb_Qm g (some (.int res.1)) n res.2 k ks) k ks n u pc lv [.int v] := by
  cases h
  exact fun p l e s m args below meth c H locs ls hC hH hl => W.iret (v := v) hC.1 hC.2.1 hC.2.2.2.1 (fun t ht hW => ⟨rfl, by rw [ht]; exact hH.1, by rw [ht]; exact hH.2.2, hH.2.1.F ht⟩) hH.2.1.2.2 hd hC.2.2.2.2.1
theorem fb_iretR {v : Int32} {res : Int32} (h : some v = some res) (hd : decode cc pc = .ok (.ireturn, 1)) : fb_V g own cc nL (some .int) nm R (fb_Qm g (some (.int res)) n u k ks) k ks n u pc lv [.int v] := by
  cases h
  exact fun p l e s m args below meth c H locs ls hC hH hl => W.iret (v := v) hC.1 hC.2.1 hC.2.2.2.1 (fun t ht hW => ⟨rfl, by rw [ht]; exact hH.1, by rw [ht]; exact hH.2.2, hH.2.1.F ht⟩) hH.2.1.2.2 hd hC.2.2.2.2.1
theorem fb_zretM {v : Int32} {ty : FieldType} {res : Int32 × fb_M} (hn : narrow ty (.int v) = .int v) (h : some (v, u) = some res) (hd : decode cc pc = .ok (.ireturn, 1)) : fb_V g own cc nL (some ty) nm R (fb_Qm g (some (.int res.1)) n res.2 k ks) k ks n u pc lv [.int v] := by
  cases h
  exact fun p l e s m args below meth c H locs ls hC hH hl => W.zret (v := v) hC.1 hC.2.1 hC.2.2.2.1 hn (fun t ht hW => ⟨rfl, by rw [ht]; exact hH.1, by rw [ht]; exact hH.2.2, hH.2.1.F ht⟩) hH.2.1.2.2 hd hC.2.2.2.2.1
theorem fb_zretR {v : Int32} {ty : FieldType} {res : Int32} (hn : narrow ty (.int v) = .int v) (h : some v = some res) (hd : decode cc pc = .ok (.ireturn, 1)) : fb_V g own cc nL (some ty) nm R (fb_Qm g (some (.int res)) n u k ks) k ks n u pc lv [.int v] := by
  cases h
  exact fun p l e s m args below meth c H locs ls hC hH hl => W.zret (v := v) hC.1 hC.2.1 hC.2.2.2.1 hn (fun t ht hW => ⟨rfl, by rw [ht]; exact hH.1, by rw [ht]; exact hH.2.2, hH.2.1.F ht⟩) hH.2.1.2.2 hd hC.2.2.2.2.1
theorem fb_lretM {v : Int64} {res : Int64 × fb_M} (h : some (v, u) = some res) (hd : decode cc pc = .ok (.lreturn, 1)) : fb_V g own cc nL (some .long) nm R (fb_Qm g (some (.long res.1)) n res.2 k ks) k ks n u pc lv [.long v] := by
  cases h
  exact fun p l e s m args below meth c H locs ls hC hH hl => W.lret (v := v) hC.1 hC.2.1 hC.2.2.2.1 (fun t ht hW => ⟨rfl, by rw [ht]; exact hH.1, by rw [ht]; exact hH.2.2, hH.2.1.F ht⟩) hH.2.1.2.2 hd hC.2.2.2.2.1
theorem fb_lretR {v : Int64} {res : Int64} (h : some v = some res) (hd : decode cc pc = .ok (.lreturn, 1)) : fb_V g own cc nL (some .long) nm R (fb_Qm g (some (.long res)) n u k ks) k ks n u pc lv [.long v] := by
  cases h
  exact fun p l e s m args below meth c H locs ls hC hH hl => W.lret (v := v) hC.1 hC.2.1 hC.2.2.2.1 (fun t ht hW => ⟨rfl, by rw [ht]; exact hH.1, by rw [ht]; exact hH.2.2, hH.2.1.F ht⟩) hH.2.1.2.2 hd hC.2.2.2.2.1
theorem fb_aretM {v : Nat} {C : String} {res : Nat × fb_M} (h : some (v, u) = some res) (hd : decode cc pc = .ok (.areturn, 1)) : fb_V g own cc nL (some (.object C)) nm R (fb_Qm g (some (.ref (fb_b g + res.1))) n res.2 k ks) k ks n u pc lv [.ref (fb_b g + v)] := by
  cases h
  exact fun p l e s m args below meth c H locs ls hC hH hl => W.aret (v := .ref (fb_b g + v)) hC.1 hC.2.1 hC.2.2.2.1 (Or.inl ⟨_, rfl⟩) (Or.inr ⟨_, rfl⟩) (fun t ht hW => ⟨rfl, by rw [ht]; exact hH.1, by rw [ht]; exact hH.2.2, hH.2.1.F ht⟩) hH.2.1.2.2 hd hC.2.2.2.2.1
theorem fb_aretR {v : Nat} {C : String} {res : Nat} (h : some v = some res) (hd : decode cc pc = .ok (.areturn, 1)) : fb_V g own cc nL (some (.object C)) nm R (fb_Qm g (some (.ref (fb_b g + res))) n u k ks) k ks n u pc lv [.ref (fb_b g + v)] := by
  cases h
  exact fun p l e s m args below meth c H locs ls hC hH hl => W.aret (v := .ref (fb_b g + v)) hC.1 hC.2.1 hC.2.2.2.1 (Or.inl ⟨_, rfl⟩) (Or.inr ⟨_, rfl⟩) (fun t ht hW => ⟨rfl, by rw [ht]; exact hH.1, by rw [ht]; exact hH.2.2, hH.2.1.F ht⟩) hH.2.1.2.2 hd hC.2.2.2.2.1
theorem fb_sretM {v : Nat} {C : String} {res : Nat × fb_M} (h : some (v, u) = some res) (hd : decode cc pc = .ok (.areturn, 1)) : fb_V g own cc nL (some (.object C)) nm R (fb_Qm g (some (.ref (fb_K g res.1))) n res.2 k ks) k ks n u pc lv [.ref (fb_K g v)] := by
  cases h
  exact fun p l e s m args below meth c H locs ls hC hH hl => W.aret (v := .ref (fb_K g v)) hC.1 hC.2.1 hC.2.2.2.1 (Or.inl ⟨_, rfl⟩) (Or.inr ⟨_, rfl⟩) (fun t ht hW => ⟨rfl, by rw [ht]; exact hH.1, by rw [ht]; exact hH.2.2, hH.2.1.F ht⟩) hH.2.1.2.2 hd hC.2.2.2.2.1
theorem fb_sretR {v : Nat} {C : String} {res : Nat} (h : some v = some res) (hd : decode cc pc = .ok (.areturn, 1)) : fb_V g own cc nL (some (.object C)) nm R (fb_Qm g (some (.ref (fb_K g res))) n u k ks) k ks n u pc lv [.ref (fb_K g v)] := by
  cases h
  exact fun p l e s m args below meth c H locs ls hC hH hl => W.aret (v := .ref (fb_K g v)) hC.1 hC.2.1 hC.2.2.2.1 (Or.inl ⟨_, rfl⟩) (Or.inr ⟨_, rfl⟩) (fun t ht hW => ⟨rfl, by rw [ht]; exact hH.1, by rw [ht]; exact hH.2.2, hH.2.1.F ht⟩) hH.2.1.2.2 hd hC.2.2.2.2.1
theorem fb_vretM {res : fb_M} (h : some u = some res) (hd : decode cc pc = .ok (.return_, 1)) : fb_V g own cc nL none nm R (fb_Qm g none n res k ks) k ks n u pc lv [] := by
  cases h
  exact fun p l e s m args below meth c H locs ls hC hH hl => W.vret hC.1 hC.2.1 hC.2.2.2.1 (fun t ht hW => ⟨rfl, by rw [ht]; exact hH.1, by rw [ht]; exact hH.2.2, hH.2.1.F ht⟩) hH.2.1.2.2 hd hC.2.2.2.2.1
def fb_Lk (own : String) (idx ci j N : Nat) : Prop := ∃ (C : String) (T : u_T), vwCl[ci]? = some (C, T, N) ∧ j < N ∧ ci < 100 ∧ (∀ w ∈ u_ws C T N, w ∈ fb_W) ∧ (Cond.fieldLink own idx (T j).1 (T j).2.1 (T j).2.2.1 ∈ fb_W ∨ ∃ host, Cond.fieldLinkNest own idx (T j).1 (T j).2.1 (T j).2.2.1 host ∈ fb_NW)
def fb_Ly (ci j N : Nat) (ty : FieldType) (fin : Bool) (decl : String) : Prop := ∃ (C : String) (T : u_T) (ty0 : Nat → FieldType), vwCl[ci]? = some (C, T, N) ∧ (∀ k, k < N → parseFieldDescriptor (T k).2.2.1 = some (ty0 k)) ∧ (∀ a, a < N → ∀ b, b < N → a ≠ b → (T a).2.1 ≠ (T b).2.1) ∧ parseFieldDescriptor (T j).2.2.1 = some ty ∧ (T j).2.2.2 = fin ∧ (T j).1 = decl
theorem fb_fvs {f : Nat → Value} {N j : Nat} (h : j < N) : ((List.range N).map f)[j]? = some (f j) := by simp [h]
theorem fb_fs_set {f f' : Nat → Value} {N j : Nat} {v : Value} (hj : f' j = v) (ho : ∀ i, i ≠ j → f' i = f i) : ((List.range N).map f).set j v = (List.range N).map f' := by
  apply List.ext_getElem?
  intro i
  by_cases hi : i < N
  · rw [fb_fvs hi, List.getElem?_set]
    by_cases hji : j = i
    · subst hji
      simp [hi, hj]
    · rw [if_neg hji, fb_fvs hi, ho i (fun q => hji q.symm)]
  · rw [List.getElem?_eq_none (by simp; omega), List.getElem?_eq_none (by simp; omega)]
theorem fb_getI {idx ci j N a : Nat} (hd : decode cc pc = .ok (.getfield idx, 3)) (hL : fb_Lk own idx ci j N) (hn : a < n) (ho : fb_sh a = (ci, N)) (hk : fb_fk ci j = 0) (kk : fb_V g own cc nL ret nm R Qf k ks n u (pc + 3) lv (.int (fb_I u a j) :: st)) : fb_V g own cc nL ret nm R Qf k ks n u pc lv (.ref (fb_b g + a) :: st) := by
  obtain ⟨C, T, h1, h2, h3, h4, h5⟩ := hL
  intro p l e s m args below meth c H locs ls hC hH hl
  have he := fb_cs_at g u hn
  rw [fb_cell_o g u ho h3] at he
  have hv : ((List.range N).map (fb_fv g u a ci))[j]? = some (.int (fb_I u a j)) := by rw [fb_fvs h2]; simp [fb_fv, hk]
  rcases h5 with h5 | ⟨host, h5⟩
  · exact va_get hC.1 hC.2.1 hC.2.2.2.2.2.1 h4 hC.2.2.2.2.2.2.1 hC.2.2.2.2.2.2.2.2.1 hH.1 a he h1 j h2 (hC.2.2.2.2.2.1 _ h5) (fun _ h => h) hv hd (kk p l e s m args below meth c H locs ls hC hH hl)
  · exact va_getN (host := host) hC.1 hC.2.1 hC.2.2.2.2.2.1 h4 hC.2.2.2.2.2.2.1 hC.2.2.2.2.2.2.2.2.1 hH.1 a he h1 j h2 (va_Nw.use rfl (hC.2.2.2.2.2.2.2.2.2.1 _ h5)) (fun _ h => h) hv hd (kk p l e s m args below meth c H locs ls hC hH hl)
theorem fb_getR {idx ci j N a q : Nat} (hd : decode cc pc = .ok (.getfield idx, 3)) (hL : fb_Lk own idx ci j N) (hn : a < n) (ho : fb_sh a = (ci, N)) (hk : ¬ fb_fk ci j = 0) (hr : fb_R u a j = some q) (kk : fb_V g own cc nL ret nm R Qf k ks n u (pc + 3) lv (.ref (fb_b g + q) :: st)) : fb_V g own cc nL ret nm R Qf k ks n u pc lv (.ref (fb_b g + a) :: st) := by
  obtain ⟨C, T, h1, h2, h3, h4, h5⟩ := hL
  intro p l e s m args below meth c H locs ls hC hH hl
  have he := fb_cs_at g u hn
  rw [fb_cell_o g u ho h3] at he
  have hv : ((List.range N).map (fb_fv g u a ci))[j]? = some (.ref (fb_b g + q)) := by rw [fb_fvs h2]; simp [fb_fv, hk, hr, fb_rv, va_rf]
  rcases h5 with h5 | ⟨host, h5⟩
  · exact va_get hC.1 hC.2.1 hC.2.2.2.2.2.1 h4 hC.2.2.2.2.2.2.1 hC.2.2.2.2.2.2.2.2.1 hH.1 a he h1 j h2 (hC.2.2.2.2.2.1 _ h5) (fun _ h => h) hv hd (kk p l e s m args below meth c H locs ls hC hH hl)
  · exact va_getN (host := host) hC.1 hC.2.1 hC.2.2.2.2.2.1 h4 hC.2.2.2.2.2.2.1 hC.2.2.2.2.2.2.2.2.1 hH.1 a he h1 j h2 (va_Nw.use rfl (hC.2.2.2.2.2.2.2.2.2.1 _ h5)) (fun _ h => h) hv hd (kk p l e s m args below meth c H locs ls hC hH hl)
theorem fb_Hp_set {g : fb_G} {n : Nat} {u u' : fb_M} {s : State} {H H' : Heap} {locs : List Loc} {a j : Nat} (hH : fb_Hp g n u s H locs) (hn : a < n) (ho : ∀ i, i ≠ a → fb_cell g u' i = fb_cell g u i) (hat : va_at (fb_D g) vwCl (fb_b g + a, fb_cell g u' a) H') (hz : H'.size = H.size) (oq : ∀ q : Nat, q ≠ fb_b g + a → H'[q]? = H[q]?) : fb_Hp g n u' s H' (locs ++ [⟨fb_b g + a, j⟩]) := by
  refine ⟨?_, hH.2.1.put hz oq (Nat.le_add_right _ _), fun hlt => hz.trans (hH.2.2 hlt)⟩
  have h1 := hH.1.set (fb_D_cs g n u) (fb_cs_at g u hn) hat oq
  rw [fb_cs_set g rfl ho] at h1
  exact h1
def fb_Lf (own : String) (idx ci j N : Nat) : Prop := ∃ (C : String) (T : u_T), vwCl[ci]? = some (C, T, N) ∧ j < N ∧ ci < 100 ∧ (∀ w ∈ u_ws C T N, w ∈ fb_W) ∧ Cond.fieldLink own idx (T j).1 (T j).2.1 (T j).2.2.1 ∈ fb_W
theorem fb_putV {idx ci j N a : Nat} {v : Value} {u' : fb_M} {ty : FieldType} {decl : String} (hd : decode cc pc = .ok (.putfield idx, 3)) (hL : fb_Lk own idx ci j N) (hY : fb_Ly ci j N ty false decl) (hn : a < n) (ho : fb_sh a = (ci, N)) (hnw : narrow ty v = v) (hft : fits ty v = true) (hv : fb_fv g u' a ci j = v) (hvo : ∀ i, i ≠ j → fb_fv g u' a ci i = fb_fv g u a ci i) (hc : ∀ i, i ≠ a → fb_cell g u' i = fb_cell g u i) (kk : fb_V g own cc nL ret nm R Qf k ks n u' (pc + 3) lv st) : fb_V g own cc nL ret nm R Qf k ks n u pc lv (v :: .ref (fb_b g + a) :: st) := by
  obtain ⟨C, T, h1, h2, h3, h4, h5⟩ := hL
  obtain ⟨C', T', ty0, g1, g2, g3, g4, g5, g6⟩ := hY
  have q0 := Option.some.inj (h1.symm.trans g1)
  simp only [Prod.mk.injEq] at q0
  obtain ⟨rfl, rfl, -⟩ := q0
  intro p l e s m args below meth c H locs ls hC hH hl
  have hC0 := hC
  obtain ⟨hx, hb, hml, hr, hlk, hts, hown, hmn, hK, hG⟩ := hC
  have he := fb_cs_at g u hn
  rw [fb_cell_o g u ho h3] at he
  have hap := va_apart (own := own) hts h4 ty0 g2 g3 hK h1
  obtain ⟨r0, h6, cell, q1, q2, q3, q4⟩ := hH.1 a _ he
  obtain rfl : r0 = (C, T, N) := Option.some.inj (h6.symm.trans h1)
  obtain ⟨hS, hfc, kC, hkC, hkind⟩ := hK.1 ci _ h1
  obtain ⟨cf, kf, fi, f, hi, hsl⟩ := hS j h2
  have hlay := hts _ (h4 _ (u_in_lay h2))
  unfold u_lay at hlay
  have hst := (u_facts hfc hkC (u_lays hts h4 h2) hi).1
  have e0 : ((List.range N).map (fb_fv g u a ci)).set j v = (List.range N).map (fb_fv g u' a ci) := fb_fs_set hv hvo
  have hlen : j < ((List.range N).map (fb_fv g u a ci)).length := by simp; exact h2
  have hend : ∀ H' : Heap, H'[fb_b g + a]? = some (cell.setSlot f.slot v) → H'.size = H.size → (∀ q, q ≠ fb_b g + a → H'[q]? = H[q]?) → W p l e R s m args below meth c H' (locs ++ [⟨fb_b g + a, f.slot⟩]) k ks (Qf s args below) (F0 m (pc + 3) ls st) := by
    intro H' e1 e2 e3
    refine kk p l e s m args below meth c H' _ ls hC0 (fb_Hp_set hH hn hc ?_ e2 e3) hl
    rw [fb_cell_o g u' ho h3, ← e0]
    rw [hsl] at e1
    exact ⟨_, h1, t_OB.to (V := updV (vp_V ((List.range N).map (fb_fv g u a ci))) j v) ⟨_, e1, q2, q3, t_set q4 hap h2 v⟩ (fun i _ => vp_updV_set hlen v i)⟩
  rw [if_neg (by rw [g5]; decide)] at hlay
  have hsd := u_store hfc hkC hkind hlay hi g4 hnw hft
  rcases h5 with h5 | ⟨host, h5⟩
  · exact W.putK hx hb (f := f) ⟨hown, hts _ h5, ⟨_, _, _, hi⟩, hst⟩ (by rw [q2]; exact hsd) q1 q3 (by rw [hsl]; exact k2_hasslot (q4 j h2)) rfl rfl hd hend
  · exact va_WputK hx hb hown (va_Nw.use rfl (hG.1 _ h5)) hi hst (by rw [q2]; exact hsd) q1 q3 (by rw [hsl]; exact k2_hasslot (q4 j h2)) rfl rfl hd hend
theorem fb_putF {idx ci j N a : Nat} {v : Value} {u' : fb_M} {ty : FieldType} {decl : String} (hd : decode cc pc = .ok (.putfield idx, 3)) (hL : fb_Lf own idx ci j N) (hY : fb_Ly ci j N ty true decl) (hnm : nm = "<init>") (hdc : decl = own) (hn : a < n) (ho : fb_sh a = (ci, N)) (hnw : narrow ty v = v) (hft : fits ty v = true) (hv : fb_fv g u' a ci j = v) (hvo : ∀ i, i ≠ j → fb_fv g u' a ci i = fb_fv g u a ci i) (hc : ∀ i, i ≠ a → fb_cell g u' i = fb_cell g u i) (kk : fb_V g own cc nL ret nm R Qf k ks n u' (pc + 3) lv st) : fb_V g own cc nL ret nm R Qf k ks n u pc lv (v :: .ref (fb_b g + a) :: st) := by
  obtain ⟨C, T, h1, h2, h3, h4, h5⟩ := hL
  obtain ⟨C', T', ty0, g1, g2, g3, g4, g5, g6⟩ := hY
  have q0 := Option.some.inj (h1.symm.trans g1)
  simp only [Prod.mk.injEq] at q0
  obtain ⟨rfl, rfl, -⟩ := q0
  intro p l e s m args below meth c H locs ls hC hH hl
  have hC0 := hC
  obtain ⟨hx, hb, hml, hr, hlk, hts, hown, hmn, hK, hG⟩ := hC
  have he := fb_cs_at g u hn
  rw [fb_cell_o g u ho h3] at he
  have hap := va_apart (own := own) hts h4 ty0 g2 g3 hK h1
  obtain ⟨r0, h6, cell, q1, q2, q3, q4⟩ := hH.1 a _ he
  obtain rfl : r0 = (C, T, N) := Option.some.inj (h6.symm.trans h1)
  obtain ⟨hS, hfc, kC, hkC, hkind⟩ := hK.1 ci _ h1
  obtain ⟨cf, kf, fi, f, hi, hsl⟩ := hS j h2
  have hlay := hts _ (h4 _ (u_in_lay h2))
  unfold u_lay at hlay
  have hst := (u_facts hfc hkC (u_lays hts h4 h2) hi).1
  have e0 : ((List.range N).map (fb_fv g u a ci)).set j v = (List.range N).map (fb_fv g u' a ci) := fb_fs_set hv hvo
  have hlen : j < ((List.range N).map (fb_fv g u a ci)).length := by simp; exact h2
  have hend : ∀ H' : Heap, H'[fb_b g + a]? = some (cell.setSlot f.slot v) → H'.size = H.size → (∀ q, q ≠ fb_b g + a → H'[q]? = H[q]?) → W p l e R s m args below meth c H' (locs ++ [⟨fb_b g + a, f.slot⟩]) k ks (Qf s args below) (F0 m (pc + 3) ls st) := by
    intro H' e1 e2 e3
    refine kk p l e s m args below meth c H' _ ls hC0 (fb_Hp_set hH hn hc ?_ e2 e3) hl
    rw [fb_cell_o g u' ho h3, ← e0]
    rw [hsl] at e1
    exact ⟨_, h1, t_OB.to (V := updV (vp_V ((List.range N).map (fb_fv g u a ci))) j v) ⟨_, e1, q2, q3, t_set q4 hap h2 v⟩ (fun i _ => vp_updV_set hlen v i)⟩
  rw [if_pos g5] at hlay
  have hcf : m.cls = cf := by
    obtain ⟨_, _, c', _, _, _, -, -, hf', -, -, -, hown2, -⟩ := Cond.laysFinal_spec hlay
    have e1 : c' = cf := by have := hi.symm.trans hf'; simp at this; exact this.1.symm
    rw [g6, hdc] at hown2
    rw [← e1]; exact Option.some.inj (hown.symm.trans hown2)
  have hsd := u_fits hfc hkC hkind (Or.inr hlay) hi g4 hnw hft
  exact W.putFinK hx hb hown (hts _ h5) hi hst hcf (hmn hnm) (by rw [q2]; exact hsd) q1 q3 (by rw [hsl]; exact k2_hasslot (q4 j h2)) rfl rfl hd hend

theorem fb_putI {idx ci j N a : Nat} {x : Int32} {ty : FieldType} {decl : String} (hd : decode cc pc = .ok (.putfield idx, 3)) (hL : fb_Lk own idx ci j N) (hY : fb_Ly ci j N ty false decl) (hn : a < n) (ho : fb_sh a = (ci, N)) (hk : fb_fk ci j = 0) (hnw : narrow ty (.int x) = .int x) (hft : fits ty (.int x) = true) (kk : fb_V g own cc nL ret nm R Qf k ks n (fb_wI u a j x) (pc + 3) lv st) : fb_V g own cc nL ret nm R Qf k ks n u pc lv (.int x :: .ref (fb_b g + a) :: st) :=
  fb_putV hd hL hY hn ho hnw hft (by simp [fb_fv, hk, fb_I, fb_wI, fb_up]) (fun i hi => by simp [fb_fv, fb_I, fb_wI, fb_up, hi, fb_R]) (fun i hi => fb_cell_wI g u x hi) kk
theorem fb_putR {idx ci j N a q : Nat} {C : String} {ty : FieldType} {decl : String} (hd : decode cc pc = .ok (.putfield idx, 3)) (hL : fb_Lk own idx ci j N) (hY : fb_Ly ci j N ty false decl) (hn : a < n) (ho : fb_sh a = (ci, N)) (hk : ¬ fb_fk ci j = 0) (hnw : narrow ty (.ref (fb_b g + q)) = .ref (fb_b g + q)) (hft : fits ty (.ref (fb_b g + q)) = true) (kk : fb_V g own cc nL ret nm R Qf k ks n (fb_wR u a j q) (pc + 3) lv st) : fb_V g own cc nL ret nm R Qf k ks n u pc lv (.ref (fb_b g + q) :: .ref (fb_b g + a) :: st) :=
  fb_putV hd hL hY hn ho hnw hft (by simp [fb_fv, hk, fb_R, fb_wR, fb_up, fb_rv, va_rf]) (fun i hi => by simp [fb_fv, fb_R, fb_wR, fb_up, hi, fb_I]) (fun i hi => fb_cell_wR g u hi) kk
theorem fb_putfI {idx ci j N a : Nat} {x : Int32} {ty : FieldType} {decl : String} (hd : decode cc pc = .ok (.putfield idx, 3)) (hL : fb_Lf own idx ci j N) (hY : fb_Ly ci j N ty true decl) (hnm : nm = "<init>") (hdc : decl = own) (hn : a < n) (ho : fb_sh a = (ci, N)) (hk : fb_fk ci j = 0) (hnw : narrow ty (.int x) = .int x) (hft : fits ty (.int x) = true) (kk : fb_V g own cc nL ret nm R Qf k ks n (fb_wI u a j x) (pc + 3) lv st) : fb_V g own cc nL ret nm R Qf k ks n u pc lv (.int x :: .ref (fb_b g + a) :: st) :=
  fb_putF hd hL hY hnm hdc hn ho hnw hft (by simp [fb_fv, hk, fb_I, fb_wI, fb_up]) (fun i hi => by simp [fb_fv, fb_I, fb_wI, fb_up, hi, fb_R]) (fun i hi => fb_cell_wI g u x hi) kk
theorem fb_putfR {idx ci j N a q : Nat} {C : String} {ty : FieldType} {decl : String} (hd : decode cc pc = .ok (.putfield idx, 3)) (hL : fb_Lf own idx ci j N) (hY : fb_Ly ci j N ty true decl) (hnm : nm = "<init>") (hdc : decl = own) (hn : a < n) (ho : fb_sh a = (ci, N)) (hk : ¬ fb_fk ci j = 0) (hnw : narrow ty (.ref (fb_b g + q)) = .ref (fb_b g + q)) (hft : fits ty (.ref (fb_b g + q)) = true) (kk : fb_V g own cc nL ret nm R Qf k ks n (fb_wR u a j q) (pc + 3) lv st) : fb_V g own cc nL ret nm R Qf k ks n u pc lv (.ref (fb_b g + q) :: .ref (fb_b g + a) :: st) :=
  fb_putF hd hL hY hnm hdc hn ho hnw hft (by simp [fb_fv, hk, fb_R, fb_wR, fb_up, fb_rv, va_rf]) (fun i hi => by simp [fb_fv, fb_R, fb_wR, fb_up, hi, fb_I]) (fun i hi => fb_cell_wR g u hi) kk
theorem fb_iald {a N : Nat} {i : Int32} (hd : decode cc pc = .ok (.iaload, 1)) (hn : a < n) (ho : fb_sh a = (100, N)) (hin : ¬ (i < 0 ∨ N ≤ i.toNatClampNeg)) (kk : fb_V g own cc nL ret nm R Qf k ks n u (pc + 1) lv (.int (fb_I u a i.toNatClampNeg) :: st)) : fb_V g own cc nL ret nm R Qf k ks n u pc lv (.int i :: .ref (fb_b g + a) :: st) := by
  intro p l e s m args below meth c H locs ls hC hH hl
  have he := fb_cs_at g u hn
  rw [fb_cell_i g u (t := 0) ho (by decide)] at he
  exact va_iald hC.1 hC.2.1 hC.2.2.2.2.2.2.2.2.1 hH.1 a 0 he (fb_tys_at g (t := 0) (by decide)) hin hd (kk p l e s m args below meth c H locs ls hC hH hl)
theorem fb_iast {a N : Nat} {i x : Int32} (hd : decode cc pc = .ok (.iastore, 1)) (hn : a < n) (ho : fb_sh a = (100, N)) (hin : ¬ (i < 0 ∨ N ≤ i.toNatClampNeg)) (kk : fb_V g own cc nL ret nm R Qf k ks n (fb_wI u a i.toNatClampNeg x) (pc + 1) lv st) : fb_V g own cc nL ret nm R Qf k ks n u pc lv (.int x :: .int i :: .ref (fb_b g + a) :: st) := by
  intro p l e s m args below meth c H locs ls hC hH hl
  have he := fb_cs_at g u hn
  rw [fb_cell_i g u (t := 0) ho (by decide)] at he
  refine W.iast hC.1 hC.2.1 (hH.1 a _ he) ((hC.2.2.2.2.2.2.2.2.1.2 0 _ (fb_tys_at g (t := 0) (by decide))).1 N (fun j => .int (fb_I u a j))) (fun q => by cases q) (by show ¬ (i < 0 ∨ (arrV _ _ _).slots.size ≤ _); rw [arrV_size]; exact hin) rfl rfl hd fun H1 e1 z1 oq => ?_
  refine kk p l e s m args below meth c H1 _ ls hC (fb_Hp_set hH hn (fun j hj => fb_cell_wI g u _ hj) ?_ z1 oq) hl
  rw [fb_cell_i g _ (t := 0) ho (by decide)]
  show H1[fb_b g + a]? = some (vp_cell _ _)
  rw [e1, vp_cell_i, vp_cell_i, arrV_store]
  congr 2
  funext q
  by_cases hq : q = i.toNatClampNeg
  · subst hq
    simp [updV, fb_I, fb_wI, fb_up, vp_nar] <;> rfl
  · simp [updV, fb_I, fb_wI, fb_up, hq]
theorem fb_cald {a N : Nat} {i : Int32} (hd : decode cc pc = .ok (.caload, 1)) (hn : a < n) (ho : fb_sh a = (101, N)) (hin : ¬ (i < 0 ∨ N ≤ i.toNatClampNeg)) (kk : fb_V g own cc nL ret nm R Qf k ks n u (pc + 1) lv (.int (fb_I u a i.toNatClampNeg) :: st)) : fb_V g own cc nL ret nm R Qf k ks n u pc lv (.int i :: .ref (fb_b g + a) :: st) := by
  intro p l e s m args below meth c H locs ls hC hH hl
  have he := fb_cs_at g u hn
  rw [fb_cell_i g u (t := 1) ho (by decide)] at he
  exact va_cald hC.1 hC.2.1 hC.2.2.2.2.2.2.2.2.1 hH.1 a 1 he (fb_tys_at g (t := 1) (by decide)) hin hd (kk p l e s m args below meth c H locs ls hC hH hl)
theorem fb_cast {a N : Nat} {i x : Int32} (hd : decode cc pc = .ok (.castore, 1)) (hn : a < n) (ho : fb_sh a = (101, N)) (hin : ¬ (i < 0 ∨ N ≤ i.toNatClampNeg)) (kk : fb_V g own cc nL ret nm R Qf k ks n (fb_wI u a i.toNatClampNeg (vp_nar .char x)) (pc + 1) lv st) : fb_V g own cc nL ret nm R Qf k ks n u pc lv (.int x :: .int i :: .ref (fb_b g + a) :: st) := by
  intro p l e s m args below meth c H locs ls hC hH hl
  have he := fb_cs_at g u hn
  rw [fb_cell_i g u (t := 1) ho (by decide)] at he
  refine W.cast hC.1 hC.2.1 (hH.1 a _ he) ((hC.2.2.2.2.2.2.2.2.1.2 1 _ (fb_tys_at g (t := 1) (by decide))).1 N (fun j => .int (fb_I u a j))) (fun q => by cases q) (by show ¬ (i < 0 ∨ (arrV _ _ _).slots.size ≤ _); rw [arrV_size]; exact hin) rfl rfl hd fun H1 e1 z1 oq => ?_
  refine kk p l e s m args below meth c H1 _ ls hC (fb_Hp_set hH hn (fun j hj => fb_cell_wI g u _ hj) ?_ z1 oq) hl
  rw [fb_cell_i g _ (t := 1) ho (by decide)]
  show H1[fb_b g + a]? = some (vp_cell _ _)
  rw [e1, vp_cell_i, vp_cell_i, arrV_store]
  congr 2
  funext q
  by_cases hq : q = i.toNatClampNeg
  · subst hq
    simp [updV, fb_I, fb_wI, fb_up, vp_nar] <;> rfl
  · simp [updV, fb_I, fb_wI, fb_up, hq]
theorem fb_zald {a N : Nat} {i : Int32} (hd : decode cc pc = .ok (.baload, 1)) (hn : a < n) (ho : fb_sh a = (102, N)) (hin : ¬ (i < 0 ∨ N ≤ i.toNatClampNeg)) (kk : fb_V g own cc nL ret nm R Qf k ks n u (pc + 1) lv (.int (fb_I u a i.toNatClampNeg) :: st)) : fb_V g own cc nL ret nm R Qf k ks n u pc lv (.int i :: .ref (fb_b g + a) :: st) := by
  intro p l e s m args below meth c H locs ls hC hH hl
  have he := fb_cs_at g u hn
  rw [fb_cell_i g u (t := 2) ho (by decide)] at he
  exact va_zald hC.1 hC.2.1 hC.2.2.2.2.2.2.2.2.1 hH.1 a 2 he (fb_tys_at g (t := 2) (by decide)) hin hd (kk p l e s m args below meth c H locs ls hC hH hl)
theorem fb_zast {a N : Nat} {i x : Int32} (hd : decode cc pc = .ok (.bastore, 1)) (hn : a < n) (ho : fb_sh a = (102, N)) (hin : ¬ (i < 0 ∨ N ≤ i.toNatClampNeg)) (kk : fb_V g own cc nL ret nm R Qf k ks n (fb_wI u a i.toNatClampNeg (vp_nar .boolean x)) (pc + 1) lv st) : fb_V g own cc nL ret nm R Qf k ks n u pc lv (.int x :: .int i :: .ref (fb_b g + a) :: st) := by
  intro p l e s m args below meth c H locs ls hC hH hl
  have he := fb_cs_at g u hn
  rw [fb_cell_i g u (t := 2) ho (by decide)] at he
  refine W.zast hC.1 hC.2.1 (hH.1 a _ he) ((hC.2.2.2.2.2.2.2.2.1.2 2 _ (fb_tys_at g (t := 2) (by decide))).1 N (fun j => .int (fb_I u a j))) (fun q => by cases q) (by show ¬ (i < 0 ∨ (arrV _ _ _).slots.size ≤ _); rw [arrV_size]; exact hin) rfl rfl hd fun H1 e1 z1 oq => ?_
  refine kk p l e s m args below meth c H1 _ ls hC (fb_Hp_set hH hn (fun j hj => fb_cell_wI g u _ hj) ?_ z1 oq) hl
  rw [fb_cell_i g _ (t := 2) ho (by decide)]
  show H1[fb_b g + a]? = some (vp_cell _ _)
  rw [e1, vp_cell_i, vp_cell_i, arrV_store]
  congr 2
  funext q
  by_cases hq : q = i.toNatClampNeg
  · subst hq
    simp [updV, fb_I, fb_wI, fb_up, vp_nar] <;> rfl
  · simp [updV, fb_I, fb_wI, fb_up, hq]
theorem fb_lald {a N : Nat} {i : Int32} (hd : decode cc pc = .ok (.laload, 1)) (hn : a < n) (ho : fb_sh a = (103, N)) (hin : ¬ (i < 0 ∨ N ≤ i.toNatClampNeg)) (kk : fb_V g own cc nL ret nm R Qf k ks n u (pc + 1) lv (.long (fb_L u a i.toNatClampNeg) :: st)) : fb_V g own cc nL ret nm R Qf k ks n u pc lv (.int i :: .ref (fb_b g + a) :: st) := by
  intro p l e s m args below meth c H locs ls hC hH hl
  have he := fb_cs_at g u hn
  rw [fb_cell_l g u ho] at he
  exact va_lald hC.1 hC.2.1 hC.2.2.2.2.2.2.2.2.1 hH.1 a 3 he (fb_tys_at g (t := 3) (by decide)) hin hd (kk p l e s m args below meth c H locs ls hC hH hl)
theorem fb_last {a N : Nat} {i : Int32} {x : Int64} (hd : decode cc pc = .ok (.lastore, 1)) (hn : a < n) (ho : fb_sh a = (103, N)) (hin : ¬ (i < 0 ∨ N ≤ i.toNatClampNeg)) (kk : fb_V g own cc nL ret nm R Qf k ks n (fb_wL u a i.toNatClampNeg x) (pc + 1) lv st) : fb_V g own cc nL ret nm R Qf k ks n u pc lv (.long x :: .int i :: .ref (fb_b g + a) :: st) := by
  intro p l e s m args below meth c H locs ls hC hH hl
  have he := fb_cs_at g u hn
  rw [fb_cell_l g u ho] at he
  refine W.last hC.1 hC.2.1 (hH.1 a _ he) ((hC.2.2.2.2.2.2.2.2.1.2 3 _ (fb_tys_at g (t := 3) (by decide))).1 N (fun j => .long (fb_L u a j))) (fun q => by cases q) (by show ¬ (i < 0 ∨ (arrV _ _ _).slots.size ≤ _); rw [arrV_size]; exact hin) rfl rfl hd fun H1 e1 z1 oq => ?_
  refine kk p l e s m args below meth c H1 _ ls hC (fb_Hp_set hH hn (fun j hj => fb_cell_wL g u _ hj) ?_ z1 oq) hl
  rw [fb_cell_l g _ ho]
  show H1[fb_b g + a]? = some (vp_cell _ _)
  rw [e1, vp_cell_l, vp_cell_l, arrV_store]
  congr 2
  funext q
  by_cases hq : q = i.toNatClampNeg
  · subst hq
    simp [updV, fb_L, fb_wL, fb_up]
  · simp [updV, fb_L, fb_wL, fb_up, hq]
theorem fb_aald {a t N q : Nat} {C : String} {i : Int32} (hd : decode cc pc = .ok (.aaload, 1)) (hn : a < n) (ho : fb_sh a = (100 + t, N)) (ht : 3 < t ∧ t < fb_nT ∧ fb_ty t = .object C) (hin : ¬ (i < 0 ∨ N ≤ i.toNatClampNeg)) (hr : fb_R u a i.toNatClampNeg = some q) (kk : fb_V g own cc nL ret nm R Qf k ks n u (pc + 1) lv (.ref (fb_b g + q) :: st)) : fb_V g own cc nL ret nm R Qf k ks n u pc lv (.int i :: .ref (fb_b g + a) :: st) := by
  intro p l e s m args below meth c H locs ls hC hH hl
  have he := fb_cs_at g u hn
  rw [fb_cell_q g u (t := t) ho ht.1] at he
  have hy := fb_tys_at g ht.2.1
  rw [ht.2.2] at hy
  have w : W p l e R s m args below meth c H locs k ks (Qf s args below) (F0 m (pc + 1) ls (va_rf (fb_rv g (fb_R u a i.toNatClampNeg)) :: st)) := by
    rw [hr]
    exact (kk p l e s m args below meth c H locs ls hC hH hl)
  exact va_aldq hC.1 hC.2.1 hC.2.2.2.2.2.2.2.2.1 hH.1 a t he hy hin hd w
theorem fb_aast {a t N q ci Nc : Nat} {C : String} {T : u_T} {i : Int32} (hd : decode cc pc = .ok (.aastore, 1)) (hn : a < n) (ho : fb_sh a = (100 + t, N)) (ht : 3 < t ∧ t < fb_nT ∧ fb_ty t = .object C) (hin : ¬ (i < 0 ∨ N ≤ i.toNatClampNeg)) (hn2 : q < n) (ho2 : fb_sh q = (ci, Nc)) (hcl : ci < 100 ∧ vwCl[ci]? = some (C, T, Nc)) (kk : fb_V g own cc nL ret nm R Qf k ks n (fb_wR u a i.toNatClampNeg q) (pc + 1) lv st) : fb_V g own cc nL ret nm R Qf k ks n u pc lv (.ref (fb_b g + q) :: .int i :: .ref (fb_b g + a) :: st) := by
  intro p l e s m args below meth c H locs ls hC hH hl
  have he := fb_cs_at g u hn
  rw [fb_cell_q g u (t := t) ho ht.1] at he
  have he2 := fb_cs_at g u hn2
  rw [fb_cell_o g u ho2 hcl.1] at he2
  have hy := fb_tys_at g ht.2.1
  rw [ht.2.2] at hy
  have hK := hC.2.2.2.2.2.2.2.2.1
  have hlt : i.toNatClampNeg < N := Nat.not_le.mp fun q => hin (Or.inr q)
  have h0 : ¬ i < 0 := fun q => hin (Or.inl q)
  obtain ⟨r', hr', cellV, g1, g2, g3, -⟩ := hH.1 q _ he2
  have hcls := (hK.1 ci _ hcl.2).2
  obtain ⟨kA, comp, k1, k2, k3, -⟩ := (hK.2 t _ hy).2
  have hcomp : comp = (fb_D g).1 ci := Option.some.inj (k3.symm.trans hcls.1)
  subst hcomp
  obtain ⟨kC, hkC, -⟩ := hcls.2
  refine W.aast hC.1 hC.2.1 (hH.1 a _ he) (fun q h => by cases h) (fun h => by cases h) k1 k2 rfl hkC ⟨h0, by show _ < (arrV _ _ _).slots.size; rw [arrV_size]; exact hlt⟩ g1 (fun q h => by rw [g3] at h; cases h) (by rw [g2]; exact hkC) (by rw [g2]; exact va_assign hcls) rfl rfl hd fun H1 e1 z1 oq => ?_
  refine kk p l e s m args below meth c H1 _ ls hC (fb_Hp_set hH hn (fun j hj => fb_cell_wR g u hj) ?_ z1 oq) hl
  rw [fb_cell_q g _ (t := t) ho ht.1]
  show H1[fb_b g + a]? = some (vp_cell _ _)
  rw [e1, vp_cell_q, vp_cell_q, arrV_store]
  congr 2
  funext q
  by_cases hq : q = i.toNatClampNeg
  · subst hq
    simp [updV, fb_R, fb_wR, fb_up, va_rf, fb_rv]
  · simp [updV, fb_R, fb_wR, fb_up, hq]
theorem fb_alen {a t N : Nat} (hd : decode cc pc = .ok (.arraylength, 1)) (hn : a < n) (ho : fb_sh a = (100 + t, N)) (ht : t < fb_nT) (kk : fb_V g own cc nL ret nm R Qf k ks n u (pc + 1) lv (.int (Int32.ofNat N) :: st)) : fb_V g own cc nL ret nm R Qf k ks n u pc lv (.ref (fb_b g + a) :: st) := by
  intro p l e s m args below meth c H locs ls hC hH hl
  have he := fb_cs_at g u hn
  have e0 : fb_cell g u a = .inl (fb_tA g t, N, fb_cont g u a t) := by
    have e : ¬ 100 + t < 100 := by omega
    simp [fb_cell, ho, e]
  rw [e0] at he
  exact va_alen hC.1 hC.2.1 hC.2.2.2.2.2.2.2.2.1 hH.1 a t he (fb_tys_at g ht) rfl hd (kk p l e s m args below meth c H locs ls hC hH hl)
theorem fb_sld {i : Int32} (hd : decode cc pc = .ok (.iaload, 1)) (hin : ¬ (i < 0 ∨ fb_sL g ≤ i.toNatClampNeg)) (kk : fb_V g own cc nL ret nm R Qf k ks n u (pc + 1) lv (.int (fb_sx g i.toNatClampNeg) :: st)) : fb_V g own cc nL ret nm R Qf k ks n u pc lv (.int i :: .ref (fb_sb g) :: st) :=
  fun p l e s m args below meth c H locs ls hC hH hl => va_sld hC.1 hC.2.1 hC.2.2.2.2.2.2.2.2.2.2.2.2.1 (Nat.lt_of_lt_of_le hC.2.2.2.2.2.2.2.2.2.2.2.2.2.1 hC.2.2.2.2.2.2.2.2.2.2.2.2.2.2.1) (fun z => absurd hC.2.2.2.2.2.2.2.2.2.2.2.2.2.1 (Nat.not_lt.mpr z)) hH.2.1 hin hd (kk p l e s m args below meth c H locs ls hC hH hl)
theorem fb_slen (hd : decode cc pc = .ok (.arraylength, 1)) (kk : fb_V g own cc nL ret nm R Qf k ks n u (pc + 1) lv (.int (Int32.ofNat (fb_sL g)) :: st)) : fb_V g own cc nL ret nm R Qf k ks n u pc lv (.ref (fb_sb g) :: st) :=
  fun p l e s m args below meth c H locs ls hC hH hl => va_slen hC.1 hC.2.1 hC.2.2.2.2.2.2.2.2.2.2.2.2.1 (Nat.lt_of_lt_of_le hC.2.2.2.2.2.2.2.2.2.2.2.2.2.1 hC.2.2.2.2.2.2.2.2.2.2.2.2.2.2.1) (fun z => absurd hC.2.2.2.2.2.2.2.2.2.2.2.2.2.1 (Nat.not_lt.mpr z)) hH.2.1 hd (kk p l e s m args below meth c H locs ls hC hH hl)
def fb_gd {ρ : Type} (c : Prop) [Decidable c] (x : Option ρ) : Option ρ := if c then x else none
theorem fb_gdE {ρ : Type} {c : Prop} [Decidable c] {x : Option ρ} {res : ρ} {P : Prop} (h : fb_gd c x = some res) (kk : c → x = some res → P) : P := by
  unfold fb_gd at h
  by_cases hc : c
  · rw [if_pos hc] at h; exact kk hc h
  · rw [if_neg hc] at h; cases h
theorem fb_bnE {α ρ : Type} {x : Option α} {f : α → Option ρ} {res : ρ} {P : Prop} (h : x.bind f = some res) (kk : ∀ a, x = some a → f a = some res → P) : P := by
  cases x with
  | none => cases h
  | some a => exact kk a rfl h
theorem fb_ifE {ρ : Type} {c : Prop} [Decidable c] {A B : Option ρ} {res : ρ} {P : Prop} (h : (if c then A else B) = some res) (k1 : c → A = some res → P) (k2 : ¬ c → B = some res → P) : P := by
  by_cases hc : c
  · rw [if_pos hc] at h; exact k1 hc h
  · rw [if_neg hc] at h; exact k2 hc h
def fb_Ym (y : MethodName) (cc : ByteArray) (mL : Nat) (ret : Option FieldType) (na : Nat) : Prop := Cond.code y cc mL ret ∈ fb_W ∧ Cond.initialized y.cls ∈ fb_W ∧ (y.cls ≠ "java/lang/invoke/MethodHandle" ∧ y.cls ≠ "java/lang/invoke/VarHandle" ∧ (parseMethodDescriptor y.desc).map (fun d => d.parameters.length) = some na)
def fb_Yi (y : MethodName) (ci : Nat) : Prop := Cond.instanceMethod y ∈ fb_W ∧ Cond.selects y.cls y y ∈ fb_W ∧ ci < 100 ∧ ∃ (T : u_T) (N : Nat), vwCl[ci]? = some (y.cls, T, N)
def fb_Yl (own : String) (idx : Nat) (y : MethodName) : Prop := Cond.methodLink own idx y ∈ fb_W ∨ ∃ host, Cond.methodLinkNest own idx y host ∈ fb_NW
theorem fb_after {p : Program} {l : Launch} {e : Env} {R : Room} {s : State} {m : MethodId} {args : Array Value} {below : List Frame} {meth : Method} {c : Code} {H : Heap} {locs : List Loc} {Q : State → Prop} {ls : Array Slot} {st0 rest : List Value} {a : Array Value} {mc1 ms1 n1 : Nat} {r1 : Option Value} {u1 : fb_M}
    (hr : va_Run p l e R s m args below meth c H locs k ks mc1 ms1 (F0 m pc ls st0) rest (fb_Q g r1 n1 u1 a) (fb_A g)) (hH : fb_Hp g n u s H locs)
    (kk : ∀ (H1 : Heap) (locs1 : List Loc), fb_Hp g n1 u1 s H1 locs1 → W p l e R s m args below meth c H1 locs1 (k + mc1) (ks + ms1) Q (F0 m (pc + 3) ls (r1.toList ++ rest))) : W p l e R s m args below meth c H locs k ks Q (F0 m pc ls st0) := by
  intro T hT X
  obtain ⟨v, st₀, t, T', L, h0, X', hL, e1, e2, ⟨hv, hP, hz, hF⟩, st⟩ := hr T hT X
  obtain rfl : v = r1 := Outcome.returned.inj hv
  rw [← e1] at hP hz
  obtain ⟨f1, f2⟩ := hF
  rw [h0, ← e1] at f1 f2
  obtain ⟨g1, g2, g3⟩ := hH.2.1
  obtain ⟨t2, a1, b1⟩ := kk T'.heap (locs ++ L) ⟨hP, ⟨Nat.le_trans g1 f1, fun q q1 q2 => (f2 q (Nat.lt_of_lt_of_le q1 g1) q2).trans (g2 q q1 q2), fun q hq => by
    rcases List.mem_append.mp hq with h | h
    · exact g3 q h
    · exact hL q h⟩, hz⟩ T' rfl X'
  exact ⟨t2, st t2 a1, b1⟩
theorem fb_pc {av : List Value} {s U : State} {H : Heap} {locs : List Loc} {own : String} {cc : ByteArray} {nL : Nat} {ret : Option FieldType} {nm : String} {p : Program} {m : MethodId} {args : Array Value} {meth : Method} {c : Code} (hC : fb_Cx g own cc nL ret nm p s m args meth c) (hH : fb_Hp g n u s H locs) (hU : U.heap = H) (hW : s.WarmedH U.vm) : va_Pc av (fb_Pre g n u) av.toArray U :=
  ⟨rfl, by rw [hU]; exact hH.1, by rw [hU]; exact hH.2.2, va_K.moved hW.alike hC.2.2.2.2.2.2.2.2.1, fb_Gl.to hC.2.2.2.2.2.2.2.2.2 hW (by rw [hU]; exact hH.2.1)⟩
theorem fb_callVv {idx : Nat} {y : MethodName} {cc1 : ByteArray} {mL1 : Nat} {ret1 : Option FieldType} {d1 lo1 mc1 ms1 n1 : Nat} {u1 : fb_M} {v1 : Value} {a ci N : Nat} {st0 : List Value} (As : List Value) (hd : decode cc pc = .ok (.invokevirtual idx, 3)) (hR : fb_Runs g d1 lo1 mc1 ms1 n n1 y cc1 mL1 ret1 (.ref (fb_b g + a) :: As) u (some v1) u1) (hm : fb_Ym y cc1 mL1 ret1 As.length) (hi : fb_Yi y ci) (hn : a < n) (ho : fb_sh a = (ci, N)) (hk : fb_Yl own idx y) (hst : st0 = As.reverse ++ .ref (fb_b g + a) :: st) (hw : (st.map fun v => v.category).sum ≤ 8) (hdd : d1 + 1 ≤ R.frames ∧ 8 + (mL1 + 11) + lo1 ≤ R.locals) (hcs : k + mc1 ≤ R.cells ∧ ks + ms1 ≤ R.slots) (kk : fb_V g own cc nL ret nm R Qf (k + mc1) (ks + ms1) n1 u1 (pc + 3) lv (v1 :: st)) : fb_V g own cc nL ret nm R Qf k ks n u pc lv st0 := by
  subst hst
  intro p l e s m args below meth c H locs ls hC hH hl
  have hts := hC.2.2.2.2.2.1
  have hS : CallFix p m c cc nL s args fb_W own := ⟨hC.1, hC.2.1, hC.2.2.1, hC.2.2.2.2.2.2.1, hts⟩
  obtain ⟨i1, i2, i3, T, N', i4⟩ := hi
  have he := fb_cs_at g u hn
  rw [fb_cell_o g u ho i3] at he
  have hp : PreV s H y.cls (fb_b g + a) (va_Pc (.ref (fb_b g + a) :: As) (fb_Pre g n u)) As := ⟨fb_blind g n u _, va_recv hC.2.2.2.2.2.2.2.2.1 hH.1 i4 he, fun U hU hW => fb_pc hC hH hU hW⟩
  have key : ∀ (H1 : Heap) (locs1 : List Loc), fb_Hp g n1 u1 s H1 locs1 → W p l e R s m args below meth c H1 locs1 (k + mc1) (ks + ms1) (Qf s args below) (F0 m (pc + 3) ls ((some v1).toList ++ st)) := fun H1 locs1 h1 => kk p l e s m args below meth c H1 locs1 ls hC h1 hl
  rcases hk with h5 | ⟨host, h5⟩
  · exact fb_after (va_runV hS (hR l) ⟨callB_of As.length hts (fb_good hm.1) rfl rfl rfl (hts _ hm.2.1) (hts _ h5) hm.2.2 hdd, hts _ i1, hts _ i2⟩ hp rfl rfl hl.1 rfl (lv_room hw) hd hcs) hH key
  · exact fb_after (va_runVN hS (hR l) ⟨va_cnB As.length hts (fb_good hm.1) rfl rfl rfl (hC.2.2.2.2.2.2.2.2.2.1 _ h5) (hts _ hm.2.1) hm.2.2 hdd, hts _ i1, hts _ i2⟩ hp rfl rfl hl.1 rfl (lv_room hw) hd hcs) hH key
theorem fb_callVn {idx : Nat} {y : MethodName} {cc1 : ByteArray} {mL1 : Nat} {ret1 : Option FieldType} {d1 lo1 mc1 ms1 n1 : Nat} {u1 : fb_M} {a ci N : Nat} {st0 : List Value} (As : List Value) (hd : decode cc pc = .ok (.invokevirtual idx, 3)) (hR : fb_Runs g d1 lo1 mc1 ms1 n n1 y cc1 mL1 ret1 (.ref (fb_b g + a) :: As) u none u1) (hm : fb_Ym y cc1 mL1 ret1 As.length) (hi : fb_Yi y ci) (hn : a < n) (ho : fb_sh a = (ci, N)) (hk : fb_Yl own idx y) (hst : st0 = As.reverse ++ .ref (fb_b g + a) :: st) (hw : (st.map fun v => v.category).sum ≤ 8) (hdd : d1 + 1 ≤ R.frames ∧ 8 + (mL1 + 11) + lo1 ≤ R.locals) (hcs : k + mc1 ≤ R.cells ∧ ks + ms1 ≤ R.slots) (kk : fb_V g own cc nL ret nm R Qf (k + mc1) (ks + ms1) n1 u1 (pc + 3) lv st) : fb_V g own cc nL ret nm R Qf k ks n u pc lv st0 := by
  subst hst
  intro p l e s m args below meth c H locs ls hC hH hl
  have hts := hC.2.2.2.2.2.1
  have hS : CallFix p m c cc nL s args fb_W own := ⟨hC.1, hC.2.1, hC.2.2.1, hC.2.2.2.2.2.2.1, hts⟩
  obtain ⟨i1, i2, i3, T, N', i4⟩ := hi
  have he := fb_cs_at g u hn
  rw [fb_cell_o g u ho i3] at he
  have hp : PreV s H y.cls (fb_b g + a) (va_Pc (.ref (fb_b g + a) :: As) (fb_Pre g n u)) As := ⟨fb_blind g n u _, va_recv hC.2.2.2.2.2.2.2.2.1 hH.1 i4 he, fun U hU hW => fb_pc hC hH hU hW⟩
  have key : ∀ (H1 : Heap) (locs1 : List Loc), fb_Hp g n1 u1 s H1 locs1 → W p l e R s m args below meth c H1 locs1 (k + mc1) (ks + ms1) (Qf s args below) (F0 m (pc + 3) ls (none.toList ++ st)) := fun H1 locs1 h1 => kk p l e s m args below meth c H1 locs1 ls hC h1 hl
  rcases hk with h5 | ⟨host, h5⟩
  · exact fb_after (va_runV hS (hR l) ⟨callB_of As.length hts (fb_good hm.1) rfl rfl rfl (hts _ hm.2.1) (hts _ h5) hm.2.2 hdd, hts _ i1, hts _ i2⟩ hp rfl rfl hl.1 rfl (lv_room hw) hd hcs) hH key
  · exact fb_after (va_runVN hS (hR l) ⟨va_cnB As.length hts (fb_good hm.1) rfl rfl rfl (hC.2.2.2.2.2.2.2.2.2.1 _ h5) (hts _ hm.2.1) hm.2.2 hdd, hts _ i1, hts _ i2⟩ hp rfl rfl hl.1 rfl (lv_room hw) hd hcs) hH key
theorem fb_callSv {idx : Nat} {y : MethodName} {cc1 : ByteArray} {mL1 : Nat} {ret1 : Option FieldType} {d1 lo1 mc1 ms1 n1 : Nat} {u1 : fb_M} {v1 : Value} {st0 : List Value} (As : List Value) (hd : decode cc pc = .ok (.invokestatic idx, 3)) (hR : fb_Runs g d1 lo1 mc1 ms1 n n1 y cc1 mL1 ret1 (As) u (some v1) u1) (hm : fb_Ym y cc1 mL1 ret1 As.length) (hi : Cond.static y ∈ fb_W) (hk : fb_Yl own idx y) (hst : st0 = As.reverse ++ st) (hw : (st.map fun v => v.category).sum ≤ 8) (hdd : d1 + 1 ≤ R.frames ∧ 8 + (mL1 + 11) + lo1 ≤ R.locals) (hcs : k + mc1 ≤ R.cells ∧ ks + ms1 ≤ R.slots) (kk : fb_V g own cc nL ret nm R Qf (k + mc1) (ks + ms1) n1 u1 (pc + 3) lv (v1 :: st)) : fb_V g own cc nL ret nm R Qf k ks n u pc lv st0 := by
  subst hst
  intro p l e s m args below meth c H locs ls hC hH hl
  have hts := hC.2.2.2.2.2.1
  have hS : CallFix p m c cc nL s args fb_W own := ⟨hC.1, hC.2.1, hC.2.2.1, hC.2.2.2.2.2.2.1, hts⟩
  have hp : PreS s H (va_Pc As (fb_Pre g n u)) As := ⟨fb_blind g n u _, fun U hU hW => fb_pc hC hH hU hW⟩
  have key : ∀ (H1 : Heap) (locs1 : List Loc), fb_Hp g n1 u1 s H1 locs1 → W p l e R s m args below meth c H1 locs1 (k + mc1) (ks + ms1) (Qf s args below) (F0 m (pc + 3) ls ((some v1).toList ++ st)) := fun H1 locs1 h1 => kk p l e s m args below meth c H1 locs1 ls hC h1 hl
  rcases hk with h5 | ⟨host, h5⟩
  · exact fb_after (va_runS hS (hR l) ⟨callB_of As.length hts (fb_good hm.1) rfl rfl rfl (hts _ hm.2.1) (hts _ h5) hm.2.2 hdd, hts _ hi⟩ hp rfl rfl hl.1 rfl (lv_room hw) hd hcs) hH key
  · exact fb_after (va_runSN hS (hR l) ⟨va_cnB As.length hts (fb_good hm.1) rfl rfl rfl (hC.2.2.2.2.2.2.2.2.2.1 _ h5) (hts _ hm.2.1) hm.2.2 hdd, hts _ hi, trivial⟩ hp rfl rfl hl.1 rfl (lv_room hw) hd hcs) hH key
theorem fb_callSn {idx : Nat} {y : MethodName} {cc1 : ByteArray} {mL1 : Nat} {ret1 : Option FieldType} {d1 lo1 mc1 ms1 n1 : Nat} {u1 : fb_M} {st0 : List Value} (As : List Value) (hd : decode cc pc = .ok (.invokestatic idx, 3)) (hR : fb_Runs g d1 lo1 mc1 ms1 n n1 y cc1 mL1 ret1 (As) u none u1) (hm : fb_Ym y cc1 mL1 ret1 As.length) (hi : Cond.static y ∈ fb_W) (hk : fb_Yl own idx y) (hst : st0 = As.reverse ++ st) (hw : (st.map fun v => v.category).sum ≤ 8) (hdd : d1 + 1 ≤ R.frames ∧ 8 + (mL1 + 11) + lo1 ≤ R.locals) (hcs : k + mc1 ≤ R.cells ∧ ks + ms1 ≤ R.slots) (kk : fb_V g own cc nL ret nm R Qf (k + mc1) (ks + ms1) n1 u1 (pc + 3) lv st) : fb_V g own cc nL ret nm R Qf k ks n u pc lv st0 := by
  subst hst
  intro p l e s m args below meth c H locs ls hC hH hl
  have hts := hC.2.2.2.2.2.1
  have hS : CallFix p m c cc nL s args fb_W own := ⟨hC.1, hC.2.1, hC.2.2.1, hC.2.2.2.2.2.2.1, hts⟩
  have hp : PreS s H (va_Pc As (fb_Pre g n u)) As := ⟨fb_blind g n u _, fun U hU hW => fb_pc hC hH hU hW⟩
  have key : ∀ (H1 : Heap) (locs1 : List Loc), fb_Hp g n1 u1 s H1 locs1 → W p l e R s m args below meth c H1 locs1 (k + mc1) (ks + ms1) (Qf s args below) (F0 m (pc + 3) ls (none.toList ++ st)) := fun H1 locs1 h1 => kk p l e s m args below meth c H1 locs1 ls hC h1 hl
  rcases hk with h5 | ⟨host, h5⟩
  · exact fb_after (va_runS hS (hR l) ⟨callB_of As.length hts (fb_good hm.1) rfl rfl rfl (hts _ hm.2.1) (hts _ h5) hm.2.2 hdd, hts _ hi⟩ hp rfl rfl hl.1 rfl (lv_room hw) hd hcs) hH key
  · exact fb_after (va_runSN hS (hR l) ⟨va_cnB As.length hts (fb_good hm.1) rfl rfl rfl (hC.2.2.2.2.2.2.2.2.2.1 _ h5) (hts _ hm.2.1) hm.2.2 hdd, hts _ hi, trivial⟩ hp rfl rfl hl.1 rfl (lv_room hw) hd hcs) hH key
theorem fb_callIn {idx : Nat} {y : MethodName} {cc1 : ByteArray} {mL1 : Nat} {d1 lo1 mc1 ms1 n1 : Nat} {u1 : fb_M} {a : Nat} {st0 : List Value} (As : List Value) (hd : decode cc pc = .ok (.invokespecial idx, 3)) (hR : fb_Runs g d1 lo1 mc1 ms1 n n1 y cc1 mL1 none (.ref (fb_b g + a) :: As) u none u1) (hm : fb_Ym y cc1 mL1 none As.length) (hi : y.name = "<init>" ∧ Cond.instanceMethod y ∈ fb_W) (hk : fb_Yl own idx y) (hst : st0 = As.reverse ++ .ref (fb_b g + a) :: st) (hw : (st.map fun v => v.category).sum ≤ 8) (hdd : d1 + 1 ≤ R.frames ∧ 8 + (mL1 + 11) + lo1 ≤ R.locals) (hcs : k + mc1 ≤ R.cells ∧ ks + ms1 ≤ R.slots) (kk : fb_V g own cc nL ret nm R Qf (k + mc1) (ks + ms1) n1 u1 (pc + 3) lv st) : fb_V g own cc nL ret nm R Qf k ks n u pc lv st0 := by
  subst hst
  intro p l e s m args below meth c H locs ls hC hH hl
  have hts := hC.2.2.2.2.2.1
  have hS : CallFix p m c cc nL s args fb_W own := ⟨hC.1, hC.2.1, hC.2.2.1, hC.2.2.2.2.2.2.1, hts⟩
  have hp : PreS s H (va_Pc (.ref (fb_b g + a) :: As) (fb_Pre g n u)) (.ref (fb_b g + a) :: As) := ⟨fb_blind g n u _, fun U hU hW => fb_pc hC hH hU hW⟩
  have key : ∀ (H1 : Heap) (locs1 : List Loc), fb_Hp g n1 u1 s H1 locs1 → W p l e R s m args below meth c H1 locs1 (k + mc1) (ks + ms1) (Qf s args below) (F0 m (pc + 3) ls (none.toList ++ st)) := fun H1 locs1 h1 => kk p l e s m args below meth c H1 locs1 ls hC h1 hl
  rcases hk with h5 | ⟨host, h5⟩
  · exact fb_after (va_runI hS (hR l) ⟨callB_of As.length hts (fb_good hm.1) rfl rfl rfl (hts _ hm.2.1) (hts _ h5) hm.2.2 hdd, hi.1, hts _ hi.2⟩ hp rfl rfl hl.1 rfl (lv_room hw) hd hcs) hH key
  · exact fb_after (va_runIN hS (hR l) ⟨va_cnB As.length hts (fb_good hm.1) rfl rfl rfl (hC.2.2.2.2.2.2.2.2.2.1 _ h5) (hts _ hm.2.1) hm.2.2 hdd, hi.1, hts _ hi.2⟩ hp rfl rfl hl.1 rfl (lv_room hw) hd hcs) hH key
theorem fb_callTv {idx : Nat} {y : MethodName} {cc1 : ByteArray} {mL1 : Nat} {ret1 : Option FieldType} {d1 lo1 mc1 ms1 n1 : Nat} {u1 : fb_M} {v1 : Value} {a : Nat} {st0 : List Value} (As : List Value) (hd : decode cc pc = .ok (.invokevirtual idx, 3)) (hR : fb_Runs g d1 lo1 mc1 ms1 n n1 y cc1 mL1 ret1 (.ref (fb_K g a) :: As) u (some v1) u1) (hm : fb_Ym y cc1 mL1 ret1 As.length) (hi : Cond.instanceMethod y ∈ fb_W ∧ Cond.selects "java/lang/String" y y ∈ fb_W) (hn : a < fb_nS) (hk : fb_Yl own idx y) (hst : st0 = As.reverse ++ .ref (fb_K g a) :: st) (hw : (st.map fun v => v.category).sum ≤ 8) (hdd : d1 + 1 ≤ R.frames ∧ 8 + (mL1 + 11) + lo1 ≤ R.locals) (hcs : k + mc1 ≤ R.cells ∧ ks + ms1 ≤ R.slots) (kk : fb_V g own cc nL ret nm R Qf (k + mc1) (ks + ms1) n1 u1 (pc + 3) lv (v1 :: st)) : fb_V g own cc nL ret nm R Qf k ks n u pc lv st0 := by
  subst hst
  intro p l e s m args below meth c H locs ls hC hH hl
  have hts := hC.2.2.2.2.2.1
  have hS : CallFix p m c cc nL s args fb_W own := ⟨hC.1, hC.2.1, hC.2.2.1, hC.2.2.2.2.2.2.1, hts⟩
  have hp : PreV s H "java/lang/String" (fb_K g a) (va_Pc (.ref (fb_K g a) :: As) (fb_Pre g n u)) As := ⟨fb_blind g n u _, vk_recv hC.2.2.2.2.2.2.2.2.2.2.1 hn hH.2.1, fun U hU hW => fb_pc hC hH hU hW⟩
  have key : ∀ (H1 : Heap) (locs1 : List Loc), fb_Hp g n1 u1 s H1 locs1 → W p l e R s m args below meth c H1 locs1 (k + mc1) (ks + ms1) (Qf s args below) (F0 m (pc + 3) ls ((some v1).toList ++ st)) := fun H1 locs1 h1 => kk p l e s m args below meth c H1 locs1 ls hC h1 hl
  rcases hk with h5 | ⟨host, h5⟩
  · exact fb_after (va_runV hS (hR l) ⟨callB_of As.length hts (fb_good hm.1) rfl rfl rfl (hts _ hm.2.1) (hts _ h5) hm.2.2 hdd, hts _ hi.1, hts _ hi.2⟩ hp rfl rfl hl.1 rfl (lv_room hw) hd hcs) hH key
  · exact fb_after (va_runVN hS (hR l) ⟨va_cnB As.length hts (fb_good hm.1) rfl rfl rfl (hC.2.2.2.2.2.2.2.2.2.1 _ h5) (hts _ hm.2.1) hm.2.2 hdd, hts _ hi.1, hts _ hi.2⟩ hp rfl rfl hl.1 rfl (lv_room hw) hd hcs) hH key
theorem fb_callTn {idx : Nat} {y : MethodName} {cc1 : ByteArray} {mL1 : Nat} {ret1 : Option FieldType} {d1 lo1 mc1 ms1 n1 : Nat} {u1 : fb_M} {a : Nat} {st0 : List Value} (As : List Value) (hd : decode cc pc = .ok (.invokevirtual idx, 3)) (hR : fb_Runs g d1 lo1 mc1 ms1 n n1 y cc1 mL1 ret1 (.ref (fb_K g a) :: As) u none u1) (hm : fb_Ym y cc1 mL1 ret1 As.length) (hi : Cond.instanceMethod y ∈ fb_W ∧ Cond.selects "java/lang/String" y y ∈ fb_W) (hn : a < fb_nS) (hk : fb_Yl own idx y) (hst : st0 = As.reverse ++ .ref (fb_K g a) :: st) (hw : (st.map fun v => v.category).sum ≤ 8) (hdd : d1 + 1 ≤ R.frames ∧ 8 + (mL1 + 11) + lo1 ≤ R.locals) (hcs : k + mc1 ≤ R.cells ∧ ks + ms1 ≤ R.slots) (kk : fb_V g own cc nL ret nm R Qf (k + mc1) (ks + ms1) n1 u1 (pc + 3) lv st) : fb_V g own cc nL ret nm R Qf k ks n u pc lv st0 := by
  subst hst
  intro p l e s m args below meth c H locs ls hC hH hl
  have hts := hC.2.2.2.2.2.1
  have hS : CallFix p m c cc nL s args fb_W own := ⟨hC.1, hC.2.1, hC.2.2.1, hC.2.2.2.2.2.2.1, hts⟩
  have hp : PreV s H "java/lang/String" (fb_K g a) (va_Pc (.ref (fb_K g a) :: As) (fb_Pre g n u)) As := ⟨fb_blind g n u _, vk_recv hC.2.2.2.2.2.2.2.2.2.2.1 hn hH.2.1, fun U hU hW => fb_pc hC hH hU hW⟩
  have key : ∀ (H1 : Heap) (locs1 : List Loc), fb_Hp g n1 u1 s H1 locs1 → W p l e R s m args below meth c H1 locs1 (k + mc1) (ks + ms1) (Qf s args below) (F0 m (pc + 3) ls (none.toList ++ st)) := fun H1 locs1 h1 => kk p l e s m args below meth c H1 locs1 ls hC h1 hl
  rcases hk with h5 | ⟨host, h5⟩
  · exact fb_after (va_runV hS (hR l) ⟨callB_of As.length hts (fb_good hm.1) rfl rfl rfl (hts _ hm.2.1) (hts _ h5) hm.2.2 hdd, hts _ hi.1, hts _ hi.2⟩ hp rfl rfl hl.1 rfl (lv_room hw) hd hcs) hH key
  · exact fb_after (va_runVN hS (hR l) ⟨va_cnB As.length hts (fb_good hm.1) rfl rfl rfl (hC.2.2.2.2.2.2.2.2.2.1 _ h5) (hts _ hm.2.1) hm.2.2 hdd, hts _ hi.1, hts _ hi.2⟩ hp rfl rfl hl.1 rfl (lv_room hw) hd hcs) hH key
theorem fb_min {idx : Nat} {x y : Int32} (hd : decode cc pc = .ok (.invokestatic idx, 3)) (hl0 : Cond.methodLink own idx Lib.Math.min.name ∈ fb_W) (h1 : Cond.static Lib.Math.min.name ∈ fb_W) (h2 : Cond.initialized "java/lang/Math" ∈ fb_W) (h3 : Cond.code Lib.Math.min.name Lib.Math.min.code 2 (some .int) ∈ fb_W) (hw : (st.map fun v => v.category).sum ≤ 8) (hdd : 1 ≤ R.frames ∧ 40 ≤ R.locals) (hcs : k ≤ R.cells ∧ ks ≤ R.slots) (kk : fb_V g own cc nL ret nm R Qf k ks n u (pc + 3) lv (.int (if y < x then y else x) :: st)) : fb_V g own cc nL ret nm R Qf k ks n u pc lv (.int y :: .int x :: st) :=
  fun p l e s m args below meth c H locs ls hC hH hl => va_mmin hC.1 hC.2.1 (hC.2.2.1.trans hl.1.symm) hC.2.2.2.2.2.2.1 (hC.2.2.2.2.2.1 _ hl0) (hC.2.2.2.2.2.1 _ h1) (hC.2.2.2.2.2.1 _ h2) (hC.2.2.2.2.2.1 _ h3) hdd.1 (by have := hdd.2; omega) hcs.1 hcs.2 hd (kk p l e s m args below meth c H locs ls hC hH hl)
theorem fb_objInit {idx a : Nat} (hd : decode cc pc = .ok (.invokespecial idx, 3)) (hl0 : Cond.methodLink own idx Lib.objectInit ∈ fb_W) (h1 : Cond.instanceMethod Lib.objectInit ∈ fb_W) (h2 : Cond.code Lib.objectInit ⟨#[0xb1]⟩ 1 none ∈ fb_W) (hw : (st.map fun v => v.category).sum ≤ 8) (hdd : 1 ≤ R.frames ∧ 40 ≤ R.locals) (kk : fb_V g own cc nL ret nm R Qf k ks n u (pc + 3) lv st) : fb_V g own cc nL ret nm R Qf k ks n u pc lv (.ref (fb_b g + a) :: st) :=
  fun p l e s m args below meth c H locs ls hC hH hl => W.objInit hC.1 hC.2.1 hC.2.2.2.2.2.2.1 (hC.2.2.2.2.2.1 _ hl0) (hC.2.2.2.2.2.1 _ h1) (hC.2.2.2.2.2.1 _ h2) rfl (hl.1.trans hC.2.2.1.symm) rfl hd hdd.1 (by have := lv_room (m := m) (pc := pc) (ls := ls) (rest := (.ref (fb_b g + a) :: st)) hw; have := hdd.2; omega) (kk p l e s m args below meth c H locs ls hC hH hl)
theorem fb_cV0v {idx : Nat} {y : MethodName} {cc1 : ByteArray} {mL1 : Nat} {ret1 : Option FieldType} {d1 lo1 : Nat} {u1 : fb_M} {v1 : Value} {a ci N : Nat} {st0 : List Value} (As : List Value) (hd : decode cc pc = .ok (.invokevirtual idx, 3)) (hR : fb_Runs g d1 lo1 0 0 n n y cc1 mL1 ret1 (.ref (fb_b g + a) :: As) u (some v1) u1) (hm : fb_Ym y cc1 mL1 ret1 As.length) (hi : fb_Yi y ci) (hn : a < n) (ho : fb_sh a = (ci, N)) (hk : fb_Yl own idx y) (hst : st0 = As.reverse ++ .ref (fb_b g + a) :: st) (hw : (st.map fun v => v.category).sum ≤ 8) (hdd : d1 + 1 ≤ R.frames ∧ 8 + (mL1 + 11) + lo1 ≤ R.locals) (hcs : k ≤ R.cells ∧ ks ≤ R.slots) (kk : fb_V g own cc nL ret nm R Qf k ks n u1 (pc + 3) lv (v1 :: st)) : fb_V g own cc nL ret nm R Qf k ks n u pc lv st0 :=
  fb_callVv As hd hR hm hi hn ho hk hst hw hdd hcs kk
theorem fb_cV0n {idx : Nat} {y : MethodName} {cc1 : ByteArray} {mL1 : Nat} {ret1 : Option FieldType} {d1 lo1 : Nat} {u1 : fb_M} {a ci N : Nat} {st0 : List Value} (As : List Value) (hd : decode cc pc = .ok (.invokevirtual idx, 3)) (hR : fb_Runs g d1 lo1 0 0 n n y cc1 mL1 ret1 (.ref (fb_b g + a) :: As) u none u1) (hm : fb_Ym y cc1 mL1 ret1 As.length) (hi : fb_Yi y ci) (hn : a < n) (ho : fb_sh a = (ci, N)) (hk : fb_Yl own idx y) (hst : st0 = As.reverse ++ .ref (fb_b g + a) :: st) (hw : (st.map fun v => v.category).sum ≤ 8) (hdd : d1 + 1 ≤ R.frames ∧ 8 + (mL1 + 11) + lo1 ≤ R.locals) (hcs : k ≤ R.cells ∧ ks ≤ R.slots) (kk : fb_V g own cc nL ret nm R Qf k ks n u1 (pc + 3) lv st) : fb_V g own cc nL ret nm R Qf k ks n u pc lv st0 :=
  fb_callVn As hd hR hm hi hn ho hk hst hw hdd hcs kk
theorem fb_cS0v {idx : Nat} {y : MethodName} {cc1 : ByteArray} {mL1 : Nat} {ret1 : Option FieldType} {d1 lo1 : Nat} {u1 : fb_M} {v1 : Value} {st0 : List Value} (As : List Value) (hd : decode cc pc = .ok (.invokestatic idx, 3)) (hR : fb_Runs g d1 lo1 0 0 n n y cc1 mL1 ret1 (As) u (some v1) u1) (hm : fb_Ym y cc1 mL1 ret1 As.length) (hi : Cond.static y ∈ fb_W) (hk : fb_Yl own idx y) (hst : st0 = As.reverse ++ st) (hw : (st.map fun v => v.category).sum ≤ 8) (hdd : d1 + 1 ≤ R.frames ∧ 8 + (mL1 + 11) + lo1 ≤ R.locals) (hcs : k ≤ R.cells ∧ ks ≤ R.slots) (kk : fb_V g own cc nL ret nm R Qf k ks n u1 (pc + 3) lv (v1 :: st)) : fb_V g own cc nL ret nm R Qf k ks n u pc lv st0 :=
  fb_callSv As hd hR hm hi hk hst hw hdd hcs kk
theorem fb_cS0n {idx : Nat} {y : MethodName} {cc1 : ByteArray} {mL1 : Nat} {ret1 : Option FieldType} {d1 lo1 : Nat} {u1 : fb_M} {st0 : List Value} (As : List Value) (hd : decode cc pc = .ok (.invokestatic idx, 3)) (hR : fb_Runs g d1 lo1 0 0 n n y cc1 mL1 ret1 (As) u none u1) (hm : fb_Ym y cc1 mL1 ret1 As.length) (hi : Cond.static y ∈ fb_W) (hk : fb_Yl own idx y) (hst : st0 = As.reverse ++ st) (hw : (st.map fun v => v.category).sum ≤ 8) (hdd : d1 + 1 ≤ R.frames ∧ 8 + (mL1 + 11) + lo1 ≤ R.locals) (hcs : k ≤ R.cells ∧ ks ≤ R.slots) (kk : fb_V g own cc nL ret nm R Qf k ks n u1 (pc + 3) lv st) : fb_V g own cc nL ret nm R Qf k ks n u pc lv st0 :=
  fb_callSn As hd hR hm hi hk hst hw hdd hcs kk
theorem fb_cT0v {idx : Nat} {y : MethodName} {cc1 : ByteArray} {mL1 : Nat} {ret1 : Option FieldType} {d1 lo1 : Nat} {u1 : fb_M} {v1 : Value} {a : Nat} {st0 : List Value} (As : List Value) (hd : decode cc pc = .ok (.invokevirtual idx, 3)) (hR : fb_Runs g d1 lo1 0 0 n n y cc1 mL1 ret1 (.ref (fb_K g a) :: As) u (some v1) u1) (hm : fb_Ym y cc1 mL1 ret1 As.length) (hi : Cond.instanceMethod y ∈ fb_W ∧ Cond.selects "java/lang/String" y y ∈ fb_W) (hn : a < fb_nS) (hk : fb_Yl own idx y) (hst : st0 = As.reverse ++ .ref (fb_K g a) :: st) (hw : (st.map fun v => v.category).sum ≤ 8) (hdd : d1 + 1 ≤ R.frames ∧ 8 + (mL1 + 11) + lo1 ≤ R.locals) (hcs : k ≤ R.cells ∧ ks ≤ R.slots) (kk : fb_V g own cc nL ret nm R Qf k ks n u1 (pc + 3) lv (v1 :: st)) : fb_V g own cc nL ret nm R Qf k ks n u pc lv st0 :=
  fb_callTv As hd hR hm hi hn hk hst hw hdd hcs kk
theorem fb_cpL_at (u : fb_M) (a b sp dp n : Nat) : fb_L (fb_cpL u a b sp dp n) b = va_cpy (fb_L u a) (fb_L u b) sp dp n := by
  funext q
  show (if b = b then va_cpy (u.2.1 a) (u.2.1 b) sp dp n else u.2.1 b) q = _
  rw [if_pos rfl]
  rfl
theorem fb_eta {a t : Nat} (h : (fb_sh a).1 = t) : fb_sh a = (t, (fb_sh a).2) := by rw [← h]
theorem fb_nz {x : Int32} (h : x = 0 ∨ x = 1) : narrow .boolean (.int x) = .int x := by rcases h with rfl | rfl <;> rfl
theorem fb_nc {x : Int32} (h : vp_nar .char x = x) : narrow .char (.int x) = .int x := congrArg Value.int h
theorem fb_copyL {idx a b Na Nb : Nat} {sp dp z : Int32} (hd : decode cc pc = .ok (.invokestatic idx, 3)) (hl0 : Cond.methodLink own idx arraycopyName ∈ fb_W) (w1 : Cond.native arraycopyName ∈ fb_W) (w2 : Cond.static arraycopyName ∈ fb_W) (w3 : Cond.initialized "java/lang/System" ∈ fb_W) (hn : a < n) (ho : fb_sh a = (103, Na)) (hn2 : b < n) (ho2 : fb_sh b = (103, Nb)) (hnt : ¬ n < fb_NT) (c1 : ¬ sp < 0 ∧ ¬ dp < 0 ∧ ¬ z < 0) (c2 : sp.toNatClampNeg + z.toNatClampNeg ≤ Na ∧ dp.toNatClampNeg + z.toNatClampNeg ≤ Nb) (hw : (st.map fun v => v.category).sum ≤ 8) (hdd : 1 ≤ R.frames ∧ 80 ≤ R.locals) (hcs : k ≤ R.cells ∧ ks ≤ R.slots) (kk : fb_V g own cc nL ret nm R Qf k ks n (fb_cpL u a b sp.toNatClampNeg dp.toNatClampNeg z.toNatClampNeg) (pc + 3) lv st) : fb_V g own cc nL ret nm R Qf k ks n u pc lv (.int z :: .int dp :: .ref (fb_b g + b) :: .int sp :: .ref (fb_b g + a) :: st) := by
  intro p l e s m args below meth c H locs ls hC hH hl
  have he := fb_cs_at g u hn
  rw [fb_cell_l g u ho] at he
  have he2 := fb_cs_at g u hn2
  rw [fb_cell_l g u ho2] at he2
  have e2 : (fb_cs g n u).set b (fb_b g + b, .inl (fb_tA g 3, Nb, .inr (.inl (va_cpy (fb_L u a) (fb_L u b) sp.toNatClampNeg dp.toNatClampNeg z.toNatClampNeg)))) = fb_cs g n (fb_cpL u a b sp.toNatClampNeg dp.toNatClampNeg z.toNatClampNeg) := fb_cs_set g (by rw [fb_cell_l g _ ho2, fb_cpL_at]) (fun i hi => fb_cell_cpL g u hi)
  refine va_copyl hC.1 hC.2.1 (hC.2.2.1.trans hl.1.symm) hC.2.2.2.2.2.2.1 (hC.2.2.2.2.2.1 _ hl0) (hC.2.2.2.2.2.1 _ w1) (hC.2.2.2.2.2.1 _ w2) (hC.2.2.2.2.2.1 _ w3) hC.2.2.2.2.2.2.2.2.1 hH.1 (fb_D_cs g n u) hH.2.1 a b 3 3 he he2 (fb_tys_at g (t := 3) (by decide)) (fb_tys_at g (t := 3) (by decide)) rfl c1.1 c1.2.1 c1.2.2 c2.1 c2.2 (fun i _ => rfl) hdd.1 (by have := hdd.2; have e : nativeFrameWords "java/lang/System" "arraycopy" 5 + 11 ≤ 70 := (by decide); omega) hd (fun H1 locs1 hP hD hS => ?_)
  rw [e2] at hP
  exact kk p l e s m args below meth c H1 locs1 ls hC ⟨hP, hS, fun hlt => absurd hlt hnt⟩ hl
end FBR
end
section
section FBA
variable {g : fb_G} {own : String} {cc : ByteArray} {nL : Nat} {ret : Option FieldType} {nm : String} {R : Room} {Qf : fb_QT} {k ks n : Nat} {u : fb_M} {pc : Nat} {lv : List (Nat × Value)} {st : List Value}
theorem fb_Hp_push {s : State} {H H1 : Heap} {locs : List Loc} (hH : fb_Hp g n u s H locs) (hlt : n < fb_NT) (hat : va_at (fb_D g) vwCl (fb_b g + n, fb_cell g u n) H1) (hz : H1.size = fb_b g + n + 1) (o1 : ∀ q : Nat, q < fb_b g + n → H1[q]? = H[q]?) : fb_Hp g (n + 1) u s H1 locs := by
  have hs := hH.2.2 hlt
  refine ⟨?_, ⟨Nat.le_trans hH.2.1.1 (by omega), fun q h1 h2 => (o1 q (by have := hH.2.1.1; omega)).trans (hH.2.1.2.1 q h1 h2), hH.2.1.2.2⟩, fun _ => by omega⟩
  rw [← fb_cs_push g n u rfl]
  refine (hH.1.kept (fun i x hx => o1 x.1 (by have := (hH.1 i x hx).lt; omega))).app (fun i x hx => ?_)
  have hi : i < 1 := (List.getElem?_eq_some_iff.mp hx).1
  rw [show i = 0 by omega] at hx
  cases hx
  exact hat
theorem fb_newO {idx ci N : Nat} {C : String} {T : u_T} (ty0 : Nat → FieldType) (hd : decode cc pc = .ok (.new idx, 3)) (hcl : vwCl[ci]? = some (C, T, N)) (hc : ci < 100) (h4 : ∀ w ∈ u_ws C T N, w ∈ fb_W) (g2 : ∀ k, k < N → parseFieldDescriptor (T k).2.2.1 = some (ty0 k)) (w1 : Cond.classLink own idx C ∈ fb_W) (w2 : Cond.instantiable C N ∈ fb_W) (w3 : Cond.initialized C ∈ fb_W) (hlt : n < fb_NT) (hsh : fb_sh n = (ci, N)) (hz : ∀ j, j < N → defaultValue (ty0 j) = fb_fv g u n ci j) (hcells : k + 1 ≤ R.cells) (hslots : ks + N ≤ R.slots)
    (kk : fb_V g own cc nL ret nm R Qf (k + 1) (ks + N) (n + 1) u (pc + 3) lv (.ref (fb_b g + n) :: st)) : fb_V g own cc nL ret nm R Qf k ks n u pc lv st := by
  intro p l e s m args below meth c H locs ls hC hH hl
  have hts := hC.2.2.2.2.2.1
  have hKn := hC.2.2.2.2.2.2.2.2.1.1 ci _ hcl
  refine W.newcK hC.1 hC.2.1 hC.2.2.2.2.2.2.1 (hts _ w1) (hts _ w2) (hts _ w3) rfl hd hcells hslots hKn.2.1 (hH.2.2 hlt) fun H1 kC hkC e1 z1 o1 => ?_
  refine kk p l e s m args below meth c H1 locs ls hC (fb_Hp_push hH hlt ?_ z1 o1) hl
  rw [fb_cell_o g u hsh hc]
  refine ⟨_, hcl, (u_born ty0 hts h4 hKn hkC e1 g2).to (fun j hj => ?_)⟩
  have hj : j < N := hj
  rw [hz j hj]
  simp [vp_V, hj]
theorem fb_newA {t N : Nat} {atype : ArrayType} {z : Int32} (hd : decode cc pc = .ok (.newarray atype, 2)) (ht : t < fb_nT) (hty : fb_ty t = newarray.typeOf atype) (hrf : ∀ (U : State) (cA : ClassId), va_RA U cA (newarray.typeOf atype) → U.vm.findClass ("[" ++ (newarray.typeOf atype).toString) = some cA) (w1 : Cond.arrayClass (newarray.typeOf atype) ∈ fb_W) (hlt : n < fb_NT) (hsh : fb_sh n = (100 + t, N)) (hz : ∀ cA : ClassId, arrV cA N (fun _ => defaultValue (newarray.typeOf atype)) = vp_cell cA (N, fb_cont g u n t)) (hN : ¬ z < 0 ∧ z.toNatClampNeg = N) (hby : N * componentBytes (newarray.typeOf atype) ≤ 536870912) (hcells : k + 1 ≤ R.cells) (hslots : ks + N ≤ R.slots)
    (kk : fb_V g own cc nL ret nm R Qf (k + 1) (ks + N) (n + 1) u (pc + 2) lv (.ref (fb_b g + n) :: st)) : fb_V g own cc nL ret nm R Qf k ks n u pc lv (.int z :: st) := by
  intro p l e s m args below meth c H locs ls hC hH hl
  have hts := hC.2.2.2.2.2.1
  refine va_newaK hC.1 hC.2.1 (hts _ w1) rfl hd rfl hN.1 hN.2 hby hcells hslots (hH.2.2 hlt) fun H1 cA e1 z1 o1 hAr hNm => ?_
  have hq := (hC.2.2.2.2.2.2.2.2.1.2 t _ (fb_tys_at g ht)).2
  have hq2 : va_RA s (fb_tA g t) (newarray.typeOf atype) := by rw [← hty]; exact hq
  have hcA : cA = fb_tA g t := Option.some.inj (hNm.symm.trans (hrf s _ hq2))
  subst hcA
  refine kk p l e s m args below meth c H1 locs ls hC (fb_Hp_push hH hlt ?_ z1 o1) hl
  have e0 : fb_cell g u n = .inl (fb_tA g t, N, fb_cont g u n t) := by
    have e : ¬ 100 + t < 100 := by omega
    simp [fb_cell, hsh, e]
  rw [e0]
  show H1[fb_b g + n]? = some (vp_cell _ _)
  rw [e1, hz]
theorem fb_newQ {t N idx : Nat} {C : String} {z : Int32} (hd : decode cc pc = .ok (.anewarray idx, 3)) (ht : 3 < t ∧ t < fb_nT ∧ fb_ty t = .object C) (hao : C ∈ fb_AOs) (w1 : Cond.classLink own idx C ∈ fb_W) (hlt : n < fb_NT) (hsh : fb_sh n = (100 + t, N)) (hz : ∀ j, fb_R u n j = none) (hN : ¬ z < 0 ∧ z.toNatClampNeg = N) (hby : N * 4 ≤ 536870912) (hcells : k + 1 ≤ R.cells) (hslots : ks + N ≤ R.slots)
    (kk : fb_V g own cc nL ret nm R Qf (k + 1) (ks + N) (n + 1) u (pc + 3) lv (.ref (fb_b g + n) :: st)) : fb_V g own cc nL ret nm R Qf k ks n u pc lv (.int z :: st) := by
  intro p l e s m args below meth c H locs ls hC hH hl
  have hts := hC.2.2.2.2.2.1
  obtain ⟨hN1, rfl⟩ := hN
  refine W.anew hC.1 hC.2.1 hC.2.2.2.2.2.2.1 (hts _ w1) (va_AO.use (hC.2.2.2.2.2.2.2.2.2.2.2.2.2.2.2.2 C hao)) rfl hd rfl hN1 hby hcells hslots fun cA kA comp f1 f2 f3 f4 => ?_
  have hq := (hC.2.2.2.2.2.2.2.2.1.2 t _ (fb_tys_at g ht.2.1)).2
  have hq2 : va_RA s (fb_tA g t) (.object C) := by rw [← ht.2.2]; exact hq
  obtain ⟨kA', comp', -, -, -, hnm⟩ := hq2
  have hcA : cA = fb_tA g t := Option.some.inj (f1.symm.trans hnm)
  subst hcA
  have hs := hH.2.2 hlt
  generalize hH1 : H.push ({ cls := fb_tA g t, slots := Array.replicate z.toNatClampNeg .null, vm := .none } : Cell) = H1
  have z1 : H1.size = fb_b g + n + 1 := by rw [← hH1, Array.size_push, hs]
  have e1 : H1[fb_b g + n]? = some (arrV (fb_tA g t) z.toNatClampNeg (fun _ => .null)) := by rw [← hH1, ← hs, Array.getElem?_push_size, ← arrV_new]
  have o1 : ∀ q : Nat, q < fb_b g + n → H1[q]? = H[q]? := fun q hq => by rw [← hH1, Array.getElem?_push, if_neg (by omega)]
  have hV := kk p l e s m args below meth c H1 locs ls hC (fb_Hp_push hH hlt ?_ z1 o1) hl
  · rw [← hs] at hV
    exact hV
  · rw [fb_cell_q g u hsh ht.1]
    show H1[fb_b g + n]? = some (vp_cell _ _)
    rw [e1, vp_cell_q]
    simp [hz, fb_rv, va_rf]
end FBA
end

-- ===== PART A: goes FIRST, ahead of the names: the tables' words, and 'selects' of the private methods out of them =====
/-- a private method of a class that the tables say can be made, by its rows of tables_1 -/
def lw_okq (q : MethodName × Nat) : Prop := (q.1.cls ≠ "java/lang/invoke/MethodHandle" ∧ q.1.cls ≠ "java/lang/invoke/VarHandle") ∧ Cond.instantiable q.1.cls q.2 ∈ tables_1 ∧ Cond.privateMethod q.1 ∈ tables_1 ∧ Cond.instanceMethod q.1 ∈ tables_1
theorem lw_p0 : lw_okq (⟨"FinderBook$Leaf", "nameLength", "(I)I"⟩, 4) := ⟨⟨by decide +kernel, by decide +kernel⟩, List.mem_of_getElem? (i := 50) (by decide +kernel), List.mem_of_getElem? (i := 298) (by decide +kernel), List.mem_of_getElem? (i := 299) (by decide +kernel)⟩
theorem lw_p1 : lw_okq (⟨"FinderBook$FinderReader", "readSubject", "(LFinderBook$Finder;)Z"⟩, 3) := ⟨⟨by decide +kernel, by decide +kernel⟩, List.mem_of_getElem? (i := 76) (by decide +kernel), List.mem_of_getElem? (i := 331) (by decide +kernel), List.mem_of_getElem? (i := 332) (by decide +kernel)⟩
theorem lw_p2 : lw_okq (⟨"FinderBook$FinderReader", "skip", "(Ljava/lang/String;)Z"⟩, 3) := ⟨⟨by decide +kernel, by decide +kernel⟩, List.mem_of_getElem? (i := 76) (by decide +kernel), List.mem_of_getElem? (i := 342) (by decide +kernel), List.mem_of_getElem? (i := 343) (by decide +kernel)⟩
theorem lw_p3 : lw_okq (⟨"FinderBook$FinderReader", "readLimit", "(LFinderBook$Finder;)Z"⟩, 3) := ⟨⟨by decide +kernel, by decide +kernel⟩, List.mem_of_getElem? (i := 76) (by decide +kernel), List.mem_of_getElem? (i := 400) (by decide +kernel), List.mem_of_getElem? (i := 401) (by decide +kernel)⟩
theorem lw_p4 : lw_okq (⟨"FinderBook$FinderReader", "readCondition", "(LFinderBook$Finder;II)Z"⟩, 3) := ⟨⟨by decide +kernel, by decide +kernel⟩, List.mem_of_getElem? (i := 76) (by decide +kernel), List.mem_of_getElem? (i := 415) (by decide +kernel), List.mem_of_getElem? (i := 416) (by decide +kernel)⟩
theorem lw_p5 : lw_okq (⟨"FinderBook$FinderReader", "readAlternative", "(LFinderBook$Finder;II)Z"⟩, 3) := ⟨⟨by decide +kernel, by decide +kernel⟩, List.mem_of_getElem? (i := 76) (by decide +kernel), List.mem_of_getElem? (i := 426) (by decide +kernel), List.mem_of_getElem? (i := 427) (by decide +kernel)⟩
theorem lw_p6 : lw_okq (⟨"FinderBook$FinderReader", "readPart", "(LFinderBook$Finder;II)Z"⟩, 3) := ⟨⟨by decide +kernel, by decide +kernel⟩, List.mem_of_getElem? (i := 76) (by decide +kernel), List.mem_of_getElem? (i := 431) (by decide +kernel), List.mem_of_getElem? (i := 432) (by decide +kernel)⟩
theorem lw_p7 : lw_okq (⟨"FinderBook$FinderReader", "readOrders", "(LFinderBook$Finder;II)Z"⟩, 3) := ⟨⟨by decide +kernel, by decide +kernel⟩, List.mem_of_getElem? (i := 76) (by decide +kernel), List.mem_of_getElem? (i := 464) (by decide +kernel), List.mem_of_getElem? (i := 465) (by decide +kernel)⟩
theorem lw_p8 : lw_okq (⟨"FinderBook$FinderReader", "endsWithDirection", "(II)Z"⟩, 3) := ⟨⟨by decide +kernel, by decide +kernel⟩, List.mem_of_getElem? (i := 76) (by decide +kernel), List.mem_of_getElem? (i := 469) (by decide +kernel), List.mem_of_getElem? (i := 470) (by decide +kernel)⟩
theorem lw_p9 : lw_okq (⟨"FinderBook$FinderReader", "readOrder", "(LFinderBook$Finder;II)Z"⟩, 3) := ⟨⟨by decide +kernel, by decide +kernel⟩, List.mem_of_getElem? (i := 76) (by decide +kernel), List.mem_of_getElem? (i := 479) (by decide +kernel), List.mem_of_getElem? (i := 480) (by decide +kernel)⟩
theorem lw_p10 : lw_okq (⟨"FinderBook", "isFinder", "(I)Z"⟩, 12) := ⟨⟨by decide +kernel, by decide +kernel⟩, List.mem_of_getElem? (i := 20) (by decide +kernel), List.mem_of_getElem? (i := 496) (by decide +kernel), List.mem_of_getElem? (i := 497) (by decide +kernel)⟩
theorem lw_p11 : lw_okq (⟨"FinderBook", "enter", "(IJ)Z"⟩, 12) := ⟨⟨by decide +kernel, by decide +kernel⟩, List.mem_of_getElem? (i := 20) (by decide +kernel), List.mem_of_getElem? (i := 516) (by decide +kernel), List.mem_of_getElem? (i := 517) (by decide +kernel)⟩
theorem lw_p12 : lw_okq (⟨"FinderBook$Finding", "insert", "(LFinderBook$Entity;LFinderBook$Finder;)V"⟩, 2) := ⟨⟨by decide +kernel, by decide +kernel⟩, List.mem_of_getElem? (i := 181) (by decide +kernel), List.mem_of_getElem? (i := 582) (by decide +kernel), List.mem_of_getElem? (i := 583) (by decide +kernel)⟩
theorem lw_p13 : lw_okq (⟨"FinderBook", "deleteFinding", "()I"⟩, 12) := ⟨⟨by decide +kernel, by decide +kernel⟩, List.mem_of_getElem? (i := 20) (by decide +kernel), List.mem_of_getElem? (i := 596) (by decide +kernel), List.mem_of_getElem? (i := 597) (by decide +kernel)⟩
theorem lw_p14 : lw_okq (⟨"FinderBook", "keepFinding", "(Z)I"⟩, 12) := ⟨⟨by decide +kernel, by decide +kernel⟩, List.mem_of_getElem? (i := 20) (by decide +kernel), List.mem_of_getElem? (i := 600) (by decide +kernel), List.mem_of_getElem? (i := 601) (by decide +kernel)⟩
theorem lw_p15 : lw_okq (⟨"FinderBookModel", "isPath", "()Z"⟩, 40) := ⟨⟨by decide +kernel, by decide +kernel⟩, List.mem_of_getElem? (i := 624) (by decide +kernel), List.mem_of_getElem? (i := 772) (by decide +kernel), List.mem_of_getElem? (i := 773) (by decide +kernel)⟩
def lw_privs_1 : List (MethodName × Nat) := [(⟨"FinderBook$Leaf", "nameLength", "(I)I"⟩, 4), (⟨"FinderBook$FinderReader", "readSubject", "(LFinderBook$Finder;)Z"⟩, 3), (⟨"FinderBook$FinderReader", "skip", "(Ljava/lang/String;)Z"⟩, 3), (⟨"FinderBook$FinderReader", "readLimit", "(LFinderBook$Finder;)Z"⟩, 3), (⟨"FinderBook$FinderReader", "readCondition", "(LFinderBook$Finder;II)Z"⟩, 3), (⟨"FinderBook$FinderReader", "readAlternative", "(LFinderBook$Finder;II)Z"⟩, 3), (⟨"FinderBook$FinderReader", "readPart", "(LFinderBook$Finder;II)Z"⟩, 3), (⟨"FinderBook$FinderReader", "readOrders", "(LFinderBook$Finder;II)Z"⟩, 3), (⟨"FinderBook$FinderReader", "endsWithDirection", "(II)Z"⟩, 3), (⟨"FinderBook$FinderReader", "readOrder", "(LFinderBook$Finder;II)Z"⟩, 3), (⟨"FinderBook", "isFinder", "(I)Z"⟩, 12), (⟨"FinderBook", "enter", "(IJ)Z"⟩, 12), (⟨"FinderBook$Finding", "insert", "(LFinderBook$Entity;LFinderBook$Finder;)V"⟩, 2), (⟨"FinderBook", "deleteFinding", "()I"⟩, 12), (⟨"FinderBook", "keepFinding", "(Z)I"⟩, 12), (⟨"FinderBookModel", "isPath", "()Z"⟩, 40)]
theorem lw_r1 : ∀ q ∈ lw_privs_1, lw_okq q := List.forall_mem_cons.mpr ⟨lw_p0, List.forall_mem_cons.mpr ⟨lw_p1, List.forall_mem_cons.mpr ⟨lw_p2, List.forall_mem_cons.mpr ⟨lw_p3, List.forall_mem_cons.mpr ⟨lw_p4, List.forall_mem_cons.mpr ⟨lw_p5, List.forall_mem_cons.mpr ⟨lw_p6, List.forall_mem_cons.mpr ⟨lw_p7, List.forall_mem_cons.mpr ⟨lw_p8, List.forall_mem_cons.mpr ⟨lw_p9, List.forall_mem_cons.mpr ⟨lw_p10, List.forall_mem_cons.mpr ⟨lw_p11, List.forall_mem_cons.mpr ⟨lw_p12, List.forall_mem_cons.mpr ⟨lw_p13, List.forall_mem_cons.mpr ⟨lw_p14, List.forall_mem_cons.mpr ⟨lw_p15, fun _ h => absurd h List.not_mem_nil⟩⟩⟩⟩⟩⟩⟩⟩⟩⟩⟩⟩⟩⟩⟩⟩
theorem lw_p16 : lw_okq (⟨"FinderBookModel", "clashes", "(I)Z"⟩, 40) := ⟨⟨by decide +kernel, by decide +kernel⟩, List.mem_of_getElem? (i := 624) (by decide +kernel), List.mem_of_getElem? (i := 776) (by decide +kernel), List.mem_of_getElem? (i := 777) (by decide +kernel)⟩
theorem lw_p17 : lw_okq (⟨"FinderBookModel", "leafOf", "(II)I"⟩, 40) := ⟨⟨by decide +kernel, by decide +kernel⟩, List.mem_of_getElem? (i := 624) (by decide +kernel), List.mem_of_getElem? (i := 784) (by decide +kernel), List.mem_of_getElem? (i := 785) (by decide +kernel)⟩
theorem lw_p18 : lw_okq (⟨"FinderBookModel", "spells", "(III)Z"⟩, 40) := ⟨⟨by decide +kernel, by decide +kernel⟩, List.mem_of_getElem? (i := 624) (by decide +kernel), List.mem_of_getElem? (i := 788) (by decide +kernel), List.mem_of_getElem? (i := 789) (by decide +kernel)⟩
theorem lw_p19 : lw_okq (⟨"FinderBookModel", "at", "(I)I"⟩, 40) := ⟨⟨by decide +kernel, by decide +kernel⟩, List.mem_of_getElem? (i := 624) (by decide +kernel), List.mem_of_getElem? (i := 792) (by decide +kernel), List.mem_of_getElem? (i := 793) (by decide +kernel)⟩
theorem lw_p20 : lw_okq (⟨"FinderBookModel", "nameLength", "(II)I"⟩, 40) := ⟨⟨by decide +kernel, by decide +kernel⟩, List.mem_of_getElem? (i := 624) (by decide +kernel), List.mem_of_getElem? (i := 796) (by decide +kernel), List.mem_of_getElem? (i := 797) (by decide +kernel)⟩
theorem lw_p21 : lw_okq (⟨"FinderBookModel", "subjectOf", "()I"⟩, 40) := ⟨⟨by decide +kernel, by decide +kernel⟩, List.mem_of_getElem? (i := 624) (by decide +kernel), List.mem_of_getElem? (i := 804) (by decide +kernel), List.mem_of_getElem? (i := 805) (by decide +kernel)⟩
theorem lw_p22 : lw_okq (⟨"FinderBookModel", "stands", "(IIJ)Z"⟩, 40) := ⟨⟨by decide +kernel, by decide +kernel⟩, List.mem_of_getElem? (i := 624) (by decide +kernel), List.mem_of_getElem? (i := 809) (by decide +kernel), List.mem_of_getElem? (i := 810) (by decide +kernel)⟩
theorem lw_p23 : lw_okq (⟨"FinderBookModel", "before", "(IIJ)I"⟩, 40) := ⟨⟨by decide +kernel, by decide +kernel⟩, List.mem_of_getElem? (i := 624) (by decide +kernel), List.mem_of_getElem? (i := 816) (by decide +kernel), List.mem_of_getElem? (i := 817) (by decide +kernel)⟩
theorem lw_p24 : lw_okq (⟨"FinderBookModel", "readRest", "(I)V"⟩, 40) := ⟨⟨by decide +kernel, by decide +kernel⟩, List.mem_of_getElem? (i := 624) (by decide +kernel), List.mem_of_getElem? (i := 827) (by decide +kernel), List.mem_of_getElem? (i := 828) (by decide +kernel)⟩
theorem lw_p25 : lw_okq (⟨"FinderBookModel", "takeCondition", "(II)V"⟩, 40) := ⟨⟨by decide +kernel, by decide +kernel⟩, List.mem_of_getElem? (i := 624) (by decide +kernel), List.mem_of_getElem? (i := 832) (by decide +kernel), List.mem_of_getElem? (i := 833) (by decide +kernel)⟩
theorem lw_p26 : lw_okq (⟨"FinderBookModel", "takeAlternative", "(II)V"⟩, 40) := ⟨⟨by decide +kernel, by decide +kernel⟩, List.mem_of_getElem? (i := 624) (by decide +kernel), List.mem_of_getElem? (i := 837) (by decide +kernel), List.mem_of_getElem? (i := 838) (by decide +kernel)⟩
theorem lw_p27 : lw_okq (⟨"FinderBookModel", "takePart", "(II)V"⟩, 40) := ⟨⟨by decide +kernel, by decide +kernel⟩, List.mem_of_getElem? (i := 624) (by decide +kernel), List.mem_of_getElem? (i := 842) (by decide +kernel), List.mem_of_getElem? (i := 843) (by decide +kernel)⟩
theorem lw_p28 : lw_okq (⟨"FinderBookModel", "readPart", "(II)I"⟩, 40) := ⟨⟨by decide +kernel, by decide +kernel⟩, List.mem_of_getElem? (i := 624) (by decide +kernel), List.mem_of_getElem? (i := 846) (by decide +kernel), List.mem_of_getElem? (i := 847) (by decide +kernel)⟩
theorem lw_p29 : lw_okq (⟨"FinderBookModel", "keywordStart", "(III)I"⟩, 40) := ⟨⟨by decide +kernel, by decide +kernel⟩, List.mem_of_getElem? (i := 624) (by decide +kernel), List.mem_of_getElem? (i := 850) (by decide +kernel), List.mem_of_getElem? (i := 851) (by decide +kernel)⟩
theorem lw_p30 : lw_okq (⟨"FinderBookModel", "takeOrders", "(II)V"⟩, 40) := ⟨⟨by decide +kernel, by decide +kernel⟩, List.mem_of_getElem? (i := 624) (by decide +kernel), List.mem_of_getElem? (i := 865) (by decide +kernel), List.mem_of_getElem? (i := 866) (by decide +kernel)⟩
theorem lw_p31 : lw_okq (⟨"FinderBookModel", "takeOrder", "(II)V"⟩, 40) := ⟨⟨by decide +kernel, by decide +kernel⟩, List.mem_of_getElem? (i := 624) (by decide +kernel), List.mem_of_getElem? (i := 871) (by decide +kernel), List.mem_of_getElem? (i := 872) (by decide +kernel)⟩
def lw_privs_2 : List (MethodName × Nat) := [(⟨"FinderBookModel", "clashes", "(I)Z"⟩, 40), (⟨"FinderBookModel", "leafOf", "(II)I"⟩, 40), (⟨"FinderBookModel", "spells", "(III)Z"⟩, 40), (⟨"FinderBookModel", "at", "(I)I"⟩, 40), (⟨"FinderBookModel", "nameLength", "(II)I"⟩, 40), (⟨"FinderBookModel", "subjectOf", "()I"⟩, 40), (⟨"FinderBookModel", "stands", "(IIJ)Z"⟩, 40), (⟨"FinderBookModel", "before", "(IIJ)I"⟩, 40), (⟨"FinderBookModel", "readRest", "(I)V"⟩, 40), (⟨"FinderBookModel", "takeCondition", "(II)V"⟩, 40), (⟨"FinderBookModel", "takeAlternative", "(II)V"⟩, 40), (⟨"FinderBookModel", "takePart", "(II)V"⟩, 40), (⟨"FinderBookModel", "readPart", "(II)I"⟩, 40), (⟨"FinderBookModel", "keywordStart", "(III)I"⟩, 40), (⟨"FinderBookModel", "takeOrders", "(II)V"⟩, 40), (⟨"FinderBookModel", "takeOrder", "(II)V"⟩, 40)]
theorem lw_r2 : ∀ q ∈ lw_privs_2, lw_okq q := List.forall_mem_cons.mpr ⟨lw_p16, List.forall_mem_cons.mpr ⟨lw_p17, List.forall_mem_cons.mpr ⟨lw_p18, List.forall_mem_cons.mpr ⟨lw_p19, List.forall_mem_cons.mpr ⟨lw_p20, List.forall_mem_cons.mpr ⟨lw_p21, List.forall_mem_cons.mpr ⟨lw_p22, List.forall_mem_cons.mpr ⟨lw_p23, List.forall_mem_cons.mpr ⟨lw_p24, List.forall_mem_cons.mpr ⟨lw_p25, List.forall_mem_cons.mpr ⟨lw_p26, List.forall_mem_cons.mpr ⟨lw_p27, List.forall_mem_cons.mpr ⟨lw_p28, List.forall_mem_cons.mpr ⟨lw_p29, List.forall_mem_cons.mpr ⟨lw_p30, List.forall_mem_cons.mpr ⟨lw_p31, fun _ h => absurd h List.not_mem_nil⟩⟩⟩⟩⟩⟩⟩⟩⟩⟩⟩⟩⟩⟩⟩⟩
theorem lw_p32 : lw_okq (⟨"FinderBookModel", "keepFinder", "(IIZ)V"⟩, 40) := ⟨⟨by decide +kernel, by decide +kernel⟩, List.mem_of_getElem? (i := 624) (by decide +kernel), List.mem_of_getElem? (i := 875) (by decide +kernel), List.mem_of_getElem? (i := 876) (by decide +kernel)⟩
theorem lw_p33 : lw_okq (⟨"FinderBookModel", "takesAll", "(I)I"⟩, 40) := ⟨⟨by decide +kernel, by decide +kernel⟩, List.mem_of_getElem? (i := 624) (by decide +kernel), List.mem_of_getElem? (i := 883) (by decide +kernel), List.mem_of_getElem? (i := 884) (by decide +kernel)⟩
theorem lw_p34 : lw_okq (⟨"FinderBookModel", "isLeaf", "(I)Z"⟩, 40) := ⟨⟨by decide +kernel, by decide +kernel⟩, List.mem_of_getElem? (i := 624) (by decide +kernel), List.mem_of_getElem? (i := 898) (by decide +kernel), List.mem_of_getElem? (i := 899) (by decide +kernel)⟩
theorem lw_p35 : lw_okq (⟨"FinderBookModel", "place", "(I)I"⟩, 40) := ⟨⟨by decide +kernel, by decide +kernel⟩, List.mem_of_getElem? (i := 624) (by decide +kernel), List.mem_of_getElem? (i := 910) (by decide +kernel), List.mem_of_getElem? (i := 911) (by decide +kernel)⟩
theorem lw_p36 : lw_okq (⟨"FinderBookModel", "removeAt", "(I)V"⟩, 40) := ⟨⟨by decide +kernel, by decide +kernel⟩, List.mem_of_getElem? (i := 624) (by decide +kernel), List.mem_of_getElem? (i := 918) (by decide +kernel), List.mem_of_getElem? (i := 919) (by decide +kernel)⟩
theorem lw_p37 : lw_okq (⟨"FinderBookModel", "fits", "(II)Z"⟩, 40) := ⟨⟨by decide +kernel, by decide +kernel⟩, List.mem_of_getElem? (i := 624) (by decide +kernel), List.mem_of_getElem? (i := 930) (by decide +kernel), List.mem_of_getElem? (i := 931) (by decide +kernel)⟩
theorem lw_p38 : lw_okq (⟨"FinderBookModel", "holds", "(IIII)Z"⟩, 40) := ⟨⟨by decide +kernel, by decide +kernel⟩, List.mem_of_getElem? (i := 624) (by decide +kernel), List.mem_of_getElem? (i := 934) (by decide +kernel), List.mem_of_getElem? (i := 935) (by decide +kernel)⟩
theorem lw_p39 : lw_okq (⟨"FinderBookModel", "rank", "(II)I"⟩, 40) := ⟨⟨by decide +kernel, by decide +kernel⟩, List.mem_of_getElem? (i := 624) (by decide +kernel), List.mem_of_getElem? (i := 938) (by decide +kernel), List.mem_of_getElem? (i := 939) (by decide +kernel)⟩
theorem lw_p40 : lw_okq (⟨"FinderBookModel", "compare", "(III)I"⟩, 40) := ⟨⟨by decide +kernel, by decide +kernel⟩, List.mem_of_getElem? (i := 624) (by decide +kernel), List.mem_of_getElem? (i := 942) (by decide +kernel), List.mem_of_getElem? (i := 943) (by decide +kernel)⟩
def lw_privs_3 : List (MethodName × Nat) := [(⟨"FinderBookModel", "keepFinder", "(IIZ)V"⟩, 40), (⟨"FinderBookModel", "takesAll", "(I)I"⟩, 40), (⟨"FinderBookModel", "isLeaf", "(I)Z"⟩, 40), (⟨"FinderBookModel", "place", "(I)I"⟩, 40), (⟨"FinderBookModel", "removeAt", "(I)V"⟩, 40), (⟨"FinderBookModel", "fits", "(II)Z"⟩, 40), (⟨"FinderBookModel", "holds", "(IIII)Z"⟩, 40), (⟨"FinderBookModel", "rank", "(II)I"⟩, 40), (⟨"FinderBookModel", "compare", "(III)I"⟩, 40)]
theorem lw_r3 : ∀ q ∈ lw_privs_3, lw_okq q := List.forall_mem_cons.mpr ⟨lw_p32, List.forall_mem_cons.mpr ⟨lw_p33, List.forall_mem_cons.mpr ⟨lw_p34, List.forall_mem_cons.mpr ⟨lw_p35, List.forall_mem_cons.mpr ⟨lw_p36, List.forall_mem_cons.mpr ⟨lw_p37, List.forall_mem_cons.mpr ⟨lw_p38, List.forall_mem_cons.mpr ⟨lw_p39, List.forall_mem_cons.mpr ⟨lw_p40, fun _ h => absurd h List.not_mem_nil⟩⟩⟩⟩⟩⟩⟩⟩⟩
def lw_privs : List (MethodName × Nat) := lw_privs_1 ++ (lw_privs_2 ++ (lw_privs_3))
def lw_tbl : List Cond := k2_sels lw_privs ++ tables_1
theorem lw_privs_ok : ∀ q ∈ lw_privs, lw_okq q := by
  show ∀ q ∈ lw_privs_1 ++ (lw_privs_2 ++ (lw_privs_3)), lw_okq q
  exact List.forall_mem_append.mpr ⟨lw_r1, List.forall_mem_append.mpr ⟨lw_r2, lw_r3⟩⟩

def RX0 : String := "FinderBook$Draft"
def TX0 : u_T := fun k => match k with
  | 0 => ("FinderBook$Draft", "characters", "[C", true)
  | _ => ("FinderBook$Draft", "length", "I", false)
def tyX0 : Nat → FieldType := fun k => match k with
  | 0 => .array .char
  | _ => .int
theorem nmX0 : ∀ a, a < 2 → ∀ b, b < 2 → a ≠ b → (TX0 a).2.1 ≠ (TX0 b).2.1 := by decide +kernel
theorem tyX0_ok : ∀ k, k < 2 → parseFieldDescriptor (TX0 k).2.2.1 = some (tyX0 k) := by decide +kernel
def RX1 : String := "FinderBook$Entity"
def TX1 : u_T := fun k => match k with
  | 0 => ("FinderBook$Entity", "id", "I", false)
  | _ => ("FinderBook$Entity", "values", "[J", true)
def tyX1 : Nat → FieldType := fun k => match k with
  | 0 => .int
  | _ => .array .long
theorem nmX1 : ∀ a, a < 2 → ∀ b, b < 2 → a ≠ b → (TX1 a).2.1 ≠ (TX1 b).2.1 := by decide +kernel
theorem tyX1_ok : ∀ k, k < 2 → parseFieldDescriptor (TX1 k).2.2.1 = some (tyX1 k) := by decide +kernel
def RX2 : String := "FinderBook$Finder"
def TX2 : u_T := fun k => match k with
  | 0 => ("FinderBook$Finder", "subject", "I", false)
  | 1 => ("FinderBook$Finder", "limit", "I", false)
  | 2 => ("FinderBook$Finder", "single", "Z", false)
  | 3 => ("FinderBook$Finder", "alternatives", "I", false)
  | 4 => ("FinderBook$Finder", "parts", "I", false)
  | 5 => ("FinderBook$Finder", "argumentsTaken", "I", false)
  | 6 => ("FinderBook$Finder", "orders", "I", false)
  | 7 => ("FinderBook$Finder", "partLeaf", "[I", true)
  | 8 => ("FinderBook$Finder", "partKeyword", "[I", true)
  | 9 => ("FinderBook$Finder", "partAlternative", "[I", true)
  | 10 => ("FinderBook$Finder", "orderLeaf", "[I", true)
  | _ => ("FinderBook$Finder", "orderDescends", "[Z", true)
def tyX2 : Nat → FieldType := fun k => match k with
  | 0 => .int
  | 1 => .int
  | 2 => .boolean
  | 3 => .int
  | 4 => .int
  | 5 => .int
  | 6 => .int
  | 7 => .array .int
  | 8 => .array .int
  | 9 => .array .int
  | 10 => .array .int
  | _ => .array .boolean
theorem nmX2 : ∀ a, a < 12 → ∀ b, b < 12 → a ≠ b → (TX2 a).2.1 ≠ (TX2 b).2.1 := by decide +kernel
theorem tyX2_ok : ∀ k, k < 12 → parseFieldDescriptor (TX2 k).2.2.1 = some (tyX2 k) := by decide +kernel
def RX3 : String := "FinderBook$FinderReader"
def TX3 : u_T := fun k => match k with
  | 0 => ("FinderBook$FinderReader", "draft", "LFinderBook$Draft;", true)
  | 1 => ("FinderBook$FinderReader", "leaves", "LFinderBook$LeafList;", true)
  | _ => ("FinderBook$FinderReader", "place", "I", false)
def tyX3 : Nat → FieldType := fun k => match k with
  | 0 => .object "FinderBook$Draft"
  | 1 => .object "FinderBook$LeafList"
  | _ => .int
theorem nmX3 : ∀ a, a < 3 → ∀ b, b < 3 → a ≠ b → (TX3 a).2.1 ≠ (TX3 b).2.1 := by decide +kernel
theorem tyX3_ok : ∀ k, k < 3 → parseFieldDescriptor (TX3 k).2.2.1 = some (tyX3 k) := by decide +kernel
def RX4 : String := "FinderBook$Finding"
def TX4 : u_T := fun k => match k with
  | 0 => ("FinderBook$Finding", "entities", "[LFinderBook$Entity;", true)
  | _ => ("FinderBook$Finding", "count", "I", false)
def tyX4 : Nat → FieldType := fun k => match k with
  | 0 => .array (.object "FinderBook$Entity")
  | _ => .int
theorem nmX4 : ∀ a, a < 2 → ∀ b, b < 2 → a ≠ b → (TX4 a).2.1 ≠ (TX4 b).2.1 := by decide +kernel
theorem tyX4_ok : ∀ k, k < 2 → parseFieldDescriptor (TX4 k).2.2.1 = some (tyX4 k) := by decide +kernel
def RX5 : String := "FinderBook$Leaf"
def TX5 : u_T := fun k => match k with
  | 0 => ("FinderBook$Leaf", "path", "[C", true)
  | 1 => ("FinderBook$Leaf", "length", "I", false)
  | 2 => ("FinderBook$Leaf", "firstName", "I", false)
  | _ => ("FinderBook$Leaf", "secondName", "I", false)
def tyX5 : Nat → FieldType := fun k => match k with
  | 0 => .array .char
  | 1 => .int
  | 2 => .int
  | _ => .int
theorem nmX5 : ∀ a, a < 4 → ∀ b, b < 4 → a ≠ b → (TX5 a).2.1 ≠ (TX5 b).2.1 := by decide +kernel
theorem tyX5_ok : ∀ k, k < 4 → parseFieldDescriptor (TX5 k).2.2.1 = some (tyX5 k) := by decide +kernel
def RX6 : String := "FinderBook$LeafList"
def TX6 : u_T := fun k => match k with
  | 0 => ("FinderBook$LeafList", "leaves", "[LFinderBook$Leaf;", true)
  | _ => ("FinderBook$LeafList", "count", "I", false)
def tyX6 : Nat → FieldType := fun k => match k with
  | 0 => .array (.object "FinderBook$Leaf")
  | _ => .int
theorem nmX6 : ∀ a, a < 2 → ∀ b, b < 2 → a ≠ b → (TX6 a).2.1 ≠ (TX6 b).2.1 := by decide +kernel
theorem tyX6_ok : ∀ k, k < 2 → parseFieldDescriptor (TX6 k).2.2.1 = some (tyX6 k) := by decide +kernel
def RX7 : String := "FinderBook$Store"
def TX7 : u_T := fun k => match k with
  | 0 => ("FinderBook$Store", "rows", "[LFinderBook$Entity;", true)
  | _ => ("FinderBook$Store", "count", "I", false)
def tyX7 : Nat → FieldType := fun k => match k with
  | 0 => .array (.object "FinderBook$Entity")
  | _ => .int
theorem nmX7 : ∀ a, a < 2 → ∀ b, b < 2 → a ≠ b → (TX7 a).2.1 ≠ (TX7 b).2.1 := by decide +kernel
theorem tyX7_ok : ∀ k, k < 2 → parseFieldDescriptor (TX7 k).2.2.1 = some (tyX7 k) := by decide +kernel
def RX8 : String := "FinderBook"
def TX8 : u_T := fun k => match k with
  | 0 => ("FinderBook", "draft", "LFinderBook$Draft;", true)
  | 1 => ("FinderBook", "leaves", "LFinderBook$LeafList;", true)
  | 2 => ("FinderBook", "reader", "LFinderBook$FinderReader;", true)
  | 3 => ("FinderBook", "finders", "[LFinderBook$Finder;", true)
  | 4 => ("FinderBook", "finderCount", "I", false)
  | 5 => ("FinderBook", "store", "LFinderBook$Store;", true)
  | 6 => ("FinderBook", "form", "[J", true)
  | 7 => ("FinderBook", "arguments", "[I", true)
  | 8 => ("FinderBook", "argumentCount", "I", false)
  | 9 => ("FinderBook", "finding", "LFinderBook$Finding;", true)
  | 10 => ("FinderBook", "resultIds", "[I", true)
  | _ => ("FinderBook", "resultCount", "I", false)
def tyX8 : Nat → FieldType := fun k => match k with
  | 0 => .object "FinderBook$Draft"
  | 1 => .object "FinderBook$LeafList"
  | 2 => .object "FinderBook$FinderReader"
  | 3 => .array (.object "FinderBook$Finder")
  | 4 => .int
  | 5 => .object "FinderBook$Store"
  | 6 => .array .long
  | 7 => .array .int
  | 8 => .int
  | 9 => .object "FinderBook$Finding"
  | 10 => .array .int
  | _ => .int
theorem nmX8 : ∀ a, a < 12 → ∀ b, b < 12 → a ≠ b → (TX8 a).2.1 ≠ (TX8 b).2.1 := by decide +kernel
theorem tyX8_ok : ∀ k, k < 12 → parseFieldDescriptor (TX8 k).2.2.1 = some (tyX8 k) := by decide +kernel
def RX9 : String := "FinderBookModel"
def TX9 : u_T := fun k => match k with
  | 0 => ("FinderBookModel", "text", "[I", true)
  | 1 => ("FinderBookModel", "length", "I", false)
  | 2 => ("FinderBookModel", "path", "[I", true)
  | 3 => ("FinderBookModel", "pathLength", "[I", true)
  | 4 => ("FinderBookModel", "leaves", "I", false)
  | 5 => ("FinderBookModel", "finders", "I", false)
  | 6 => ("FinderBookModel", "subjects", "[I", true)
  | 7 => ("FinderBookModel", "limits", "[I", true)
  | 8 => ("FinderBookModel", "singles", "[Z", true)
  | 9 => ("FinderBookModel", "alternatives", "[I", true)
  | 10 => ("FinderBookModel", "parts", "[I", true)
  | 11 => ("FinderBookModel", "orders", "[I", true)
  | 12 => ("FinderBookModel", "partLeaf", "[I", true)
  | 13 => ("FinderBookModel", "partWord", "[I", true)
  | 14 => ("FinderBookModel", "partOf", "[I", true)
  | 15 => ("FinderBookModel", "orderLeaf", "[I", true)
  | 16 => ("FinderBookModel", "orderDown", "[Z", true)
  | 17 => ("FinderBookModel", "readAlternatives", "I", false)
  | 18 => ("FinderBookModel", "readParts", "I", false)
  | 19 => ("FinderBookModel", "readOrders", "I", false)
  | 20 => ("FinderBookModel", "badPart", "Z", false)
  | 21 => ("FinderBookModel", "badOrder", "Z", false)
  | 22 => ("FinderBookModel", "readLeaf", "[I", true)
  | 23 => ("FinderBookModel", "readWord", "[I", true)
  | 24 => ("FinderBookModel", "readOf", "[I", true)
  | 25 => ("FinderBookModel", "readOrder", "[I", true)
  | 26 => ("FinderBookModel", "readDown", "[Z", true)
  | 27 => ("FinderBookModel", "word", "I", false)
  | 28 => ("FinderBookModel", "stored", "I", false)
  | 29 => ("FinderBookModel", "ids", "[I", true)
  | 30 => ("FinderBookModel", "values", "[I", true)
  | 31 => ("FinderBookModel", "full", "[Z", true)
  | 32 => ("FinderBookModel", "form", "[I", true)
  | 33 => ("FinderBookModel", "formFull", "[Z", true)
  | 34 => ("FinderBookModel", "given", "[I", true)
  | 35 => ("FinderBookModel", "givens", "I", false)
  | 36 => ("FinderBookModel", "found", "[I", true)
  | 37 => ("FinderBookModel", "founds", "I", false)
  | 38 => ("FinderBookModel", "fit", "[Z", true)
  | _ => ("FinderBookModel", "taken", "[Z", true)
def tyX9 : Nat → FieldType := fun k => match k with
  | 0 => .array .int
  | 1 => .int
  | 2 => .array .int
  | 3 => .array .int
  | 4 => .int
  | 5 => .int
  | 6 => .array .int
  | 7 => .array .int
  | 8 => .array .boolean
  | 9 => .array .int
  | 10 => .array .int
  | 11 => .array .int
  | 12 => .array .int
  | 13 => .array .int
  | 14 => .array .int
  | 15 => .array .int
  | 16 => .array .boolean
  | 17 => .int
  | 18 => .int
  | 19 => .int
  | 20 => .boolean
  | 21 => .boolean
  | 22 => .array .int
  | 23 => .array .int
  | 24 => .array .int
  | 25 => .array .int
  | 26 => .array .boolean
  | 27 => .int
  | 28 => .int
  | 29 => .array .int
  | 30 => .array .int
  | 31 => .array .boolean
  | 32 => .array .int
  | 33 => .array .boolean
  | 34 => .array .int
  | 35 => .int
  | 36 => .array .int
  | 37 => .int
  | 38 => .array .boolean
  | _ => .array .boolean
theorem nmX9 : ∀ a, a < 40 → ∀ b, b < 40 → a ≠ b → (TX9 a).2.1 ≠ (TX9 b).2.1 := by decide +kernel
theorem tyX9_ok : ∀ k, k < 40 → parseFieldDescriptor (TX9 k).2.2.1 = some (tyX9 k) := by decide +kernel
def RX10 : String := "FinderBook$Keyword"
def RXL : String := "FinderBookLaw"
abbrev vwCl : List vw_C := [(RX0, TX0, 2), (RX1, TX1, 2), (RX2, TX2, 12), (RX3, TX3, 3), (RX4, TX4, 2), (RX5, TX5, 4), (RX6, TX6, 2), (RX7, TX7, 2), (RX8, TX8, 12), (RX9, TX9, 40)]
abbrev cX0_init : ByteArray := prog_2_method_1_code
def yX0_init : MethodName := ⟨RX0, "<init>", "()V"⟩
abbrev cX0_append : ByteArray := prog_2_method_2_code
def yX0_append : MethodName := ⟨RX0, "append", "(C)Z"⟩
abbrev cX0_clear : ByteArray := prog_2_method_3_code
def yX0_clear : MethodName := ⟨RX0, "clear", "()V"⟩
abbrev cX0_length : ByteArray := prog_2_method_4_code
def yX0_length : MethodName := ⟨RX0, "length", "()I"⟩
abbrev cX0_at : ByteArray := prog_2_method_5_code
def yX0_at : MethodName := ⟨RX0, "at", "(I)C"⟩
abbrev cX0_isPath : ByteArray := prog_2_method_6_code
def yX0_isPath : MethodName := ⟨RX0, "isPath", "()Z"⟩
abbrev cX0_startsWith : ByteArray := prog_2_method_7_code
def yX0_startsWith : MethodName := ⟨RX0, "startsWith", "(Ljava/lang/String;II)Z"⟩
abbrev cX0_endsWith : ByteArray := prog_2_method_8_code
def yX0_endsWith : MethodName := ⟨RX0, "endsWith", "(Ljava/lang/String;II)Z"⟩
abbrev cX0_placeOf : ByteArray := prog_2_method_9_code
def yX0_placeOf : MethodName := ⟨RX0, "placeOf", "(Ljava/lang/String;II)I"⟩
abbrev cX0_isCutAt : ByteArray := prog_2_method_10_code
def yX0_isCutAt : MethodName := ⟨RX0, "isCutAt", "(Ljava/lang/String;II)Z"⟩
abbrev cX1_init : ByteArray := prog_3_method_1_code
def yX1_init : MethodName := ⟨RX1, "<init>", "()V"⟩
abbrev cX1_sortKey : ByteArray := prog_3_method_2_code
def yX1_sortKey : MethodName := ⟨RX1, "sortKey", "(I)J"⟩
abbrev cX2_init : ByteArray := prog_4_method_1_code
def yX2_init : MethodName := ⟨RX2, "<init>", "()V"⟩
abbrev cX2_clear : ByteArray := prog_4_method_2_code
def yX2_clear : MethodName := ⟨RX2, "clear", "()V"⟩
abbrev cX2_addPart : ByteArray := prog_4_method_3_code
def yX2_addPart : MethodName := ⟨RX2, "addPart", "(II)V"⟩
abbrev cX2_addOrder : ByteArray := prog_4_method_4_code
def yX2_addOrder : MethodName := ⟨RX2, "addOrder", "(IZ)V"⟩
abbrev cX2_isTooLong : ByteArray := prog_4_method_5_code
def yX2_isTooLong : MethodName := ⟨RX2, "isTooLong", "()Z"⟩
abbrev cX2_measure : ByteArray := prog_4_method_6_code
def yX2_measure : MethodName := ⟨RX2, "measure", "(I)I"⟩
abbrev cX2_partCode : ByteArray := prog_4_method_7_code
def yX2_partCode : MethodName := ⟨RX2, "partCode", "(I)I"⟩
abbrev cX2_fits : ByteArray := prog_4_method_8_code
def yX2_fits : MethodName := ⟨RX2, "fits", "(LFinderBook$Entity;[I)Z"⟩
abbrev cX2_argumentAt : ByteArray := prog_4_method_9_code
def yX2_argumentAt : MethodName := ⟨RX2, "argumentAt", "([II)I"⟩
abbrev cX2_putsBefore : ByteArray := prog_4_method_10_code
def yX2_putsBefore : MethodName := ⟨RX2, "putsBefore", "(LFinderBook$Entity;LFinderBook$Entity;)Z"⟩
abbrev cX3_init : ByteArray := prog_5_method_1_code
def yX3_init : MethodName := ⟨RX3, "<init>", "(LFinderBook$Draft;LFinderBook$LeafList;)V"⟩
abbrev cX3_read : ByteArray := prog_5_method_2_code
def yX3_read : MethodName := ⟨RX3, "read", "(LFinderBook$Finder;)I"⟩
abbrev cX3_skip : ByteArray := prog_5_method_3_code
def yX3_skip : MethodName := ⟨RX3, "skip", "(Ljava/lang/String;)Z"⟩
abbrev cX3_readSubject : ByteArray := prog_5_method_4_code
def yX3_readSubject : MethodName := ⟨RX3, "readSubject", "(LFinderBook$Finder;)Z"⟩
abbrev cX3_subjectWord : ByteArray := prog_5_method_5_code
def yX3_subjectWord : MethodName := ⟨RX3, "subjectWord", "(I)Ljava/lang/String;"⟩
abbrev cX3_readLimit : ByteArray := prog_5_method_6_code
def yX3_readLimit : MethodName := ⟨RX3, "readLimit", "(LFinderBook$Finder;)Z"⟩
abbrev cX3_readCondition : ByteArray := prog_5_method_7_code
def yX3_readCondition : MethodName := ⟨RX3, "readCondition", "(LFinderBook$Finder;II)Z"⟩
abbrev cX3_readAlternative : ByteArray := prog_5_method_8_code
def yX3_readAlternative : MethodName := ⟨RX3, "readAlternative", "(LFinderBook$Finder;II)Z"⟩
abbrev cX3_readPart : ByteArray := prog_5_method_9_code
def yX3_readPart : MethodName := ⟨RX3, "readPart", "(LFinderBook$Finder;II)Z"⟩
abbrev cX3_readOrders : ByteArray := prog_5_method_10_code
def yX3_readOrders : MethodName := ⟨RX3, "readOrders", "(LFinderBook$Finder;II)Z"⟩
abbrev cX3_endsWithDirection : ByteArray := prog_5_method_11_code
def yX3_endsWithDirection : MethodName := ⟨RX3, "endsWithDirection", "(II)Z"⟩
abbrev cX3_readOrder : ByteArray := prog_5_method_12_code
def yX3_readOrder : MethodName := ⟨RX3, "readOrder", "(LFinderBook$Finder;II)Z"⟩
abbrev cX4_init : ByteArray := prog_6_method_1_code
def yX4_init : MethodName := ⟨RX4, "<init>", "()V"⟩
abbrev cX4_gather : ByteArray := prog_6_method_2_code
def yX4_gather : MethodName := ⟨RX4, "gather", "(LFinderBook$Store;LFinderBook$Finder;[I)V"⟩
abbrev cX4_insert : ByteArray := prog_6_method_3_code
def yX4_insert : MethodName := ⟨RX4, "insert", "(LFinderBook$Entity;LFinderBook$Finder;)V"⟩
abbrev cX10_word : ByteArray := prog_7_method_2_code
def yX10_word : MethodName := ⟨RX10, "word", "(I)Ljava/lang/String;"⟩
abbrev cX10_numberOf : ByteArray := prog_7_method_3_code
def yX10_numberOf : MethodName := ⟨RX10, "numberOf", "(LFinderBook$Draft;II)I"⟩
abbrev cX10_argumentsTaken : ByteArray := prog_7_method_4_code
def yX10_argumentsTaken : MethodName := ⟨RX10, "argumentsTaken", "(I)I"⟩
abbrev cX10_holds : ByteArray := prog_7_method_5_code
def yX10_holds : MethodName := ⟨RX10, "holds", "(IJII)Z"⟩
abbrev cX5_init : ByteArray := prog_8_method_1_code
def yX5_init : MethodName := ⟨RX5, "<init>", "()V"⟩
abbrev cX5_setPath : ByteArray := prog_8_method_2_code
def yX5_setPath : MethodName := ⟨RX5, "setPath", "(LFinderBook$Draft;)V"⟩
abbrev cX5_nameLength : ByteArray := prog_8_method_3_code
def yX5_nameLength : MethodName := ⟨RX5, "nameLength", "(I)I"⟩
abbrev cX5_clashesWith : ByteArray := prog_8_method_4_code
def yX5_clashesWith : MethodName := ⟨RX5, "clashesWith", "(LFinderBook$Draft;)Z"⟩
abbrev cX5_isSpelledBy : ByteArray := prog_8_method_5_code
def yX5_isSpelledBy : MethodName := ⟨RX5, "isSpelledBy", "([CII)Z"⟩
abbrev cX5_goesBefore : ByteArray := prog_8_method_6_code
def yX5_goesBefore : MethodName := ⟨RX5, "goesBefore", "(LFinderBook$Leaf;)Z"⟩
abbrev cX6_init : ByteArray := prog_9_method_1_code
def yX6_init : MethodName := ⟨RX6, "<init>", "()V"⟩
abbrev cX6_has : ByteArray := prog_9_method_2_code
def yX6_has : MethodName := ⟨RX6, "has", "(I)Z"⟩
abbrev cX6_clashWith : ByteArray := prog_9_method_3_code
def yX6_clashWith : MethodName := ⟨RX6, "clashWith", "(LFinderBook$Draft;)Z"⟩
abbrev cX6_add : ByteArray := prog_9_method_4_code
def yX6_add : MethodName := ⟨RX6, "add", "(LFinderBook$Draft;)I"⟩
abbrev cX6_named : ByteArray := prog_9_method_5_code
def yX6_named : MethodName := ⟨RX6, "named", "(LFinderBook$Draft;II)I"⟩
abbrev cX7_init : ByteArray := prog_10_method_1_code
def yX7_init : MethodName := ⟨RX7, "<init>", "()V"⟩
abbrev cX7_count : ByteArray := prog_10_method_2_code
def yX7_count : MethodName := ⟨RX7, "count", "()I"⟩
abbrev cX7_at : ByteArray := prog_10_method_3_code
def yX7_at : MethodName := ⟨RX7, "at", "(I)LFinderBook$Entity;"⟩
abbrev cX7_placeOf : ByteArray := prog_10_method_4_code
def yX7_placeOf : MethodName := ⟨RX7, "placeOf", "(I)I"⟩
abbrev cX7_put : ByteArray := prog_10_method_5_code
def yX7_put : MethodName := ⟨RX7, "put", "(I[J)Z"⟩
abbrev cX7_drop : ByteArray := prog_10_method_6_code
def yX7_drop : MethodName := ⟨RX7, "drop", "(I)Z"⟩
abbrev cX8_init : ByteArray := prog_1_method_1_code
def yX8_init : MethodName := ⟨RX8, "<init>", "()V"⟩
abbrev cX8_type : ByteArray := prog_1_method_2_code
def yX8_type : MethodName := ⟨RX8, "type", "(C)Z"⟩
abbrev cX8_scrap : ByteArray := prog_1_method_3_code
def yX8_scrap : MethodName := ⟨RX8, "scrap", "()V"⟩
abbrev cX8_declare : ByteArray := prog_1_method_4_code
def yX8_declare : MethodName := ⟨RX8, "declare", "()I"⟩
abbrev cX8_names : ByteArray := prog_1_method_5_code
def yX8_names : MethodName := ⟨RX8, "names", "()I"⟩
abbrev cX8_define : ByteArray := prog_1_method_6_code
def yX8_define : MethodName := ⟨RX8, "define", "(Z)I"⟩
abbrev cX8_shape : ByteArray := prog_1_method_7_code
def yX8_shape : MethodName := ⟨RX8, "shape", "(II)I"⟩
abbrev cX8_part : ByteArray := prog_1_method_8_code
def yX8_part : MethodName := ⟨RX8, "part", "(II)I"⟩
abbrev cX8_fill : ByteArray := prog_1_method_9_code
def yX8_fill : MethodName := ⟨RX8, "fill", "(II)Z"⟩
abbrev cX8_blank : ByteArray := prog_1_method_10_code
def yX8_blank : MethodName := ⟨RX8, "blank", "(I)Z"⟩
abbrev cX8_save : ByteArray := prog_1_method_11_code
def yX8_save : MethodName := ⟨RX8, "save", "(I)Z"⟩
abbrev cX8_remove : ByteArray := prog_1_method_12_code
def yX8_remove : MethodName := ⟨RX8, "remove", "(I)Z"⟩
abbrev cX8_arg : ByteArray := prog_1_method_13_code
def yX8_arg : MethodName := ⟨RX8, "arg", "(I)Z"⟩
abbrev cX8_run : ByteArray := prog_1_method_14_code
def yX8_run : MethodName := ⟨RX8, "run", "(I)I"⟩
abbrev cX8_results : ByteArray := prog_1_method_15_code
def yX8_results : MethodName := ⟨RX8, "results", "()I"⟩
abbrev cX8_result : ByteArray := prog_1_method_16_code
def yX8_result : MethodName := ⟨RX8, "result", "(I)I"⟩
abbrev cX8_value : ByteArray := prog_1_method_17_code
def yX8_value : MethodName := ⟨RX8, "value", "(II)J"⟩
abbrev cX8_size : ByteArray := prog_1_method_18_code
def yX8_size : MethodName := ⟨RX8, "size", "()I"⟩
abbrev cX8_isFinder : ByteArray := prog_1_method_19_code
def yX8_isFinder : MethodName := ⟨RX8, "isFinder", "(I)Z"⟩
abbrev cX8_enter : ByteArray := prog_1_method_20_code
def yX8_enter : MethodName := ⟨RX8, "enter", "(IJ)Z"⟩
abbrev cX8_deleteFinding : ByteArray := prog_1_method_21_code
def yX8_deleteFinding : MethodName := ⟨RX8, "deleteFinding", "()I"⟩
abbrev cX8_keepFinding : ByteArray := prog_1_method_22_code
def yX8_keepFinding : MethodName := ⟨RX8, "keepFinding", "(Z)I"⟩
abbrev cX8_isCapital : ByteArray := prog_1_method_23_code
def yX8_isCapital : MethodName := ⟨RX8, "isCapital", "(C)Z"⟩
abbrev cX8_isSmall : ByteArray := prog_1_method_24_code
def yX8_isSmall : MethodName := ⟨RX8, "isSmall", "(C)Z"⟩
abbrev cX8_isFigure : ByteArray := prog_1_method_25_code
def yX8_isFigure : MethodName := ⟨RX8, "isFigure", "(C)Z"⟩
abbrev cX8_isLetterOrFigure : ByteArray := prog_1_method_26_code
def yX8_isLetterOrFigure : MethodName := ⟨RX8, "isLetterOrFigure", "(C)Z"⟩
abbrev cX9_init : ByteArray := prog_12_method_1_code
def yX9_init : MethodName := ⟨RX9, "<init>", "()V"⟩
abbrev cX9_capital : ByteArray := prog_12_method_2_code
def yX9_capital : MethodName := ⟨RX9, "capital", "(I)Z"⟩
abbrev cX9_small : ByteArray := prog_12_method_3_code
def yX9_small : MethodName := ⟨RX9, "small", "(I)Z"⟩
abbrev cX9_figure : ByteArray := prog_12_method_4_code
def yX9_figure : MethodName := ⟨RX9, "figure", "(I)Z"⟩
abbrev cX9_at : ByteArray := prog_12_method_5_code
def yX9_at : MethodName := ⟨RX9, "at", "(I)I"⟩
abbrev cX9_before : ByteArray := prog_12_method_6_code
def yX9_before : MethodName := ⟨RX9, "before", "(IIJ)I"⟩
abbrev cX9_letters : ByteArray := prog_12_method_7_code
def yX9_letters : MethodName := ⟨RX9, "letters", "(J)I"⟩
abbrev cX9_stands : ByteArray := prog_12_method_8_code
def yX9_stands : MethodName := ⟨RX9, "stands", "(IIJ)Z"⟩
abbrev cX9_type : ByteArray := prog_12_method_9_code
def yX9_type : MethodName := ⟨RX9, "type", "(C)Z"⟩
abbrev cX9_scrap : ByteArray := prog_12_method_10_code
def yX9_scrap : MethodName := ⟨RX9, "scrap", "()V"⟩
abbrev cX9_isPath : ByteArray := prog_12_method_11_code
def yX9_isPath : MethodName := ⟨RX9, "isPath", "()Z"⟩
abbrev cX9_clashes : ByteArray := prog_12_method_12_code
def yX9_clashes : MethodName := ⟨RX9, "clashes", "(I)Z"⟩
abbrev cX9_declare : ByteArray := prog_12_method_13_code
def yX9_declare : MethodName := ⟨RX9, "declare", "()I"⟩
abbrev cX9_spells : ByteArray := prog_12_method_14_code
def yX9_spells : MethodName := ⟨RX9, "spells", "(III)Z"⟩
abbrev cX9_nameLength : ByteArray := prog_12_method_15_code
def yX9_nameLength : MethodName := ⟨RX9, "nameLength", "(II)I"⟩
abbrev cX9_leafOf : ByteArray := prog_12_method_16_code
def yX9_leafOf : MethodName := ⟨RX9, "leafOf", "(II)I"⟩
abbrev cX9_names : ByteArray := prog_12_method_17_code
def yX9_names : MethodName := ⟨RX9, "names", "()I"⟩
abbrev cX9_keywordStart : ByteArray := prog_12_method_18_code
def yX9_keywordStart : MethodName := ⟨RX9, "keywordStart", "(III)I"⟩
abbrev cX9_readPart : ByteArray := prog_12_method_19_code
def yX9_readPart : MethodName := ⟨RX9, "readPart", "(II)I"⟩
abbrev cX9_takePart : ByteArray := prog_12_method_20_code
def yX9_takePart : MethodName := ⟨RX9, "takePart", "(II)V"⟩
abbrev cX9_takeAlternative : ByteArray := prog_12_method_21_code
def yX9_takeAlternative : MethodName := ⟨RX9, "takeAlternative", "(II)V"⟩
abbrev cX9_takeCondition : ByteArray := prog_12_method_22_code
def yX9_takeCondition : MethodName := ⟨RX9, "takeCondition", "(II)V"⟩
abbrev cX9_takeOrder : ByteArray := prog_12_method_23_code
def yX9_takeOrder : MethodName := ⟨RX9, "takeOrder", "(II)V"⟩
abbrev cX9_takeOrders : ByteArray := prog_12_method_24_code
def yX9_takeOrders : MethodName := ⟨RX9, "takeOrders", "(II)V"⟩
abbrev cX9_subjectOf : ByteArray := prog_12_method_25_code
def yX9_subjectOf : MethodName := ⟨RX9, "subjectOf", "()I"⟩
abbrev cX9_readRest : ByteArray := prog_12_method_26_code
def yX9_readRest : MethodName := ⟨RX9, "readRest", "(I)V"⟩
abbrev cX9_define : ByteArray := prog_12_method_27_code
def yX9_define : MethodName := ⟨RX9, "define", "(Z)I"⟩
abbrev cX9_keepFinder : ByteArray := prog_12_method_28_code
def yX9_keepFinder : MethodName := ⟨RX9, "keepFinder", "(IIZ)V"⟩
abbrev cX9_takes : ByteArray := prog_12_method_29_code
def yX9_takes : MethodName := ⟨RX9, "takes", "(I)I"⟩
abbrev cX9_takesAll : ByteArray := prog_12_method_30_code
def yX9_takesAll : MethodName := ⟨RX9, "takesAll", "(I)I"⟩
abbrev cX9_shape : ByteArray := prog_12_method_31_code
def yX9_shape : MethodName := ⟨RX9, "shape", "(II)I"⟩
abbrev cX9_part : ByteArray := prog_12_method_32_code
def yX9_part : MethodName := ⟨RX9, "part", "(II)I"⟩
abbrev cX9_isLeaf : ByteArray := prog_12_method_33_code
def yX9_isLeaf : MethodName := ⟨RX9, "isLeaf", "(I)Z"⟩
abbrev cX9_fill : ByteArray := prog_12_method_34_code
def yX9_fill : MethodName := ⟨RX9, "fill", "(II)Z"⟩
abbrev cX9_blank : ByteArray := prog_12_method_35_code
def yX9_blank : MethodName := ⟨RX9, "blank", "(I)Z"⟩
abbrev cX9_place : ByteArray := prog_12_method_36_code
def yX9_place : MethodName := ⟨RX9, "place", "(I)I"⟩
abbrev cX9_save : ByteArray := prog_12_method_37_code
def yX9_save : MethodName := ⟨RX9, "save", "(I)Z"⟩
abbrev cX9_removeAt : ByteArray := prog_12_method_38_code
def yX9_removeAt : MethodName := ⟨RX9, "removeAt", "(I)V"⟩
abbrev cX9_remove : ByteArray := prog_12_method_39_code
def yX9_remove : MethodName := ⟨RX9, "remove", "(I)Z"⟩
abbrev cX9_arg : ByteArray := prog_12_method_40_code
def yX9_arg : MethodName := ⟨RX9, "arg", "(I)Z"⟩
abbrev cX9_holds : ByteArray := prog_12_method_41_code
def yX9_holds : MethodName := ⟨RX9, "holds", "(IIII)Z"⟩
abbrev cX9_fits : ByteArray := prog_12_method_42_code
def yX9_fits : MethodName := ⟨RX9, "fits", "(II)Z"⟩
abbrev cX9_compare : ByteArray := prog_12_method_43_code
def yX9_compare : MethodName := ⟨RX9, "compare", "(III)I"⟩
abbrev cX9_rank : ByteArray := prog_12_method_44_code
def yX9_rank : MethodName := ⟨RX9, "rank", "(II)I"⟩
abbrev cX9_run : ByteArray := prog_12_method_45_code
def yX9_run : MethodName := ⟨RX9, "run", "(I)I"⟩
abbrev cX9_results : ByteArray := prog_12_method_46_code
def yX9_results : MethodName := ⟨RX9, "results", "()I"⟩
abbrev cX9_result : ByteArray := prog_12_method_47_code
def yX9_result : MethodName := ⟨RX9, "result", "(I)I"⟩
abbrev cX9_value : ByteArray := prog_12_method_48_code
def yX9_value : MethodName := ⟨RX9, "value", "(II)J"⟩
abbrev cX9_size : ByteArray := prog_12_method_49_code
def yX9_size : MethodName := ⟨RX9, "size", "()I"⟩
abbrev cJ_length : ByteArray := prog_14_method_54_code
def yJ_length : MethodName := ⟨"java/lang/String", "length", "()I"⟩
abbrev cJ_charAt : ByteArray := prog_14_method_56_code
def yJ_charAt : MethodName := ⟨"java/lang/String", "charAt", "(I)C"⟩

section
-- ===== PART A: goes FIRST, ahead of the names: the tables' words, and 'selects' of the private methods out of them =====
/-- a private method of a class that the tables say can be made, by its rows of tables_1 -/
def lw_okq (q : MethodName × Nat) : Prop := (q.1.cls ≠ "java/lang/invoke/MethodHandle" ∧ q.1.cls ≠ "java/lang/invoke/VarHandle") ∧ Cond.instantiable q.1.cls q.2 ∈ tables_1 ∧ Cond.privateMethod q.1 ∈ tables_1 ∧ Cond.instanceMethod q.1 ∈ tables_1
theorem lw_p0 : lw_okq (⟨"PagesByLevels", "complexAt", "(I)LPagesByLevels$Complex;"⟩, 10) := ⟨⟨by decide +kernel, by decide +kernel⟩, List.mem_of_getElem? (i := 15) (by decide +kernel), List.mem_of_getElem? (i := 245) (by decide +kernel), List.mem_of_getElem? (i := 246) (by decide +kernel)⟩
theorem lw_p1 : lw_okq (⟨"PagesByLevels", "ofPage", "(IIIIIIZ)I"⟩, 10) := ⟨⟨by decide +kernel, by decide +kernel⟩, List.mem_of_getElem? (i := 15) (by decide +kernel), List.mem_of_getElem? (i := 505) (by decide +kernel), List.mem_of_getElem? (i := 506) (by decide +kernel)⟩
theorem lw_p2 : lw_okq (⟨"PagesByLevels", "staying", "(LPagesByLevels$Complex;II)I"⟩, 10) := ⟨⟨by decide +kernel, by decide +kernel⟩, List.mem_of_getElem? (i := 15) (by decide +kernel), List.mem_of_getElem? (i := 539) (by decide +kernel), List.mem_of_getElem? (i := 540) (by decide +kernel)⟩
theorem lw_p3 : lw_okq (⟨"PagesByLevels", "inWholeNumbers", "(LPagesByLevels$Complex;IIII)I"⟩, 10) := ⟨⟨by decide +kernel, by decide +kernel⟩, List.mem_of_getElem? (i := 15) (by decide +kernel), List.mem_of_getElem? (i := 547) (by decide +kernel), List.mem_of_getElem? (i := 548) (by decide +kernel)⟩
theorem lw_p4 : lw_okq (⟨"PagesByLevels", "sheetAt", "(I)LPagesByLevels$Sheet;"⟩, 10) := ⟨⟨by decide +kernel, by decide +kernel⟩, List.mem_of_getElem? (i := 15) (by decide +kernel), List.mem_of_getElem? (i := 651) (by decide +kernel), List.mem_of_getElem? (i := 652) (by decide +kernel)⟩
theorem lw_p5 : lw_okq (⟨"PagesByLevels", "cellsTogether", "()I"⟩, 10) := ⟨⟨by decide +kernel, by decide +kernel⟩, List.mem_of_getElem? (i := 15) (by decide +kernel), List.mem_of_getElem? (i := 710) (by decide +kernel), List.mem_of_getElem? (i := 711) (by decide +kernel)⟩
theorem lw_p6 : lw_okq (⟨"PagesByLevels", "setOfComplexes", "(Z)I"⟩, 10) := ⟨⟨by decide +kernel, by decide +kernel⟩, List.mem_of_getElem? (i := 15) (by decide +kernel), List.mem_of_getElem? (i := 714) (by decide +kernel), List.mem_of_getElem? (i := 715) (by decide +kernel)⟩
theorem lw_p7 : lw_okq (⟨"PagesByLevelsModel", "empties", "(I)V"⟩, 30) := ⟨⟨by decide +kernel, by decide +kernel⟩, List.mem_of_getElem? (i := 726) (by decide +kernel), List.mem_of_getElem? (i := 834) (by decide +kernel), List.mem_of_getElem? (i := 835) (by decide +kernel)⟩
theorem lw_p8 : lw_okq (⟨"PagesByLevelsModel", "sets", "(IIIII)V"⟩, 30) := ⟨⟨by decide +kernel, by decide +kernel⟩, List.mem_of_getElem? (i := 726) (by decide +kernel), List.mem_of_getElem? (i := 842) (by decide +kernel), List.mem_of_getElem? (i := 843) (by decide +kernel)⟩
theorem lw_p9 : lw_okq (⟨"PagesByLevelsModel", "isEntry", "(III)Z"⟩, 30) := ⟨⟨by decide +kernel, by decide +kernel⟩, List.mem_of_getElem? (i := 726) (by decide +kernel), List.mem_of_getElem? (i := 850) (by decide +kernel), List.mem_of_getElem? (i := 851) (by decide +kernel)⟩
theorem lw_p10 : lw_okq (⟨"PagesByLevelsModel", "isCell", "(II)Z"⟩, 30) := ⟨⟨by decide +kernel, by decide +kernel⟩, List.mem_of_getElem? (i := 726) (by decide +kernel), List.mem_of_getElem? (i := 854) (by decide +kernel), List.mem_of_getElem? (i := 855) (by decide +kernel)⟩
theorem lw_p11 : lw_okq (⟨"PagesByLevelsModel", "may", "(III)Z"⟩, 30) := ⟨⟨by decide +kernel, by decide +kernel⟩, List.mem_of_getElem? (i := 726) (by decide +kernel), List.mem_of_getElem? (i := 858) (by decide +kernel), List.mem_of_getElem? (i := 859) (by decide +kernel)⟩
theorem lw_p12 : lw_okq (⟨"PagesByLevelsModel", "degree", "(II)I"⟩, 30) := ⟨⟨by decide +kernel, by decide +kernel⟩, List.mem_of_getElem? (i := 726) (by decide +kernel), List.mem_of_getElem? (i := 862) (by decide +kernel), List.mem_of_getElem? (i := 863) (by decide +kernel)⟩
theorem lw_p13 : lw_okq (⟨"PagesByLevelsModel", "level", "(III)I"⟩, 30) := ⟨⟨by decide +kernel, by decide +kernel⟩, List.mem_of_getElem? (i := 726) (by decide +kernel), List.mem_of_getElem? (i := 866) (by decide +kernel), List.mem_of_getElem? (i := 867) (by decide +kernel)⟩
theorem lw_p14 : lw_okq (⟨"PagesByLevelsModel", "edge", "(III)I"⟩, 30) := ⟨⟨by decide +kernel, by decide +kernel⟩, List.mem_of_getElem? (i := 726) (by decide +kernel), List.mem_of_getElem? (i := 870) (by decide +kernel), List.mem_of_getElem? (i := 871) (by decide +kernel)⟩
theorem lw_p15 : lw_okq (⟨"PagesByLevelsModel", "entriesOf", "(IIZ)I"⟩, 30) := ⟨⟨by decide +kernel, by decide +kernel⟩, List.mem_of_getElem? (i := 726) (by decide +kernel), List.mem_of_getElem? (i := 882) (by decide +kernel), List.mem_of_getElem? (i := 883) (by decide +kernel)⟩
def lw_privs_1 : List (MethodName × Nat) := [(⟨"PagesByLevels", "complexAt", "(I)LPagesByLevels$Complex;"⟩, 10), (⟨"PagesByLevels", "ofPage", "(IIIIIIZ)I"⟩, 10), (⟨"PagesByLevels", "staying", "(LPagesByLevels$Complex;II)I"⟩, 10), (⟨"PagesByLevels", "inWholeNumbers", "(LPagesByLevels$Complex;IIII)I"⟩, 10), (⟨"PagesByLevels", "sheetAt", "(I)LPagesByLevels$Sheet;"⟩, 10), (⟨"PagesByLevels", "cellsTogether", "()I"⟩, 10), (⟨"PagesByLevels", "setOfComplexes", "(Z)I"⟩, 10), (⟨"PagesByLevelsModel", "empties", "(I)V"⟩, 30), (⟨"PagesByLevelsModel", "sets", "(IIIII)V"⟩, 30), (⟨"PagesByLevelsModel", "isEntry", "(III)Z"⟩, 30), (⟨"PagesByLevelsModel", "isCell", "(II)Z"⟩, 30), (⟨"PagesByLevelsModel", "may", "(III)Z"⟩, 30), (⟨"PagesByLevelsModel", "degree", "(II)I"⟩, 30), (⟨"PagesByLevelsModel", "level", "(III)I"⟩, 30), (⟨"PagesByLevelsModel", "edge", "(III)I"⟩, 30), (⟨"PagesByLevelsModel", "entriesOf", "(IIZ)I"⟩, 30)]
theorem lw_r1 : ∀ q ∈ lw_privs_1, lw_okq q := List.forall_mem_cons.mpr ⟨lw_p0, List.forall_mem_cons.mpr ⟨lw_p1, List.forall_mem_cons.mpr ⟨lw_p2, List.forall_mem_cons.mpr ⟨lw_p3, List.forall_mem_cons.mpr ⟨lw_p4, List.forall_mem_cons.mpr ⟨lw_p5, List.forall_mem_cons.mpr ⟨lw_p6, List.forall_mem_cons.mpr ⟨lw_p7, List.forall_mem_cons.mpr ⟨lw_p8, List.forall_mem_cons.mpr ⟨lw_p9, List.forall_mem_cons.mpr ⟨lw_p10, List.forall_mem_cons.mpr ⟨lw_p11, List.forall_mem_cons.mpr ⟨lw_p12, List.forall_mem_cons.mpr ⟨lw_p13, List.forall_mem_cons.mpr ⟨lw_p14, List.forall_mem_cons.mpr ⟨lw_p15, fun _ h => absurd h List.not_mem_nil⟩⟩⟩⟩⟩⟩⟩⟩⟩⟩⟩⟩⟩⟩⟩⟩
theorem lw_p16 : lw_okq (⟨"PagesByLevelsModel", "brokenAt", "(I)I"⟩, 30) := ⟨⟨by decide +kernel, by decide +kernel⟩, List.mem_of_getElem? (i := 726) (by decide +kernel), List.mem_of_getElem? (i := 890) (by decide +kernel), List.mem_of_getElem? (i := 891) (by decide +kernel)⟩
theorem lw_p17 : lw_okq (⟨"PagesByLevelsModel", "mends", "(IIII)Z"⟩, 30) := ⟨⟨by decide +kernel, by decide +kernel⟩, List.mem_of_getElem? (i := 726) (by decide +kernel), List.mem_of_getElem? (i := 898) (by decide +kernel), List.mem_of_getElem? (i := 899) (by decide +kernel)⟩
theorem lw_p18 : lw_okq (⟨"PagesByLevelsModel", "leftOf", "(III)I"⟩, 30) := ⟨⟨by decide +kernel, by decide +kernel⟩, List.mem_of_getElem? (i := 726) (by decide +kernel), List.mem_of_getElem? (i := 909) (by decide +kernel), List.mem_of_getElem? (i := 910) (by decide +kernel)⟩
theorem lw_p19 : lw_okq (⟨"PagesByLevelsModel", "reduces", "(III)V"⟩, 30) := ⟨⟨by decide +kernel, by decide +kernel⟩, List.mem_of_getElem? (i := 726) (by decide +kernel), List.mem_of_getElem? (i := 913) (by decide +kernel), List.mem_of_getElem? (i := 914) (by decide +kernel)⟩
theorem lw_p20 : lw_okq (⟨"PagesByLevelsModel", "findOrder", "(II)V"⟩, 30) := ⟨⟨by decide +kernel, by decide +kernel⟩, List.mem_of_getElem? (i := 726) (by decide +kernel), List.mem_of_getElem? (i := 917) (by decide +kernel), List.mem_of_getElem? (i := 918) (by decide +kernel)⟩
theorem lw_p21 : lw_okq (⟨"PagesByLevelsModel", "isBefore", "(IIII)Z"⟩, 30) := ⟨⟨by decide +kernel, by decide +kernel⟩, List.mem_of_getElem? (i := 726) (by decide +kernel), List.mem_of_getElem? (i := 921) (by decide +kernel), List.mem_of_getElem? (i := 922) (by decide +kernel)⟩
theorem lw_p22 : lw_okq (⟨"PagesByLevelsModel", "lastOf", "(II)I"⟩, 30) := ⟨⟨by decide +kernel, by decide +kernel⟩, List.mem_of_getElem? (i := 726) (by decide +kernel), List.mem_of_getElem? (i := 925) (by decide +kernel), List.mem_of_getElem? (i := 926) (by decide +kernel)⟩
theorem lw_p23 : lw_okq (⟨"PagesByLevelsModel", "told", "(IIIIIIZ)I"⟩, 30) := ⟨⟨by decide +kernel, by decide +kernel⟩, List.mem_of_getElem? (i := 726) (by decide +kernel), List.mem_of_getElem? (i := 951) (by decide +kernel), List.mem_of_getElem? (i := 952) (by decide +kernel)⟩
theorem lw_p24 : lw_okq (⟨"PagesByLevelsModel", "counts", "(IIIIIZ)I"⟩, 30) := ⟨⟨by decide +kernel, by decide +kernel⟩, List.mem_of_getElem? (i := 726) (by decide +kernel), List.mem_of_getElem? (i := 955) (by decide +kernel), List.mem_of_getElem? (i := 956) (by decide +kernel)⟩
theorem lw_p25 : lw_okq (⟨"PagesByLevelsModel", "gap", "(III)I"⟩, 30) := ⟨⟨by decide +kernel, by decide +kernel⟩, List.mem_of_getElem? (i := 726) (by decide +kernel), List.mem_of_getElem? (i := 959) (by decide +kernel), List.mem_of_getElem? (i := 960) (by decide +kernel)⟩
theorem lw_p26 : lw_okq (⟨"PagesByLevelsModel", "wholeOf", "(IIIII)I"⟩, 30) := ⟨⟨by decide +kernel, by decide +kernel⟩, List.mem_of_getElem? (i := 726) (by decide +kernel), List.mem_of_getElem? (i := 979) (by decide +kernel), List.mem_of_getElem? (i := 980) (by decide +kernel)⟩
theorem lw_p27 : lw_okq (⟨"PagesByLevelsModel", "takesTable", "(IIII)V"⟩, 30) := ⟨⟨by decide +kernel, by decide +kernel⟩, List.mem_of_getElem? (i := 726) (by decide +kernel), List.mem_of_getElem? (i := 983) (by decide +kernel), List.mem_of_getElem? (i := 984) (by decide +kernel)⟩
theorem lw_p28 : lw_okq (⟨"PagesByLevelsModel", "cellsAt", "(IIII)I"⟩, 30) := ⟨⟨by decide +kernel, by decide +kernel⟩, List.mem_of_getElem? (i := 726) (by decide +kernel), List.mem_of_getElem? (i := 987) (by decide +kernel), List.mem_of_getElem? (i := 988) (by decide +kernel)⟩
theorem lw_p29 : lw_okq (⟨"PagesByLevelsModel", "isAt", "(IIIII)Z"⟩, 30) := ⟨⟨by decide +kernel, by decide +kernel⟩, List.mem_of_getElem? (i := 726) (by decide +kernel), List.mem_of_getElem? (i := 991) (by decide +kernel), List.mem_of_getElem? (i := 992) (by decide +kernel)⟩
theorem lw_p30 : lw_okq (⟨"PagesByLevelsModel", "simplifies", "()V"⟩, 30) := ⟨⟨by decide +kernel, by decide +kernel⟩, List.mem_of_getElem? (i := 726) (by decide +kernel), List.mem_of_getElem? (i := 995) (by decide +kernel), List.mem_of_getElem? (i := 996) (by decide +kernel)⟩
theorem lw_p31 : lw_okq (⟨"PagesByLevelsModel", "leastTo", "(I)Z"⟩, 30) := ⟨⟨by decide +kernel, by decide +kernel⟩, List.mem_of_getElem? (i := 726) (by decide +kernel), List.mem_of_getElem? (i := 999) (by decide +kernel), List.mem_of_getElem? (i := 1000) (by decide +kernel)⟩
def lw_privs_2 : List (MethodName × Nat) := [(⟨"PagesByLevelsModel", "brokenAt", "(I)I"⟩, 30), (⟨"PagesByLevelsModel", "mends", "(IIII)Z"⟩, 30), (⟨"PagesByLevelsModel", "leftOf", "(III)I"⟩, 30), (⟨"PagesByLevelsModel", "reduces", "(III)V"⟩, 30), (⟨"PagesByLevelsModel", "findOrder", "(II)V"⟩, 30), (⟨"PagesByLevelsModel", "isBefore", "(IIII)Z"⟩, 30), (⟨"PagesByLevelsModel", "lastOf", "(II)I"⟩, 30), (⟨"PagesByLevelsModel", "told", "(IIIIIIZ)I"⟩, 30), (⟨"PagesByLevelsModel", "counts", "(IIIIIZ)I"⟩, 30), (⟨"PagesByLevelsModel", "gap", "(III)I"⟩, 30), (⟨"PagesByLevelsModel", "wholeOf", "(IIIII)I"⟩, 30), (⟨"PagesByLevelsModel", "takesTable", "(IIII)V"⟩, 30), (⟨"PagesByLevelsModel", "cellsAt", "(IIII)I"⟩, 30), (⟨"PagesByLevelsModel", "isAt", "(IIIII)Z"⟩, 30), (⟨"PagesByLevelsModel", "simplifies", "()V"⟩, 30), (⟨"PagesByLevelsModel", "leastTo", "(I)Z"⟩, 30)]
theorem lw_r2 : ∀ q ∈ lw_privs_2, lw_okq q := List.forall_mem_cons.mpr ⟨lw_p16, List.forall_mem_cons.mpr ⟨lw_p17, List.forall_mem_cons.mpr ⟨lw_p18, List.forall_mem_cons.mpr ⟨lw_p19, List.forall_mem_cons.mpr ⟨lw_p20, List.forall_mem_cons.mpr ⟨lw_p21, List.forall_mem_cons.mpr ⟨lw_p22, List.forall_mem_cons.mpr ⟨lw_p23, List.forall_mem_cons.mpr ⟨lw_p24, List.forall_mem_cons.mpr ⟨lw_p25, List.forall_mem_cons.mpr ⟨lw_p26, List.forall_mem_cons.mpr ⟨lw_p27, List.forall_mem_cons.mpr ⟨lw_p28, List.forall_mem_cons.mpr ⟨lw_p29, List.forall_mem_cons.mpr ⟨lw_p30, List.forall_mem_cons.mpr ⟨lw_p31, fun _ h => absurd h List.not_mem_nil⟩⟩⟩⟩⟩⟩⟩⟩⟩⟩⟩⟩⟩⟩⟩⟩
theorem lw_p32 : lw_okq (⟨"PagesByLevelsModel", "lowers", "(I)Z"⟩, 30) := ⟨⟨by decide +kernel, by decide +kernel⟩, List.mem_of_getElem? (i := 726) (by decide +kernel), List.mem_of_getElem? (i := 1006) (by decide +kernel), List.mem_of_getElem? (i := 1007) (by decide +kernel)⟩
theorem lw_p33 : lw_okq (⟨"PagesByLevelsModel", "copies", "(II)V"⟩, 30) := ⟨⟨by decide +kernel, by decide +kernel⟩, List.mem_of_getElem? (i := 726) (by decide +kernel), List.mem_of_getElem? (i := 1018) (by decide +kernel), List.mem_of_getElem? (i := 1019) (by decide +kernel)⟩
theorem lw_p34 : lw_okq (⟨"PagesByLevelsModel", "here", "()I"⟩, 30) := ⟨⟨by decide +kernel, by decide +kernel⟩, List.mem_of_getElem? (i := 726) (by decide +kernel), List.mem_of_getElem? (i := 1035) (by decide +kernel), List.mem_of_getElem? (i := 1036) (by decide +kernel)⟩
theorem lw_p35 : lw_okq (⟨"PagesByLevelsModel", "readsCell", "()Z"⟩, 30) := ⟨⟨by decide +kernel, by decide +kernel⟩, List.mem_of_getElem? (i := 726) (by decide +kernel), List.mem_of_getElem? (i := 1039) (by decide +kernel), List.mem_of_getElem? (i := 1040) (by decide +kernel)⟩
theorem lw_p36 : lw_okq (⟨"PagesByLevelsModel", "readsNumber", "(I)Z"⟩, 30) := ⟨⟨by decide +kernel, by decide +kernel⟩, List.mem_of_getElem? (i := 726) (by decide +kernel), List.mem_of_getElem? (i := 1043) (by decide +kernel), List.mem_of_getElem? (i := 1044) (by decide +kernel)⟩
theorem lw_p37 : lw_okq (⟨"PagesByLevelsModel", "takes", "(I)Z"⟩, 30) := ⟨⟨by decide +kernel, by decide +kernel⟩, List.mem_of_getElem? (i := 726) (by decide +kernel), List.mem_of_getElem? (i := 1047) (by decide +kernel), List.mem_of_getElem? (i := 1048) (by decide +kernel)⟩
theorem lw_p38 : lw_okq (⟨"PagesByLevelsModel", "readsEntry", "(I)Z"⟩, 30) := ⟨⟨by decide +kernel, by decide +kernel⟩, List.mem_of_getElem? (i := 726) (by decide +kernel), List.mem_of_getElem? (i := 1051) (by decide +kernel), List.mem_of_getElem? (i := 1052) (by decide +kernel)⟩
theorem lw_p39 : lw_okq (⟨"PagesByLevelsModel", "isOutside", "(III)Z"⟩, 30) := ⟨⟨by decide +kernel, by decide +kernel⟩, List.mem_of_getElem? (i := 726) (by decide +kernel), List.mem_of_getElem? (i := 1077) (by decide +kernel), List.mem_of_getElem? (i := 1078) (by decide +kernel)⟩
theorem lw_p40 : lw_okq (⟨"PagesByLevelsModel", "lacks", "(III)I"⟩, 30) := ⟨⟨by decide +kernel, by decide +kernel⟩, List.mem_of_getElem? (i := 726) (by decide +kernel), List.mem_of_getElem? (i := 1085) (by decide +kernel), List.mem_of_getElem? (i := 1086) (by decide +kernel)⟩
theorem lw_p41 : lw_okq (⟨"PagesByLevelsModel", "cellsAll", "()I"⟩, 30) := ⟨⟨by decide +kernel, by decide +kernel⟩, List.mem_of_getElem? (i := 726) (by decide +kernel), List.mem_of_getElem? (i := 1099) (by decide +kernel), List.mem_of_getElem? (i := 1100) (by decide +kernel)⟩
def lw_privs_3 : List (MethodName × Nat) := [(⟨"PagesByLevelsModel", "lowers", "(I)Z"⟩, 30), (⟨"PagesByLevelsModel", "copies", "(II)V"⟩, 30), (⟨"PagesByLevelsModel", "here", "()I"⟩, 30), (⟨"PagesByLevelsModel", "readsCell", "()Z"⟩, 30), (⟨"PagesByLevelsModel", "readsNumber", "(I)Z"⟩, 30), (⟨"PagesByLevelsModel", "takes", "(I)Z"⟩, 30), (⟨"PagesByLevelsModel", "readsEntry", "(I)Z"⟩, 30), (⟨"PagesByLevelsModel", "isOutside", "(III)Z"⟩, 30), (⟨"PagesByLevelsModel", "lacks", "(III)I"⟩, 30), (⟨"PagesByLevelsModel", "cellsAll", "()I"⟩, 30)]
theorem lw_r3 : ∀ q ∈ lw_privs_3, lw_okq q := List.forall_mem_cons.mpr ⟨lw_p32, List.forall_mem_cons.mpr ⟨lw_p33, List.forall_mem_cons.mpr ⟨lw_p34, List.forall_mem_cons.mpr ⟨lw_p35, List.forall_mem_cons.mpr ⟨lw_p36, List.forall_mem_cons.mpr ⟨lw_p37, List.forall_mem_cons.mpr ⟨lw_p38, List.forall_mem_cons.mpr ⟨lw_p39, List.forall_mem_cons.mpr ⟨lw_p40, List.forall_mem_cons.mpr ⟨lw_p41, fun _ h => absurd h List.not_mem_nil⟩⟩⟩⟩⟩⟩⟩⟩⟩⟩
def lw_privs : List (MethodName × Nat) := lw_privs_1 ++ (lw_privs_2 ++ (lw_privs_3))
def lw_tbl : List Cond := k2_sels lw_privs ++ tables_1
theorem lw_privs_ok : ∀ q ∈ lw_privs, lw_okq q := by
  show ∀ q ∈ lw_privs_1 ++ (lw_privs_2 ++ (lw_privs_3)), lw_okq q
  exact List.forall_mem_append.mpr ⟨lw_r1, List.forall_mem_append.mpr ⟨lw_r2, lw_r3⟩⟩
-- ===== end of PART A; then your names; then what follows =====
def mm_lay : List (Nat × Nat) := [(0, 0), (5, 4), (5, 4), (0, 1), (1, 12), (1, 12), (1, 12), (1, 144), (0, 2), (1, 12), (1, 144), (1, 12), (1, 12), (0, 3), (1, 12), (1, 12), (1, 4096), (1, 13), (0, 4), (0, 5), (3, 200), (0, 6), (6, 4), (0, 1), (1, 12), (1, 12), (1, 12), (1, 144), (0, 1), (1, 12), (1, 12), (1, 12), (1, 144), (0, 1), (1, 12), (1, 12), (1, 12), (1, 144), (0, 1), (1, 12), (1, 12), (1, 12), (1, 144), (0, 1), (1, 12), (1, 12), (1, 12), (1, 144), (0, 1), (1, 12), (1, 12), (1, 12), (1, 144), (0, 1), (1, 12), (1, 12), (1, 12), (1, 144), (0, 1), (1, 12), (1, 12), (1, 12), (1, 144), (0, 7), (2, 40), (0, 7), (2, 40), (0, 7), (2, 40), (0, 7), (2, 40), (0, 8), (1, 5), (1, 60), (1, 120), (1, 720), (1, 4), (1, 48), (1, 96), (1, 576), (1, 144), (1, 12), (1, 12), (2, 144), (2, 12), (1, 200), (4, 12), (1, 4), (1, 4), (2, 160), (2, 40)]
def mm_fks : List (List Nat) := [[1, 1, 1, 1, 1, 1, 1, 1, 1, 3], [0, 1, 1, 1, 1], [2, 0, 0, 1, 1, 1, 1], [2, 0, 0, 1, 1, 0, 0, 1, 1, 0], [0, 0, 0, 2, 0, 0, 0], [0, 1], [1, 1, 0, 0, 0, 0, 0], [0, 0, 1], [1, 1, 1, 1, 1, 1, 1, 1, 3, 0, 0, 0, 1, 1, 1, 1, 1, 0, 0, 0, 1, 0, 0, 0, 0, 1, 1, 1, 1, 1]]
def mm_srt : List (Nat × Nat × Int) := [(0, 0, 1), (0, 1, 2), (0, 2, 3), (0, 3, 8), (0, 4, 13), (0, 5, 18), (0, 6, 19), (0, 7, 21), (0, 8, 22), (1, 1, 1), (1, 2, 2), (1, 3, 3), (1, 4, 4), (2, 3, 1), (2, 4, 2), (2, 5, 3), (2, 6, 4), (3, 3, 1), (3, 4, 2), (3, 7, 3), (3, 8, 4), (5, 1, 1), (6, 0, -2), (6, 1, -18), (7, 2, 1), (8, 0, 1), (8, 1, 2), (8, 2, 3), (8, 3, 4), (8, 4, 5), (8, 5, 6), (8, 6, 7), (8, 7, 8), (8, 12, 9), (8, 13, 10), (8, 14, 11), (8, 15, 12), (8, 16, 13), (8, 20, 14), (8, 25, 15), (8, 26, 16), (8, 27, 17), (8, 28, 18), (8, 29, 19)]
def mm_srf : List (Nat × Nat × Int) → Nat → Nat → Int
  | [], _, _ => 0
  | q :: r, ci, k => if q.1 = ci ∧ q.2.1 = k then q.2.2 else mm_srf r ci k
def mm_sr (ci k : Nat) (a : Int) : Int := a + mm_srf mm_srt ci k
def mm_ra (a j : Int) : Int := if a = 1 then 23 + 10 * j else if a = 2 then 28 + 10 * j else if a = 22 then 63 + 2 * j else -1

/-! A small machine of whole numbers beside the real one: tagged numbers (0 int, 1 long, 2 a cell's number or -1), cells by number, what they hold by number and place. -/
abbrev mm_V : Type := Nat × Int
abbrev mm_S : Type := Int → Int → Int
abbrev mm_E : Type := Nat × Instr × Nat × Nat × Nat × Int
abbrev mm_R : Type := Option (Option mm_V × mm_S)
def mm_w32 (z : Int) : Int := Int.bmod z 4294967296
def mm_w64 (z : Int) : Int := Int.bmod z 18446744073709551616
def mm_up (S : mm_S) (a k x : Int) : mm_S := fun a' k' => if a' = a ∧ k' = k then x else S a' k'
def mm_kd (a : Nat) : Nat × Nat := mm_lay.getD a (99, 0)
def mm_fk (ci k : Nat) : Nat := (mm_fks.getD ci []).getD k 9
def mm_cs : List mm_V → Nat
  | [] => 0
  | v :: r => (if v.1 = 1 then 2 else 1) + mm_cs r
def mm_b2 (st : List mm_V) (t1 t2 : Nat) : Option (Int × Int × List mm_V) := match st with
  | (u2, y) :: (u1, x) :: r => if u1 = t1 ∧ u2 = t2 then some (x, y, r) else none
  | _ => none
def mm_b1 (st : List mm_V) (t : Nat) : Option (Int × List mm_V) := match st with
  | (u, x) :: r => if u = t then some (x, r) else none
  | _ => none
def mm_bin (pc : Nat) (st : List mm_V) (S : mm_S) (t1 t2 t : Nat) (f : Int → Int → Int) : Option (Nat × List mm_V × mm_S) := match mm_b2 st t1 t2 with
  | some (x, y, r) => some (pc, (t, f x y) :: r, S)
  | none => none
def mm_dv (pc : Nat) (st : List mm_V) (S : mm_S) (t : Nat) (f : Int → Int → Int) : Option (Nat × List mm_V × mm_S) := match mm_b2 st t t with
  | some (x, y, r) => if y = 0 then none else some (pc, (t, f x y) :: r, S)
  | none => none
def mm_un (pc : Nat) (st : List mm_V) (S : mm_S) (t1 t : Nat) (f : Int → Int) : Option (Nat × List mm_V × mm_S) := match mm_b1 st t1 with
  | some (x, r) => some (pc, (t, f x) :: r, S)
  | none => none
def mm_br1 (pc nx : Nat) (off : Int) (st : List mm_V) (S : mm_S) (t : Nat) (f : Int → Bool) : Option (Nat × List mm_V × mm_S) := match mm_b1 st t with
  | some (x, r) => some (if f x then ((pc : Int) + off).toNat else nx, r, S)
  | none => none
def mm_br2 (pc nx : Nat) (off : Int) (st : List mm_V) (S : mm_S) (f : Int → Int → Bool) : Option (Nat × List mm_V × mm_S) := match mm_b2 st 0 0 with
  | some (x, y, r) => some (if f x y then ((pc : Int) + off).toNat else nx, r, S)
  | none => none
def mm_cnd : ClassFile.Cond → Int → Int → Bool
  | .eq, x, y => decide (x = y)
  | .ne, x, y => decide (¬ x = y)
  | .lt, x, y => decide (x < y)
  | .ge, x, y => decide (y ≤ x)
  | .gt, x, y => decide (y < x)
  | .le, x, y => decide (x ≤ y)
/-- a place of a row: the row's cell, its kind among ks, the place within -/
def mm_el (a i : Int) (ks : List Nat) : Bool := decide (0 ≤ a ∧ (mm_kd a.toNat).1 ∈ ks ∧ 0 ≤ i ∧ i < ((mm_kd a.toNat).2 : Int))
def mm_ald (pc : Nat) (st : List mm_V) (S : mm_S) (ks : List Nat) (f : Int → Int → mm_V) : Option (Nat × List mm_V × mm_S) := match mm_b2 st 2 0 with
  | some (a, i, r) => if mm_el a i ks then some (pc, f a i :: r, S) else none
  | none => none
def mm_ast (pc : Nat) (st : List mm_V) (S : mm_S) (ks : List Nat) (t : Nat) (g : Nat → Int → Bool) : Option (Nat × List mm_V × mm_S) := match mm_b1 st t with
  | some (x, r) => match mm_b2 r 2 0 with
    | some (a, i, q) => if mm_el a i ks && g (mm_kd a.toNat).1 x then some (pc, q, mm_up S a i x) else none
    | none => none
  | none => none
def mm_ob (a : Int) (ci : Nat) : Bool := decide (0 ≤ a ∧ mm_kd a.toNat = (0, ci))
def mm_gw (ci k : Nat) (a x : Int) : Nat → mm_V
  | 1 => (2, mm_sr ci k a)
  | 2 => (2, x)
  | _ => (0, x)
def mm_gv (S : mm_S) (ci k : Nat) (a : Int) (kd : Nat) : mm_V := mm_gw ci k a (S a k) kd
def mm_pg (kd u : Nat) (x : Int) : Bool := match kd with
  | 0 => decide (u = 0)
  | 2 => decide (u = 2 ∧ -1 ≤ x ∧ x < 91)
  | 3 => decide (u = 0 ∧ (x = 0 ∨ x = 1))
  | _ => false
def mm_putf (nx r1 r2 : Nat) (st : List mm_V) (S : mm_S) : Option (Nat × List mm_V × mm_S) := match st with
  | (u, x) :: (2, a) :: t => if mm_ob a r1 && mm_pg (mm_fk r1 r2) u x then some (nx, t, mm_up S a r2 x) else none
  | _ => none
def mm_fit (k : Nat) (x : Int) : Bool := match k with
  | 3 => decide (-128 ≤ x ∧ x ≤ 127)
  | 4 => decide (x = 0 ∨ x = 1)
  | _ => true
def mm_cpy (S : mm_S) (a sp b dp n : Int) : mm_S := fun a' k' => if a' = b ∧ dp ≤ k' ∧ k' < dp + n then S a (sp + (k' - dp)) else S a' k'
def mm_acp (pc : Nat) (st : List mm_V) (S : mm_S) : Option (Nat × List mm_V × mm_S) := match st with
  | (0, n) :: (0, dp) :: (2, b) :: (0, sp) :: (2, a) :: r =>
    if 0 ≤ a ∧ 0 ≤ b ∧ 0 ≤ sp ∧ 0 ≤ dp ∧ 0 ≤ n ∧ sp + n ≤ ((mm_kd a.toNat).2 : Int) ∧ dp + n ≤ ((mm_kd b.toNat).2 : Int) ∧ (mm_kd a.toNat).1 = (mm_kd b.toNat).1 ∧ ((mm_kd a.toNat).1 = 1 ∨ (mm_kd a.toNat).1 = 2) ∧ mm_cs r ≤ 8
    then some (pc, r, mm_cpy S a sp b dp n) else none
  | _ => none
/-- what touches neither locals nor other methods -/
def mm_op (pc : Nat) (i : Instr) (nx r1 r2 : Nat) (r3 : Int) (st : List mm_V) (S : mm_S) : Option (Nat × List mm_V × mm_S) :=
  match i with
  | .aconst_null => some (nx, (2, -1) :: st, S)
  | .iconst n => some (nx, (0, n) :: st, S)
  | .bipush n => some (nx, (0, n) :: st, S)
  | .sipush n => some (nx, (0, n) :: st, S)
  | .lconst n => some (nx, (1, ((n : Nat) : Int)) :: st, S)
  | .ldc _ => some (nx, (0, r3) :: st, S)
  | .ldc_w _ => some (nx, (0, r3) :: st, S)
  | .ldc2_w _ => some (nx, (1, r3) :: st, S)
  | .dup => match st with
    | v :: t => if v.1 = 1 then none else some (nx, v :: v :: t, S)
    | _ => none
  | .dup2 => match st with
    | a :: b :: t => if a.1 = 1 ∨ b.1 = 1 then none else some (nx, a :: b :: a :: b :: t, S)
    | _ => none
  | .pop => match st with
    | v :: t => if v.1 = 1 then none else some (nx, t, S)
    | _ => none
  | .iadd => mm_bin nx st S 0 0 0 fun x y => mm_w32 (x + y)
  | .isub => mm_bin nx st S 0 0 0 fun x y => mm_w32 (x - y)
  | .imul => mm_bin nx st S 0 0 0 fun x y => mm_w32 (x * y)
  | .iand => mm_bin nx st S 0 0 0 fun x y => (Int32.ofInt x &&& Int32.ofInt y).toInt
  | .ior => mm_bin nx st S 0 0 0 fun x y => (Int32.ofInt x ||| Int32.ofInt y).toInt
  | .ixor => mm_bin nx st S 0 0 0 fun x y => (Int32.ofInt x ^^^ Int32.ofInt y).toInt
  | .ishl => mm_bin nx st S 0 0 0 fun x y => (Int32.ofInt x <<< (Int32.ofInt y &&& 31)).toInt
  | .ishr => mm_bin nx st S 0 0 0 fun x y => (Int32.ofInt x >>> (Int32.ofInt y &&& 31)).toInt
  | .iushr => mm_bin nx st S 0 0 0 fun x y => ((Int32.ofInt x).toUInt32 >>> ((Int32.ofInt y).toUInt32 &&& Int32.toUInt32 31)).toInt32.toInt
  | .ineg => mm_un nx st S 0 0 fun x => mm_w32 (-x)
  | .idiv => mm_dv nx st S 0 fun x y => mm_w32 (Int.tdiv x y)
  | .irem => mm_dv nx st S 0 fun x y => Int.tmod x y
  | .ladd => mm_bin nx st S 1 1 1 fun x y => mm_w64 (x + y)
  | .lsub => mm_bin nx st S 1 1 1 fun x y => mm_w64 (x - y)
  | .lmul => mm_bin nx st S 1 1 1 fun x y => mm_w64 (x * y)
  | .land => mm_bin nx st S 1 1 1 fun x y => (Int64.ofInt x &&& Int64.ofInt y).toInt
  | .lor => mm_bin nx st S 1 1 1 fun x y => (Int64.ofInt x ||| Int64.ofInt y).toInt
  | .lshl => mm_bin nx st S 1 0 1 fun x y => (Int64.ofInt x <<< ((Int32.ofInt y).toInt64 &&& 63)).toInt
  | .lshr => mm_bin nx st S 1 0 1 fun x y => (Int64.ofInt x >>> ((Int32.ofInt y).toInt64 &&& 63)).toInt
  | .lneg => mm_un nx st S 1 1 fun x => mm_w64 (-x)
  | .ldiv => mm_dv nx st S 1 fun x y => mm_w64 (Int.tdiv x y)
  | .lrem => mm_dv nx st S 1 fun x y => Int.tmod x y
  | .lcmp => mm_bin nx st S 1 1 0 fun x y => if y < x then 1 else if x = y then 0 else -1
  | .i2l => mm_un nx st S 0 1 fun x => x
  | .l2i => mm_un nx st S 1 0 fun x => mm_w32 x
  | .i2b => mm_un nx st S 0 0 fun x => Int.bmod x 256
  | .if_icmp c off => mm_br2 pc nx off st S (mm_cnd c)
  | .ifCond c off => mm_br1 pc nx off st S 0 fun x => mm_cnd c x 0
  | .ifnull off => mm_br1 pc nx off st S 2 fun x => decide (x < 0)
  | .ifnonnull off => mm_br1 pc nx off st S 2 fun x => decide (0 ≤ x)
  | .goto off => some (((pc : Int) + off).toNat, st, S)
  | .tableswitch d lo hi offs => match mm_b1 st 0 with
    | some (x, r) => if lo ≤ x ∧ x ≤ hi then some (((pc : Int) + (offs[(x - lo).toNat]?).getD 0).toNat, r, S) else some (((pc : Int) + d).toNat, r, S)
    | none => none
  | .getfield _ => match mm_b1 st 2 with
    | some (a, t) => if mm_ob a r1 then some (nx, mm_gv S r1 r2 a (mm_fk r1 r2) :: t, S) else none
    | none => none
  | .putfield _ => mm_putf nx r1 r2 st S
  | .iaload => if r1 = 7 then (match mm_b2 st 2 0 with
      | some (a, j, r) => if a = 1000 ∧ 0 ≤ j ∧ j < S 1000 (-1) then some (nx, (0, S 1000 j) :: r, S) else none
      | none => none) else mm_ald nx st S [1] fun a j => (0, S a j)
  | .baload => mm_ald nx st S [3, 4] fun a j => (0, S a j)
  | .laload => mm_ald nx st S [2] fun a j => (1, S a j)
  | .aaload => mm_ald nx st S [5, 6] fun a j => (2, mm_ra a j)
  | .iastore => mm_ast nx st S [1] 0 fun _ _ => true
  | .bastore => mm_ast nx st S [3, 4] 0 mm_fit
  | .lastore => mm_ast nx st S [2] 1 fun _ _ => true
  | .arraylength => match mm_b1 st 2 with
    | some (a, t) => if r1 = 7 then (if a = 1000 then some (nx, (0, S 1000 (-1)) :: t, S) else none) else
      if 0 ≤ a ∧ 0 < (mm_kd a.toNat).1 ∧ (mm_kd a.toNat).1 < 7 then some (nx, (0, ((mm_kd a.toNat).2 : Int)) :: t, S) else none
    | none => none
  | .invokestatic _ => if r1 = 999 then mm_acp nx st S else none
  | _ => none
def mm_kill (ls : List mm_V) (i : Nat) : List mm_V := match i with
  | 0 => ls
  | j + 1 => match ls[j]? with
    | some v => if v.1 = 1 then ls.set j (9, 0) else ls
    | none => ls
def mm_set1 (ls : List mm_V) (i : Nat) (v : mm_V) : List mm_V := (mm_kill ls i).set i v
def mm_set2 (ls : List mm_V) (i : Nat) (v : mm_V) : List mm_V := ((mm_kill ls i).set (i + 1) (9, 0)).set i v
def mm_ld (nx : Nat) (ls : List mm_V) (st : List mm_V) (i t : Nat) : Option (Nat × List mm_V × List mm_V) := match ls[i]? with
  | some v => if v.1 = t then some (nx, ls, v :: st) else none
  | none => none
def mm_sto (nx : Nat) (ls : List mm_V) (st : List mm_V) (i t : Nat) : Option (Nat × List mm_V × List mm_V) := match st with
  | v :: r => if v.1 = t then (if t = 1 then (if i + 1 < ls.length then some (nx, mm_set2 ls i v, r) else none) else if i < ls.length then some (nx, mm_set1 ls i v, r) else none) else none
  | [] => none
/-- what touches the locals -/
def mm_lo (i : Instr) (nx : Nat) (ls : List mm_V) (st : List mm_V) : Option (Nat × List mm_V × List mm_V) :=
  match i with
  | .iload j => mm_ld nx ls st j 0
  | .iload_n j => mm_ld nx ls st j 0
  | .lload j => mm_ld nx ls st j 1
  | .lload_n j => mm_ld nx ls st j 1
  | .aload j => mm_ld nx ls st j 2
  | .aload_n j => mm_ld nx ls st j 2
  | .istore j => mm_sto nx ls st j 0
  | .istore_n j => mm_sto nx ls st j 0
  | .lstore j => mm_sto nx ls st j 1
  | .lstore_n j => mm_sto nx ls st j 1
  | .astore j => mm_sto nx ls st j 2
  | .astore_n j => mm_sto nx ls st j 2
  | .iinc j n => match ls[j]? with
    | some (0, x) => some (nx, mm_set1 ls j (0, mm_w32 (x + n)), st)
    | _ => none
  | _ => none
def mm_find : List mm_E → Nat → Option mm_E
  | [], _ => none
  | e :: r, pc => if e.1 = pc then some e else mm_find r pc
def mm_ret (r1 : Nat) (i : Instr) (st : List mm_V) : Option (Option mm_V) := match i with
  | .ireturn => match st with
    | [(0, x)] => if r1 = 1 ∧ ¬ (x = 0 ∨ x = 1) then none else some (some (0, x))
    | _ => none
  | .lreturn => match st with
    | [(1, x)] => some (some (1, x))
    | _ => none
  | .areturn => match st with
    | [(2, x)] => some (some (2, x))
    | _ => none
  | .return_ => match st with
    | [] => some none
    | _ => none
  | _ => none
def mm_isv (i : Instr) : Option Bool := match i with
  | .invokevirtual _ => some true
  | .invokestatic _ => some false
  | _ => none
/-- the receiver's class, for a call of an object's method (r3: its number and 1; 0: a static one) -/
def mm_rcv (r3 : Int) (as : List mm_V) : Bool := match as with
  | (2, a) :: _ => decide (r3 = 0) || mm_ob a (r3 - 1).toNat
  | _ => decide (r3 = 0)
def mm_cg (r2 : Nat) (r3 : Int) (st : List mm_V) : Bool := decide (r2 ≤ st.length) && (mm_rcv r3 (st.take r2).reverse && decide (mm_cs (st.drop r2) ≤ 8))
def mm_j (k : Nat → List mm_V → List mm_V → mm_S → mm_R) (ck : Nat → List mm_V → mm_S → mm_R) (e : mm_E) (ls st : List mm_V) (S : mm_S) : mm_R :=
  match mm_op e.1 e.2.1 (e.1 + e.2.2.1) e.2.2.2.1 e.2.2.2.2.1 e.2.2.2.2.2 st S with
  | some (pc, st', S') => k pc ls st' S'
  | none => match mm_lo e.2.1 (e.1 + e.2.2.1) ls st with
    | some (pc, ls', st') => k pc ls' st' S
    | none => match mm_ret e.2.2.2.1 e.2.1 st with
      | some v => some (v, S)
      | none => match mm_isv e.2.1 with
        | some _ => if mm_cg e.2.2.2.2.1 e.2.2.2.2.2 st then
            match ck e.2.2.2.1 (st.take e.2.2.2.2.1).reverse S with
            | some (v, S') => k (e.1 + e.2.2.1) ls (v.toList ++ st.drop e.2.2.2.2.1) S'
            | none => none
          else none
        | none => none
def mm_args : List mm_V → List mm_V
  | [] => []
  | v :: r => if v.1 = 1 then v :: (9, 0) :: mm_args r else v :: mm_args r
def mm_ent (n : Nat) (as : List mm_V) : List mm_V := mm_args as ++ List.replicate (n - (mm_args as).length) (9, 0)
def mm_ex (T : Nat → List mm_E × Nat) : Nat → List mm_E → Nat → List mm_V → List mm_V → mm_S → mm_R
  | 0, _, _, _, _, _ => none
  | n + 1, cd, pc, ls, st, S => match mm_find cd pc with
    | some e => mm_j (fun pc ls st S => mm_ex T n cd pc ls st S) (fun m as S => if (mm_args as).length ≤ (T m).2 then mm_ex T n (T m).1 0 (mm_ent (T m).2 as) [] S else none) e ls st S
    | none => none
def k_P_clear : List mm_E := [(0, .aload_n 0, 1, 0, 0, 0), (1, .iload_n 1, 1, 0, 0, 0), (2, .invokevirtual 73, 3, 30, 2, 1), (5, .astore_n 2, 1, 0, 0, 0), (6, .aload_n 2, 1, 0, 0, 0), (7, .ifnonnull (5), 3, 0, 0, 0), (10, .iconst (-1), 1, 0, 0, 0), (11, .ireturn, 1, 0, 0, 0), (12, .aload_n 2, 1, 0, 0, 0), (13, .getfield 77, 3, 1, 0, 0), (16, .istore_n 3, 1, 0, 0, 0), (17, .aload_n 2, 1, 0, 0, 0), (18, .invokevirtual 81, 3, 126, 1, 2), (21, .iload_n 3, 1, 0, 0, 0), (22, .ireturn, 1, 0, 0, 0)]
def k_P_cell : List mm_E := [(0, .aload_n 0, 1, 0, 0, 0), (1, .iload_n 1, 1, 0, 0, 0), (2, .invokevirtual 73, 3, 30, 2, 1), (5, .astore 5, 2, 0, 0, 0), (7, .aload 5, 2, 0, 0, 0), (9, .ifnull (25), 3, 0, 0, 0), (12, .iload_n 2, 1, 0, 0, 0), (13, .invokestatic 84, 3, 32, 1, 0), (16, .ifCond .eq (18), 3, 0, 0, 0), (19, .iload_n 3, 1, 0, 0, 0), (20, .invokestatic 88, 3, 33, 1, 0), (23, .ifCond .eq (11), 3, 0, 0, 0), (26, .iload 4, 2, 0, 0, 0), (28, .invokestatic 88, 3, 33, 1, 0), (31, .ifCond .ne (5), 3, 0, 0, 0), (34, .iconst (-1), 1, 0, 0, 0), (35, .ireturn, 1, 0, 0, 0), (36, .aload 5, 2, 0, 0, 0), (38, .iload_n 2, 1, 0, 0, 0), (39, .iload_n 3, 1, 0, 0, 0), (40, .iload 4, 2, 0, 0, 0), (42, .invokevirtual 91, 3, 127, 4, 2), (45, .ireturn, 1, 0, 0, 0)]
def k_P_entry : List mm_E := [(0, .aload_n 0, 1, 0, 0, 0), (1, .iload_n 1, 1, 0, 0, 0), (2, .invokevirtual 73, 3, 30, 2, 1), (5, .astore 5, 2, 0, 0, 0), (7, .aload 5, 2, 0, 0, 0), (9, .ifnull (22), 3, 0, 0, 0), (12, .aload 5, 2, 0, 0, 0), (14, .iload_n 2, 1, 0, 0, 0), (15, .iload_n 3, 1, 0, 0, 0), (16, .invokevirtual 95, 3, 125, 3, 2), (19, .ifCond .eq (12), 3, 0, 0, 0), (22, .iload 4, 2, 0, 0, 0), (24, .i2l, 1, 0, 0, 0), (25, .invokestatic 99, 3, 34, 1, 0), (28, .ifCond .ne (5), 3, 0, 0, 0), (31, .iconst (-1), 1, 0, 0, 0), (32, .ireturn, 1, 0, 0, 0), (33, .aload 5, 2, 0, 0, 0), (35, .iload_n 2, 1, 0, 0, 0), (36, .iload_n 3, 1, 0, 0, 0), (37, .invokevirtual 103, 3, 123, 3, 2), (40, .istore 6, 2, 0, 0, 0), (42, .aload 5, 2, 0, 0, 0), (44, .iload_n 2, 1, 0, 0, 0), (45, .iload_n 3, 1, 0, 0, 0), (46, .iload 4, 2, 0, 0, 0), (48, .invokevirtual 107, 3, 124, 4, 2), (51, .bipush (10), 2, 0, 0, 0), (53, .iload 6, 2, 0, 0, 0), (55, .iadd, 1, 0, 0, 0), (56, .ireturn, 1, 0, 0, 0)]
def k_P_entryOf : List mm_E := [(0, .aload_n 0, 1, 0, 0, 0), (1, .iload_n 1, 1, 0, 0, 0), (2, .invokevirtual 73, 3, 30, 2, 1), (5, .astore 4, 2, 0, 0, 0), (7, .aload 4, 2, 0, 0, 0), (9, .ifnull (21), 3, 0, 0, 0), (12, .aload 4, 2, 0, 0, 0), (14, .iload_n 2, 1, 0, 0, 0), (15, .invokevirtual 111, 3, 120, 2, 2), (18, .ifCond .eq (12), 3, 0, 0, 0), (21, .aload 4, 2, 0, 0, 0), (23, .iload_n 3, 1, 0, 0, 0), (24, .invokevirtual 111, 3, 120, 2, 2), (27, .ifCond .ne (5), 3, 0, 0, 0), (30, .iconst (-1), 1, 0, 0, 0), (31, .ireturn, 1, 0, 0, 0), (32, .bipush (10), 2, 0, 0, 0), (34, .aload 4, 2, 0, 0, 0), (36, .iload_n 2, 1, 0, 0, 0), (37, .iload_n 3, 1, 0, 0, 0), (38, .invokevirtual 103, 3, 123, 3, 2), (41, .iadd, 1, 0, 0, 0), (42, .ireturn, 1, 0, 0, 0)]
def k_P_of : List mm_E := [(0, .aload_n 0, 1, 0, 0, 0), (1, .iload_n 1, 1, 0, 0, 0), (2, .invokevirtual 73, 3, 30, 2, 1), (5, .astore 4, 2, 0, 0, 0), (7, .aload 4, 2, 0, 0, 0), (9, .ifnull (12), 3, 0, 0, 0), (12, .aload 4, 2, 0, 0, 0), (14, .iload_n 2, 1, 0, 0, 0), (15, .invokevirtual 111, 3, 120, 2, 2), (18, .ifCond .ne (5), 3, 0, 0, 0), (21, .iconst (-1), 1, 0, 0, 0), (22, .ireturn, 1, 0, 0, 0), (23, .iload_n 3, 1, 0, 0, 0), (24, .tableswitch (73) (0) (4) #[(36), (43), (51), (59), (66)], 36, 0, 0, 0), (60, .aload 4, 2, 0, 0, 0), (62, .iload_n 2, 1, 0, 0, 0), (63, .invokevirtual 114, 3, 121, 2, 2), (66, .ireturn, 1, 0, 0, 0), (67, .aload 4, 2, 0, 0, 0), (69, .iconst 0, 1, 0, 0, 0), (70, .iload_n 2, 1, 0, 0, 0), (71, .invokevirtual 118, 3, 122, 3, 2), (74, .ireturn, 1, 0, 0, 0), (75, .aload 4, 2, 0, 0, 0), (77, .iconst 1, 1, 0, 0, 0), (78, .iload_n 2, 1, 0, 0, 0), (79, .invokevirtual 118, 3, 122, 3, 2), (82, .ireturn, 1, 0, 0, 0), (83, .aload 4, 2, 0, 0, 0), (85, .iload_n 2, 1, 0, 0, 0), (86, .invokevirtual 121, 3, 128, 2, 2), (89, .ireturn, 1, 0, 0, 0), (90, .aload 4, 2, 0, 0, 0), (92, .iload_n 2, 1, 0, 0, 0), (93, .invokevirtual 124, 3, 129, 2, 2), (96, .ireturn, 1, 0, 0, 0), (97, .iconst (-1), 1, 0, 0, 0), (98, .ireturn, 1, 0, 0, 0)]
def k_P_broken : List mm_E := [(0, .aload_n 0, 1, 0, 0, 0), (1, .iload_n 1, 1, 0, 0, 0), (2, .invokevirtual 73, 3, 30, 2, 1), (5, .astore_n 2, 1, 0, 0, 0), (6, .aload_n 2, 1, 0, 0, 0), (7, .ifnonnull (7), 3, 0, 0, 0), (10, .iconst (-1), 1, 0, 0, 0), (11, .goto (7), 3, 0, 0, 0), (14, .aload_n 2, 1, 0, 0, 0), (15, .invokevirtual 127, 3, 131, 1, 2), (18, .ireturn, 1, 0, 0, 0)]
def k_P_mend : List mm_E := [(0, .aload_n 0, 1, 0, 0, 0), (1, .iload_n 1, 1, 0, 0, 0), (2, .invokevirtual 73, 3, 30, 2, 1), (5, .astore_n 2, 1, 0, 0, 0), (6, .aload_n 2, 1, 0, 0, 0), (7, .ifnonnull (5), 3, 0, 0, 0), (10, .iconst (-1), 1, 0, 0, 0), (11, .ireturn, 1, 0, 0, 0), (12, .aload_n 0, 1, 0, 0, 0), (13, .getfield 42, 3, 0, 5, 0), (16, .invokevirtual 131, 3, 171, 1, 5), (19, .aload_n 2, 1, 0, 0, 0), (20, .invokevirtual 127, 3, 131, 1, 2), (23, .istore_n 3, 1, 0, 0, 0), (24, .iconst 0, 1, 0, 0, 0), (25, .istore 4, 2, 0, 0, 0), (27, .iload 4, 2, 0, 0, 0), (29, .aload_n 2, 1, 0, 0, 0), (30, .getfield 77, 3, 1, 0, 0), (33, .if_icmp .ge (109), 3, 0, 0, 0), (36, .iload_n 3, 1, 0, 0, 0), (37, .ifCond .eq (105), 3, 0, 0, 0), (40, .iconst 0, 1, 0, 0, 0), (41, .istore 5, 2, 0, 0, 0), (43, .iload 5, 2, 0, 0, 0), (45, .aload_n 2, 1, 0, 0, 0), (46, .getfield 77, 3, 1, 0, 0), (49, .if_icmp .ge (87), 3, 0, 0, 0), (52, .bipush (-9), 2, 0, 0, 0), (54, .istore 6, 2, 0, 0, 0), (56, .iload 6, 2, 0, 0, 0), (58, .bipush (9), 2, 0, 0, 0), (60, .if_icmp .gt (70), 3, 0, 0, 0), (63, .aload_n 2, 1, 0, 0, 0), (64, .iload 4, 2, 0, 0, 0), (66, .iload 5, 2, 0, 0, 0), (68, .invokevirtual 95, 3, 125, 3, 2), (71, .ifCond .eq (59), 3, 0, 0, 0), (74, .aload_n 0, 1, 0, 0, 0), (75, .getfield 42, 3, 0, 5, 0), (78, .aload_n 2, 1, 0, 0, 0), (79, .iload 4, 2, 0, 0, 0), (81, .iload 5, 2, 0, 0, 0), (83, .iload 6, 2, 0, 0, 0), (85, .invokevirtual 134, 3, 172, 5, 5), (88, .aload_n 2, 1, 0, 0, 0), (89, .iload_n 3, 1, 0, 0, 0), (90, .invokevirtual 138, 3, 132, 2, 2), (93, .istore_n 3, 1, 0, 0, 0), (94, .aload_n 0, 1, 0, 0, 0), (95, .getfield 42, 3, 0, 5, 0), (98, .invokevirtual 141, 3, 173, 1, 5), (101, .iload_n 3, 1, 0, 0, 0), (102, .ifCond .ne (22), 3, 0, 0, 0), (105, .sipush (400), 3, 0, 0, 0), (108, .iload 4, 2, 0, 0, 0), (110, .imul, 1, 0, 0, 0), (111, .bipush (20), 2, 0, 0, 0), (113, .iload 5, 2, 0, 0, 0), (115, .imul, 1, 0, 0, 0), (116, .iadd, 1, 0, 0, 0), (117, .bipush (9), 2, 0, 0, 0), (119, .iadd, 1, 0, 0, 0), (120, .iload 6, 2, 0, 0, 0), (122, .iadd, 1, 0, 0, 0), (123, .ireturn, 1, 0, 0, 0), (124, .iinc 6 (1), 3, 0, 0, 0), (127, .goto (-71), 3, 0, 0, 0), (130, .iinc 5 (1), 3, 0, 0, 0), (133, .goto (-90), 3, 0, 0, 0), (136, .iinc 4 (1), 3, 0, 0, 0), (139, .goto (-112), 3, 0, 0, 0), (142, .bipush (-3), 2, 0, 0, 0), (144, .ireturn, 1, 0, 0, 0)]
def k_P_feed : List mm_E := [(0, .iload_n 3, 1, 0, 0, 0), (1, .iconst 1, 1, 0, 0, 0), (2, .if_icmp .lt (9), 3, 0, 0, 0), (5, .iload_n 3, 1, 0, 0, 0), (6, .bipush (8), 2, 0, 0, 0), (8, .if_icmp .le (5), 3, 0, 0, 0), (11, .iconst (-1), 1, 0, 0, 0), (12, .ireturn, 1, 0, 0, 0), (13, .iload_n 3, 1, 0, 0, 0), (14, .sipush (200), 3, 0, 0, 0), (17, .aload_n 0, 1, 0, 0, 0), (18, .getfield 49, 3, 0, 6, 0), (21, .getfield 144, 3, 5, 0, 0), (24, .isub, 1, 0, 0, 0), (25, .if_icmp .le (6), 3, 0, 0, 0), (28, .bipush (-2), 2, 0, 0, 0), (30, .ireturn, 1, 0, 0, 0), (31, .iconst 0, 1, 0, 0, 0), (32, .istore 4, 2, 0, 0, 0), (34, .iload 4, 2, 0, 0, 0), (36, .iload_n 3, 1, 0, 0, 0), (37, .if_icmp .ge (25), 3, 0, 0, 0), (40, .aload_n 0, 1, 0, 0, 0), (41, .getfield 49, 3, 0, 6, 0), (44, .lload_n 1, 1, 0, 0, 0), (45, .bipush (8), 2, 0, 0, 0), (47, .iload 4, 2, 0, 0, 0), (49, .imul, 1, 0, 0, 0), (50, .lshr, 1, 0, 0, 0), (51, .l2i, 1, 0, 0, 0), (52, .i2b, 1, 0, 0, 0), (53, .invokevirtual 147, 3, 169, 2, 6), (56, .iinc 4 (1), 3, 0, 0, 0), (59, .goto (-25), 3, 0, 0, 0), (62, .aload_n 0, 1, 0, 0, 0), (63, .getfield 49, 3, 0, 6, 0), (66, .getfield 144, 3, 5, 0, 0), (69, .ireturn, 1, 0, 0, 0)]
def k_P_text : List mm_E := [(0, .aload_n 0, 1, 0, 0, 0), (1, .iload_n 1, 1, 0, 0, 0), (2, .invokevirtual 73, 3, 30, 2, 1), (5, .astore_n 2, 1, 0, 0, 0), (6, .aload_n 2, 1, 0, 0, 0), (7, .ifnonnull (5), 3, 0, 0, 0), (10, .iconst (-1), 1, 0, 0, 0), (11, .ireturn, 1, 0, 0, 0), (12, .aload_n 0, 1, 0, 0, 0), (13, .getfield 58, 3, 0, 7, 0), (16, .invokevirtual 150, 3, 142, 1, 7), (19, .istore_n 3, 1, 0, 0, 0), (20, .aload_n 0, 1, 0, 0, 0), (21, .getfield 49, 3, 0, 6, 0), (24, .iconst 0, 1, 0, 0, 0), (25, .putfield 144, 3, 5, 0, 0), (28, .iload_n 3, 1, 0, 0, 0), (29, .iconst (-1), 1, 0, 0, 0), (30, .if_icmp .eq (8), 3, 0, 0, 0), (33, .bipush (-100), 2, 0, 0, 0), (35, .iload_n 3, 1, 0, 0, 0), (36, .isub, 1, 0, 0, 0), (37, .ireturn, 1, 0, 0, 0), (38, .aload_n 2, 1, 0, 0, 0), (39, .aload_n 0, 1, 0, 0, 0), (40, .getfield 19, 3, 0, 2, 0), (43, .invokevirtual 153, 3, 134, 2, 2), (46, .aload_n 2, 1, 0, 0, 0), (47, .getfield 77, 3, 1, 0, 0), (50, .ireturn, 1, 0, 0, 0)]
def k_P_goes : List mm_E := [(0, .aload_n 0, 1, 0, 0, 0), (1, .iload_n 1, 1, 0, 0, 0), (2, .invokevirtual 73, 3, 30, 2, 1), (5, .astore 5, 2, 0, 0, 0), (7, .aload 5, 2, 0, 0, 0), (9, .ifnull (27), 3, 0, 0, 0), (12, .iload_n 2, 1, 0, 0, 0), (13, .invokestatic 156, 3, 35, 1, 0), (16, .ifCond .eq (20), 3, 0, 0, 0), (19, .iload_n 3, 1, 0, 0, 0), (20, .invokestatic 159, 3, 36, 1, 0), (23, .ifCond .eq (13), 3, 0, 0, 0), (26, .aload 5, 2, 0, 0, 0), (28, .iload 4, 2, 0, 0, 0), (30, .invokevirtual 111, 3, 120, 2, 2), (33, .ifCond .ne (5), 3, 0, 0, 0), (36, .iconst (-1), 1, 0, 0, 0), (37, .ireturn, 1, 0, 0, 0), (38, .aload 5, 2, 0, 0, 0), (40, .invokevirtual 162, 3, 130, 1, 2), (43, .ifCond .eq (6), 3, 0, 0, 0), (46, .bipush (-4), 2, 0, 0, 0), (48, .ireturn, 1, 0, 0, 0), (49, .aload_n 0, 1, 0, 0, 0), (50, .getfield 28, 3, 0, 3, 0), (53, .aload 5, 2, 0, 0, 0), (55, .iload_n 2, 1, 0, 0, 0), (56, .iload_n 3, 1, 0, 0, 0), (57, .invokevirtual 166, 3, 152, 4, 3), (60, .aload_n 0, 1, 0, 0, 0), (61, .getfield 28, 3, 0, 3, 0), (64, .iload 4, 2, 0, 0, 0), (66, .invokevirtual 170, 3, 160, 2, 3), (69, .ireturn, 1, 0, 0, 0)]
def k_P_reduced : List mm_E := [(0, .aload_n 0, 1, 0, 0, 0), (1, .iload_n 1, 1, 0, 0, 0), (2, .invokevirtual 73, 3, 30, 2, 1), (5, .astore 6, 2, 0, 0, 0), (7, .aload 6, 2, 0, 0, 0), (9, .ifnull (37), 3, 0, 0, 0), (12, .iload_n 2, 1, 0, 0, 0), (13, .invokestatic 156, 3, 35, 1, 0), (16, .ifCond .eq (30), 3, 0, 0, 0), (19, .iload_n 3, 1, 0, 0, 0), (20, .invokestatic 159, 3, 36, 1, 0), (23, .ifCond .eq (23), 3, 0, 0, 0), (26, .aload 6, 2, 0, 0, 0), (28, .iload 4, 2, 0, 0, 0), (30, .invokevirtual 111, 3, 120, 2, 2), (33, .ifCond .eq (13), 3, 0, 0, 0), (36, .aload 6, 2, 0, 0, 0), (38, .iload 5, 2, 0, 0, 0), (40, .invokevirtual 111, 3, 120, 2, 2), (43, .ifCond .ne (5), 3, 0, 0, 0), (46, .iconst (-1), 1, 0, 0, 0), (47, .ireturn, 1, 0, 0, 0), (48, .aload 6, 2, 0, 0, 0), (50, .invokevirtual 162, 3, 130, 1, 2), (53, .ifCond .eq (6), 3, 0, 0, 0), (56, .bipush (-4), 2, 0, 0, 0), (58, .ireturn, 1, 0, 0, 0), (59, .aload_n 0, 1, 0, 0, 0), (60, .getfield 28, 3, 0, 3, 0), (63, .aload 6, 2, 0, 0, 0), (65, .iload_n 2, 1, 0, 0, 0), (66, .iload_n 3, 1, 0, 0, 0), (67, .invokevirtual 166, 3, 152, 4, 3), (70, .aload_n 0, 1, 0, 0, 0), (71, .getfield 28, 3, 0, 3, 0), (74, .iload 4, 2, 0, 0, 0), (76, .iload 5, 2, 0, 0, 0), (78, .invokevirtual 173, 3, 159, 3, 3), (81, .ireturn, 1, 0, 0, 0)]
def k_P_page : List mm_E := [(0, .aload_n 0, 1, 0, 0, 0), (1, .iload_n 1, 1, 0, 0, 0), (2, .iload_n 2, 1, 0, 0, 0), (3, .iload_n 3, 1, 0, 0, 0), (4, .iload 4, 2, 0, 0, 0), (6, .iload 5, 2, 0, 0, 0), (8, .iload 6, 2, 0, 0, 0), (10, .iconst 0, 1, 0, 0, 0), (11, .invokevirtual 176, 3, 40, 8, 1), (14, .ireturn, 1, 0, 0, 0)]
def k_P_turns : List mm_E := [(0, .aload_n 0, 1, 0, 0, 0), (1, .iload_n 1, 1, 0, 0, 0), (2, .iload_n 2, 1, 0, 0, 0), (3, .iload_n 3, 1, 0, 0, 0), (4, .iload 4, 2, 0, 0, 0), (6, .iload 5, 2, 0, 0, 0), (8, .iload 6, 2, 0, 0, 0), (10, .iconst 1, 1, 0, 0, 0), (11, .invokevirtual 176, 3, 40, 8, 1), (14, .ireturn, 1, 0, 0, 0)]
def k_P_stands : List mm_E := [(0, .aload_n 0, 1, 0, 0, 0), (1, .iload_n 1, 1, 0, 0, 0), (2, .invokevirtual 73, 3, 30, 2, 1), (5, .astore 4, 2, 0, 0, 0), (7, .aload 4, 2, 0, 0, 0), (9, .ifnull (17), 3, 0, 0, 0), (12, .iload_n 2, 1, 0, 0, 0), (13, .invokestatic 156, 3, 35, 1, 0), (16, .ifCond .eq (10), 3, 0, 0, 0), (19, .iload_n 3, 1, 0, 0, 0), (20, .invokestatic 159, 3, 36, 1, 0), (23, .ifCond .ne (5), 3, 0, 0, 0), (26, .iconst (-1), 1, 0, 0, 0), (27, .ireturn, 1, 0, 0, 0), (28, .aload 4, 2, 0, 0, 0), (30, .invokevirtual 162, 3, 130, 1, 2), (33, .ifCond .eq (6), 3, 0, 0, 0), (36, .bipush (-4), 2, 0, 0, 0), (38, .ireturn, 1, 0, 0, 0), (39, .aload_n 0, 1, 0, 0, 0), (40, .getfield 28, 3, 0, 3, 0), (43, .aload 4, 2, 0, 0, 0), (45, .iload_n 2, 1, 0, 0, 0), (46, .iload_n 3, 1, 0, 0, 0), (47, .invokevirtual 166, 3, 152, 4, 3), (50, .iconst 0, 1, 0, 0, 0), (51, .istore 5, 2, 0, 0, 0), (53, .iconst 0, 1, 0, 0, 0), (54, .istore 6, 2, 0, 0, 0), (56, .iload 6, 2, 0, 0, 0), (58, .aload 4, 2, 0, 0, 0), (60, .getfield 77, 3, 1, 0, 0), (63, .if_icmp .ge (41), 3, 0, 0, 0), (66, .aload_n 0, 1, 0, 0, 0), (67, .getfield 28, 3, 0, 3, 0), (70, .iload 6, 2, 0, 0, 0), (72, .invokevirtual 170, 3, 160, 2, 3), (75, .bipush (-3), 2, 0, 0, 0), (77, .if_icmp .eq (21), 3, 0, 0, 0), (80, .iload 5, 2, 0, 0, 0), (82, .aload_n 0, 1, 0, 0, 0), (83, .getfield 28, 3, 0, 3, 0), (86, .iload 6, 2, 0, 0, 0), (88, .invokevirtual 180, 3, 161, 2, 3), (91, .iconst 1, 1, 0, 0, 0), (92, .iadd, 1, 0, 0, 0), (93, .invokestatic 183, 3, 186, 2, 0), (96, .istore 5, 2, 0, 0, 0), (98, .iinc 6 (1), 3, 0, 0, 0), (101, .goto (-45), 3, 0, 0, 0), (104, .iload 5, 2, 0, 0, 0), (106, .ireturn, 1, 0, 0, 0)]
def k_P_left : List mm_E := [(0, .aload_n 0, 1, 0, 0, 0), (1, .iload_n 1, 1, 0, 0, 0), (2, .invokevirtual 73, 3, 30, 2, 1), (5, .astore 4, 2, 0, 0, 0), (7, .aload 4, 2, 0, 0, 0), (9, .ifnull (17), 3, 0, 0, 0), (12, .iload_n 2, 1, 0, 0, 0), (13, .invokestatic 159, 3, 36, 1, 0), (16, .ifCond .eq (10), 3, 0, 0, 0), (19, .iload_n 3, 1, 0, 0, 0), (20, .invokestatic 84, 3, 32, 1, 0), (23, .ifCond .ne (5), 3, 0, 0, 0), (26, .iconst (-1), 1, 0, 0, 0), (27, .ireturn, 1, 0, 0, 0), (28, .aload 4, 2, 0, 0, 0), (30, .invokevirtual 162, 3, 130, 1, 2), (33, .ifCond .eq (8), 3, 0, 0, 0), (36, .bipush (-4), 2, 0, 0, 0), (38, .goto (11), 3, 0, 0, 0), (41, .aload_n 0, 1, 0, 0, 0), (42, .aload 4, 2, 0, 0, 0), (44, .iload_n 2, 1, 0, 0, 0), (45, .iload_n 3, 1, 0, 0, 0), (46, .invokevirtual 188, 3, 41, 4, 1), (49, .ireturn, 1, 0, 0, 0)]
def k_P_whole : List mm_E := [(0, .aload_n 0, 1, 0, 0, 0), (1, .iload_n 1, 1, 0, 0, 0), (2, .invokevirtual 73, 3, 30, 2, 1), (5, .astore 4, 2, 0, 0, 0), (7, .aload 4, 2, 0, 0, 0), (9, .ifnull (14), 3, 0, 0, 0), (12, .iload_n 2, 1, 0, 0, 0), (13, .invokestatic 84, 3, 32, 1, 0), (16, .ifCond .eq (7), 3, 0, 0, 0), (19, .iload_n 3, 1, 0, 0, 0), (20, .ifCond .ge (5), 3, 0, 0, 0), (23, .iconst (-1), 1, 0, 0, 0), (24, .ireturn, 1, 0, 0, 0), (25, .aload 4, 2, 0, 0, 0), (27, .invokevirtual 162, 3, 130, 1, 2), (30, .ifCond .eq (8), 3, 0, 0, 0), (33, .bipush (-4), 2, 0, 0, 0), (35, .goto (13), 3, 0, 0, 0), (38, .aload_n 0, 1, 0, 0, 0), (39, .aload 4, 2, 0, 0, 0), (41, .iconst 0, 1, 0, 0, 0), (42, .iconst (-1), 1, 0, 0, 0), (43, .iload_n 2, 1, 0, 0, 0), (44, .iload_n 3, 1, 0, 0, 0), (45, .invokevirtual 192, 3, 42, 6, 1), (48, .ireturn, 1, 0, 0, 0)]
def k_P_wholeAt : List mm_E := [(0, .aload_n 0, 1, 0, 0, 0), (1, .iload_n 1, 1, 0, 0, 0), (2, .invokevirtual 73, 3, 30, 2, 1), (5, .astore 6, 2, 0, 0, 0), (7, .aload 6, 2, 0, 0, 0), (9, .ifnull (30), 3, 0, 0, 0), (12, .iload_n 2, 1, 0, 0, 0), (13, .invokestatic 156, 3, 35, 1, 0), (16, .ifCond .eq (23), 3, 0, 0, 0), (19, .iload_n 3, 1, 0, 0, 0), (20, .invokestatic 88, 3, 33, 1, 0), (23, .ifCond .eq (16), 3, 0, 0, 0), (26, .iload 4, 2, 0, 0, 0), (28, .invokestatic 84, 3, 32, 1, 0), (31, .ifCond .eq (8), 3, 0, 0, 0), (34, .iload 5, 2, 0, 0, 0), (36, .ifCond .ge (5), 3, 0, 0, 0), (39, .iconst (-1), 1, 0, 0, 0), (40, .ireturn, 1, 0, 0, 0), (41, .aload 6, 2, 0, 0, 0), (43, .invokevirtual 162, 3, 130, 1, 2), (46, .ifCond .eq (8), 3, 0, 0, 0), (49, .bipush (-4), 2, 0, 0, 0), (51, .goto (15), 3, 0, 0, 0), (54, .aload_n 0, 1, 0, 0, 0), (55, .aload 6, 2, 0, 0, 0), (57, .iload_n 2, 1, 0, 0, 0), (58, .iload_n 3, 1, 0, 0, 0), (59, .iload 4, 2, 0, 0, 0), (61, .iload 5, 2, 0, 0, 0), (63, .invokevirtual 192, 3, 42, 6, 1), (66, .ireturn, 1, 0, 0, 0)]
def k_P_times : List mm_E := [(0, .aload_n 0, 1, 0, 0, 0), (1, .iload_n 1, 1, 0, 0, 0), (2, .invokevirtual 73, 3, 30, 2, 1), (5, .astore 4, 2, 0, 0, 0), (7, .aload_n 0, 1, 0, 0, 0), (8, .iload_n 2, 1, 0, 0, 0), (9, .invokevirtual 73, 3, 30, 2, 1), (12, .astore 5, 2, 0, 0, 0), (14, .aload_n 0, 1, 0, 0, 0), (15, .iload_n 3, 1, 0, 0, 0), (16, .invokevirtual 73, 3, 30, 2, 1), (19, .astore 6, 2, 0, 0, 0), (21, .aload 4, 2, 0, 0, 0), (23, .ifnull (13), 3, 0, 0, 0), (26, .aload 5, 2, 0, 0, 0), (28, .ifnull (8), 3, 0, 0, 0), (31, .aload 6, 2, 0, 0, 0), (33, .ifnonnull (5), 3, 0, 0, 0), (36, .iconst (-1), 1, 0, 0, 0), (37, .ireturn, 1, 0, 0, 0), (38, .aload 4, 2, 0, 0, 0), (40, .aload 5, 2, 0, 0, 0), (42, .invokevirtual 196, 3, 135, 2, 2), (45, .ifCond .ne (6), 3, 0, 0, 0), (48, .bipush (-2), 2, 0, 0, 0), (50, .ireturn, 1, 0, 0, 0), (51, .aload_n 0, 1, 0, 0, 0), (52, .getfield 19, 3, 0, 2, 0), (55, .aload 4, 2, 0, 0, 0), (57, .aload 5, 2, 0, 0, 0), (59, .invokevirtual 200, 3, 138, 3, 2), (62, .aload 6, 2, 0, 0, 0), (64, .aload_n 0, 1, 0, 0, 0), (65, .getfield 19, 3, 0, 2, 0), (68, .invokevirtual 153, 3, 134, 2, 2), (71, .aload 6, 2, 0, 0, 0), (73, .getfield 77, 3, 1, 0, 0), (76, .ireturn, 1, 0, 0, 0)]
def k_P_part : List mm_E := [(0, .aload_n 0, 1, 0, 0, 0), (1, .iload_n 1, 1, 0, 0, 0), (2, .invokevirtual 73, 3, 30, 2, 1), (5, .astore 5, 2, 0, 0, 0), (7, .aload_n 0, 1, 0, 0, 0), (8, .iload 4, 2, 0, 0, 0), (10, .invokevirtual 73, 3, 30, 2, 1), (13, .astore 6, 2, 0, 0, 0), (15, .aload 5, 2, 0, 0, 0), (17, .ifnull (22), 3, 0, 0, 0), (20, .aload 6, 2, 0, 0, 0), (22, .ifnull (17), 3, 0, 0, 0), (25, .iload_n 2, 1, 0, 0, 0), (26, .invokestatic 156, 3, 35, 1, 0), (29, .ifCond .eq (10), 3, 0, 0, 0), (32, .iload_n 3, 1, 0, 0, 0), (33, .invokestatic 88, 3, 33, 1, 0), (36, .ifCond .ne (5), 3, 0, 0, 0), (39, .iconst (-1), 1, 0, 0, 0), (40, .ireturn, 1, 0, 0, 0), (41, .aload_n 0, 1, 0, 0, 0), (42, .getfield 19, 3, 0, 2, 0), (45, .aload 5, 2, 0, 0, 0), (47, .iload_n 2, 1, 0, 0, 0), (48, .iload_n 3, 1, 0, 0, 0), (49, .invokevirtual 204, 3, 140, 4, 2), (52, .aload 6, 2, 0, 0, 0), (54, .aload_n 0, 1, 0, 0, 0), (55, .getfield 19, 3, 0, 2, 0), (58, .invokevirtual 153, 3, 134, 2, 2), (61, .aload 6, 2, 0, 0, 0), (63, .getfield 77, 3, 1, 0, 0), (66, .ireturn, 1, 0, 0, 0)]
def k_P_would : List mm_E := [(0, .aload_n 0, 1, 0, 0, 0), (1, .iload_n 1, 1, 0, 0, 0), (2, .invokevirtual 73, 3, 30, 2, 1), (5, .astore 7, 2, 0, 0, 0), (7, .aload 7, 2, 0, 0, 0), (9, .ifnull (38), 3, 0, 0, 0), (12, .aload 7, 2, 0, 0, 0), (14, .iload_n 2, 1, 0, 0, 0), (15, .iload_n 3, 1, 0, 0, 0), (16, .invokevirtual 95, 3, 125, 3, 2), (19, .ifCond .eq (28), 3, 0, 0, 0), (22, .iload 4, 2, 0, 0, 0), (24, .i2l, 1, 0, 0, 0), (25, .invokestatic 99, 3, 34, 1, 0), (28, .ifCond .eq (19), 3, 0, 0, 0), (31, .iload 5, 2, 0, 0, 0), (33, .invokestatic 159, 3, 36, 1, 0), (36, .ifCond .eq (11), 3, 0, 0, 0), (39, .iload 6, 2, 0, 0, 0), (41, .invokestatic 84, 3, 32, 1, 0), (44, .ifCond .ne (5), 3, 0, 0, 0), (47, .iconst (-1), 1, 0, 0, 0), (48, .ireturn, 1, 0, 0, 0), (49, .aload_n 0, 1, 0, 0, 0), (50, .getfield 42, 3, 0, 5, 0), (53, .invokevirtual 131, 3, 171, 1, 5), (56, .aload_n 0, 1, 0, 0, 0), (57, .getfield 42, 3, 0, 5, 0), (60, .aload 7, 2, 0, 0, 0), (62, .iload_n 2, 1, 0, 0, 0), (63, .iload_n 3, 1, 0, 0, 0), (64, .iload 4, 2, 0, 0, 0), (66, .invokevirtual 134, 3, 172, 5, 5), (69, .aload 7, 2, 0, 0, 0), (71, .invokevirtual 162, 3, 130, 1, 2), (74, .ifCond .eq (8), 3, 0, 0, 0), (77, .bipush (-4), 2, 0, 0, 0), (79, .goto (13), 3, 0, 0, 0), (82, .aload_n 0, 1, 0, 0, 0), (83, .aload 7, 2, 0, 0, 0), (85, .iload 5, 2, 0, 0, 0), (87, .iload 6, 2, 0, 0, 0), (89, .invokevirtual 188, 3, 41, 4, 1), (92, .istore 8, 2, 0, 0, 0), (94, .aload_n 0, 1, 0, 0, 0), (95, .getfield 42, 3, 0, 5, 0), (98, .invokevirtual 141, 3, 173, 1, 5), (101, .iload 8, 2, 0, 0, 0), (103, .ireturn, 1, 0, 0, 0)]
def k_P_trials : List mm_E := [(0, .iload_n 1, 1, 0, 0, 0), (1, .tableswitch (51) (0) (2) #[(27), (35), (43)], 27, 0, 0, 0), (28, .aload_n 0, 1, 0, 0, 0), (29, .getfield 42, 3, 0, 5, 0), (32, .getfield 207, 3, 4, 0, 0), (35, .ireturn, 1, 0, 0, 0), (36, .aload_n 0, 1, 0, 0, 0), (37, .getfield 42, 3, 0, 5, 0), (40, .getfield 210, 3, 4, 1, 0), (43, .ireturn, 1, 0, 0, 0), (44, .aload_n 0, 1, 0, 0, 0), (45, .getfield 42, 3, 0, 5, 0), (48, .getfield 213, 3, 4, 2, 0), (51, .ireturn, 1, 0, 0, 0), (52, .iconst (-1), 1, 0, 0, 0), (53, .ireturn, 1, 0, 0, 0)]
def k_P_sheet : List mm_E := [(0, .aload_n 0, 1, 0, 0, 0), (1, .iload_n 1, 1, 0, 0, 0), (2, .invokevirtual 216, 3, 31, 2, 1), (5, .astore 4, 2, 0, 0, 0), (7, .aload 4, 2, 0, 0, 0), (9, .ifnull (15), 3, 0, 0, 0), (12, .iload_n 2, 1, 0, 0, 0), (13, .iconst (-1), 1, 0, 0, 0), (14, .if_icmp .eq (12), 3, 0, 0, 0), (17, .iload_n 2, 1, 0, 0, 0), (18, .invokestatic 220, 3, 37, 1, 0), (21, .ifCond .ne (5), 3, 0, 0, 0), (24, .iconst (-1), 1, 0, 0, 0), (25, .ireturn, 1, 0, 0, 0), (26, .iload_n 2, 1, 0, 0, 0), (27, .iconst (-1), 1, 0, 0, 0), (28, .if_icmp .ne (12), 3, 0, 0, 0), (31, .aload 4, 2, 0, 0, 0), (33, .iconst (-1), 1, 0, 0, 0), (34, .iconst 0, 1, 0, 0, 0), (35, .invokevirtual 223, 3, 164, 3, 8), (38, .iconst 1, 1, 0, 0, 0), (39, .ireturn, 1, 0, 0, 0), (40, .iload_n 3, 1, 0, 0, 0), (41, .bipush (40), 2, 0, 0, 0), (43, .if_icmp .le (5), 3, 0, 0, 0), (46, .iconst (-1), 1, 0, 0, 0), (47, .ireturn, 1, 0, 0, 0), (48, .iload_n 3, 1, 0, 0, 0), (49, .ifCond .ge (6), 3, 0, 0, 0), (52, .bipush (-14), 2, 0, 0, 0), (54, .ireturn, 1, 0, 0, 0), (55, .aload 4, 2, 0, 0, 0), (57, .iload_n 2, 1, 0, 0, 0), (58, .iload_n 3, 1, 0, 0, 0), (59, .invokevirtual 223, 3, 164, 3, 8), (62, .iconst 1, 1, 0, 0, 0), (63, .ireturn, 1, 0, 0, 0)]
def k_P_put : List mm_E := [(0, .aload_n 0, 1, 0, 0, 0), (1, .iload_n 1, 1, 0, 0, 0), (2, .invokevirtual 216, 3, 31, 2, 1), (5, .astore 5, 2, 0, 0, 0), (7, .aload 5, 2, 0, 0, 0), (9, .ifnonnull (5), 3, 0, 0, 0), (12, .iconst (-1), 1, 0, 0, 0), (13, .ireturn, 1, 0, 0, 0), (14, .aload 5, 2, 0, 0, 0), (16, .getfield 226, 3, 7, 0, 0), (19, .iconst (-1), 1, 0, 0, 0), (20, .if_icmp .ne (6), 3, 0, 0, 0), (23, .bipush (-11), 2, 0, 0, 0), (25, .ireturn, 1, 0, 0, 0), (26, .aload 5, 2, 0, 0, 0), (28, .iload_n 2, 1, 0, 0, 0), (29, .iconst 1, 1, 0, 0, 0), (30, .invokevirtual 229, 3, 165, 3, 8), (33, .ifCond .eq (6), 3, 0, 0, 0), (36, .bipush (-12), 2, 0, 0, 0), (38, .ireturn, 1, 0, 0, 0), (39, .aload 5, 2, 0, 0, 0), (41, .iload_n 2, 1, 0, 0, 0), (42, .lload_n 3, 1, 0, 0, 0), (43, .invokevirtual 232, 3, 167, 3, 8), (46, .iconst 1, 1, 0, 0, 0), (47, .ireturn, 1, 0, 0, 0)]
def k_P_item : List mm_E := [(0, .aload_n 0, 1, 0, 0, 0), (1, .iload_n 1, 1, 0, 0, 0), (2, .invokevirtual 216, 3, 31, 2, 1), (5, .astore 4, 2, 0, 0, 0), (7, .aload 4, 2, 0, 0, 0), (9, .ifnull (10), 3, 0, 0, 0), (12, .iload_n 2, 1, 0, 0, 0), (13, .invokestatic 220, 3, 37, 1, 0), (16, .ifCond .ne (5), 3, 0, 0, 0), (19, .iconst (-1), 1, 0, 0, 0), (20, .ireturn, 1, 0, 0, 0), (21, .aload 4, 2, 0, 0, 0), (23, .getfield 226, 3, 7, 0, 0), (26, .iconst (-1), 1, 0, 0, 0), (27, .if_icmp .ne (6), 3, 0, 0, 0), (30, .bipush (-11), 2, 0, 0, 0), (32, .ireturn, 1, 0, 0, 0), (33, .aload 4, 2, 0, 0, 0), (35, .getfield 226, 3, 7, 0, 0), (38, .iload_n 2, 1, 0, 0, 0), (39, .if_icmp .eq (6), 3, 0, 0, 0), (42, .bipush (-13), 2, 0, 0, 0), (44, .ireturn, 1, 0, 0, 0), (45, .aload 4, 2, 0, 0, 0), (47, .iload_n 3, 1, 0, 0, 0), (48, .iconst 1, 1, 0, 0, 0), (49, .invokevirtual 229, 3, 165, 3, 8), (52, .ifCond .eq (8), 3, 0, 0, 0), (55, .bipush (-12), 2, 0, 0, 0), (57, .goto (10), 3, 0, 0, 0), (60, .aload 4, 2, 0, 0, 0), (62, .iload_n 3, 1, 0, 0, 0), (63, .invokevirtual 236, 3, 166, 2, 8), (66, .l2i, 1, 0, 0, 0), (67, .ireturn, 1, 0, 0, 0)]
def k_P_copy : List mm_E := [(0, .aload_n 0, 1, 0, 0, 0), (1, .iload_n 1, 1, 0, 0, 0), (2, .invokevirtual 216, 3, 31, 2, 1), (5, .astore 6, 2, 0, 0, 0), (7, .aload_n 0, 1, 0, 0, 0), (8, .iload_n 3, 1, 0, 0, 0), (9, .invokevirtual 216, 3, 31, 2, 1), (12, .astore 7, 2, 0, 0, 0), (14, .aload 6, 2, 0, 0, 0), (16, .ifnull (8), 3, 0, 0, 0), (19, .aload 7, 2, 0, 0, 0), (21, .ifnonnull (5), 3, 0, 0, 0), (24, .iconst (-1), 1, 0, 0, 0), (25, .ireturn, 1, 0, 0, 0), (26, .aload 6, 2, 0, 0, 0), (28, .getfield 226, 3, 7, 0, 0), (31, .iconst (-1), 1, 0, 0, 0), (32, .if_icmp .eq (12), 3, 0, 0, 0), (35, .aload 7, 2, 0, 0, 0), (37, .getfield 226, 3, 7, 0, 0), (40, .iconst (-1), 1, 0, 0, 0), (41, .if_icmp .ne (6), 3, 0, 0, 0), (44, .bipush (-11), 2, 0, 0, 0), (46, .ireturn, 1, 0, 0, 0), (47, .aload 6, 2, 0, 0, 0), (49, .getfield 226, 3, 7, 0, 0), (52, .aload 7, 2, 0, 0, 0), (54, .getfield 226, 3, 7, 0, 0), (57, .if_icmp .eq (6), 3, 0, 0, 0), (60, .bipush (-13), 2, 0, 0, 0), (62, .ireturn, 1, 0, 0, 0), (63, .aload 6, 2, 0, 0, 0), (65, .iload_n 2, 1, 0, 0, 0), (66, .iload 5, 2, 0, 0, 0), (68, .invokevirtual 229, 3, 165, 3, 8), (71, .ifCond .ne (15), 3, 0, 0, 0), (74, .aload 7, 2, 0, 0, 0), (76, .iload 4, 2, 0, 0, 0), (78, .iload 5, 2, 0, 0, 0), (80, .invokevirtual 229, 3, 165, 3, 8), (83, .ifCond .eq (6), 3, 0, 0, 0), (86, .bipush (-12), 2, 0, 0, 0), (88, .ireturn, 1, 0, 0, 0), (89, .aload 6, 2, 0, 0, 0), (91, .iload_n 2, 1, 0, 0, 0), (92, .aload 7, 2, 0, 0, 0), (94, .iload 4, 2, 0, 0, 0), (96, .iload 5, 2, 0, 0, 0), (98, .invokevirtual 240, 3, 168, 5, 8), (101, .iload 5, 2, 0, 0, 0), (103, .ireturn, 1, 0, 0, 0)]
def k_P_lay : List mm_E := [(0, .aload_n 0, 1, 0, 0, 0), (1, .iload_n 1, 1, 0, 0, 0), (2, .invokevirtual 73, 3, 30, 2, 1), (5, .astore 5, 2, 0, 0, 0), (7, .aload_n 0, 1, 0, 0, 0), (8, .iload_n 3, 1, 0, 0, 0), (9, .invokevirtual 216, 3, 31, 2, 1), (12, .astore 6, 2, 0, 0, 0), (14, .aload 5, 2, 0, 0, 0), (16, .ifnull (17), 3, 0, 0, 0), (19, .aload 6, 2, 0, 0, 0), (21, .ifnull (12), 3, 0, 0, 0), (24, .aload 5, 2, 0, 0, 0), (26, .iload_n 2, 1, 0, 0, 0), (27, .invokevirtual 111, 3, 120, 2, 2), (30, .ifCond .ne (5), 3, 0, 0, 0), (33, .iconst (-1), 1, 0, 0, 0), (34, .ireturn, 1, 0, 0, 0), (35, .aload 6, 2, 0, 0, 0), (37, .iload 4, 2, 0, 0, 0), (39, .aload 5, 2, 0, 0, 0), (41, .getfield 77, 3, 1, 0, 0), (44, .invokestatic 244, 3, 43, 3, 0), (47, .istore 7, 2, 0, 0, 0), (49, .iload 7, 2, 0, 0, 0), (51, .ifCond .eq (6), 3, 0, 0, 0), (54, .iload 7, 2, 0, 0, 0), (56, .ireturn, 1, 0, 0, 0), (57, .iconst 0, 1, 0, 0, 0), (58, .istore 8, 2, 0, 0, 0), (60, .iload 8, 2, 0, 0, 0), (62, .aload 5, 2, 0, 0, 0), (64, .getfield 77, 3, 1, 0, 0), (67, .if_icmp .ge (28), 3, 0, 0, 0), (70, .aload 6, 2, 0, 0, 0), (72, .iload 4, 2, 0, 0, 0), (74, .iload 8, 2, 0, 0, 0), (76, .iadd, 1, 0, 0, 0), (77, .aload 5, 2, 0, 0, 0), (79, .iload_n 2, 1, 0, 0, 0), (80, .iload 8, 2, 0, 0, 0), (82, .invokevirtual 103, 3, 123, 3, 2), (85, .i2l, 1, 0, 0, 0), (86, .invokevirtual 232, 3, 167, 3, 8), (89, .iinc 8 (1), 3, 0, 0, 0), (92, .goto (-32), 3, 0, 0, 0), (95, .aload 5, 2, 0, 0, 0), (97, .getfield 77, 3, 1, 0, 0), (100, .ireturn, 1, 0, 0, 0)]
def k_P_take : List mm_E := [(0, .aload_n 0, 1, 0, 0, 0), (1, .iload_n 3, 1, 0, 0, 0), (2, .invokevirtual 73, 3, 30, 2, 1), (5, .astore 5, 2, 0, 0, 0), (7, .aload_n 0, 1, 0, 0, 0), (8, .iload_n 1, 1, 0, 0, 0), (9, .invokevirtual 216, 3, 31, 2, 1), (12, .astore 6, 2, 0, 0, 0), (14, .aload 5, 2, 0, 0, 0), (16, .ifnull (18), 3, 0, 0, 0), (19, .aload 6, 2, 0, 0, 0), (21, .ifnull (13), 3, 0, 0, 0), (24, .aload 5, 2, 0, 0, 0), (26, .iload 4, 2, 0, 0, 0), (28, .invokevirtual 111, 3, 120, 2, 2), (31, .ifCond .ne (5), 3, 0, 0, 0), (34, .iconst (-1), 1, 0, 0, 0), (35, .ireturn, 1, 0, 0, 0), (36, .aload 6, 2, 0, 0, 0), (38, .iload_n 2, 1, 0, 0, 0), (39, .aload 5, 2, 0, 0, 0), (41, .getfield 77, 3, 1, 0, 0), (44, .invokestatic 244, 3, 43, 3, 0), (47, .istore 7, 2, 0, 0, 0), (49, .iload 7, 2, 0, 0, 0), (51, .ifCond .eq (6), 3, 0, 0, 0), (54, .iload 7, 2, 0, 0, 0), (56, .ireturn, 1, 0, 0, 0), (57, .iconst 0, 1, 0, 0, 0), (58, .istore 8, 2, 0, 0, 0), (60, .iload 8, 2, 0, 0, 0), (62, .aload 5, 2, 0, 0, 0), (64, .getfield 77, 3, 1, 0, 0), (67, .if_icmp .ge (49), 3, 0, 0, 0), (70, .aload 6, 2, 0, 0, 0), (72, .iload_n 2, 1, 0, 0, 0), (73, .iload 8, 2, 0, 0, 0), (75, .iadd, 1, 0, 0, 0), (76, .invokevirtual 236, 3, 166, 2, 8), (79, .lstore 9, 2, 0, 0, 0), (81, .lload 9, 2, 0, 0, 0), (83, .invokestatic 99, 3, 34, 1, 0), (86, .ifCond .eq (22), 3, 0, 0, 0), (89, .lload 9, 2, 0, 0, 0), (91, .lconst 0, 1, 0, 0, 0), (92, .lcmp, 1, 0, 0, 0), (93, .ifCond .eq (17), 3, 0, 0, 0), (96, .aload 5, 2, 0, 0, 0), (98, .iload 4, 2, 0, 0, 0), (100, .iload 8, 2, 0, 0, 0), (102, .invokevirtual 95, 3, 125, 3, 2), (105, .ifCond .ne (5), 3, 0, 0, 0), (108, .iconst (-1), 1, 0, 0, 0), (109, .ireturn, 1, 0, 0, 0), (110, .iinc 8 (1), 3, 0, 0, 0), (113, .goto (-53), 3, 0, 0, 0), (116, .iconst 0, 1, 0, 0, 0), (117, .istore 8, 2, 0, 0, 0), (119, .iconst 0, 1, 0, 0, 0), (120, .istore 9, 2, 0, 0, 0), (122, .iload 9, 2, 0, 0, 0), (124, .aload 5, 2, 0, 0, 0), (126, .getfield 77, 3, 1, 0, 0), (129, .if_icmp .ge (56), 3, 0, 0, 0), (132, .aload 6, 2, 0, 0, 0), (134, .iload_n 2, 1, 0, 0, 0), (135, .iload 9, 2, 0, 0, 0), (137, .iadd, 1, 0, 0, 0), (138, .invokevirtual 236, 3, 166, 2, 8), (141, .l2i, 1, 0, 0, 0), (142, .istore 10, 2, 0, 0, 0), (144, .iload 8, 2, 0, 0, 0), (146, .iload 10, 2, 0, 0, 0), (148, .aload 5, 2, 0, 0, 0), (150, .iload 4, 2, 0, 0, 0), (152, .iload 9, 2, 0, 0, 0), (154, .invokevirtual 103, 3, 123, 3, 2), (157, .if_icmp .ne (7), 3, 0, 0, 0), (160, .iconst 0, 1, 0, 0, 0), (161, .goto (4), 3, 0, 0, 0), (164, .iconst 1, 1, 0, 0, 0), (165, .iadd, 1, 0, 0, 0), (166, .istore 8, 2, 0, 0, 0), (168, .aload 5, 2, 0, 0, 0), (170, .iload 4, 2, 0, 0, 0), (172, .iload 9, 2, 0, 0, 0), (174, .iload 10, 2, 0, 0, 0), (176, .invokevirtual 107, 3, 124, 4, 2), (179, .iinc 9 (1), 3, 0, 0, 0), (182, .goto (-60), 3, 0, 0, 0), (185, .iload 8, 2, 0, 0, 0), (187, .ireturn, 1, 0, 0, 0)]
def k_P_many : List mm_E := [(0, .iload_n 1, 1, 0, 0, 0), (1, .tableswitch (56) (0) (3) #[(31), (36), (42), (48)], 31, 0, 0, 0), (32, .aload_n 0, 1, 0, 0, 0), (33, .invokevirtual 248, 3, 44, 1, 1), (36, .ireturn, 1, 0, 0, 0), (37, .aload_n 0, 1, 0, 0, 0), (38, .iconst 0, 1, 0, 0, 0), (39, .invokevirtual 251, 3, 45, 2, 1), (42, .ireturn, 1, 0, 0, 0), (43, .aload_n 0, 1, 0, 0, 0), (44, .iconst 1, 1, 0, 0, 0), (45, .invokevirtual 251, 3, 45, 2, 1), (48, .ireturn, 1, 0, 0, 0), (49, .aload_n 0, 1, 0, 0, 0), (50, .getfield 49, 3, 0, 6, 0), (53, .getfield 144, 3, 5, 0, 0), (56, .ireturn, 1, 0, 0, 0), (57, .iconst (-1), 1, 0, 0, 0), (58, .ireturn, 1, 0, 0, 0)]
def k_P_keep : List mm_E := [(0, .iconst 0, 1, 0, 0, 0), (1, .istore_n 1, 1, 0, 0, 0), (2, .iload_n 1, 1, 0, 0, 0), (3, .iconst 4, 1, 0, 0, 0), (4, .if_icmp .ge (24), 3, 0, 0, 0), (7, .aload_n 0, 1, 0, 0, 0), (8, .getfield 15, 3, 0, 1, 0), (11, .iload_n 1, 1, 0, 0, 0), (12, .aaload, 1, 0, 0, 0), (13, .aload_n 0, 1, 0, 0, 0), (14, .getfield 11, 3, 0, 0, 0), (17, .iload_n 1, 1, 0, 0, 0), (18, .aaload, 1, 0, 0, 0), (19, .invokevirtual 153, 3, 134, 2, 2), (22, .iinc 1 (1), 3, 0, 0, 0), (25, .goto (-23), 3, 0, 0, 0), (28, .aload_n 0, 1, 0, 0, 0), (29, .iconst 1, 1, 0, 0, 0), (30, .putfield 68, 3, 0, 9, 0), (33, .iconst 1, 1, 0, 0, 0), (34, .ireturn, 1, 0, 0, 0)]
def k_P_again : List mm_E := [(0, .aload_n 0, 1, 0, 0, 0), (1, .getfield 68, 3, 0, 9, 0), (4, .ifCond .ne (6), 3, 0, 0, 0), (7, .bipush (-3), 2, 0, 0, 0), (9, .ireturn, 1, 0, 0, 0), (10, .iconst 0, 1, 0, 0, 0), (11, .istore_n 1, 1, 0, 0, 0), (12, .iload_n 1, 1, 0, 0, 0), (13, .iconst 4, 1, 0, 0, 0), (14, .if_icmp .ge (24), 3, 0, 0, 0), (17, .aload_n 0, 1, 0, 0, 0), (18, .getfield 11, 3, 0, 0, 0), (21, .iload_n 1, 1, 0, 0, 0), (22, .aaload, 1, 0, 0, 0), (23, .aload_n 0, 1, 0, 0, 0), (24, .getfield 15, 3, 0, 1, 0), (27, .iload_n 1, 1, 0, 0, 0), (28, .aaload, 1, 0, 0, 0), (29, .invokevirtual 153, 3, 134, 2, 2), (32, .iinc 1 (1), 3, 0, 0, 0), (35, .goto (-23), 3, 0, 0, 0), (38, .aload_n 0, 1, 0, 0, 0), (39, .invokevirtual 248, 3, 44, 1, 1), (42, .ireturn, 1, 0, 0, 0)]
def k_P_complexAt : List mm_E := [(0, .iload_n 1, 1, 0, 0, 0), (1, .ifCond .lt (17), 3, 0, 0, 0), (4, .iload_n 1, 1, 0, 0, 0), (5, .iconst 4, 1, 0, 0, 0), (6, .if_icmp .ge (12), 3, 0, 0, 0), (9, .aload_n 0, 1, 0, 0, 0), (10, .getfield 11, 3, 0, 0, 0), (13, .iload_n 1, 1, 0, 0, 0), (14, .aaload, 1, 0, 0, 0), (15, .goto (4), 3, 0, 0, 0), (18, .aconst_null, 1, 0, 0, 0), (19, .areturn, 1, 0, 0, 0)]
def k_P_sheetAt : List mm_E := [(0, .iload_n 1, 1, 0, 0, 0), (1, .ifCond .lt (17), 3, 0, 0, 0), (4, .iload_n 1, 1, 0, 0, 0), (5, .iconst 4, 1, 0, 0, 0), (6, .if_icmp .ge (12), 3, 0, 0, 0), (9, .aload_n 0, 1, 0, 0, 0), (10, .getfield 64, 3, 0, 8, 0), (13, .iload_n 1, 1, 0, 0, 0), (14, .aaload, 1, 0, 0, 0), (15, .goto (4), 3, 0, 0, 0), (18, .aconst_null, 1, 0, 0, 0), (19, .areturn, 1, 0, 0, 0)]
def k_P_isDegree : List mm_E := [(0, .iload_n 0, 1, 0, 0, 0), (1, .ifCond .lt (12), 3, 0, 0, 0), (4, .iload_n 0, 1, 0, 0, 0), (5, .iconst 4, 1, 0, 0, 0), (6, .if_icmp .gt (7), 3, 0, 0, 0), (9, .iconst 1, 1, 0, 0, 0), (10, .goto (4), 3, 0, 0, 0), (13, .iconst 0, 1, 0, 0, 0), (14, .ireturn, 1, 1, 0, 0)]
def k_P_isLevel : List mm_E := [(0, .iload_n 0, 1, 0, 0, 0), (1, .ifCond .lt (13), 3, 0, 0, 0), (4, .iload_n 0, 1, 0, 0, 0), (5, .bipush (9), 2, 0, 0, 0), (7, .if_icmp .gt (7), 3, 0, 0, 0), (10, .iconst 1, 1, 0, 0, 0), (11, .goto (4), 3, 0, 0, 0), (14, .iconst 0, 1, 0, 0, 0), (15, .ireturn, 1, 1, 0, 0)]
def k_P_isEntry : List mm_E := [(0, .lload_n 0, 1, 0, 0, 0), (1, .ldc2_w 255, 3, 0, 0, (-9)), (4, .lcmp, 1, 0, 0, 0), (5, .ifCond .lt (15), 3, 0, 0, 0), (8, .lload_n 0, 1, 0, 0, 0), (9, .ldc2_w 257, 3, 0, 0, 9), (12, .lcmp, 1, 0, 0, 0), (13, .ifCond .gt (7), 3, 0, 0, 0), (16, .iconst 1, 1, 0, 0, 0), (17, .goto (4), 3, 0, 0, 0), (20, .iconst 0, 1, 0, 0, 0), (21, .ireturn, 1, 1, 0, 0)]
def k_P_isWay : List mm_E := [(0, .iload_n 0, 1, 0, 0, 0), (1, .ifCond .eq (8), 3, 0, 0, 0), (4, .iload_n 0, 1, 0, 0, 0), (5, .iconst 1, 1, 0, 0, 0), (6, .if_icmp .ne (7), 3, 0, 0, 0), (9, .iconst 1, 1, 0, 0, 0), (10, .goto (4), 3, 0, 0, 0), (13, .iconst 0, 1, 0, 0, 0), (14, .ireturn, 1, 1, 0, 0)]
def k_P_isPrime : List mm_E := [(0, .iload_n 0, 1, 0, 0, 0), (1, .iconst 2, 1, 0, 0, 0), (2, .if_icmp .eq (19), 3, 0, 0, 0), (5, .iload_n 0, 1, 0, 0, 0), (6, .iconst 3, 1, 0, 0, 0), (7, .if_icmp .eq (14), 3, 0, 0, 0), (10, .iload_n 0, 1, 0, 0, 0), (11, .iconst 5, 1, 0, 0, 0), (12, .if_icmp .eq (9), 3, 0, 0, 0), (15, .iload_n 0, 1, 0, 0, 0), (16, .bipush (7), 2, 0, 0, 0), (18, .if_icmp .ne (7), 3, 0, 0, 0), (21, .iconst 1, 1, 0, 0, 0), (22, .goto (4), 3, 0, 0, 0), (25, .iconst 0, 1, 0, 0, 0), (26, .ireturn, 1, 1, 0, 0)]
def k_P_isSort : List mm_E := [(0, .iload_n 0, 1, 0, 0, 0), (1, .ifCond .eq (13), 3, 0, 0, 0), (4, .iload_n 0, 1, 0, 0, 0), (5, .iconst 1, 1, 0, 0, 0), (6, .if_icmp .eq (8), 3, 0, 0, 0), (9, .iload_n 0, 1, 0, 0, 0), (10, .iconst 2, 1, 0, 0, 0), (11, .if_icmp .ne (7), 3, 0, 0, 0), (14, .iconst 1, 1, 0, 0, 0), (15, .goto (4), 3, 0, 0, 0), (18, .iconst 0, 1, 0, 0, 0), (19, .ireturn, 1, 1, 0, 0)]
def k_P_get : List mm_E := [(0, .iload_n 1, 1, 0, 0, 0), (1, .ifCond .lt (15), 3, 0, 0, 0), (4, .iload_n 1, 1, 0, 0, 0), (5, .aload_n 0, 1, 0, 0, 0), (6, .arraylength, 1, 0, 0, 0), (7, .if_icmp .ge (9), 3, 0, 0, 0), (10, .aload_n 0, 1, 0, 0, 0), (11, .iload_n 1, 1, 0, 0, 0), (12, .iaload, 1, 0, 0, 0), (13, .goto (4), 3, 0, 0, 0), (16, .iconst 0, 1, 0, 0, 0), (17, .ireturn, 1, 0, 0, 0)]
def k_P_set : List mm_E := [(0, .iload_n 1, 1, 0, 0, 0), (1, .ifCond .lt (13), 3, 0, 0, 0), (4, .iload_n 1, 1, 0, 0, 0), (5, .aload_n 0, 1, 0, 0, 0), (6, .arraylength, 1, 0, 0, 0), (7, .if_icmp .ge (7), 3, 0, 0, 0), (10, .aload_n 0, 1, 0, 0, 0), (11, .iload_n 1, 1, 0, 0, 0), (12, .iload_n 2, 1, 0, 0, 0), (13, .iastore, 1, 0, 0, 0), (14, .return_, 1, 0, 0, 0)]
def k_P_ofPage : List mm_E := [(0, .aload_n 0, 1, 0, 0, 0), (1, .iload_n 1, 1, 0, 0, 0), (2, .invokevirtual 73, 3, 30, 2, 1), (5, .astore 8, 2, 0, 0, 0), (7, .aload 8, 2, 0, 0, 0), (9, .ifnull (45), 3, 0, 0, 0), (12, .iload_n 2, 1, 0, 0, 0), (13, .invokestatic 156, 3, 35, 1, 0), (16, .ifCond .eq (38), 3, 0, 0, 0), (19, .iload_n 3, 1, 0, 0, 0), (20, .invokestatic 159, 3, 36, 1, 0), (23, .ifCond .eq (31), 3, 0, 0, 0), (26, .iload 4, 2, 0, 0, 0), (28, .ifCond .lt (26), 3, 0, 0, 0), (31, .iload 4, 2, 0, 0, 0), (33, .bipush (10), 2, 0, 0, 0), (35, .if_icmp .gt (19), 3, 0, 0, 0), (38, .iload 5, 2, 0, 0, 0), (40, .invokestatic 88, 3, 33, 1, 0), (43, .ifCond .eq (11), 3, 0, 0, 0), (46, .iload 6, 2, 0, 0, 0), (48, .invokestatic 84, 3, 32, 1, 0), (51, .ifCond .ne (5), 3, 0, 0, 0), (54, .iconst (-1), 1, 0, 0, 0), (55, .ireturn, 1, 0, 0, 0), (56, .aload 8, 2, 0, 0, 0), (58, .invokevirtual 162, 3, 130, 1, 2), (61, .ifCond .eq (6), 3, 0, 0, 0), (64, .bipush (-4), 2, 0, 0, 0), (66, .ireturn, 1, 0, 0, 0), (67, .aload_n 0, 1, 0, 0, 0), (68, .getfield 28, 3, 0, 3, 0), (71, .aload 8, 2, 0, 0, 0), (73, .iload_n 2, 1, 0, 0, 0), (74, .iload_n 3, 1, 0, 0, 0), (75, .invokevirtual 166, 3, 152, 4, 3), (78, .iconst 0, 1, 0, 0, 0), (79, .istore 9, 2, 0, 0, 0), (81, .iconst 0, 1, 0, 0, 0), (82, .istore 10, 2, 0, 0, 0), (84, .iload 10, 2, 0, 0, 0), (86, .aload 8, 2, 0, 0, 0), (88, .getfield 77, 3, 1, 0, 0), (91, .if_icmp .ge (80), 3, 0, 0, 0), (94, .aload 8, 2, 0, 0, 0), (96, .iload_n 2, 1, 0, 0, 0), (97, .iload 10, 2, 0, 0, 0), (99, .invokevirtual 118, 3, 122, 3, 2), (102, .iload 5, 2, 0, 0, 0), (104, .if_icmp .ne (61), 3, 0, 0, 0), (107, .aload 8, 2, 0, 0, 0), (109, .iload 10, 2, 0, 0, 0), (111, .invokevirtual 114, 3, 121, 2, 2), (114, .iload 6, 2, 0, 0, 0), (116, .if_icmp .ne (49), 3, 0, 0, 0), (119, .iload 9, 2, 0, 0, 0), (121, .iload 7, 2, 0, 0, 0), (123, .ifCond .eq (20), 3, 0, 0, 0), (126, .aload_n 0, 1, 0, 0, 0), (127, .getfield 28, 3, 0, 3, 0), (130, .iload 10, 2, 0, 0, 0), (132, .iload 4, 2, 0, 0, 0), (134, .invokevirtual 259, 3, 163, 3, 3), (137, .ifCond .eq (24), 3, 0, 0, 0), (140, .goto (17), 3, 0, 0, 0), (143, .aload_n 0, 1, 0, 0, 0), (144, .getfield 28, 3, 0, 3, 0), (147, .iload 10, 2, 0, 0, 0), (149, .iload 4, 2, 0, 0, 0), (151, .invokevirtual 262, 3, 162, 3, 3), (154, .ifCond .eq (7), 3, 0, 0, 0), (157, .iconst 1, 1, 0, 0, 0), (158, .goto (4), 3, 0, 0, 0), (161, .iconst 0, 1, 0, 0, 0), (162, .iadd, 1, 0, 0, 0), (163, .istore 9, 2, 0, 0, 0), (165, .iinc 10 (1), 3, 0, 0, 0), (168, .goto (-84), 3, 0, 0, 0), (171, .iload 9, 2, 0, 0, 0), (173, .ireturn, 1, 0, 0, 0)]
def k_P_staying : List mm_E := [(0, .aload_n 0, 1, 0, 0, 0), (1, .getfield 28, 3, 0, 3, 0), (4, .aload_n 1, 1, 0, 0, 0), (5, .iconst 0, 1, 0, 0, 0), (6, .iload_n 2, 1, 0, 0, 0), (7, .invokevirtual 166, 3, 152, 4, 3), (10, .iconst 0, 1, 0, 0, 0), (11, .istore 4, 2, 0, 0, 0), (13, .iconst 0, 1, 0, 0, 0), (14, .istore 5, 2, 0, 0, 0), (16, .iload 5, 2, 0, 0, 0), (18, .aload_n 1, 1, 0, 0, 0), (19, .getfield 77, 3, 1, 0, 0), (22, .if_icmp .ge (36), 3, 0, 0, 0), (25, .aload_n 1, 1, 0, 0, 0), (26, .iload 5, 2, 0, 0, 0), (28, .invokevirtual 114, 3, 121, 2, 2), (31, .iload_n 3, 1, 0, 0, 0), (32, .if_icmp .ne (20), 3, 0, 0, 0), (35, .aload_n 0, 1, 0, 0, 0), (36, .getfield 28, 3, 0, 3, 0), (39, .iload 5, 2, 0, 0, 0), (41, .invokevirtual 170, 3, 160, 2, 3), (44, .bipush (-3), 2, 0, 0, 0), (46, .if_icmp .ne (6), 3, 0, 0, 0), (49, .iinc 4 (1), 3, 0, 0, 0), (52, .iinc 5 (1), 3, 0, 0, 0), (55, .goto (-39), 3, 0, 0, 0), (58, .iload 4, 2, 0, 0, 0), (60, .ireturn, 1, 0, 0, 0)]
def k_P_inWholeNumbers : List mm_E := [(0, .aload_n 0, 1, 0, 0, 0), (1, .getfield 35, 3, 0, 4, 0), (4, .aload_n 1, 1, 0, 0, 0), (5, .iload_n 2, 1, 0, 0, 0), (6, .iload_n 3, 1, 0, 0, 0), (7, .invokevirtual 265, 3, 174, 4, 4), (10, .iload 5, 2, 0, 0, 0), (12, .ifCond .ne (15), 3, 0, 0, 0), (15, .aload_n 0, 1, 0, 0, 0), (16, .getfield 35, 3, 0, 4, 0), (19, .iload 4, 2, 0, 0, 0), (21, .invokevirtual 268, 3, 175, 2, 4), (24, .goto (14), 3, 0, 0, 0), (27, .aload_n 0, 1, 0, 0, 0), (28, .getfield 35, 3, 0, 4, 0), (31, .iload 4, 2, 0, 0, 0), (33, .iload 5, 2, 0, 0, 0), (35, .invokevirtual 271, 3, 176, 3, 4), (38, .ireturn, 1, 0, 0, 0)]
def k_P_refusalOfEdge : List mm_E := [(0, .aload_n 0, 1, 0, 0, 0), (1, .getfield 226, 3, 7, 0, 0), (4, .iconst (-1), 1, 0, 0, 0), (5, .if_icmp .ne (6), 3, 0, 0, 0), (8, .bipush (-11), 2, 0, 0, 0), (10, .ireturn, 1, 0, 0, 0), (11, .aload_n 0, 1, 0, 0, 0), (12, .getfield 226, 3, 7, 0, 0), (15, .iconst 2, 1, 0, 0, 0), (16, .if_icmp .ne (6), 3, 0, 0, 0), (19, .bipush (-13), 2, 0, 0, 0), (21, .ireturn, 1, 0, 0, 0), (22, .aload_n 0, 1, 0, 0, 0), (23, .iload_n 1, 1, 0, 0, 0), (24, .iload_n 2, 1, 0, 0, 0), (25, .invokevirtual 229, 3, 165, 3, 8), (28, .ifCond .eq (8), 3, 0, 0, 0), (31, .bipush (-12), 2, 0, 0, 0), (33, .goto (4), 3, 0, 0, 0), (36, .iconst 0, 1, 0, 0, 0), (37, .ireturn, 1, 0, 0, 0)]
def k_P_cellsTogether : List mm_E := [(0, .iconst 0, 1, 0, 0, 0), (1, .istore_n 1, 1, 0, 0, 0), (2, .iconst 0, 1, 0, 0, 0), (3, .istore_n 2, 1, 0, 0, 0), (4, .iload_n 2, 1, 0, 0, 0), (5, .iconst 4, 1, 0, 0, 0), (6, .if_icmp .ge (21), 3, 0, 0, 0), (9, .iload_n 1, 1, 0, 0, 0), (10, .aload_n 0, 1, 0, 0, 0), (11, .getfield 11, 3, 0, 0, 0), (14, .iload_n 2, 1, 0, 0, 0), (15, .aaload, 1, 0, 0, 0), (16, .getfield 77, 3, 1, 0, 0), (19, .iadd, 1, 0, 0, 0), (20, .istore_n 1, 1, 0, 0, 0), (21, .iinc 2 (1), 3, 0, 0, 0), (24, .goto (-20), 3, 0, 0, 0), (27, .iload_n 1, 1, 0, 0, 0), (28, .ireturn, 1, 0, 0, 0)]
def k_P_setOfComplexes : List mm_E := [(0, .iconst 0, 1, 0, 0, 0), (1, .istore_n 2, 1, 0, 0, 0), (2, .iconst 0, 1, 0, 0, 0), (3, .istore_n 3, 1, 0, 0, 0), (4, .iload_n 3, 1, 0, 0, 0), (5, .iconst 4, 1, 0, 0, 0), (6, .if_icmp .ge (46), 3, 0, 0, 0), (9, .iload_n 1, 1, 0, 0, 0), (10, .ifCond .eq (18), 3, 0, 0, 0), (13, .aload_n 0, 1, 0, 0, 0), (14, .getfield 11, 3, 0, 0, 0), (17, .iload_n 3, 1, 0, 0, 0), (18, .aaload, 1, 0, 0, 0), (19, .invokevirtual 162, 3, 130, 1, 2), (22, .ifCond .eq (24), 3, 0, 0, 0), (25, .goto (15), 3, 0, 0, 0), (28, .aload_n 0, 1, 0, 0, 0), (29, .getfield 11, 3, 0, 0, 0), (32, .iload_n 3, 1, 0, 0, 0), (33, .aaload, 1, 0, 0, 0), (34, .getfield 77, 3, 1, 0, 0), (37, .ifCond .le (9), 3, 0, 0, 0), (40, .iload_n 2, 1, 0, 0, 0), (41, .iconst 1, 1, 0, 0, 0), (42, .iload_n 3, 1, 0, 0, 0), (43, .ishl, 1, 0, 0, 0), (44, .ior, 1, 0, 0, 0), (45, .istore_n 2, 1, 0, 0, 0), (46, .iinc 3 (1), 3, 0, 0, 0), (49, .goto (-45), 3, 0, 0, 0), (52, .iload_n 2, 1, 0, 0, 0), (53, .ireturn, 1, 0, 0, 0)]
def k_M_in : List mm_E := [(0, .iload_n 0, 1, 0, 0, 0), (1, .iload_n 1, 1, 0, 0, 0), (2, .if_icmp .lt (12), 3, 0, 0, 0), (5, .iload_n 0, 1, 0, 0, 0), (6, .iload_n 2, 1, 0, 0, 0), (7, .if_icmp .gt (7), 3, 0, 0, 0), (10, .iconst 1, 1, 0, 0, 0), (11, .goto (4), 3, 0, 0, 0), (14, .iconst 0, 1, 0, 0, 0), (15, .ireturn, 1, 1, 0, 0)]
def k_M_isComplex : List mm_E := [(0, .iload_n 0, 1, 0, 0, 0), (1, .iconst 0, 1, 0, 0, 0), (2, .iconst 3, 1, 0, 0, 0), (3, .invokestatic 69, 3, 46, 3, 0), (6, .ireturn, 1, 1, 0, 0)]
def k_M_isCell : List mm_E := [(0, .iload_n 2, 1, 0, 0, 0), (1, .iconst 0, 1, 0, 0, 0), (2, .aload_n 0, 1, 0, 0, 0), (3, .getfield 7, 3, 8, 0, 0), (6, .iload_n 1, 1, 0, 0, 0), (7, .iaload, 1, 0, 0, 0), (8, .iconst 1, 1, 0, 0, 0), (9, .isub, 1, 0, 0, 0), (10, .invokestatic 69, 3, 46, 3, 0), (13, .ireturn, 1, 1, 0, 0)]
def k_M_degree : List mm_E := [(0, .aload_n 0, 1, 0, 0, 0), (1, .getfield 13, 3, 8, 1, 0), (4, .bipush (12), 2, 0, 0, 0), (6, .iload_n 1, 1, 0, 0, 0), (7, .imul, 1, 0, 0, 0), (8, .iload_n 2, 1, 0, 0, 0), (9, .iadd, 1, 0, 0, 0), (10, .iaload, 1, 0, 0, 0), (11, .ireturn, 1, 0, 0, 0)]
def k_M_level : List mm_E := [(0, .aload_n 0, 1, 0, 0, 0), (1, .getfield 16, 3, 8, 2, 0), (4, .bipush (12), 2, 0, 0, 0), (6, .iconst 2, 1, 0, 0, 0), (7, .iload_n 1, 1, 0, 0, 0), (8, .imul, 1, 0, 0, 0), (9, .iload_n 2, 1, 0, 0, 0), (10, .iadd, 1, 0, 0, 0), (11, .imul, 1, 0, 0, 0), (12, .iload_n 3, 1, 0, 0, 0), (13, .iadd, 1, 0, 0, 0), (14, .iaload, 1, 0, 0, 0), (15, .ireturn, 1, 0, 0, 0)]
def k_M_edge : List mm_E := [(0, .aload_n 0, 1, 0, 0, 0), (1, .getfield 19, 3, 8, 3, 0), (4, .sipush (144), 3, 0, 0, 0), (7, .iload_n 1, 1, 0, 0, 0), (8, .imul, 1, 0, 0, 0), (9, .bipush (12), 2, 0, 0, 0), (11, .iload_n 2, 1, 0, 0, 0), (12, .imul, 1, 0, 0, 0), (13, .iadd, 1, 0, 0, 0), (14, .iload_n 3, 1, 0, 0, 0), (15, .iadd, 1, 0, 0, 0), (16, .iaload, 1, 0, 0, 0), (17, .ireturn, 1, 0, 0, 0)]
def k_M_may : List mm_E := [(0, .aload_n 0, 1, 0, 0, 0), (1, .iload_n 1, 1, 0, 0, 0), (2, .iload_n 3, 1, 0, 0, 0), (3, .invokevirtual 73, 3, 49, 3, 9), (6, .aload_n 0, 1, 0, 0, 0), (7, .iload_n 1, 1, 0, 0, 0), (8, .iload_n 2, 1, 0, 0, 0), (9, .invokevirtual 73, 3, 49, 3, 9), (12, .iconst 1, 1, 0, 0, 0), (13, .isub, 1, 0, 0, 0), (14, .if_icmp .ne (41), 3, 0, 0, 0), (17, .aload_n 0, 1, 0, 0, 0), (18, .iload_n 1, 1, 0, 0, 0), (19, .iconst 0, 1, 0, 0, 0), (20, .iload_n 3, 1, 0, 0, 0), (21, .invokevirtual 77, 3, 50, 4, 9), (24, .aload_n 0, 1, 0, 0, 0), (25, .iload_n 1, 1, 0, 0, 0), (26, .iconst 0, 1, 0, 0, 0), (27, .iload_n 2, 1, 0, 0, 0), (28, .invokevirtual 77, 3, 50, 4, 9), (31, .if_icmp .gt (24), 3, 0, 0, 0), (34, .aload_n 0, 1, 0, 0, 0), (35, .iload_n 1, 1, 0, 0, 0), (36, .iconst 1, 1, 0, 0, 0), (37, .iload_n 3, 1, 0, 0, 0), (38, .invokevirtual 77, 3, 50, 4, 9), (41, .aload_n 0, 1, 0, 0, 0), (42, .iload_n 1, 1, 0, 0, 0), (43, .iconst 1, 1, 0, 0, 0), (44, .iload_n 2, 1, 0, 0, 0), (45, .invokevirtual 77, 3, 50, 4, 9), (48, .if_icmp .gt (7), 3, 0, 0, 0), (51, .iconst 1, 1, 0, 0, 0), (52, .goto (4), 3, 0, 0, 0), (55, .iconst 0, 1, 0, 0, 0), (56, .ireturn, 1, 1, 0, 0)]
def k_M_sets : List mm_E := [(0, .aload_n 0, 1, 0, 0, 0), (1, .getfield 13, 3, 8, 1, 0), (4, .bipush (12), 2, 0, 0, 0), (6, .iload_n 1, 1, 0, 0, 0), (7, .imul, 1, 0, 0, 0), (8, .iload_n 2, 1, 0, 0, 0), (9, .iadd, 1, 0, 0, 0), (10, .iload_n 3, 1, 0, 0, 0), (11, .iastore, 1, 0, 0, 0), (12, .aload_n 0, 1, 0, 0, 0), (13, .getfield 16, 3, 8, 2, 0), (16, .bipush (24), 2, 0, 0, 0), (18, .iload_n 1, 1, 0, 0, 0), (19, .imul, 1, 0, 0, 0), (20, .iload_n 2, 1, 0, 0, 0), (21, .iadd, 1, 0, 0, 0), (22, .iload 4, 2, 0, 0, 0), (24, .iastore, 1, 0, 0, 0), (25, .aload_n 0, 1, 0, 0, 0), (26, .getfield 16, 3, 8, 2, 0), (29, .bipush (12), 2, 0, 0, 0), (31, .iconst 2, 1, 0, 0, 0), (32, .iload_n 1, 1, 0, 0, 0), (33, .imul, 1, 0, 0, 0), (34, .iconst 1, 1, 0, 0, 0), (35, .iadd, 1, 0, 0, 0), (36, .imul, 1, 0, 0, 0), (37, .iload_n 2, 1, 0, 0, 0), (38, .iadd, 1, 0, 0, 0), (39, .iload 5, 2, 0, 0, 0), (41, .iastore, 1, 0, 0, 0), (42, .return_, 1, 0, 0, 0)]
def k_M_empties : List mm_E := [(0, .aload_n 0, 1, 0, 0, 0), (1, .getfield 7, 3, 8, 0, 0), (4, .iload_n 1, 1, 0, 0, 0), (5, .iconst 0, 1, 0, 0, 0), (6, .iastore, 1, 0, 0, 0), (7, .iconst 0, 1, 0, 0, 0), (8, .istore_n 2, 1, 0, 0, 0), (9, .iload_n 2, 1, 0, 0, 0), (10, .sipush (144), 3, 0, 0, 0), (13, .if_icmp .ge (22), 3, 0, 0, 0), (16, .aload_n 0, 1, 0, 0, 0), (17, .getfield 19, 3, 8, 3, 0), (20, .sipush (144), 3, 0, 0, 0), (23, .iload_n 1, 1, 0, 0, 0), (24, .imul, 1, 0, 0, 0), (25, .iload_n 2, 1, 0, 0, 0), (26, .iadd, 1, 0, 0, 0), (27, .iconst 0, 1, 0, 0, 0), (28, .iastore, 1, 0, 0, 0), (29, .iinc 2 (1), 3, 0, 0, 0), (32, .goto (-23), 3, 0, 0, 0), (35, .return_, 1, 0, 0, 0)]
def k_M_copies : List mm_E := [(0, .aload_n 0, 1, 0, 0, 0), (1, .getfield 7, 3, 8, 0, 0), (4, .iload_n 2, 1, 0, 0, 0), (5, .aload_n 0, 1, 0, 0, 0), (6, .getfield 7, 3, 8, 0, 0), (9, .iload_n 1, 1, 0, 0, 0), (10, .iaload, 1, 0, 0, 0), (11, .iastore, 1, 0, 0, 0), (12, .iconst 0, 1, 0, 0, 0), (13, .istore_n 3, 1, 0, 0, 0), (14, .iload_n 3, 1, 0, 0, 0), (15, .sipush (144), 3, 0, 0, 0), (18, .if_icmp .ge (33), 3, 0, 0, 0), (21, .aload_n 0, 1, 0, 0, 0), (22, .getfield 19, 3, 8, 3, 0), (25, .sipush (144), 3, 0, 0, 0), (28, .iload_n 2, 1, 0, 0, 0), (29, .imul, 1, 0, 0, 0), (30, .iload_n 3, 1, 0, 0, 0), (31, .iadd, 1, 0, 0, 0), (32, .aload_n 0, 1, 0, 0, 0), (33, .getfield 19, 3, 8, 3, 0), (36, .sipush (144), 3, 0, 0, 0), (39, .iload_n 1, 1, 0, 0, 0), (40, .imul, 1, 0, 0, 0), (41, .iload_n 3, 1, 0, 0, 0), (42, .iadd, 1, 0, 0, 0), (43, .iaload, 1, 0, 0, 0), (44, .iastore, 1, 0, 0, 0), (45, .iinc 3 (1), 3, 0, 0, 0), (48, .goto (-34), 3, 0, 0, 0), (51, .iconst 0, 1, 0, 0, 0), (52, .istore_n 3, 1, 0, 0, 0), (53, .iload_n 3, 1, 0, 0, 0), (54, .aload_n 0, 1, 0, 0, 0), (55, .getfield 7, 3, 8, 0, 0), (58, .iload_n 1, 1, 0, 0, 0), (59, .iaload, 1, 0, 0, 0), (60, .if_icmp .ge (35), 3, 0, 0, 0), (63, .aload_n 0, 1, 0, 0, 0), (64, .iload_n 2, 1, 0, 0, 0), (65, .iload_n 3, 1, 0, 0, 0), (66, .aload_n 0, 1, 0, 0, 0), (67, .iload_n 1, 1, 0, 0, 0), (68, .iload_n 3, 1, 0, 0, 0), (69, .invokevirtual 73, 3, 49, 3, 9), (72, .aload_n 0, 1, 0, 0, 0), (73, .iload_n 1, 1, 0, 0, 0), (74, .iconst 0, 1, 0, 0, 0), (75, .iload_n 3, 1, 0, 0, 0), (76, .invokevirtual 77, 3, 50, 4, 9), (79, .aload_n 0, 1, 0, 0, 0), (80, .iload_n 1, 1, 0, 0, 0), (81, .iconst 1, 1, 0, 0, 0), (82, .iload_n 3, 1, 0, 0, 0), (83, .invokevirtual 77, 3, 50, 4, 9), (86, .invokevirtual 81, 3, 53, 6, 9), (89, .iinc 3 (1), 3, 0, 0, 0), (92, .goto (-39), 3, 0, 0, 0), (95, .return_, 1, 0, 0, 0)]
def k_M_clear : List mm_E := [(0, .iload_n 1, 1, 0, 0, 0), (1, .invokestatic 85, 3, 47, 1, 0), (4, .ifCond .ne (5), 3, 0, 0, 0), (7, .iconst (-1), 1, 0, 0, 0), (8, .ireturn, 1, 0, 0, 0), (9, .aload_n 0, 1, 0, 0, 0), (10, .getfield 7, 3, 8, 0, 0), (13, .iload_n 1, 1, 0, 0, 0), (14, .iaload, 1, 0, 0, 0), (15, .istore_n 2, 1, 0, 0, 0), (16, .aload_n 0, 1, 0, 0, 0), (17, .iload_n 1, 1, 0, 0, 0), (18, .invokevirtual 89, 3, 54, 2, 9), (21, .iload_n 2, 1, 0, 0, 0), (22, .ireturn, 1, 0, 0, 0)]
def k_M_cell : List mm_E := [(0, .iload_n 1, 1, 0, 0, 0), (1, .invokestatic 85, 3, 47, 1, 0), (4, .ifCond .eq (33), 3, 0, 0, 0), (7, .iload_n 2, 1, 0, 0, 0), (8, .iconst 0, 1, 0, 0, 0), (9, .iconst 4, 1, 0, 0, 0), (10, .invokestatic 69, 3, 46, 3, 0), (13, .ifCond .eq (24), 3, 0, 0, 0), (16, .iload_n 3, 1, 0, 0, 0), (17, .iconst 0, 1, 0, 0, 0), (18, .bipush (9), 2, 0, 0, 0), (20, .invokestatic 69, 3, 46, 3, 0), (23, .ifCond .eq (14), 3, 0, 0, 0), (26, .iload 4, 2, 0, 0, 0), (28, .iconst 0, 1, 0, 0, 0), (29, .bipush (9), 2, 0, 0, 0), (31, .invokestatic 69, 3, 46, 3, 0), (34, .ifCond .ne (5), 3, 0, 0, 0), (37, .iconst (-1), 1, 0, 0, 0), (38, .ireturn, 1, 0, 0, 0), (39, .aload_n 0, 1, 0, 0, 0), (40, .getfield 7, 3, 8, 0, 0), (43, .iload_n 1, 1, 0, 0, 0), (44, .iaload, 1, 0, 0, 0), (45, .bipush (12), 2, 0, 0, 0), (47, .if_icmp .ne (6), 3, 0, 0, 0), (50, .bipush (-2), 2, 0, 0, 0), (52, .ireturn, 1, 0, 0, 0), (53, .aload_n 0, 1, 0, 0, 0), (54, .iload_n 1, 1, 0, 0, 0), (55, .aload_n 0, 1, 0, 0, 0), (56, .getfield 7, 3, 8, 0, 0), (59, .iload_n 1, 1, 0, 0, 0), (60, .iaload, 1, 0, 0, 0), (61, .iload_n 2, 1, 0, 0, 0), (62, .iload_n 3, 1, 0, 0, 0), (63, .iload 4, 2, 0, 0, 0), (65, .invokevirtual 81, 3, 53, 6, 9), (68, .aload_n 0, 1, 0, 0, 0), (69, .getfield 7, 3, 8, 0, 0), (72, .iload_n 1, 1, 0, 0, 0), (73, .dup2, 1, 0, 0, 0), (74, .iaload, 1, 0, 0, 0), (75, .iconst 1, 1, 0, 0, 0), (76, .iadd, 1, 0, 0, 0), (77, .iastore, 1, 0, 0, 0), (78, .aload_n 0, 1, 0, 0, 0), (79, .getfield 7, 3, 8, 0, 0), (82, .iload_n 1, 1, 0, 0, 0), (83, .iaload, 1, 0, 0, 0), (84, .iconst 1, 1, 0, 0, 0), (85, .isub, 1, 0, 0, 0), (86, .ireturn, 1, 0, 0, 0)]
def k_M_isEntry : List mm_E := [(0, .iload_n 1, 1, 0, 0, 0), (1, .invokestatic 85, 3, 47, 1, 0), (4, .ifCond .eq (25), 3, 0, 0, 0), (7, .aload_n 0, 1, 0, 0, 0), (8, .iload_n 1, 1, 0, 0, 0), (9, .iload_n 2, 1, 0, 0, 0), (10, .invokevirtual 93, 3, 48, 3, 9), (13, .ifCond .eq (16), 3, 0, 0, 0), (16, .aload_n 0, 1, 0, 0, 0), (17, .iload_n 1, 1, 0, 0, 0), (18, .iload_n 3, 1, 0, 0, 0), (19, .invokevirtual 93, 3, 48, 3, 9), (22, .ifCond .eq (7), 3, 0, 0, 0), (25, .iconst 1, 1, 0, 0, 0), (26, .goto (4), 3, 0, 0, 0), (29, .iconst 0, 1, 0, 0, 0), (30, .ireturn, 1, 1, 0, 0)]
def k_M_entry : List mm_E := [(0, .aload_n 0, 1, 0, 0, 0), (1, .iload_n 1, 1, 0, 0, 0), (2, .iload_n 2, 1, 0, 0, 0), (3, .iload_n 3, 1, 0, 0, 0), (4, .invokevirtual 97, 3, 58, 4, 9), (7, .ifCond .eq (25), 3, 0, 0, 0), (10, .iload 4, 2, 0, 0, 0), (12, .bipush (-9), 2, 0, 0, 0), (14, .bipush (9), 2, 0, 0, 0), (16, .invokestatic 69, 3, 46, 3, 0), (19, .ifCond .eq (13), 3, 0, 0, 0), (22, .aload_n 0, 1, 0, 0, 0), (23, .iload_n 1, 1, 0, 0, 0), (24, .iload_n 2, 1, 0, 0, 0), (25, .iload_n 3, 1, 0, 0, 0), (26, .invokevirtual 100, 3, 52, 4, 9), (29, .ifCond .ne (5), 3, 0, 0, 0), (32, .iconst (-1), 1, 0, 0, 0), (33, .ireturn, 1, 0, 0, 0), (34, .aload_n 0, 1, 0, 0, 0), (35, .iload_n 1, 1, 0, 0, 0), (36, .iload_n 2, 1, 0, 0, 0), (37, .iload_n 3, 1, 0, 0, 0), (38, .invokevirtual 103, 3, 51, 4, 9), (41, .istore 5, 2, 0, 0, 0), (43, .aload_n 0, 1, 0, 0, 0), (44, .getfield 19, 3, 8, 3, 0), (47, .sipush (144), 3, 0, 0, 0), (50, .iload_n 1, 1, 0, 0, 0), (51, .imul, 1, 0, 0, 0), (52, .bipush (12), 2, 0, 0, 0), (54, .iload_n 2, 1, 0, 0, 0), (55, .imul, 1, 0, 0, 0), (56, .iadd, 1, 0, 0, 0), (57, .iload_n 3, 1, 0, 0, 0), (58, .iadd, 1, 0, 0, 0), (59, .iload 4, 2, 0, 0, 0), (61, .iastore, 1, 0, 0, 0), (62, .bipush (10), 2, 0, 0, 0), (64, .iload 5, 2, 0, 0, 0), (66, .iadd, 1, 0, 0, 0), (67, .ireturn, 1, 0, 0, 0)]
def k_M_entryOf : List mm_E := [(0, .aload_n 0, 1, 0, 0, 0), (1, .iload_n 1, 1, 0, 0, 0), (2, .iload_n 2, 1, 0, 0, 0), (3, .iload_n 3, 1, 0, 0, 0), (4, .invokevirtual 97, 3, 58, 4, 9), (7, .ifCond .eq (16), 3, 0, 0, 0), (10, .bipush (10), 2, 0, 0, 0), (12, .aload_n 0, 1, 0, 0, 0), (13, .iload_n 1, 1, 0, 0, 0), (14, .iload_n 2, 1, 0, 0, 0), (15, .iload_n 3, 1, 0, 0, 0), (16, .invokevirtual 103, 3, 51, 4, 9), (19, .iadd, 1, 0, 0, 0), (20, .goto (4), 3, 0, 0, 0), (23, .iconst (-1), 1, 0, 0, 0), (24, .ireturn, 1, 0, 0, 0)]
def k_M_entriesOf : List mm_E := [(0, .iconst 0, 1, 0, 0, 0), (1, .istore 4, 2, 0, 0, 0), (3, .iconst 0, 1, 0, 0, 0), (4, .istore 5, 2, 0, 0, 0), (6, .iload 5, 2, 0, 0, 0), (8, .aload_n 0, 1, 0, 0, 0), (9, .getfield 7, 3, 8, 0, 0), (12, .iload_n 1, 1, 0, 0, 0), (13, .iaload, 1, 0, 0, 0), (14, .if_icmp .ge (45), 3, 0, 0, 0), (17, .iload 4, 2, 0, 0, 0), (19, .iload_n 3, 1, 0, 0, 0), (20, .ifCond .eq (14), 3, 0, 0, 0), (23, .aload_n 0, 1, 0, 0, 0), (24, .iload_n 1, 1, 0, 0, 0), (25, .iload 5, 2, 0, 0, 0), (27, .iload_n 2, 1, 0, 0, 0), (28, .invokevirtual 103, 3, 51, 4, 9), (31, .goto (11), 3, 0, 0, 0), (34, .aload_n 0, 1, 0, 0, 0), (35, .iload_n 1, 1, 0, 0, 0), (36, .iload_n 2, 1, 0, 0, 0), (37, .iload 5, 2, 0, 0, 0), (39, .invokevirtual 103, 3, 51, 4, 9), (42, .ifCond .eq (7), 3, 0, 0, 0), (45, .iconst 1, 1, 0, 0, 0), (46, .goto (4), 3, 0, 0, 0), (49, .iconst 0, 1, 0, 0, 0), (50, .iadd, 1, 0, 0, 0), (51, .istore 4, 2, 0, 0, 0), (53, .iinc 5 (1), 3, 0, 0, 0), (56, .goto (-50), 3, 0, 0, 0), (59, .iload 4, 2, 0, 0, 0), (61, .ireturn, 1, 0, 0, 0)]
def k_M_of : List mm_E := [(0, .iload_n 1, 1, 0, 0, 0), (1, .invokestatic 85, 3, 47, 1, 0), (4, .ifCond .eq (12), 3, 0, 0, 0), (7, .aload_n 0, 1, 0, 0, 0), (8, .iload_n 1, 1, 0, 0, 0), (9, .iload_n 2, 1, 0, 0, 0), (10, .invokevirtual 93, 3, 48, 3, 9), (13, .ifCond .ne (5), 3, 0, 0, 0), (16, .iconst (-1), 1, 0, 0, 0), (17, .ireturn, 1, 0, 0, 0), (18, .iload_n 3, 1, 0, 0, 0), (19, .tableswitch (67) (0) (4) #[(33), (40), (40), (50), (50)], 33, 0, 0, 0), (52, .aload_n 0, 1, 0, 0, 0), (53, .iload_n 1, 1, 0, 0, 0), (54, .iload_n 2, 1, 0, 0, 0), (55, .invokevirtual 73, 3, 49, 3, 9), (58, .ireturn, 1, 0, 0, 0), (59, .aload_n 0, 1, 0, 0, 0), (60, .iload_n 1, 1, 0, 0, 0), (61, .iload_n 3, 1, 0, 0, 0), (62, .iconst 1, 1, 0, 0, 0), (63, .isub, 1, 0, 0, 0), (64, .iload_n 2, 1, 0, 0, 0), (65, .invokevirtual 77, 3, 50, 4, 9), (68, .ireturn, 1, 0, 0, 0), (69, .aload_n 0, 1, 0, 0, 0), (70, .iload_n 1, 1, 0, 0, 0), (71, .iload_n 2, 1, 0, 0, 0), (72, .iload_n 3, 1, 0, 0, 0), (73, .iconst 4, 1, 0, 0, 0), (74, .if_icmp .ne (7), 3, 0, 0, 0), (77, .iconst 1, 1, 0, 0, 0), (78, .goto (4), 3, 0, 0, 0), (81, .iconst 0, 1, 0, 0, 0), (82, .invokevirtual 106, 3, 61, 4, 9), (85, .ireturn, 1, 0, 0, 0), (86, .iconst (-1), 1, 0, 0, 0), (87, .ireturn, 1, 0, 0, 0)]
def k_M_brokenAt : List mm_E := [(0, .iconst 0, 1, 0, 0, 0), (1, .istore_n 2, 1, 0, 0, 0), (2, .iload_n 2, 1, 0, 0, 0), (3, .aload_n 0, 1, 0, 0, 0), (4, .getfield 7, 3, 8, 0, 0), (7, .iload_n 1, 1, 0, 0, 0), (8, .iaload, 1, 0, 0, 0), (9, .if_icmp .ge (86), 3, 0, 0, 0), (12, .iconst 0, 1, 0, 0, 0), (13, .istore_n 3, 1, 0, 0, 0), (14, .iload_n 3, 1, 0, 0, 0), (15, .aload_n 0, 1, 0, 0, 0), (16, .getfield 7, 3, 8, 0, 0), (19, .iload_n 1, 1, 0, 0, 0), (20, .iaload, 1, 0, 0, 0), (21, .if_icmp .ge (68), 3, 0, 0, 0), (24, .iconst 0, 1, 0, 0, 0), (25, .istore 4, 2, 0, 0, 0), (27, .iconst 0, 1, 0, 0, 0), (28, .istore 5, 2, 0, 0, 0), (30, .iload 5, 2, 0, 0, 0), (32, .aload_n 0, 1, 0, 0, 0), (33, .getfield 7, 3, 8, 0, 0), (36, .iload_n 1, 1, 0, 0, 0), (37, .iaload, 1, 0, 0, 0), (38, .if_icmp .ge (31), 3, 0, 0, 0), (41, .iload 4, 2, 0, 0, 0), (43, .aload_n 0, 1, 0, 0, 0), (44, .iload_n 1, 1, 0, 0, 0), (45, .iload_n 2, 1, 0, 0, 0), (46, .iload 5, 2, 0, 0, 0), (48, .invokevirtual 103, 3, 51, 4, 9), (51, .aload_n 0, 1, 0, 0, 0), (52, .iload_n 1, 1, 0, 0, 0), (53, .iload 5, 2, 0, 0, 0), (55, .iload_n 3, 1, 0, 0, 0), (56, .invokevirtual 103, 3, 51, 4, 9), (59, .imul, 1, 0, 0, 0), (60, .iadd, 1, 0, 0, 0), (61, .istore 4, 2, 0, 0, 0), (63, .iinc 5 (1), 3, 0, 0, 0), (66, .goto (-36), 3, 0, 0, 0), (69, .iload 4, 2, 0, 0, 0), (71, .ifCond .eq (12), 3, 0, 0, 0), (74, .iconst 1, 1, 0, 0, 0), (75, .bipush (16), 2, 0, 0, 0), (77, .iload_n 2, 1, 0, 0, 0), (78, .imul, 1, 0, 0, 0), (79, .iadd, 1, 0, 0, 0), (80, .iload_n 3, 1, 0, 0, 0), (81, .iadd, 1, 0, 0, 0), (82, .ireturn, 1, 0, 0, 0), (83, .iinc 3 (1), 3, 0, 0, 0), (86, .goto (-72), 3, 0, 0, 0), (89, .iinc 2 (1), 3, 0, 0, 0), (92, .goto (-90), 3, 0, 0, 0), (95, .iconst 0, 1, 0, 0, 0), (96, .ireturn, 1, 0, 0, 0)]
def k_M_broken : List mm_E := [(0, .iload_n 1, 1, 0, 0, 0), (1, .invokestatic 85, 3, 47, 1, 0), (4, .ifCond .eq (11), 3, 0, 0, 0), (7, .aload_n 0, 1, 0, 0, 0), (8, .iload_n 1, 1, 0, 0, 0), (9, .invokevirtual 110, 3, 63, 2, 9), (12, .goto (4), 3, 0, 0, 0), (15, .iconst (-1), 1, 0, 0, 0), (16, .ireturn, 1, 0, 0, 0)]
def k_M_mends : List mm_E := [(0, .aload_n 0, 1, 0, 0, 0), (1, .dup, 1, 0, 0, 0), (2, .getfield 114, 3, 8, 9, 0), (5, .iconst 1, 1, 0, 0, 0), (6, .iadd, 1, 0, 0, 0), (7, .putfield 114, 3, 8, 9, 0), (10, .aload_n 0, 1, 0, 0, 0), (11, .iconst 1, 1, 0, 0, 0), (12, .putfield 118, 3, 8, 11, 0), (15, .aload_n 0, 1, 0, 0, 0), (16, .iload_n 1, 1, 0, 0, 0), (17, .iload_n 2, 1, 0, 0, 0), (18, .iload_n 3, 1, 0, 0, 0), (19, .invokevirtual 103, 3, 51, 4, 9), (22, .istore 5, 2, 0, 0, 0), (24, .aload_n 0, 1, 0, 0, 0), (25, .getfield 19, 3, 8, 3, 0), (28, .sipush (144), 3, 0, 0, 0), (31, .iload_n 1, 1, 0, 0, 0), (32, .imul, 1, 0, 0, 0), (33, .bipush (12), 2, 0, 0, 0), (35, .iload_n 2, 1, 0, 0, 0), (36, .imul, 1, 0, 0, 0), (37, .iadd, 1, 0, 0, 0), (38, .iload_n 3, 1, 0, 0, 0), (39, .iadd, 1, 0, 0, 0), (40, .iload 4, 2, 0, 0, 0), (42, .iastore, 1, 0, 0, 0), (43, .aload_n 0, 1, 0, 0, 0), (44, .iload_n 1, 1, 0, 0, 0), (45, .invokevirtual 110, 3, 63, 2, 9), (48, .ifCond .ne (7), 3, 0, 0, 0), (51, .iconst 1, 1, 0, 0, 0), (52, .goto (4), 3, 0, 0, 0), (55, .iconst 0, 1, 0, 0, 0), (56, .istore 6, 2, 0, 0, 0), (58, .aload_n 0, 1, 0, 0, 0), (59, .getfield 19, 3, 8, 3, 0), (62, .sipush (144), 3, 0, 0, 0), (65, .iload_n 1, 1, 0, 0, 0), (66, .imul, 1, 0, 0, 0), (67, .bipush (12), 2, 0, 0, 0), (69, .iload_n 2, 1, 0, 0, 0), (70, .imul, 1, 0, 0, 0), (71, .iadd, 1, 0, 0, 0), (72, .iload_n 3, 1, 0, 0, 0), (73, .iadd, 1, 0, 0, 0), (74, .iload 5, 2, 0, 0, 0), (76, .iastore, 1, 0, 0, 0), (77, .aload_n 0, 1, 0, 0, 0), (78, .dup, 1, 0, 0, 0), (79, .getfield 121, 3, 8, 10, 0), (82, .iconst 1, 1, 0, 0, 0), (83, .iadd, 1, 0, 0, 0), (84, .putfield 121, 3, 8, 10, 0), (87, .iload 6, 2, 0, 0, 0), (89, .ireturn, 1, 1, 0, 0)]
def k_M_mend : List mm_E := [(0, .iload_n 1, 1, 0, 0, 0), (1, .invokestatic 85, 3, 47, 1, 0), (4, .ifCond .ne (5), 3, 0, 0, 0), (7, .iconst (-1), 1, 0, 0, 0), (8, .ireturn, 1, 0, 0, 0), (9, .aload_n 0, 1, 0, 0, 0), (10, .iconst 0, 1, 0, 0, 0), (11, .putfield 114, 3, 8, 9, 0), (14, .aload_n 0, 1, 0, 0, 0), (15, .iconst 0, 1, 0, 0, 0), (16, .putfield 121, 3, 8, 10, 0), (19, .aload_n 0, 1, 0, 0, 0), (20, .iconst 0, 1, 0, 0, 0), (21, .putfield 118, 3, 8, 11, 0), (24, .aload_n 0, 1, 0, 0, 0), (25, .iload_n 1, 1, 0, 0, 0), (26, .invokevirtual 110, 3, 63, 2, 9), (29, .ifCond .eq (7), 3, 0, 0, 0), (32, .iconst 1, 1, 0, 0, 0), (33, .goto (4), 3, 0, 0, 0), (36, .iconst 0, 1, 0, 0, 0), (37, .istore_n 2, 1, 0, 0, 0), (38, .iconst 0, 1, 0, 0, 0), (39, .istore_n 3, 1, 0, 0, 0), (40, .iload_n 3, 1, 0, 0, 0), (41, .aload_n 0, 1, 0, 0, 0), (42, .getfield 7, 3, 8, 0, 0), (45, .iload_n 1, 1, 0, 0, 0), (46, .iaload, 1, 0, 0, 0), (47, .if_icmp .ge (92), 3, 0, 0, 0), (50, .iload_n 2, 1, 0, 0, 0), (51, .ifCond .eq (88), 3, 0, 0, 0), (54, .iconst 0, 1, 0, 0, 0), (55, .istore 4, 2, 0, 0, 0), (57, .iload 4, 2, 0, 0, 0), (59, .aload_n 0, 1, 0, 0, 0), (60, .getfield 7, 3, 8, 0, 0), (63, .iload_n 1, 1, 0, 0, 0), (64, .iaload, 1, 0, 0, 0), (65, .if_icmp .ge (68), 3, 0, 0, 0), (68, .bipush (-9), 2, 0, 0, 0), (70, .istore 5, 2, 0, 0, 0), (72, .iload 5, 2, 0, 0, 0), (74, .bipush (10), 2, 0, 0, 0), (76, .if_icmp .ge (51), 3, 0, 0, 0), (79, .aload_n 0, 1, 0, 0, 0), (80, .iload_n 1, 1, 0, 0, 0), (81, .iload_n 3, 1, 0, 0, 0), (82, .iload 4, 2, 0, 0, 0), (84, .invokevirtual 100, 3, 52, 4, 9), (87, .ifCond .eq (40), 3, 0, 0, 0), (90, .aload_n 0, 1, 0, 0, 0), (91, .iload_n 1, 1, 0, 0, 0), (92, .iload_n 3, 1, 0, 0, 0), (93, .iload 4, 2, 0, 0, 0), (95, .iload 5, 2, 0, 0, 0), (97, .invokevirtual 124, 3, 65, 5, 9), (100, .ifCond .eq (21), 3, 0, 0, 0), (103, .sipush (400), 3, 0, 0, 0), (106, .iload_n 3, 1, 0, 0, 0), (107, .imul, 1, 0, 0, 0), (108, .bipush (20), 2, 0, 0, 0), (110, .iload 4, 2, 0, 0, 0), (112, .imul, 1, 0, 0, 0), (113, .iadd, 1, 0, 0, 0), (114, .bipush (9), 2, 0, 0, 0), (116, .iadd, 1, 0, 0, 0), (117, .iload 5, 2, 0, 0, 0), (119, .iadd, 1, 0, 0, 0), (120, .ireturn, 1, 0, 0, 0), (121, .iinc 5 (1), 3, 0, 0, 0), (124, .goto (-52), 3, 0, 0, 0), (127, .iinc 4 (1), 3, 0, 0, 0), (130, .goto (-73), 3, 0, 0, 0), (133, .iinc 3 (1), 3, 0, 0, 0), (136, .goto (-96), 3, 0, 0, 0), (139, .bipush (-3), 2, 0, 0, 0), (141, .ireturn, 1, 0, 0, 0)]
def k_M_would : List mm_E := [(0, .aload_n 0, 1, 0, 0, 0), (1, .iload_n 1, 1, 0, 0, 0), (2, .iload_n 2, 1, 0, 0, 0), (3, .iload_n 3, 1, 0, 0, 0), (4, .invokevirtual 97, 3, 58, 4, 9), (7, .ifCond .eq (43), 3, 0, 0, 0), (10, .aload_n 0, 1, 0, 0, 0), (11, .iload_n 1, 1, 0, 0, 0), (12, .iload_n 2, 1, 0, 0, 0), (13, .iload_n 3, 1, 0, 0, 0), (14, .invokevirtual 100, 3, 52, 4, 9), (17, .ifCond .eq (33), 3, 0, 0, 0), (20, .iload 4, 2, 0, 0, 0), (22, .bipush (-9), 2, 0, 0, 0), (24, .bipush (9), 2, 0, 0, 0), (26, .invokestatic 69, 3, 46, 3, 0), (29, .ifCond .eq (21), 3, 0, 0, 0), (32, .iload 5, 2, 0, 0, 0), (34, .invokestatic 128, 3, 69, 1, 0), (37, .ifCond .eq (13), 3, 0, 0, 0), (40, .iload 6, 2, 0, 0, 0), (42, .iconst 0, 1, 0, 0, 0), (43, .iconst 4, 1, 0, 0, 0), (44, .invokestatic 69, 3, 46, 3, 0), (47, .ifCond .ne (5), 3, 0, 0, 0), (50, .iconst (-1), 1, 0, 0, 0), (51, .ireturn, 1, 0, 0, 0), (52, .aload_n 0, 1, 0, 0, 0), (53, .iconst 1, 1, 0, 0, 0), (54, .putfield 114, 3, 8, 9, 0), (57, .aload_n 0, 1, 0, 0, 0), (58, .iconst 1, 1, 0, 0, 0), (59, .putfield 121, 3, 8, 10, 0), (62, .aload_n 0, 1, 0, 0, 0), (63, .iconst 1, 1, 0, 0, 0), (64, .putfield 118, 3, 8, 11, 0), (67, .aload_n 0, 1, 0, 0, 0), (68, .iload_n 1, 1, 0, 0, 0), (69, .iload_n 2, 1, 0, 0, 0), (70, .iload_n 3, 1, 0, 0, 0), (71, .invokevirtual 103, 3, 51, 4, 9), (74, .istore 7, 2, 0, 0, 0), (76, .aload_n 0, 1, 0, 0, 0), (77, .getfield 19, 3, 8, 3, 0), (80, .sipush (144), 3, 0, 0, 0), (83, .iload_n 1, 1, 0, 0, 0), (84, .imul, 1, 0, 0, 0), (85, .bipush (12), 2, 0, 0, 0), (87, .iload_n 2, 1, 0, 0, 0), (88, .imul, 1, 0, 0, 0), (89, .iadd, 1, 0, 0, 0), (90, .iload_n 3, 1, 0, 0, 0), (91, .iadd, 1, 0, 0, 0), (92, .iload 4, 2, 0, 0, 0), (94, .iastore, 1, 0, 0, 0), (95, .aload_n 0, 1, 0, 0, 0), (96, .iload_n 1, 1, 0, 0, 0), (97, .invokevirtual 110, 3, 63, 2, 9), (100, .ifCond .eq (8), 3, 0, 0, 0), (103, .bipush (-4), 2, 0, 0, 0), (105, .goto (12), 3, 0, 0, 0), (108, .aload_n 0, 1, 0, 0, 0), (109, .iload_n 1, 1, 0, 0, 0), (110, .iload 5, 2, 0, 0, 0), (112, .iload 6, 2, 0, 0, 0), (114, .invokevirtual 131, 3, 84, 4, 9), (117, .istore 8, 2, 0, 0, 0), (119, .aload_n 0, 1, 0, 0, 0), (120, .getfield 19, 3, 8, 3, 0), (123, .sipush (144), 3, 0, 0, 0), (126, .iload_n 1, 1, 0, 0, 0), (127, .imul, 1, 0, 0, 0), (128, .bipush (12), 2, 0, 0, 0), (130, .iload_n 2, 1, 0, 0, 0), (131, .imul, 1, 0, 0, 0), (132, .iadd, 1, 0, 0, 0), (133, .iload_n 3, 1, 0, 0, 0), (134, .iadd, 1, 0, 0, 0), (135, .iload 7, 2, 0, 0, 0), (137, .iastore, 1, 0, 0, 0), (138, .iload 8, 2, 0, 0, 0), (140, .ireturn, 1, 0, 0, 0)]
def k_M_trials : List mm_E := [(0, .iload_n 1, 1, 0, 0, 0), (1, .ifCond .ne (10), 3, 0, 0, 0), (4, .aload_n 0, 1, 0, 0, 0), (5, .getfield 114, 3, 8, 9, 0), (8, .goto (28), 3, 0, 0, 0), (11, .iload_n 1, 1, 0, 0, 0), (12, .iconst 1, 1, 0, 0, 0), (13, .if_icmp .ne (10), 3, 0, 0, 0), (16, .aload_n 0, 1, 0, 0, 0), (17, .getfield 121, 3, 8, 10, 0), (20, .goto (16), 3, 0, 0, 0), (23, .iload_n 1, 1, 0, 0, 0), (24, .iconst 2, 1, 0, 0, 0), (25, .if_icmp .ne (10), 3, 0, 0, 0), (28, .aload_n 0, 1, 0, 0, 0), (29, .getfield 118, 3, 8, 11, 0), (32, .goto (4), 3, 0, 0, 0), (35, .iconst (-1), 1, 0, 0, 0), (36, .ireturn, 1, 0, 0, 0)]
def k_M_isPrime : List mm_E := [(0, .iload_n 0, 1, 0, 0, 0), (1, .iconst 2, 1, 0, 0, 0), (2, .if_icmp .eq (19), 3, 0, 0, 0), (5, .iload_n 0, 1, 0, 0, 0), (6, .iconst 3, 1, 0, 0, 0), (7, .if_icmp .eq (14), 3, 0, 0, 0), (10, .iload_n 0, 1, 0, 0, 0), (11, .iconst 5, 1, 0, 0, 0), (12, .if_icmp .eq (9), 3, 0, 0, 0), (15, .iload_n 0, 1, 0, 0, 0), (16, .bipush (7), 2, 0, 0, 0), (18, .if_icmp .ne (7), 3, 0, 0, 0), (21, .iconst 1, 1, 0, 0, 0), (22, .goto (4), 3, 0, 0, 0), (25, .iconst 0, 1, 0, 0, 0), (26, .ireturn, 1, 1, 0, 0)]
def k_M_isBefore : List mm_E := [(0, .aload_n 0, 1, 0, 0, 0), (1, .iload_n 1, 1, 0, 0, 0), (2, .iload_n 2, 1, 0, 0, 0), (3, .iload_n 3, 1, 0, 0, 0), (4, .invokevirtual 77, 3, 50, 4, 9), (7, .aload_n 0, 1, 0, 0, 0), (8, .iload_n 1, 1, 0, 0, 0), (9, .iload_n 2, 1, 0, 0, 0), (10, .iload 4, 2, 0, 0, 0), (12, .invokevirtual 77, 3, 50, 4, 9), (15, .if_icmp .eq (27), 3, 0, 0, 0), (18, .aload_n 0, 1, 0, 0, 0), (19, .iload_n 1, 1, 0, 0, 0), (20, .iload_n 2, 1, 0, 0, 0), (21, .iload_n 3, 1, 0, 0, 0), (22, .invokevirtual 77, 3, 50, 4, 9), (25, .aload_n 0, 1, 0, 0, 0), (26, .iload_n 1, 1, 0, 0, 0), (27, .iload_n 2, 1, 0, 0, 0), (28, .iload 4, 2, 0, 0, 0), (30, .invokevirtual 77, 3, 50, 4, 9), (33, .if_icmp .ge (7), 3, 0, 0, 0), (36, .iconst 1, 1, 0, 0, 0), (37, .goto (4), 3, 0, 0, 0), (40, .iconst 0, 1, 0, 0, 0), (41, .ireturn, 1, 1, 0, 0), (42, .aload_n 0, 1, 0, 0, 0), (43, .iload_n 1, 1, 0, 0, 0), (44, .iload_n 3, 1, 0, 0, 0), (45, .invokevirtual 73, 3, 49, 3, 9), (48, .aload_n 0, 1, 0, 0, 0), (49, .iload_n 1, 1, 0, 0, 0), (50, .iload 4, 2, 0, 0, 0), (52, .invokevirtual 73, 3, 49, 3, 9), (55, .if_icmp .eq (27), 3, 0, 0, 0), (58, .aload_n 0, 1, 0, 0, 0), (59, .iload_n 1, 1, 0, 0, 0), (60, .iload_n 3, 1, 0, 0, 0), (61, .invokevirtual 73, 3, 49, 3, 9), (64, .aload_n 0, 1, 0, 0, 0), (65, .iload_n 1, 1, 0, 0, 0), (66, .iload 4, 2, 0, 0, 0), (68, .invokevirtual 73, 3, 49, 3, 9), (71, .if_icmp .ge (7), 3, 0, 0, 0), (74, .iconst 1, 1, 0, 0, 0), (75, .goto (18), 3, 0, 0, 0), (78, .iconst 0, 1, 0, 0, 0), (79, .goto (14), 3, 0, 0, 0), (82, .iload_n 3, 1, 0, 0, 0), (83, .iload 4, 2, 0, 0, 0), (85, .if_icmp .ge (7), 3, 0, 0, 0), (88, .iconst 1, 1, 0, 0, 0), (89, .goto (4), 3, 0, 0, 0), (92, .iconst 0, 1, 0, 0, 0), (93, .ireturn, 1, 1, 0, 0)]
def k_M_findOrder : List mm_E := [(0, .iconst 0, 1, 0, 0, 0), (1, .istore_n 3, 1, 0, 0, 0), (2, .iload_n 3, 1, 0, 0, 0), (3, .aload_n 0, 1, 0, 0, 0), (4, .getfield 7, 3, 8, 0, 0), (7, .iload_n 1, 1, 0, 0, 0), (8, .iaload, 1, 0, 0, 0), (9, .if_icmp .ge (68), 3, 0, 0, 0), (12, .iconst 0, 1, 0, 0, 0), (13, .istore 4, 2, 0, 0, 0), (15, .iconst 0, 1, 0, 0, 0), (16, .istore 5, 2, 0, 0, 0), (18, .iload 5, 2, 0, 0, 0), (20, .aload_n 0, 1, 0, 0, 0), (21, .getfield 7, 3, 8, 0, 0), (24, .iload_n 1, 1, 0, 0, 0), (25, .iaload, 1, 0, 0, 0), (26, .if_icmp .ge (37), 3, 0, 0, 0), (29, .iload 4, 2, 0, 0, 0), (31, .iload 5, 2, 0, 0, 0), (33, .iload_n 3, 1, 0, 0, 0), (34, .if_icmp .eq (19), 3, 0, 0, 0), (37, .aload_n 0, 1, 0, 0, 0), (38, .iload_n 1, 1, 0, 0, 0), (39, .iload_n 2, 1, 0, 0, 0), (40, .iload 5, 2, 0, 0, 0), (42, .iload_n 3, 1, 0, 0, 0), (43, .invokevirtual 134, 3, 70, 5, 9), (46, .ifCond .eq (7), 3, 0, 0, 0), (49, .iconst 1, 1, 0, 0, 0), (50, .goto (4), 3, 0, 0, 0), (53, .iconst 0, 1, 0, 0, 0), (54, .iadd, 1, 0, 0, 0), (55, .istore 4, 2, 0, 0, 0), (57, .iinc 5 (1), 3, 0, 0, 0), (60, .goto (-42), 3, 0, 0, 0), (63, .aload_n 0, 1, 0, 0, 0), (64, .getfield 40, 3, 8, 14, 0), (67, .iload 4, 2, 0, 0, 0), (69, .iload_n 3, 1, 0, 0, 0), (70, .iastore, 1, 0, 0, 0), (71, .iinc 3 (1), 3, 0, 0, 0), (74, .goto (-72), 3, 0, 0, 0), (77, .return_, 1, 0, 0, 0)]
def k_M_lastOf : List mm_E := [(0, .iconst (-1), 1, 0, 0, 0), (1, .istore_n 3, 1, 0, 0, 0), (2, .iconst 0, 1, 0, 0, 0), (3, .istore 4, 2, 0, 0, 0), (5, .iload 4, 2, 0, 0, 0), (7, .aload_n 0, 1, 0, 0, 0), (8, .getfield 7, 3, 8, 0, 0), (11, .iload_n 1, 1, 0, 0, 0), (12, .iaload, 1, 0, 0, 0), (13, .if_icmp .ge (41), 3, 0, 0, 0), (16, .aload_n 0, 1, 0, 0, 0), (17, .getfield 34, 3, 8, 12, 0), (20, .bipush (12), 2, 0, 0, 0), (22, .iload_n 2, 1, 0, 0, 0), (23, .imul, 1, 0, 0, 0), (24, .aload_n 0, 1, 0, 0, 0), (25, .getfield 40, 3, 8, 14, 0), (28, .iload 4, 2, 0, 0, 0), (30, .iaload, 1, 0, 0, 0), (31, .iadd, 1, 0, 0, 0), (32, .iaload, 1, 0, 0, 0), (33, .ifCond .eq (13), 3, 0, 0, 0), (36, .aload_n 0, 1, 0, 0, 0), (37, .getfield 40, 3, 8, 14, 0), (40, .iload 4, 2, 0, 0, 0), (42, .iaload, 1, 0, 0, 0), (43, .goto (4), 3, 0, 0, 0), (46, .iload_n 3, 1, 0, 0, 0), (47, .istore_n 3, 1, 0, 0, 0), (48, .iinc 4 (1), 3, 0, 0, 0), (51, .goto (-46), 3, 0, 0, 0), (54, .iload_n 3, 1, 0, 0, 0), (55, .ireturn, 1, 0, 0, 0)]
def k_M_inverse : List mm_E := [(0, .iconst 1, 1, 0, 0, 0), (1, .istore_n 2, 1, 0, 0, 0), (2, .iload_n 2, 1, 0, 0, 0), (3, .iload_n 0, 1, 0, 0, 0), (4, .imul, 1, 0, 0, 0), (5, .iload_n 1, 1, 0, 0, 0), (6, .irem, 1, 0, 0, 0), (7, .iconst 1, 1, 0, 0, 0), (8, .if_icmp .eq (9), 3, 0, 0, 0), (11, .iinc 2 (1), 3, 0, 0, 0), (14, .goto (-12), 3, 0, 0, 0), (17, .iload_n 2, 1, 0, 0, 0), (18, .ireturn, 1, 0, 0, 0)]
def k_M_reduces : List mm_E := [(0, .aload_n 0, 1, 0, 0, 0), (1, .iload_n 1, 1, 0, 0, 0), (2, .iload_n 2, 1, 0, 0, 0), (3, .invokevirtual 137, 3, 71, 3, 9), (6, .iconst 0, 1, 0, 0, 0), (7, .istore 4, 2, 0, 0, 0), (9, .iload 4, 2, 0, 0, 0), (11, .sipush (144), 3, 0, 0, 0), (14, .if_icmp .ge (35), 3, 0, 0, 0), (17, .aload_n 0, 1, 0, 0, 0), (18, .getfield 34, 3, 8, 12, 0), (21, .iload 4, 2, 0, 0, 0), (23, .aload_n 0, 1, 0, 0, 0), (24, .getfield 19, 3, 8, 3, 0), (27, .sipush (144), 3, 0, 0, 0), (30, .iload_n 1, 1, 0, 0, 0), (31, .imul, 1, 0, 0, 0), (32, .iload 4, 2, 0, 0, 0), (34, .iadd, 1, 0, 0, 0), (35, .iaload, 1, 0, 0, 0), (36, .iload_n 3, 1, 0, 0, 0), (37, .irem, 1, 0, 0, 0), (38, .iload_n 3, 1, 0, 0, 0), (39, .iadd, 1, 0, 0, 0), (40, .iload_n 3, 1, 0, 0, 0), (41, .irem, 1, 0, 0, 0), (42, .iastore, 1, 0, 0, 0), (43, .iinc 4 (1), 3, 0, 0, 0), (46, .goto (-37), 3, 0, 0, 0), (49, .iconst 0, 1, 0, 0, 0), (50, .istore 4, 2, 0, 0, 0), (52, .iload 4, 2, 0, 0, 0), (54, .bipush (12), 2, 0, 0, 0), (56, .if_icmp .ge (17), 3, 0, 0, 0), (59, .aload_n 0, 1, 0, 0, 0), (60, .getfield 37, 3, 8, 13, 0), (63, .iload 4, 2, 0, 0, 0), (65, .iconst (-1), 1, 0, 0, 0), (66, .iastore, 1, 0, 0, 0), (67, .iinc 4 (1), 3, 0, 0, 0), (70, .goto (-18), 3, 0, 0, 0), (73, .iconst 0, 1, 0, 0, 0), (74, .istore 4, 2, 0, 0, 0), (76, .iload 4, 2, 0, 0, 0), (78, .aload_n 0, 1, 0, 0, 0), (79, .getfield 7, 3, 8, 0, 0), (82, .iload_n 1, 1, 0, 0, 0), (83, .iaload, 1, 0, 0, 0), (84, .if_icmp .ge (188), 3, 0, 0, 0), (87, .aload_n 0, 1, 0, 0, 0), (88, .getfield 40, 3, 8, 14, 0), (91, .iload 4, 2, 0, 0, 0), (93, .iaload, 1, 0, 0, 0), (94, .istore 5, 2, 0, 0, 0), (96, .aload_n 0, 1, 0, 0, 0), (97, .iload_n 1, 1, 0, 0, 0), (98, .iload 5, 2, 0, 0, 0), (100, .invokevirtual 141, 3, 72, 3, 9), (103, .istore 6, 2, 0, 0, 0), (105, .iload 6, 2, 0, 0, 0), (107, .ifCond .lt (136), 3, 0, 0, 0), (110, .aload_n 0, 1, 0, 0, 0), (111, .getfield 37, 3, 8, 13, 0), (114, .iload 6, 2, 0, 0, 0), (116, .iaload, 1, 0, 0, 0), (117, .ifCond .lt (126), 3, 0, 0, 0), (120, .aload_n 0, 1, 0, 0, 0), (121, .getfield 37, 3, 8, 13, 0), (124, .iload 6, 2, 0, 0, 0), (126, .iaload, 1, 0, 0, 0), (127, .istore 7, 2, 0, 0, 0), (129, .aload_n 0, 1, 0, 0, 0), (130, .getfield 34, 3, 8, 12, 0), (133, .bipush (12), 2, 0, 0, 0), (135, .iload 5, 2, 0, 0, 0), (137, .imul, 1, 0, 0, 0), (138, .iload 6, 2, 0, 0, 0), (140, .iadd, 1, 0, 0, 0), (141, .iaload, 1, 0, 0, 0), (142, .aload_n 0, 1, 0, 0, 0), (143, .getfield 34, 3, 8, 12, 0), (146, .bipush (12), 2, 0, 0, 0), (148, .iload 7, 2, 0, 0, 0), (150, .imul, 1, 0, 0, 0), (151, .iload 6, 2, 0, 0, 0), (153, .iadd, 1, 0, 0, 0), (154, .iaload, 1, 0, 0, 0), (155, .iload_n 3, 1, 0, 0, 0), (156, .invokestatic 144, 3, 73, 2, 0), (159, .imul, 1, 0, 0, 0), (160, .iload_n 3, 1, 0, 0, 0), (161, .irem, 1, 0, 0, 0), (162, .istore 8, 2, 0, 0, 0), (164, .iconst 0, 1, 0, 0, 0), (165, .istore 9, 2, 0, 0, 0), (167, .iload 9, 2, 0, 0, 0), (169, .aload_n 0, 1, 0, 0, 0), (170, .getfield 7, 3, 8, 0, 0), (173, .iload_n 1, 1, 0, 0, 0), (174, .iaload, 1, 0, 0, 0), (175, .if_icmp .ge (56), 3, 0, 0, 0), (178, .aload_n 0, 1, 0, 0, 0), (179, .getfield 34, 3, 8, 12, 0), (182, .bipush (12), 2, 0, 0, 0), (184, .iload 5, 2, 0, 0, 0), (186, .imul, 1, 0, 0, 0), (187, .iload 9, 2, 0, 0, 0), (189, .iadd, 1, 0, 0, 0), (190, .aload_n 0, 1, 0, 0, 0), (191, .getfield 34, 3, 8, 12, 0), (194, .bipush (12), 2, 0, 0, 0), (196, .iload 5, 2, 0, 0, 0), (198, .imul, 1, 0, 0, 0), (199, .iload 9, 2, 0, 0, 0), (201, .iadd, 1, 0, 0, 0), (202, .iaload, 1, 0, 0, 0), (203, .iload_n 3, 1, 0, 0, 0), (204, .iload 8, 2, 0, 0, 0), (206, .isub, 1, 0, 0, 0), (207, .aload_n 0, 1, 0, 0, 0), (208, .getfield 34, 3, 8, 12, 0), (211, .bipush (12), 2, 0, 0, 0), (213, .iload 7, 2, 0, 0, 0), (215, .imul, 1, 0, 0, 0), (216, .iload 9, 2, 0, 0, 0), (218, .iadd, 1, 0, 0, 0), (219, .iaload, 1, 0, 0, 0), (220, .imul, 1, 0, 0, 0), (221, .iadd, 1, 0, 0, 0), (222, .iload_n 3, 1, 0, 0, 0), (223, .irem, 1, 0, 0, 0), (224, .iastore, 1, 0, 0, 0), (225, .iinc 9 (1), 3, 0, 0, 0), (228, .goto (-61), 3, 0, 0, 0), (231, .aload_n 0, 1, 0, 0, 0), (232, .iload_n 1, 1, 0, 0, 0), (233, .iload 5, 2, 0, 0, 0), (235, .invokevirtual 141, 3, 72, 3, 9), (238, .istore 6, 2, 0, 0, 0), (240, .goto (-135), 3, 0, 0, 0), (243, .iload 6, 2, 0, 0, 0), (245, .ifCond .lt (21), 3, 0, 0, 0), (248, .aload_n 0, 1, 0, 0, 0), (249, .getfield 37, 3, 8, 13, 0), (252, .iload 6, 2, 0, 0, 0), (254, .iload 5, 2, 0, 0, 0), (256, .iastore, 1, 0, 0, 0), (257, .aload_n 0, 1, 0, 0, 0), (258, .getfield 37, 3, 8, 13, 0), (261, .iload 5, 2, 0, 0, 0), (263, .iload 6, 2, 0, 0, 0), (265, .iastore, 1, 0, 0, 0), (266, .iinc 4 (1), 3, 0, 0, 0), (269, .goto (-193), 3, 0, 0, 0), (272, .return_, 1, 0, 0, 0)]
def k_M_isAsked : List mm_E := [(0, .iload_n 0, 1, 0, 0, 0), (1, .iconst 0, 1, 0, 0, 0), (2, .iconst 1, 1, 0, 0, 0), (3, .invokestatic 69, 3, 46, 3, 0), (6, .ifCond .eq (14), 3, 0, 0, 0), (9, .iload_n 1, 1, 0, 0, 0), (10, .invokestatic 128, 3, 69, 1, 0), (13, .ifCond .eq (7), 3, 0, 0, 0), (16, .iconst 1, 1, 0, 0, 0), (17, .goto (4), 3, 0, 0, 0), (20, .iconst 0, 1, 0, 0, 0), (21, .ireturn, 1, 1, 0, 0)]
def k_M_goes : List mm_E := [(0, .iload_n 1, 1, 0, 0, 0), (1, .invokestatic 85, 3, 47, 1, 0), (4, .ifCond .eq (21), 3, 0, 0, 0), (7, .iload_n 2, 1, 0, 0, 0), (8, .iload_n 3, 1, 0, 0, 0), (9, .invokestatic 147, 3, 75, 2, 0), (12, .ifCond .eq (13), 3, 0, 0, 0), (15, .aload_n 0, 1, 0, 0, 0), (16, .iload_n 1, 1, 0, 0, 0), (17, .iload 4, 2, 0, 0, 0), (19, .invokevirtual 93, 3, 48, 3, 9), (22, .ifCond .ne (5), 3, 0, 0, 0), (25, .iconst (-1), 1, 0, 0, 0), (26, .ireturn, 1, 0, 0, 0), (27, .aload_n 0, 1, 0, 0, 0), (28, .iload_n 1, 1, 0, 0, 0), (29, .invokevirtual 110, 3, 63, 2, 9), (32, .ifCond .eq (6), 3, 0, 0, 0), (35, .bipush (-4), 2, 0, 0, 0), (37, .ireturn, 1, 0, 0, 0), (38, .aload_n 0, 1, 0, 0, 0), (39, .iload_n 1, 1, 0, 0, 0), (40, .iload_n 2, 1, 0, 0, 0), (41, .iload_n 3, 1, 0, 0, 0), (42, .invokevirtual 150, 3, 74, 4, 9), (45, .aload_n 0, 1, 0, 0, 0), (46, .getfield 37, 3, 8, 13, 0), (49, .iload 4, 2, 0, 0, 0), (51, .iaload, 1, 0, 0, 0), (52, .ifCond .ge (8), 3, 0, 0, 0), (55, .bipush (-3), 2, 0, 0, 0), (57, .goto (10), 3, 0, 0, 0), (60, .aload_n 0, 1, 0, 0, 0), (61, .getfield 37, 3, 8, 13, 0), (64, .iload 4, 2, 0, 0, 0), (66, .iaload, 1, 0, 0, 0), (67, .ireturn, 1, 0, 0, 0)]
def k_M_reduced : List mm_E := [(0, .aload_n 0, 1, 0, 0, 0), (1, .iload_n 1, 1, 0, 0, 0), (2, .iload 4, 2, 0, 0, 0), (4, .iload 5, 2, 0, 0, 0), (6, .invokevirtual 97, 3, 58, 4, 9), (9, .ifCond .eq (11), 3, 0, 0, 0), (12, .iload_n 2, 1, 0, 0, 0), (13, .iload_n 3, 1, 0, 0, 0), (14, .invokestatic 147, 3, 75, 2, 0), (17, .ifCond .ne (5), 3, 0, 0, 0), (20, .iconst (-1), 1, 0, 0, 0), (21, .ireturn, 1, 0, 0, 0), (22, .aload_n 0, 1, 0, 0, 0), (23, .iload_n 1, 1, 0, 0, 0), (24, .invokevirtual 110, 3, 63, 2, 9), (27, .ifCond .eq (6), 3, 0, 0, 0), (30, .bipush (-4), 2, 0, 0, 0), (32, .ireturn, 1, 0, 0, 0), (33, .aload_n 0, 1, 0, 0, 0), (34, .iload_n 1, 1, 0, 0, 0), (35, .iload_n 2, 1, 0, 0, 0), (36, .iload_n 3, 1, 0, 0, 0), (37, .invokevirtual 150, 3, 74, 4, 9), (40, .aload_n 0, 1, 0, 0, 0), (41, .getfield 34, 3, 8, 12, 0), (44, .bipush (12), 2, 0, 0, 0), (46, .iload 4, 2, 0, 0, 0), (48, .imul, 1, 0, 0, 0), (49, .iload 5, 2, 0, 0, 0), (51, .iadd, 1, 0, 0, 0), (52, .iaload, 1, 0, 0, 0), (53, .ireturn, 1, 0, 0, 0)]
def k_M_gap : List mm_E := [(0, .aload_n 0, 1, 0, 0, 0), (1, .iload_n 1, 1, 0, 0, 0), (2, .iload_n 2, 1, 0, 0, 0), (3, .iload_n 3, 1, 0, 0, 0), (4, .invokevirtual 77, 3, 50, 4, 9), (7, .aload_n 0, 1, 0, 0, 0), (8, .iload_n 1, 1, 0, 0, 0), (9, .iload_n 2, 1, 0, 0, 0), (10, .aload_n 0, 1, 0, 0, 0), (11, .getfield 37, 3, 8, 13, 0), (14, .iload_n 3, 1, 0, 0, 0), (15, .iaload, 1, 0, 0, 0), (16, .invokevirtual 77, 3, 50, 4, 9), (19, .isub, 1, 0, 0, 0), (20, .istore 4, 2, 0, 0, 0), (22, .iload 4, 2, 0, 0, 0), (24, .ifCond .ge (9), 3, 0, 0, 0), (27, .iload 4, 2, 0, 0, 0), (29, .ineg, 1, 0, 0, 0), (30, .goto (5), 3, 0, 0, 0), (33, .iload 4, 2, 0, 0, 0), (35, .ireturn, 1, 0, 0, 0)]
def k_M_counts : List mm_E := [(0, .iconst 0, 1, 0, 0, 0), (1, .istore 7, 2, 0, 0, 0), (3, .iconst 0, 1, 0, 0, 0), (4, .istore 8, 2, 0, 0, 0), (6, .iload 8, 2, 0, 0, 0), (8, .aload_n 0, 1, 0, 0, 0), (9, .getfield 7, 3, 8, 0, 0), (12, .iload_n 1, 1, 0, 0, 0), (13, .iaload, 1, 0, 0, 0), (14, .if_icmp .ge (142), 3, 0, 0, 0), (17, .aload_n 0, 1, 0, 0, 0), (18, .iload_n 1, 1, 0, 0, 0), (19, .iload_n 2, 1, 0, 0, 0), (20, .iload 8, 2, 0, 0, 0), (22, .invokevirtual 77, 3, 50, 4, 9), (25, .iload 4, 2, 0, 0, 0), (27, .if_icmp .ne (19), 3, 0, 0, 0), (30, .aload_n 0, 1, 0, 0, 0), (31, .iload_n 1, 1, 0, 0, 0), (32, .iload 8, 2, 0, 0, 0), (34, .invokevirtual 73, 3, 49, 3, 9), (37, .iload 5, 2, 0, 0, 0), (39, .if_icmp .ne (7), 3, 0, 0, 0), (42, .iconst 1, 1, 0, 0, 0), (43, .goto (4), 3, 0, 0, 0), (46, .iconst 0, 1, 0, 0, 0), (47, .istore 9, 2, 0, 0, 0), (49, .iload 6, 2, 0, 0, 0), (51, .ifCond .eq (50), 3, 0, 0, 0), (54, .iload 9, 2, 0, 0, 0), (56, .ifCond .eq (39), 3, 0, 0, 0), (59, .aload_n 0, 1, 0, 0, 0), (60, .getfield 37, 3, 8, 13, 0), (63, .iload 8, 2, 0, 0, 0), (65, .iaload, 1, 0, 0, 0), (66, .ifCond .lt (29), 3, 0, 0, 0), (69, .aload_n 0, 1, 0, 0, 0), (70, .iload_n 1, 1, 0, 0, 0), (71, .iload 8, 2, 0, 0, 0), (73, .invokevirtual 141, 3, 72, 3, 9), (76, .ifCond .lt (19), 3, 0, 0, 0), (79, .aload_n 0, 1, 0, 0, 0), (80, .iload_n 1, 1, 0, 0, 0), (81, .iload_n 2, 1, 0, 0, 0), (82, .iload 8, 2, 0, 0, 0), (84, .invokevirtual 154, 3, 78, 4, 9), (87, .iload_n 3, 1, 0, 0, 0), (88, .if_icmp .ne (7), 3, 0, 0, 0), (91, .iconst 1, 1, 0, 0, 0), (92, .goto (4), 3, 0, 0, 0), (95, .iconst 0, 1, 0, 0, 0), (96, .istore 9, 2, 0, 0, 0), (98, .goto (37), 3, 0, 0, 0), (101, .iload 9, 2, 0, 0, 0), (103, .ifCond .eq (29), 3, 0, 0, 0), (106, .aload_n 0, 1, 0, 0, 0), (107, .getfield 37, 3, 8, 13, 0), (110, .iload 8, 2, 0, 0, 0), (112, .iaload, 1, 0, 0, 0), (113, .ifCond .lt (15), 3, 0, 0, 0), (116, .aload_n 0, 1, 0, 0, 0), (117, .iload_n 1, 1, 0, 0, 0), (118, .iload_n 2, 1, 0, 0, 0), (119, .iload 8, 2, 0, 0, 0), (121, .invokevirtual 154, 3, 78, 4, 9), (124, .iload_n 3, 1, 0, 0, 0), (125, .if_icmp .lt (7), 3, 0, 0, 0), (128, .iconst 1, 1, 0, 0, 0), (129, .goto (4), 3, 0, 0, 0), (132, .iconst 0, 1, 0, 0, 0), (133, .istore 9, 2, 0, 0, 0), (135, .iload 7, 2, 0, 0, 0), (137, .iload 9, 2, 0, 0, 0), (139, .ifCond .eq (7), 3, 0, 0, 0), (142, .iconst 1, 1, 0, 0, 0), (143, .goto (4), 3, 0, 0, 0), (146, .iconst 0, 1, 0, 0, 0), (147, .iadd, 1, 0, 0, 0), (148, .istore 7, 2, 0, 0, 0), (150, .iinc 8 (1), 3, 0, 0, 0), (153, .goto (-147), 3, 0, 0, 0), (156, .iload 7, 2, 0, 0, 0), (158, .ireturn, 1, 0, 0, 0)]
def k_M_told : List mm_E := [(0, .iload_n 1, 1, 0, 0, 0), (1, .invokestatic 85, 3, 47, 1, 0), (4, .ifCond .eq (43), 3, 0, 0, 0), (7, .iload_n 2, 1, 0, 0, 0), (8, .iload_n 3, 1, 0, 0, 0), (9, .invokestatic 147, 3, 75, 2, 0), (12, .ifCond .eq (35), 3, 0, 0, 0), (15, .iload 4, 2, 0, 0, 0), (17, .iconst 0, 1, 0, 0, 0), (18, .bipush (10), 2, 0, 0, 0), (20, .invokestatic 69, 3, 46, 3, 0), (23, .ifCond .eq (24), 3, 0, 0, 0), (26, .iload 5, 2, 0, 0, 0), (28, .iconst 0, 1, 0, 0, 0), (29, .bipush (9), 2, 0, 0, 0), (31, .invokestatic 69, 3, 46, 3, 0), (34, .ifCond .eq (13), 3, 0, 0, 0), (37, .iload 6, 2, 0, 0, 0), (39, .iconst 0, 1, 0, 0, 0), (40, .iconst 4, 1, 0, 0, 0), (41, .invokestatic 69, 3, 46, 3, 0), (44, .ifCond .ne (5), 3, 0, 0, 0), (47, .iconst (-1), 1, 0, 0, 0), (48, .ireturn, 1, 0, 0, 0), (49, .aload_n 0, 1, 0, 0, 0), (50, .iload_n 1, 1, 0, 0, 0), (51, .invokevirtual 110, 3, 63, 2, 9), (54, .ifCond .eq (6), 3, 0, 0, 0), (57, .bipush (-4), 2, 0, 0, 0), (59, .ireturn, 1, 0, 0, 0), (60, .aload_n 0, 1, 0, 0, 0), (61, .iload_n 1, 1, 0, 0, 0), (62, .iload_n 2, 1, 0, 0, 0), (63, .iload_n 3, 1, 0, 0, 0), (64, .invokevirtual 150, 3, 74, 4, 9), (67, .aload_n 0, 1, 0, 0, 0), (68, .iload_n 1, 1, 0, 0, 0), (69, .iload_n 2, 1, 0, 0, 0), (70, .iload 4, 2, 0, 0, 0), (72, .iload 5, 2, 0, 0, 0), (74, .iload 6, 2, 0, 0, 0), (76, .iload 7, 2, 0, 0, 0), (78, .invokevirtual 157, 3, 79, 7, 9), (81, .ireturn, 1, 0, 0, 0)]
def k_M_page : List mm_E := [(0, .aload_n 0, 1, 0, 0, 0), (1, .iload_n 1, 1, 0, 0, 0), (2, .iload_n 2, 1, 0, 0, 0), (3, .iload_n 3, 1, 0, 0, 0), (4, .iload 4, 2, 0, 0, 0), (6, .iload 5, 2, 0, 0, 0), (8, .iload 6, 2, 0, 0, 0), (10, .iconst 0, 1, 0, 0, 0), (11, .invokevirtual 161, 3, 80, 8, 9), (14, .ireturn, 1, 0, 0, 0)]
def k_M_turns : List mm_E := [(0, .aload_n 0, 1, 0, 0, 0), (1, .iload_n 1, 1, 0, 0, 0), (2, .iload_n 2, 1, 0, 0, 0), (3, .iload_n 3, 1, 0, 0, 0), (4, .iload 4, 2, 0, 0, 0), (6, .iload 5, 2, 0, 0, 0), (8, .iload 6, 2, 0, 0, 0), (10, .iconst 1, 1, 0, 0, 0), (11, .invokevirtual 161, 3, 80, 8, 9), (14, .ireturn, 1, 0, 0, 0)]
def k_M_stands : List mm_E := [(0, .iload_n 1, 1, 0, 0, 0), (1, .invokestatic 85, 3, 47, 1, 0), (4, .ifCond .eq (11), 3, 0, 0, 0), (7, .iload_n 2, 1, 0, 0, 0), (8, .iload_n 3, 1, 0, 0, 0), (9, .invokestatic 147, 3, 75, 2, 0), (12, .ifCond .ne (5), 3, 0, 0, 0), (15, .iconst (-1), 1, 0, 0, 0), (16, .ireturn, 1, 0, 0, 0), (17, .aload_n 0, 1, 0, 0, 0), (18, .iload_n 1, 1, 0, 0, 0), (19, .invokevirtual 110, 3, 63, 2, 9), (22, .ifCond .eq (6), 3, 0, 0, 0), (25, .bipush (-4), 2, 0, 0, 0), (27, .ireturn, 1, 0, 0, 0), (28, .aload_n 0, 1, 0, 0, 0), (29, .iload_n 1, 1, 0, 0, 0), (30, .iload_n 2, 1, 0, 0, 0), (31, .iload_n 3, 1, 0, 0, 0), (32, .invokevirtual 150, 3, 74, 4, 9), (35, .iconst 0, 1, 0, 0, 0), (36, .istore 4, 2, 0, 0, 0), (38, .iconst 0, 1, 0, 0, 0), (39, .istore 5, 2, 0, 0, 0), (41, .iload 5, 2, 0, 0, 0), (43, .aload_n 0, 1, 0, 0, 0), (44, .getfield 7, 3, 8, 0, 0), (47, .iload_n 1, 1, 0, 0, 0), (48, .iaload, 1, 0, 0, 0), (49, .if_icmp .ge (51), 3, 0, 0, 0), (52, .aload_n 0, 1, 0, 0, 0), (53, .getfield 37, 3, 8, 13, 0), (56, .iload 5, 2, 0, 0, 0), (58, .iaload, 1, 0, 0, 0), (59, .ifCond .ge (7), 3, 0, 0, 0), (62, .iconst 0, 1, 0, 0, 0), (63, .goto (13), 3, 0, 0, 0), (66, .aload_n 0, 1, 0, 0, 0), (67, .iload_n 1, 1, 0, 0, 0), (68, .iload_n 2, 1, 0, 0, 0), (69, .iload 5, 2, 0, 0, 0), (71, .invokevirtual 154, 3, 78, 4, 9), (74, .iconst 1, 1, 0, 0, 0), (75, .iadd, 1, 0, 0, 0), (76, .istore 6, 2, 0, 0, 0), (78, .iload 6, 2, 0, 0, 0), (80, .iload 4, 2, 0, 0, 0), (82, .if_icmp .le (8), 3, 0, 0, 0), (85, .iload 6, 2, 0, 0, 0), (87, .goto (5), 3, 0, 0, 0), (90, .iload 4, 2, 0, 0, 0), (92, .istore 4, 2, 0, 0, 0), (94, .iinc 5 (1), 3, 0, 0, 0), (97, .goto (-56), 3, 0, 0, 0), (100, .iload 4, 2, 0, 0, 0), (102, .ireturn, 1, 0, 0, 0)]
def k_M_leftOf : List mm_E := [(0, .aload_n 0, 1, 0, 0, 0), (1, .iload_n 1, 1, 0, 0, 0), (2, .iconst 0, 1, 0, 0, 0), (3, .iload_n 2, 1, 0, 0, 0), (4, .invokevirtual 150, 3, 74, 4, 9), (7, .iconst 0, 1, 0, 0, 0), (8, .istore 4, 2, 0, 0, 0), (10, .iconst 0, 1, 0, 0, 0), (11, .istore 5, 2, 0, 0, 0), (13, .iload 5, 2, 0, 0, 0), (15, .aload_n 0, 1, 0, 0, 0), (16, .getfield 7, 3, 8, 0, 0), (19, .iload_n 1, 1, 0, 0, 0), (20, .iaload, 1, 0, 0, 0), (21, .if_icmp .ge (40), 3, 0, 0, 0), (24, .iload 4, 2, 0, 0, 0), (26, .aload_n 0, 1, 0, 0, 0), (27, .iload_n 1, 1, 0, 0, 0), (28, .iload 5, 2, 0, 0, 0), (30, .invokevirtual 73, 3, 49, 3, 9), (33, .iload_n 3, 1, 0, 0, 0), (34, .if_icmp .ne (17), 3, 0, 0, 0), (37, .aload_n 0, 1, 0, 0, 0), (38, .getfield 37, 3, 8, 13, 0), (41, .iload 5, 2, 0, 0, 0), (43, .iaload, 1, 0, 0, 0), (44, .ifCond .ge (7), 3, 0, 0, 0), (47, .iconst 1, 1, 0, 0, 0), (48, .goto (4), 3, 0, 0, 0), (51, .iconst 0, 1, 0, 0, 0), (52, .iadd, 1, 0, 0, 0), (53, .istore 4, 2, 0, 0, 0), (55, .iinc 5 (1), 3, 0, 0, 0), (58, .goto (-45), 3, 0, 0, 0), (61, .iload 4, 2, 0, 0, 0), (63, .ireturn, 1, 0, 0, 0)]
def k_M_left : List mm_E := [(0, .iload_n 1, 1, 0, 0, 0), (1, .invokestatic 85, 3, 47, 1, 0), (4, .ifCond .eq (19), 3, 0, 0, 0), (7, .iload_n 2, 1, 0, 0, 0), (8, .invokestatic 128, 3, 69, 1, 0), (11, .ifCond .eq (12), 3, 0, 0, 0), (14, .iload_n 3, 1, 0, 0, 0), (15, .iconst 0, 1, 0, 0, 0), (16, .iconst 4, 1, 0, 0, 0), (17, .invokestatic 69, 3, 46, 3, 0), (20, .ifCond .ne (5), 3, 0, 0, 0), (23, .iconst (-1), 1, 0, 0, 0), (24, .ireturn, 1, 0, 0, 0), (25, .aload_n 0, 1, 0, 0, 0), (26, .iload_n 1, 1, 0, 0, 0), (27, .invokevirtual 110, 3, 63, 2, 9), (30, .ifCond .eq (8), 3, 0, 0, 0), (33, .bipush (-4), 2, 0, 0, 0), (35, .goto (10), 3, 0, 0, 0), (38, .aload_n 0, 1, 0, 0, 0), (39, .iload_n 1, 1, 0, 0, 0), (40, .iload_n 2, 1, 0, 0, 0), (41, .iload_n 3, 1, 0, 0, 0), (42, .invokevirtual 131, 3, 84, 4, 9), (45, .ireturn, 1, 0, 0, 0)]
def k_M_isAt : List mm_E := [(0, .aload_n 0, 1, 0, 0, 0), (1, .iload_n 1, 1, 0, 0, 0), (2, .iload_n 2, 1, 0, 0, 0), (3, .invokevirtual 73, 3, 49, 3, 9), (6, .iload_n 3, 1, 0, 0, 0), (7, .if_icmp .ne (25), 3, 0, 0, 0), (10, .iload 4, 2, 0, 0, 0), (12, .ifCond .lt (16), 3, 0, 0, 0), (15, .aload_n 0, 1, 0, 0, 0), (16, .iload_n 1, 1, 0, 0, 0), (17, .iload 4, 2, 0, 0, 0), (19, .iload_n 2, 1, 0, 0, 0), (20, .invokevirtual 77, 3, 50, 4, 9), (23, .iload 5, 2, 0, 0, 0), (25, .if_icmp .ne (7), 3, 0, 0, 0), (28, .iconst 1, 1, 0, 0, 0), (29, .goto (4), 3, 0, 0, 0), (32, .iconst 0, 1, 0, 0, 0), (33, .ireturn, 1, 1, 0, 0)]
def k_M_cellsAt : List mm_E := [(0, .iconst 0, 1, 0, 0, 0), (1, .istore 5, 2, 0, 0, 0), (3, .iconst 0, 1, 0, 0, 0), (4, .istore 6, 2, 0, 0, 0), (6, .iload 6, 2, 0, 0, 0), (8, .aload_n 0, 1, 0, 0, 0), (9, .getfield 7, 3, 8, 0, 0), (12, .iload_n 1, 1, 0, 0, 0), (13, .iaload, 1, 0, 0, 0), (14, .if_icmp .ge (33), 3, 0, 0, 0), (17, .iload 5, 2, 0, 0, 0), (19, .aload_n 0, 1, 0, 0, 0), (20, .iload_n 1, 1, 0, 0, 0), (21, .iload 6, 2, 0, 0, 0), (23, .iload_n 2, 1, 0, 0, 0), (24, .iload_n 3, 1, 0, 0, 0), (25, .iload 4, 2, 0, 0, 0), (27, .invokevirtual 165, 3, 86, 6, 9), (30, .ifCond .eq (7), 3, 0, 0, 0), (33, .iconst 1, 1, 0, 0, 0), (34, .goto (4), 3, 0, 0, 0), (37, .iconst 0, 1, 0, 0, 0), (38, .iadd, 1, 0, 0, 0), (39, .istore 5, 2, 0, 0, 0), (41, .iinc 6 (1), 3, 0, 0, 0), (44, .goto (-38), 3, 0, 0, 0), (47, .iload 5, 2, 0, 0, 0), (49, .ireturn, 1, 0, 0, 0)]
def k_M_takesTable : List mm_E := [(0, .aload_n 0, 1, 0, 0, 0), (1, .iconst 0, 1, 0, 0, 0), (2, .putfield 169, 3, 8, 17, 0), (5, .aload_n 0, 1, 0, 0, 0), (6, .aload_n 0, 1, 0, 0, 0), (7, .iload_n 1, 1, 0, 0, 0), (8, .iload_n 2, 1, 0, 0, 0), (9, .iconst 1, 1, 0, 0, 0), (10, .isub, 1, 0, 0, 0), (11, .iload_n 3, 1, 0, 0, 0), (12, .iload 4, 2, 0, 0, 0), (14, .invokevirtual 172, 3, 87, 5, 9), (17, .putfield 176, 3, 8, 18, 0), (20, .iconst 0, 1, 0, 0, 0), (21, .istore 5, 2, 0, 0, 0), (23, .iload 5, 2, 0, 0, 0), (25, .aload_n 0, 1, 0, 0, 0), (26, .getfield 7, 3, 8, 0, 0), (29, .iload_n 1, 1, 0, 0, 0), (30, .iaload, 1, 0, 0, 0), (31, .if_icmp .ge (100), 3, 0, 0, 0), (34, .aload_n 0, 1, 0, 0, 0), (35, .iload_n 1, 1, 0, 0, 0), (36, .iload 5, 2, 0, 0, 0), (38, .iload_n 2, 1, 0, 0, 0), (39, .iload_n 3, 1, 0, 0, 0), (40, .iload 4, 2, 0, 0, 0), (42, .invokevirtual 165, 3, 86, 6, 9), (45, .ifCond .eq (80), 3, 0, 0, 0), (48, .iconst 0, 1, 0, 0, 0), (49, .istore 6, 2, 0, 0, 0), (51, .iconst 0, 1, 0, 0, 0), (52, .istore 7, 2, 0, 0, 0), (54, .iload 7, 2, 0, 0, 0), (56, .aload_n 0, 1, 0, 0, 0), (57, .getfield 7, 3, 8, 0, 0), (60, .iload_n 1, 1, 0, 0, 0), (61, .iaload, 1, 0, 0, 0), (62, .if_icmp .ge (53), 3, 0, 0, 0), (65, .aload_n 0, 1, 0, 0, 0), (66, .iload_n 1, 1, 0, 0, 0), (67, .iload 7, 2, 0, 0, 0), (69, .iload_n 2, 1, 0, 0, 0), (70, .iconst 1, 1, 0, 0, 0), (71, .isub, 1, 0, 0, 0), (72, .iload_n 3, 1, 0, 0, 0), (73, .iload 4, 2, 0, 0, 0), (75, .invokevirtual 165, 3, 86, 6, 9), (78, .ifCond .eq (31), 3, 0, 0, 0), (81, .aload_n 0, 1, 0, 0, 0), (82, .getfield 43, 3, 8, 15, 0), (85, .bipush (12), 2, 0, 0, 0), (87, .aload_n 0, 1, 0, 0, 0), (88, .getfield 169, 3, 8, 17, 0), (91, .imul, 1, 0, 0, 0), (92, .iload 6, 2, 0, 0, 0), (94, .iadd, 1, 0, 0, 0), (95, .aload_n 0, 1, 0, 0, 0), (96, .iload_n 1, 1, 0, 0, 0), (97, .iload 5, 2, 0, 0, 0), (99, .iload 7, 2, 0, 0, 0), (101, .invokevirtual 103, 3, 51, 4, 9), (104, .i2l, 1, 0, 0, 0), (105, .lastore, 1, 0, 0, 0), (106, .iinc 6 (1), 3, 0, 0, 0), (109, .iinc 7 (1), 3, 0, 0, 0), (112, .goto (-58), 3, 0, 0, 0), (115, .aload_n 0, 1, 0, 0, 0), (116, .dup, 1, 0, 0, 0), (117, .getfield 169, 3, 8, 17, 0), (120, .iconst 1, 1, 0, 0, 0), (121, .iadd, 1, 0, 0, 0), (122, .putfield 169, 3, 8, 17, 0), (125, .iinc 5 (1), 3, 0, 0, 0), (128, .goto (-105), 3, 0, 0, 0), (131, .return_, 1, 0, 0, 0)]
def k_M_size : List mm_E := [(0, .lload_n 0, 1, 0, 0, 0), (1, .lconst 0, 1, 0, 0, 0), (2, .lcmp, 1, 0, 0, 0), (3, .ifCond .ge (8), 3, 0, 0, 0), (6, .lload_n 0, 1, 0, 0, 0), (7, .lneg, 1, 0, 0, 0), (8, .goto (4), 3, 0, 0, 0), (11, .lload_n 0, 1, 0, 0, 0), (12, .lreturn, 1, 0, 0, 0)]
def k_M_leastTo : List mm_E := [(0, .iconst (-1), 1, 0, 0, 0), (1, .istore_n 2, 1, 0, 0, 0), (2, .iconst (-1), 1, 0, 0, 0), (3, .istore_n 3, 1, 0, 0, 0), (4, .iload_n 1, 1, 0, 0, 0), (5, .istore 4, 2, 0, 0, 0), (7, .iload 4, 2, 0, 0, 0), (9, .aload_n 0, 1, 0, 0, 0), (10, .getfield 169, 3, 8, 17, 0), (13, .if_icmp .ge (82), 3, 0, 0, 0), (16, .iload_n 1, 1, 0, 0, 0), (17, .istore 5, 2, 0, 0, 0), (19, .iload 5, 2, 0, 0, 0), (21, .aload_n 0, 1, 0, 0, 0), (22, .getfield 176, 3, 8, 18, 0), (25, .if_icmp .ge (64), 3, 0, 0, 0), (28, .aload_n 0, 1, 0, 0, 0), (29, .getfield 43, 3, 8, 15, 0), (32, .bipush (12), 2, 0, 0, 0), (34, .iload 4, 2, 0, 0, 0), (36, .imul, 1, 0, 0, 0), (37, .iload 5, 2, 0, 0, 0), (39, .iadd, 1, 0, 0, 0), (40, .laload, 1, 0, 0, 0), (41, .invokestatic 179, 3, 89, 1, 0), (44, .lstore 6, 2, 0, 0, 0), (46, .lload 6, 2, 0, 0, 0), (48, .lconst 0, 1, 0, 0, 0), (49, .lcmp, 1, 0, 0, 0), (50, .ifCond .le (33), 3, 0, 0, 0), (53, .iload_n 2, 1, 0, 0, 0), (54, .ifCond .lt (23), 3, 0, 0, 0), (57, .lload 6, 2, 0, 0, 0), (59, .aload_n 0, 1, 0, 0, 0), (60, .getfield 43, 3, 8, 15, 0), (63, .bipush (12), 2, 0, 0, 0), (65, .iload_n 2, 1, 0, 0, 0), (66, .imul, 1, 0, 0, 0), (67, .iload_n 3, 1, 0, 0, 0), (68, .iadd, 1, 0, 0, 0), (69, .laload, 1, 0, 0, 0), (70, .invokestatic 179, 3, 89, 1, 0), (73, .lcmp, 1, 0, 0, 0), (74, .ifCond .ge (9), 3, 0, 0, 0), (77, .iload 4, 2, 0, 0, 0), (79, .istore_n 2, 1, 0, 0, 0), (80, .iload 5, 2, 0, 0, 0), (82, .istore_n 3, 1, 0, 0, 0), (83, .iinc 5 (1), 3, 0, 0, 0), (86, .goto (-67), 3, 0, 0, 0), (89, .iinc 4 (1), 3, 0, 0, 0), (92, .goto (-85), 3, 0, 0, 0), (95, .iconst 0, 1, 0, 0, 0), (96, .istore 4, 2, 0, 0, 0), (98, .iload 4, 2, 0, 0, 0), (100, .aload_n 0, 1, 0, 0, 0), (101, .getfield 176, 3, 8, 18, 0), (104, .if_icmp .ge (65), 3, 0, 0, 0), (107, .iload_n 2, 1, 0, 0, 0), (108, .ifCond .lt (61), 3, 0, 0, 0), (111, .aload_n 0, 1, 0, 0, 0), (112, .getfield 43, 3, 8, 15, 0), (115, .bipush (12), 2, 0, 0, 0), (117, .iload_n 2, 1, 0, 0, 0), (118, .imul, 1, 0, 0, 0), (119, .iload 4, 2, 0, 0, 0), (121, .iadd, 1, 0, 0, 0), (122, .laload, 1, 0, 0, 0), (123, .lstore 5, 2, 0, 0, 0), (125, .aload_n 0, 1, 0, 0, 0), (126, .getfield 43, 3, 8, 15, 0), (129, .bipush (12), 2, 0, 0, 0), (131, .iload_n 2, 1, 0, 0, 0), (132, .imul, 1, 0, 0, 0), (133, .iload 4, 2, 0, 0, 0), (135, .iadd, 1, 0, 0, 0), (136, .aload_n 0, 1, 0, 0, 0), (137, .getfield 43, 3, 8, 15, 0), (140, .bipush (12), 2, 0, 0, 0), (142, .iload_n 1, 1, 0, 0, 0), (143, .imul, 1, 0, 0, 0), (144, .iload 4, 2, 0, 0, 0), (146, .iadd, 1, 0, 0, 0), (147, .laload, 1, 0, 0, 0), (148, .lastore, 1, 0, 0, 0), (149, .aload_n 0, 1, 0, 0, 0), (150, .getfield 43, 3, 8, 15, 0), (153, .bipush (12), 2, 0, 0, 0), (155, .iload_n 1, 1, 0, 0, 0), (156, .imul, 1, 0, 0, 0), (157, .iload 4, 2, 0, 0, 0), (159, .iadd, 1, 0, 0, 0), (160, .lload 5, 2, 0, 0, 0), (162, .lastore, 1, 0, 0, 0), (163, .iinc 4 (1), 3, 0, 0, 0), (166, .goto (-68), 3, 0, 0, 0), (169, .iconst 0, 1, 0, 0, 0), (170, .istore 4, 2, 0, 0, 0), (172, .iload 4, 2, 0, 0, 0), (174, .aload_n 0, 1, 0, 0, 0), (175, .getfield 169, 3, 8, 17, 0), (178, .if_icmp .ge (65), 3, 0, 0, 0), (181, .iload_n 2, 1, 0, 0, 0), (182, .ifCond .lt (61), 3, 0, 0, 0), (185, .aload_n 0, 1, 0, 0, 0), (186, .getfield 43, 3, 8, 15, 0), (189, .bipush (12), 2, 0, 0, 0), (191, .iload 4, 2, 0, 0, 0), (193, .imul, 1, 0, 0, 0), (194, .iload_n 3, 1, 0, 0, 0), (195, .iadd, 1, 0, 0, 0), (196, .laload, 1, 0, 0, 0), (197, .lstore 5, 2, 0, 0, 0), (199, .aload_n 0, 1, 0, 0, 0), (200, .getfield 43, 3, 8, 15, 0), (203, .bipush (12), 2, 0, 0, 0), (205, .iload 4, 2, 0, 0, 0), (207, .imul, 1, 0, 0, 0), (208, .iload_n 3, 1, 0, 0, 0), (209, .iadd, 1, 0, 0, 0), (210, .aload_n 0, 1, 0, 0, 0), (211, .getfield 43, 3, 8, 15, 0), (214, .bipush (12), 2, 0, 0, 0), (216, .iload 4, 2, 0, 0, 0), (218, .imul, 1, 0, 0, 0), (219, .iload_n 1, 1, 0, 0, 0), (220, .iadd, 1, 0, 0, 0), (221, .laload, 1, 0, 0, 0), (222, .lastore, 1, 0, 0, 0), (223, .aload_n 0, 1, 0, 0, 0), (224, .getfield 43, 3, 8, 15, 0), (227, .bipush (12), 2, 0, 0, 0), (229, .iload 4, 2, 0, 0, 0), (231, .imul, 1, 0, 0, 0), (232, .iload_n 1, 1, 0, 0, 0), (233, .iadd, 1, 0, 0, 0), (234, .lload 5, 2, 0, 0, 0), (236, .lastore, 1, 0, 0, 0), (237, .iinc 4 (1), 3, 0, 0, 0), (240, .goto (-68), 3, 0, 0, 0), (243, .iload_n 2, 1, 0, 0, 0), (244, .ifCond .lt (7), 3, 0, 0, 0), (247, .iconst 1, 1, 0, 0, 0), (248, .goto (4), 3, 0, 0, 0), (251, .iconst 0, 1, 0, 0, 0), (252, .ireturn, 1, 1, 0, 0)]
def k_M_lowers : List mm_E := [(0, .aload_n 0, 1, 0, 0, 0), (1, .getfield 43, 3, 8, 15, 0), (4, .bipush (12), 2, 0, 0, 0), (6, .iload_n 1, 1, 0, 0, 0), (7, .imul, 1, 0, 0, 0), (8, .iload_n 1, 1, 0, 0, 0), (9, .iadd, 1, 0, 0, 0), (10, .laload, 1, 0, 0, 0), (11, .lstore_n 2, 1, 0, 0, 0), (12, .iconst 1, 1, 0, 0, 0), (13, .istore 4, 2, 0, 0, 0), (15, .iload_n 1, 1, 0, 0, 0), (16, .iconst 1, 1, 0, 0, 0), (17, .iadd, 1, 0, 0, 0), (18, .istore 5, 2, 0, 0, 0), (20, .iload 5, 2, 0, 0, 0), (22, .aload_n 0, 1, 0, 0, 0), (23, .getfield 169, 3, 8, 17, 0), (26, .if_icmp .ge (103), 3, 0, 0, 0), (29, .aload_n 0, 1, 0, 0, 0), (30, .getfield 43, 3, 8, 15, 0), (33, .bipush (12), 2, 0, 0, 0), (35, .iload 5, 2, 0, 0, 0), (37, .imul, 1, 0, 0, 0), (38, .iload_n 1, 1, 0, 0, 0), (39, .iadd, 1, 0, 0, 0), (40, .laload, 1, 0, 0, 0), (41, .lload_n 2, 1, 0, 0, 0), (42, .ldiv, 1, 0, 0, 0), (43, .lstore 6, 2, 0, 0, 0), (45, .iload_n 1, 1, 0, 0, 0), (46, .istore 8, 2, 0, 0, 0), (48, .iload 8, 2, 0, 0, 0), (50, .aload_n 0, 1, 0, 0, 0), (51, .getfield 176, 3, 8, 18, 0), (54, .if_icmp .ge (40), 3, 0, 0, 0), (57, .aload_n 0, 1, 0, 0, 0), (58, .getfield 43, 3, 8, 15, 0), (61, .bipush (12), 2, 0, 0, 0), (63, .iload 5, 2, 0, 0, 0), (65, .imul, 1, 0, 0, 0), (66, .iload 8, 2, 0, 0, 0), (68, .iadd, 1, 0, 0, 0), (69, .dup2, 1, 0, 0, 0), (70, .laload, 1, 0, 0, 0), (71, .lload 6, 2, 0, 0, 0), (73, .aload_n 0, 1, 0, 0, 0), (74, .getfield 43, 3, 8, 15, 0), (77, .bipush (12), 2, 0, 0, 0), (79, .iload_n 1, 1, 0, 0, 0), (80, .imul, 1, 0, 0, 0), (81, .iload 8, 2, 0, 0, 0), (83, .iadd, 1, 0, 0, 0), (84, .laload, 1, 0, 0, 0), (85, .lmul, 1, 0, 0, 0), (86, .lsub, 1, 0, 0, 0), (87, .lastore, 1, 0, 0, 0), (88, .iinc 8 (1), 3, 0, 0, 0), (91, .goto (-43), 3, 0, 0, 0), (94, .iload 4, 2, 0, 0, 0), (96, .ifCond .eq (24), 3, 0, 0, 0), (99, .aload_n 0, 1, 0, 0, 0), (100, .getfield 43, 3, 8, 15, 0), (103, .bipush (12), 2, 0, 0, 0), (105, .iload 5, 2, 0, 0, 0), (107, .imul, 1, 0, 0, 0), (108, .iload_n 1, 1, 0, 0, 0), (109, .iadd, 1, 0, 0, 0), (110, .laload, 1, 0, 0, 0), (111, .lconst 0, 1, 0, 0, 0), (112, .lcmp, 1, 0, 0, 0), (113, .ifCond .ne (7), 3, 0, 0, 0), (116, .iconst 1, 1, 0, 0, 0), (117, .goto (4), 3, 0, 0, 0), (120, .iconst 0, 1, 0, 0, 0), (121, .istore 4, 2, 0, 0, 0), (123, .iinc 5 (1), 3, 0, 0, 0), (126, .goto (-106), 3, 0, 0, 0), (129, .iload_n 1, 1, 0, 0, 0), (130, .iconst 1, 1, 0, 0, 0), (131, .iadd, 1, 0, 0, 0), (132, .istore 5, 2, 0, 0, 0), (134, .iload 5, 2, 0, 0, 0), (136, .aload_n 0, 1, 0, 0, 0), (137, .getfield 176, 3, 8, 18, 0), (140, .if_icmp .ge (103), 3, 0, 0, 0), (143, .aload_n 0, 1, 0, 0, 0), (144, .getfield 43, 3, 8, 15, 0), (147, .bipush (12), 2, 0, 0, 0), (149, .iload_n 1, 1, 0, 0, 0), (150, .imul, 1, 0, 0, 0), (151, .iload 5, 2, 0, 0, 0), (153, .iadd, 1, 0, 0, 0), (154, .laload, 1, 0, 0, 0), (155, .lload_n 2, 1, 0, 0, 0), (156, .ldiv, 1, 0, 0, 0), (157, .lstore 6, 2, 0, 0, 0), (159, .iload_n 1, 1, 0, 0, 0), (160, .istore 8, 2, 0, 0, 0), (162, .iload 8, 2, 0, 0, 0), (164, .aload_n 0, 1, 0, 0, 0), (165, .getfield 169, 3, 8, 17, 0), (168, .if_icmp .ge (40), 3, 0, 0, 0), (171, .aload_n 0, 1, 0, 0, 0), (172, .getfield 43, 3, 8, 15, 0), (175, .bipush (12), 2, 0, 0, 0), (177, .iload 8, 2, 0, 0, 0), (179, .imul, 1, 0, 0, 0), (180, .iload 5, 2, 0, 0, 0), (182, .iadd, 1, 0, 0, 0), (183, .dup2, 1, 0, 0, 0), (184, .laload, 1, 0, 0, 0), (185, .lload 6, 2, 0, 0, 0), (187, .aload_n 0, 1, 0, 0, 0), (188, .getfield 43, 3, 8, 15, 0), (191, .bipush (12), 2, 0, 0, 0), (193, .iload 8, 2, 0, 0, 0), (195, .imul, 1, 0, 0, 0), (196, .iload_n 1, 1, 0, 0, 0), (197, .iadd, 1, 0, 0, 0), (198, .laload, 1, 0, 0, 0), (199, .lmul, 1, 0, 0, 0), (200, .lsub, 1, 0, 0, 0), (201, .lastore, 1, 0, 0, 0), (202, .iinc 8 (1), 3, 0, 0, 0), (205, .goto (-43), 3, 0, 0, 0), (208, .iload 4, 2, 0, 0, 0), (210, .ifCond .eq (24), 3, 0, 0, 0), (213, .aload_n 0, 1, 0, 0, 0), (214, .getfield 43, 3, 8, 15, 0), (217, .bipush (12), 2, 0, 0, 0), (219, .iload_n 1, 1, 0, 0, 0), (220, .imul, 1, 0, 0, 0), (221, .iload 5, 2, 0, 0, 0), (223, .iadd, 1, 0, 0, 0), (224, .laload, 1, 0, 0, 0), (225, .lconst 0, 1, 0, 0, 0), (226, .lcmp, 1, 0, 0, 0), (227, .ifCond .ne (7), 3, 0, 0, 0), (230, .iconst 1, 1, 0, 0, 0), (231, .goto (4), 3, 0, 0, 0), (234, .iconst 0, 1, 0, 0, 0), (235, .istore 4, 2, 0, 0, 0), (237, .iinc 5 (1), 3, 0, 0, 0), (240, .goto (-106), 3, 0, 0, 0), (243, .iload_n 1, 1, 0, 0, 0), (244, .iconst 1, 1, 0, 0, 0), (245, .iadd, 1, 0, 0, 0), (246, .istore 5, 2, 0, 0, 0), (248, .iload 5, 2, 0, 0, 0), (250, .aload_n 0, 1, 0, 0, 0), (251, .getfield 169, 3, 8, 17, 0), (254, .if_icmp .ge (108), 3, 0, 0, 0), (257, .iload 4, 2, 0, 0, 0), (259, .ifCond .eq (103), 3, 0, 0, 0), (262, .iload_n 1, 1, 0, 0, 0), (263, .iconst 1, 1, 0, 0, 0), (264, .iadd, 1, 0, 0, 0), (265, .istore 6, 2, 0, 0, 0), (267, .iload 6, 2, 0, 0, 0), (269, .aload_n 0, 1, 0, 0, 0), (270, .getfield 176, 3, 8, 18, 0), (273, .if_icmp .ge (83), 3, 0, 0, 0), (276, .iload 4, 2, 0, 0, 0), (278, .ifCond .eq (78), 3, 0, 0, 0), (281, .aload_n 0, 1, 0, 0, 0), (282, .getfield 43, 3, 8, 15, 0), (285, .bipush (12), 2, 0, 0, 0), (287, .iload 5, 2, 0, 0, 0), (289, .imul, 1, 0, 0, 0), (290, .iload 6, 2, 0, 0, 0), (292, .iadd, 1, 0, 0, 0), (293, .laload, 1, 0, 0, 0), (294, .lload_n 2, 1, 0, 0, 0), (295, .lrem, 1, 0, 0, 0), (296, .lconst 0, 1, 0, 0, 0), (297, .lcmp, 1, 0, 0, 0), (298, .ifCond .eq (52), 3, 0, 0, 0), (301, .iconst 0, 1, 0, 0, 0), (302, .istore 4, 2, 0, 0, 0), (304, .iload_n 1, 1, 0, 0, 0), (305, .istore 7, 2, 0, 0, 0), (307, .iload 7, 2, 0, 0, 0), (309, .aload_n 0, 1, 0, 0, 0), (310, .getfield 176, 3, 8, 18, 0), (313, .if_icmp .ge (37), 3, 0, 0, 0), (316, .aload_n 0, 1, 0, 0, 0), (317, .getfield 43, 3, 8, 15, 0), (320, .bipush (12), 2, 0, 0, 0), (322, .iload_n 1, 1, 0, 0, 0), (323, .imul, 1, 0, 0, 0), (324, .iload 7, 2, 0, 0, 0), (326, .iadd, 1, 0, 0, 0), (327, .dup2, 1, 0, 0, 0), (328, .laload, 1, 0, 0, 0), (329, .aload_n 0, 1, 0, 0, 0), (330, .getfield 43, 3, 8, 15, 0), (333, .bipush (12), 2, 0, 0, 0), (335, .iload 5, 2, 0, 0, 0), (337, .imul, 1, 0, 0, 0), (338, .iload 7, 2, 0, 0, 0), (340, .iadd, 1, 0, 0, 0), (341, .laload, 1, 0, 0, 0), (342, .ladd, 1, 0, 0, 0), (343, .lastore, 1, 0, 0, 0), (344, .iinc 7 (1), 3, 0, 0, 0), (347, .goto (-40), 3, 0, 0, 0), (350, .iinc 6 (1), 3, 0, 0, 0), (353, .goto (-86), 3, 0, 0, 0), (356, .iinc 5 (1), 3, 0, 0, 0), (359, .goto (-111), 3, 0, 0, 0), (362, .iload 4, 2, 0, 0, 0), (364, .ireturn, 1, 1, 0, 0)]
def k_M_simplifies : List mm_E := [(0, .aload_n 0, 1, 0, 0, 0), (1, .iconst 0, 1, 0, 0, 0), (2, .putfield 183, 3, 8, 19, 0), (5, .aload_n 0, 1, 0, 0, 0), (6, .getfield 183, 3, 8, 19, 0), (9, .aload_n 0, 1, 0, 0, 0), (10, .getfield 169, 3, 8, 17, 0), (13, .if_icmp .ge (78), 3, 0, 0, 0), (16, .aload_n 0, 1, 0, 0, 0), (17, .getfield 183, 3, 8, 19, 0), (20, .aload_n 0, 1, 0, 0, 0), (21, .getfield 176, 3, 8, 18, 0), (24, .if_icmp .ge (67), 3, 0, 0, 0), (27, .aload_n 0, 1, 0, 0, 0), (28, .aload_n 0, 1, 0, 0, 0), (29, .getfield 183, 3, 8, 19, 0), (32, .invokevirtual 186, 3, 90, 2, 9), (35, .ifCond .eq (56), 3, 0, 0, 0), (38, .aload_n 0, 1, 0, 0, 0), (39, .aload_n 0, 1, 0, 0, 0), (40, .getfield 183, 3, 8, 19, 0), (43, .invokevirtual 189, 3, 91, 2, 9), (46, .ifCond .eq (-41), 3, 0, 0, 0), (49, .aload_n 0, 1, 0, 0, 0), (50, .getfield 47, 3, 8, 16, 0), (53, .aload_n 0, 1, 0, 0, 0), (54, .getfield 183, 3, 8, 19, 0), (57, .aload_n 0, 1, 0, 0, 0), (58, .getfield 43, 3, 8, 15, 0), (61, .bipush (12), 2, 0, 0, 0), (63, .aload_n 0, 1, 0, 0, 0), (64, .getfield 183, 3, 8, 19, 0), (67, .imul, 1, 0, 0, 0), (68, .aload_n 0, 1, 0, 0, 0), (69, .getfield 183, 3, 8, 19, 0), (72, .iadd, 1, 0, 0, 0), (73, .laload, 1, 0, 0, 0), (74, .invokestatic 179, 3, 89, 1, 0), (77, .lastore, 1, 0, 0, 0), (78, .aload_n 0, 1, 0, 0, 0), (79, .dup, 1, 0, 0, 0), (80, .getfield 183, 3, 8, 19, 0), (83, .iconst 1, 1, 0, 0, 0), (84, .iadd, 1, 0, 0, 0), (85, .putfield 183, 3, 8, 19, 0), (88, .goto (-83), 3, 0, 0, 0), (91, .return_, 1, 0, 0, 0)]
def k_M_wholeOf : List mm_E := [(0, .aload_n 0, 1, 0, 0, 0), (1, .iload_n 1, 1, 0, 0, 0), (2, .iload_n 2, 1, 0, 0, 0), (3, .iload_n 3, 1, 0, 0, 0), (4, .iload 4, 2, 0, 0, 0), (6, .invokevirtual 192, 3, 88, 5, 9), (9, .aload_n 0, 1, 0, 0, 0), (10, .invokevirtual 196, 3, 92, 1, 9), (13, .aload_n 0, 1, 0, 0, 0), (14, .getfield 183, 3, 8, 19, 0), (17, .istore 6, 2, 0, 0, 0), (19, .aload_n 0, 1, 0, 0, 0), (20, .iload_n 1, 1, 0, 0, 0), (21, .iload_n 2, 1, 0, 0, 0), (22, .iconst 1, 1, 0, 0, 0), (23, .iadd, 1, 0, 0, 0), (24, .iload_n 3, 1, 0, 0, 0), (25, .iload 4, 2, 0, 0, 0), (27, .invokevirtual 192, 3, 88, 5, 9), (30, .aload_n 0, 1, 0, 0, 0), (31, .invokevirtual 196, 3, 92, 1, 9), (34, .iload 6, 2, 0, 0, 0), (36, .aload_n 0, 1, 0, 0, 0), (37, .getfield 183, 3, 8, 19, 0), (40, .iadd, 1, 0, 0, 0), (41, .istore 6, 2, 0, 0, 0), (43, .iload 5, 2, 0, 0, 0), (45, .ifCond .ne (16), 3, 0, 0, 0), (48, .aload_n 0, 1, 0, 0, 0), (49, .iload_n 1, 1, 0, 0, 0), (50, .iload_n 2, 1, 0, 0, 0), (51, .iload_n 3, 1, 0, 0, 0), (52, .iload 4, 2, 0, 0, 0), (54, .invokevirtual 172, 3, 87, 5, 9), (57, .iload 6, 2, 0, 0, 0), (59, .isub, 1, 0, 0, 0), (60, .ireturn, 1, 0, 0, 0), (61, .iconst 0, 1, 0, 0, 0), (62, .istore 7, 2, 0, 0, 0), (64, .iload 7, 2, 0, 0, 0), (66, .aload_n 0, 1, 0, 0, 0), (67, .getfield 183, 3, 8, 19, 0), (70, .if_icmp .ge (21), 3, 0, 0, 0), (73, .aload_n 0, 1, 0, 0, 0), (74, .getfield 47, 3, 8, 16, 0), (77, .iload 7, 2, 0, 0, 0), (79, .laload, 1, 0, 0, 0), (80, .lconst 1, 1, 0, 0, 0), (81, .lcmp, 1, 0, 0, 0), (82, .ifCond .ne (9), 3, 0, 0, 0), (85, .iinc 7 (1), 3, 0, 0, 0), (88, .goto (-24), 3, 0, 0, 0), (91, .iload 5, 2, 0, 0, 0), (93, .aload_n 0, 1, 0, 0, 0), (94, .getfield 183, 3, 8, 19, 0), (97, .iload 7, 2, 0, 0, 0), (99, .isub, 1, 0, 0, 0), (100, .if_icmp .gt (19), 3, 0, 0, 0), (103, .aload_n 0, 1, 0, 0, 0), (104, .getfield 47, 3, 8, 16, 0), (107, .iload 7, 2, 0, 0, 0), (109, .iload 5, 2, 0, 0, 0), (111, .iadd, 1, 0, 0, 0), (112, .iconst 1, 1, 0, 0, 0), (113, .isub, 1, 0, 0, 0), (114, .laload, 1, 0, 0, 0), (115, .l2i, 1, 0, 0, 0), (116, .goto (5), 3, 0, 0, 0), (119, .bipush (-3), 2, 0, 0, 0), (121, .ireturn, 1, 0, 0, 0)]
def k_M_whole : List mm_E := [(0, .iload_n 1, 1, 0, 0, 0), (1, .invokestatic 85, 3, 47, 1, 0), (4, .ifCond .eq (16), 3, 0, 0, 0), (7, .iload_n 2, 1, 0, 0, 0), (8, .iconst 0, 1, 0, 0, 0), (9, .iconst 4, 1, 0, 0, 0), (10, .invokestatic 69, 3, 46, 3, 0), (13, .ifCond .eq (7), 3, 0, 0, 0), (16, .iload_n 3, 1, 0, 0, 0), (17, .ifCond .ge (5), 3, 0, 0, 0), (20, .iconst (-1), 1, 0, 0, 0), (21, .ireturn, 1, 0, 0, 0), (22, .aload_n 0, 1, 0, 0, 0), (23, .iload_n 1, 1, 0, 0, 0), (24, .invokevirtual 110, 3, 63, 2, 9), (27, .ifCond .eq (8), 3, 0, 0, 0), (30, .bipush (-4), 2, 0, 0, 0), (32, .goto (12), 3, 0, 0, 0), (35, .aload_n 0, 1, 0, 0, 0), (36, .iload_n 1, 1, 0, 0, 0), (37, .iload_n 2, 1, 0, 0, 0), (38, .iconst (-1), 1, 0, 0, 0), (39, .iconst 0, 1, 0, 0, 0), (40, .iload_n 3, 1, 0, 0, 0), (41, .invokevirtual 199, 3, 93, 6, 9), (44, .ireturn, 1, 0, 0, 0)]
def k_M_wholeAt : List mm_E := [(0, .iload_n 1, 1, 0, 0, 0), (1, .invokestatic 85, 3, 47, 1, 0), (4, .ifCond .eq (37), 3, 0, 0, 0), (7, .iload_n 2, 1, 0, 0, 0), (8, .iconst 0, 1, 0, 0, 0), (9, .iconst 1, 1, 0, 0, 0), (10, .invokestatic 69, 3, 46, 3, 0), (13, .ifCond .eq (28), 3, 0, 0, 0), (16, .iload_n 3, 1, 0, 0, 0), (17, .iconst 0, 1, 0, 0, 0), (18, .bipush (9), 2, 0, 0, 0), (20, .invokestatic 69, 3, 46, 3, 0), (23, .ifCond .eq (18), 3, 0, 0, 0), (26, .iload 4, 2, 0, 0, 0), (28, .iconst 0, 1, 0, 0, 0), (29, .iconst 4, 1, 0, 0, 0), (30, .invokestatic 69, 3, 46, 3, 0), (33, .ifCond .eq (8), 3, 0, 0, 0), (36, .iload 5, 2, 0, 0, 0), (38, .ifCond .ge (5), 3, 0, 0, 0), (41, .iconst (-1), 1, 0, 0, 0), (42, .ireturn, 1, 0, 0, 0), (43, .aload_n 0, 1, 0, 0, 0), (44, .iload_n 1, 1, 0, 0, 0), (45, .invokevirtual 110, 3, 63, 2, 9), (48, .ifCond .eq (8), 3, 0, 0, 0), (51, .bipush (-4), 2, 0, 0, 0), (53, .goto (14), 3, 0, 0, 0), (56, .aload_n 0, 1, 0, 0, 0), (57, .iload_n 1, 1, 0, 0, 0), (58, .iload 4, 2, 0, 0, 0), (60, .iload_n 2, 1, 0, 0, 0), (61, .iload_n 3, 1, 0, 0, 0), (62, .iload 5, 2, 0, 0, 0), (64, .invokevirtual 199, 3, 93, 6, 9), (67, .ireturn, 1, 0, 0, 0)]
def k_M_times : List mm_E := [(0, .iload_n 1, 1, 0, 0, 0), (1, .invokestatic 85, 3, 47, 1, 0), (4, .ifCond .eq (17), 3, 0, 0, 0), (7, .iload_n 2, 1, 0, 0, 0), (8, .invokestatic 85, 3, 47, 1, 0), (11, .ifCond .eq (10), 3, 0, 0, 0), (14, .iload_n 3, 1, 0, 0, 0), (15, .invokestatic 85, 3, 47, 1, 0), (18, .ifCond .ne (5), 3, 0, 0, 0), (21, .iconst (-1), 1, 0, 0, 0), (22, .ireturn, 1, 0, 0, 0), (23, .aload_n 0, 1, 0, 0, 0), (24, .getfield 7, 3, 8, 0, 0), (27, .iload_n 2, 1, 0, 0, 0), (28, .iaload, 1, 0, 0, 0), (29, .istore 4, 2, 0, 0, 0), (31, .aload_n 0, 1, 0, 0, 0), (32, .getfield 7, 3, 8, 0, 0), (35, .iload_n 1, 1, 0, 0, 0), (36, .iaload, 1, 0, 0, 0), (37, .iload 4, 2, 0, 0, 0), (39, .imul, 1, 0, 0, 0), (40, .bipush (12), 2, 0, 0, 0), (42, .if_icmp .gt (7), 3, 0, 0, 0), (45, .iconst 1, 1, 0, 0, 0), (46, .goto (4), 3, 0, 0, 0), (49, .iconst 0, 1, 0, 0, 0), (50, .istore 5, 2, 0, 0, 0), (52, .aload_n 0, 1, 0, 0, 0), (53, .iconst 4, 1, 0, 0, 0), (54, .invokevirtual 89, 3, 54, 2, 9), (57, .iconst 0, 1, 0, 0, 0), (58, .istore 6, 2, 0, 0, 0), (60, .iload 6, 2, 0, 0, 0), (62, .aload_n 0, 1, 0, 0, 0), (63, .getfield 7, 3, 8, 0, 0), (66, .iload_n 1, 1, 0, 0, 0), (67, .iaload, 1, 0, 0, 0), (68, .if_icmp .ge (279), 3, 0, 0, 0), (71, .iload 5, 2, 0, 0, 0), (73, .ifCond .eq (274), 3, 0, 0, 0), (76, .iconst 0, 1, 0, 0, 0), (77, .istore 7, 2, 0, 0, 0), (79, .iload 7, 2, 0, 0, 0), (81, .iload 4, 2, 0, 0, 0), (83, .if_icmp .ge (258), 3, 0, 0, 0), (86, .aload_n 0, 1, 0, 0, 0), (87, .iload_n 1, 1, 0, 0, 0), (88, .iload 6, 2, 0, 0, 0), (90, .invokevirtual 73, 3, 49, 3, 9), (93, .aload_n 0, 1, 0, 0, 0), (94, .iload_n 2, 1, 0, 0, 0), (95, .iload 7, 2, 0, 0, 0), (97, .invokevirtual 73, 3, 49, 3, 9), (100, .iadd, 1, 0, 0, 0), (101, .istore 8, 2, 0, 0, 0), (103, .aload_n 0, 1, 0, 0, 0), (104, .iload_n 1, 1, 0, 0, 0), (105, .iconst 0, 1, 0, 0, 0), (106, .iload 6, 2, 0, 0, 0), (108, .invokevirtual 77, 3, 50, 4, 9), (111, .aload_n 0, 1, 0, 0, 0), (112, .iload_n 2, 1, 0, 0, 0), (113, .iconst 0, 1, 0, 0, 0), (114, .iload 7, 2, 0, 0, 0), (116, .invokevirtual 77, 3, 50, 4, 9), (119, .iadd, 1, 0, 0, 0), (120, .istore 9, 2, 0, 0, 0), (122, .aload_n 0, 1, 0, 0, 0), (123, .iload_n 1, 1, 0, 0, 0), (124, .iconst 1, 1, 0, 0, 0), (125, .iload 6, 2, 0, 0, 0), (127, .invokevirtual 77, 3, 50, 4, 9), (130, .aload_n 0, 1, 0, 0, 0), (131, .iload_n 2, 1, 0, 0, 0), (132, .iconst 1, 1, 0, 0, 0), (133, .iload 7, 2, 0, 0, 0), (135, .invokevirtual 77, 3, 50, 4, 9), (138, .iadd, 1, 0, 0, 0), (139, .istore 10, 2, 0, 0, 0), (141, .iload 5, 2, 0, 0, 0), (143, .ifCond .eq (27), 3, 0, 0, 0), (146, .iload 8, 2, 0, 0, 0), (148, .iconst 4, 1, 0, 0, 0), (149, .if_icmp .gt (21), 3, 0, 0, 0), (152, .iload 9, 2, 0, 0, 0), (154, .bipush (9), 2, 0, 0, 0), (156, .if_icmp .gt (14), 3, 0, 0, 0), (159, .iload 10, 2, 0, 0, 0), (161, .bipush (9), 2, 0, 0, 0), (163, .if_icmp .gt (7), 3, 0, 0, 0), (166, .iconst 1, 1, 0, 0, 0), (167, .goto (4), 3, 0, 0, 0), (170, .iconst 0, 1, 0, 0, 0), (171, .istore 5, 2, 0, 0, 0), (173, .aload_n 0, 1, 0, 0, 0), (174, .iconst 4, 1, 0, 0, 0), (175, .iload 4, 2, 0, 0, 0), (177, .iload 6, 2, 0, 0, 0), (179, .imul, 1, 0, 0, 0), (180, .iload 7, 2, 0, 0, 0), (182, .iadd, 1, 0, 0, 0), (183, .iload 8, 2, 0, 0, 0), (185, .iload 9, 2, 0, 0, 0), (187, .iload 10, 2, 0, 0, 0), (189, .invokevirtual 81, 3, 53, 6, 9), (192, .iconst 0, 1, 0, 0, 0), (193, .istore 11, 2, 0, 0, 0), (195, .iload 11, 2, 0, 0, 0), (197, .aload_n 0, 1, 0, 0, 0), (198, .getfield 7, 3, 8, 0, 0), (201, .iload_n 1, 1, 0, 0, 0), (202, .iaload, 1, 0, 0, 0), (203, .if_icmp .ge (50), 3, 0, 0, 0), (206, .aload_n 0, 1, 0, 0, 0), (207, .getfield 19, 3, 8, 3, 0), (210, .sipush (576), 3, 0, 0, 0), (213, .bipush (12), 2, 0, 0, 0), (215, .iload 4, 2, 0, 0, 0), (217, .iload 6, 2, 0, 0, 0), (219, .imul, 1, 0, 0, 0), (220, .iload 7, 2, 0, 0, 0), (222, .iadd, 1, 0, 0, 0), (223, .imul, 1, 0, 0, 0), (224, .iadd, 1, 0, 0, 0), (225, .iload 4, 2, 0, 0, 0), (227, .iload 11, 2, 0, 0, 0), (229, .imul, 1, 0, 0, 0), (230, .iadd, 1, 0, 0, 0), (231, .iload 7, 2, 0, 0, 0), (233, .iadd, 1, 0, 0, 0), (234, .dup2, 1, 0, 0, 0), (235, .iaload, 1, 0, 0, 0), (236, .aload_n 0, 1, 0, 0, 0), (237, .iload_n 1, 1, 0, 0, 0), (238, .iload 6, 2, 0, 0, 0), (240, .iload 11, 2, 0, 0, 0), (242, .invokevirtual 103, 3, 51, 4, 9), (245, .iadd, 1, 0, 0, 0), (246, .iastore, 1, 0, 0, 0), (247, .iinc 11 (1), 3, 0, 0, 0), (250, .goto (-55), 3, 0, 0, 0), (253, .iconst 0, 1, 0, 0, 0), (254, .istore 11, 2, 0, 0, 0), (256, .iload 11, 2, 0, 0, 0), (258, .iload 4, 2, 0, 0, 0), (260, .if_icmp .ge (75), 3, 0, 0, 0), (263, .aload_n 0, 1, 0, 0, 0), (264, .getfield 19, 3, 8, 3, 0), (267, .sipush (576), 3, 0, 0, 0), (270, .bipush (12), 2, 0, 0, 0), (272, .iload 4, 2, 0, 0, 0), (274, .iload 6, 2, 0, 0, 0), (276, .imul, 1, 0, 0, 0), (277, .iload 7, 2, 0, 0, 0), (279, .iadd, 1, 0, 0, 0), (280, .imul, 1, 0, 0, 0), (281, .iadd, 1, 0, 0, 0), (282, .iload 4, 2, 0, 0, 0), (284, .iload 6, 2, 0, 0, 0), (286, .imul, 1, 0, 0, 0), (287, .iadd, 1, 0, 0, 0), (288, .iload 11, 2, 0, 0, 0), (290, .iadd, 1, 0, 0, 0), (291, .dup2, 1, 0, 0, 0), (292, .iaload, 1, 0, 0, 0), (293, .aload_n 0, 1, 0, 0, 0), (294, .iload_n 1, 1, 0, 0, 0), (295, .iload 6, 2, 0, 0, 0), (297, .invokevirtual 73, 3, 49, 3, 9), (300, .iconst 2, 1, 0, 0, 0), (301, .irem, 1, 0, 0, 0), (302, .ifCond .ne (15), 3, 0, 0, 0), (305, .aload_n 0, 1, 0, 0, 0), (306, .iload_n 2, 1, 0, 0, 0), (307, .iload 7, 2, 0, 0, 0), (309, .iload 11, 2, 0, 0, 0), (311, .invokevirtual 103, 3, 51, 4, 9), (314, .goto (13), 3, 0, 0, 0), (317, .aload_n 0, 1, 0, 0, 0), (318, .iload_n 2, 1, 0, 0, 0), (319, .iload 7, 2, 0, 0, 0), (321, .iload 11, 2, 0, 0, 0), (323, .invokevirtual 103, 3, 51, 4, 9), (326, .ineg, 1, 0, 0, 0), (327, .iadd, 1, 0, 0, 0), (328, .iastore, 1, 0, 0, 0), (329, .iinc 11 (1), 3, 0, 0, 0), (332, .goto (-76), 3, 0, 0, 0), (335, .iinc 7 (1), 3, 0, 0, 0), (338, .goto (-259), 3, 0, 0, 0), (341, .iinc 6 (1), 3, 0, 0, 0), (344, .goto (-284), 3, 0, 0, 0), (347, .iload 5, 2, 0, 0, 0), (349, .ifCond .ne (6), 3, 0, 0, 0), (352, .bipush (-2), 2, 0, 0, 0), (354, .ireturn, 1, 0, 0, 0), (355, .aload_n 0, 1, 0, 0, 0), (356, .getfield 7, 3, 8, 0, 0), (359, .iconst 4, 1, 0, 0, 0), (360, .aload_n 0, 1, 0, 0, 0), (361, .getfield 7, 3, 8, 0, 0), (364, .iload_n 1, 1, 0, 0, 0), (365, .iaload, 1, 0, 0, 0), (366, .iload 4, 2, 0, 0, 0), (368, .imul, 1, 0, 0, 0), (369, .iastore, 1, 0, 0, 0), (370, .aload_n 0, 1, 0, 0, 0), (371, .iconst 4, 1, 0, 0, 0), (372, .iload_n 3, 1, 0, 0, 0), (373, .invokevirtual 203, 3, 55, 3, 9), (376, .aload_n 0, 1, 0, 0, 0), (377, .getfield 7, 3, 8, 0, 0), (380, .iload_n 3, 1, 0, 0, 0), (381, .iaload, 1, 0, 0, 0), (382, .ireturn, 1, 0, 0, 0)]
def k_M_part : List mm_E := [(0, .iload_n 1, 1, 0, 0, 0), (1, .invokestatic 85, 3, 47, 1, 0), (4, .ifCond .eq (30), 3, 0, 0, 0), (7, .iload_n 2, 1, 0, 0, 0), (8, .iconst 0, 1, 0, 0, 0), (9, .iconst 1, 1, 0, 0, 0), (10, .invokestatic 69, 3, 46, 3, 0), (13, .ifCond .eq (21), 3, 0, 0, 0), (16, .iload_n 3, 1, 0, 0, 0), (17, .iconst 0, 1, 0, 0, 0), (18, .bipush (9), 2, 0, 0, 0), (20, .invokestatic 69, 3, 46, 3, 0), (23, .ifCond .eq (11), 3, 0, 0, 0), (26, .iload 4, 2, 0, 0, 0), (28, .invokestatic 85, 3, 47, 1, 0), (31, .ifCond .ne (5), 3, 0, 0, 0), (34, .iconst (-1), 1, 0, 0, 0), (35, .ireturn, 1, 0, 0, 0), (36, .aload_n 0, 1, 0, 0, 0), (37, .iconst 4, 1, 0, 0, 0), (38, .invokevirtual 89, 3, 54, 2, 9), (41, .iconst 0, 1, 0, 0, 0), (42, .istore 5, 2, 0, 0, 0), (44, .iconst 0, 1, 0, 0, 0), (45, .istore 6, 2, 0, 0, 0), (47, .iload 6, 2, 0, 0, 0), (49, .aload_n 0, 1, 0, 0, 0), (50, .getfield 7, 3, 8, 0, 0), (53, .iload_n 1, 1, 0, 0, 0), (54, .iaload, 1, 0, 0, 0), (55, .if_icmp .ge (118), 3, 0, 0, 0), (58, .aload_n 0, 1, 0, 0, 0), (59, .iload_n 1, 1, 0, 0, 0), (60, .iload_n 2, 1, 0, 0, 0), (61, .iload 6, 2, 0, 0, 0), (63, .invokevirtual 77, 3, 50, 4, 9), (66, .iload_n 3, 1, 0, 0, 0), (67, .if_icmp .gt (100), 3, 0, 0, 0), (70, .aload_n 0, 1, 0, 0, 0), (71, .iconst 4, 1, 0, 0, 0), (72, .iload 5, 2, 0, 0, 0), (74, .aload_n 0, 1, 0, 0, 0), (75, .iload_n 1, 1, 0, 0, 0), (76, .iload 6, 2, 0, 0, 0), (78, .invokevirtual 73, 3, 49, 3, 9), (81, .aload_n 0, 1, 0, 0, 0), (82, .iload_n 1, 1, 0, 0, 0), (83, .iconst 0, 1, 0, 0, 0), (84, .iload 6, 2, 0, 0, 0), (86, .invokevirtual 77, 3, 50, 4, 9), (89, .aload_n 0, 1, 0, 0, 0), (90, .iload_n 1, 1, 0, 0, 0), (91, .iconst 1, 1, 0, 0, 0), (92, .iload 6, 2, 0, 0, 0), (94, .invokevirtual 77, 3, 50, 4, 9), (97, .invokevirtual 81, 3, 53, 6, 9), (100, .iconst 0, 1, 0, 0, 0), (101, .istore 7, 2, 0, 0, 0), (103, .iconst 0, 1, 0, 0, 0), (104, .istore 8, 2, 0, 0, 0), (106, .iload 8, 2, 0, 0, 0), (108, .aload_n 0, 1, 0, 0, 0), (109, .getfield 7, 3, 8, 0, 0), (112, .iload_n 1, 1, 0, 0, 0), (113, .iaload, 1, 0, 0, 0), (114, .if_icmp .ge (50), 3, 0, 0, 0), (117, .aload_n 0, 1, 0, 0, 0), (118, .iload_n 1, 1, 0, 0, 0), (119, .iload_n 2, 1, 0, 0, 0), (120, .iload 8, 2, 0, 0, 0), (122, .invokevirtual 77, 3, 50, 4, 9), (125, .iload_n 3, 1, 0, 0, 0), (126, .if_icmp .gt (32), 3, 0, 0, 0), (129, .aload_n 0, 1, 0, 0, 0), (130, .getfield 19, 3, 8, 3, 0), (133, .sipush (576), 3, 0, 0, 0), (136, .bipush (12), 2, 0, 0, 0), (138, .iload 5, 2, 0, 0, 0), (140, .imul, 1, 0, 0, 0), (141, .iadd, 1, 0, 0, 0), (142, .iload 7, 2, 0, 0, 0), (144, .iadd, 1, 0, 0, 0), (145, .aload_n 0, 1, 0, 0, 0), (146, .iload_n 1, 1, 0, 0, 0), (147, .iload 6, 2, 0, 0, 0), (149, .iload 8, 2, 0, 0, 0), (151, .invokevirtual 103, 3, 51, 4, 9), (154, .iastore, 1, 0, 0, 0), (155, .iinc 7 (1), 3, 0, 0, 0), (158, .iinc 8 (1), 3, 0, 0, 0), (161, .goto (-55), 3, 0, 0, 0), (164, .iinc 5 (1), 3, 0, 0, 0), (167, .iinc 6 (1), 3, 0, 0, 0), (170, .goto (-123), 3, 0, 0, 0), (173, .aload_n 0, 1, 0, 0, 0), (174, .getfield 7, 3, 8, 0, 0), (177, .iconst 4, 1, 0, 0, 0), (178, .iload 5, 2, 0, 0, 0), (180, .iastore, 1, 0, 0, 0), (181, .aload_n 0, 1, 0, 0, 0), (182, .iconst 4, 1, 0, 0, 0), (183, .iload 4, 2, 0, 0, 0), (185, .invokevirtual 203, 3, 55, 3, 9), (188, .iload 5, 2, 0, 0, 0), (190, .ireturn, 1, 0, 0, 0)]
def k_M_feed : List mm_E := [(0, .iload_n 3, 1, 0, 0, 0), (1, .iconst 1, 1, 0, 0, 0), (2, .bipush (8), 2, 0, 0, 0), (4, .invokestatic 69, 3, 46, 3, 0), (7, .ifCond .ne (5), 3, 0, 0, 0), (10, .iconst (-1), 1, 0, 0, 0), (11, .ireturn, 1, 0, 0, 0), (12, .aload_n 0, 1, 0, 0, 0), (13, .getfield 206, 3, 8, 21, 0), (16, .iload_n 3, 1, 0, 0, 0), (17, .iadd, 1, 0, 0, 0), (18, .sipush (200), 3, 0, 0, 0), (21, .if_icmp .le (6), 3, 0, 0, 0), (24, .bipush (-2), 2, 0, 0, 0), (26, .ireturn, 1, 0, 0, 0), (27, .iconst 0, 1, 0, 0, 0), (28, .istore 4, 2, 0, 0, 0), (30, .iload 4, 2, 0, 0, 0), (32, .iload_n 3, 1, 0, 0, 0), (33, .if_icmp .ge (40), 3, 0, 0, 0), (36, .aload_n 0, 1, 0, 0, 0), (37, .getfield 50, 3, 8, 20, 0), (40, .aload_n 0, 1, 0, 0, 0), (41, .getfield 206, 3, 8, 21, 0), (44, .lload_n 1, 1, 0, 0, 0), (45, .bipush (8), 2, 0, 0, 0), (47, .iload 4, 2, 0, 0, 0), (49, .imul, 1, 0, 0, 0), (50, .lshr, 1, 0, 0, 0), (51, .ldc2_w 209, 3, 0, 0, 255), (54, .land, 1, 0, 0, 0), (55, .l2i, 1, 0, 0, 0), (56, .iastore, 1, 0, 0, 0), (57, .aload_n 0, 1, 0, 0, 0), (58, .dup, 1, 0, 0, 0), (59, .getfield 206, 3, 8, 21, 0), (62, .iconst 1, 1, 0, 0, 0), (63, .iadd, 1, 0, 0, 0), (64, .putfield 206, 3, 8, 21, 0), (67, .iinc 4 (1), 3, 0, 0, 0), (70, .goto (-40), 3, 0, 0, 0), (73, .aload_n 0, 1, 0, 0, 0), (74, .getfield 206, 3, 8, 21, 0), (77, .ireturn, 1, 0, 0, 0)]
def k_M_here : List mm_E := [(0, .aload_n 0, 1, 0, 0, 0), (1, .getfield 211, 3, 8, 22, 0), (4, .aload_n 0, 1, 0, 0, 0), (5, .getfield 206, 3, 8, 21, 0), (8, .if_icmp .ge (30), 3, 0, 0, 0), (11, .aload_n 0, 1, 0, 0, 0), (12, .getfield 50, 3, 8, 20, 0), (15, .aload_n 0, 1, 0, 0, 0), (16, .getfield 211, 3, 8, 22, 0), (19, .iaload, 1, 0, 0, 0), (20, .bipush (32), 2, 0, 0, 0), (22, .if_icmp .ne (16), 3, 0, 0, 0), (25, .aload_n 0, 1, 0, 0, 0), (26, .dup, 1, 0, 0, 0), (27, .getfield 211, 3, 8, 22, 0), (30, .iconst 1, 1, 0, 0, 0), (31, .iadd, 1, 0, 0, 0), (32, .putfield 211, 3, 8, 22, 0), (35, .goto (-35), 3, 0, 0, 0), (38, .aload_n 0, 1, 0, 0, 0), (39, .getfield 211, 3, 8, 22, 0), (42, .aload_n 0, 1, 0, 0, 0), (43, .getfield 206, 3, 8, 21, 0), (46, .if_icmp .ge (15), 3, 0, 0, 0), (49, .aload_n 0, 1, 0, 0, 0), (50, .getfield 50, 3, 8, 20, 0), (53, .aload_n 0, 1, 0, 0, 0), (54, .getfield 211, 3, 8, 22, 0), (57, .iaload, 1, 0, 0, 0), (58, .goto (4), 3, 0, 0, 0), (61, .iconst (-1), 1, 0, 0, 0), (62, .ireturn, 1, 0, 0, 0)]
def k_M_takes : List mm_E := [(0, .aload_n 0, 1, 0, 0, 0), (1, .invokevirtual 214, 3, 99, 1, 9), (4, .iload_n 1, 1, 0, 0, 0), (5, .if_icmp .eq (5), 3, 0, 0, 0), (8, .iconst 0, 1, 0, 0, 0), (9, .ireturn, 1, 1, 0, 0), (10, .aload_n 0, 1, 0, 0, 0), (11, .dup, 1, 0, 0, 0), (12, .getfield 211, 3, 8, 22, 0), (15, .iconst 1, 1, 0, 0, 0), (16, .iadd, 1, 0, 0, 0), (17, .putfield 211, 3, 8, 22, 0), (20, .iconst 1, 1, 0, 0, 0), (21, .ireturn, 1, 1, 0, 0)]
def k_M_readsNumber : List mm_E := [(0, .aload_n 0, 1, 0, 0, 0), (1, .iconst 0, 1, 0, 0, 0), (2, .putfield 218, 3, 8, 23, 0), (5, .aload_n 0, 1, 0, 0, 0), (6, .aload_n 0, 1, 0, 0, 0), (7, .invokevirtual 214, 3, 99, 1, 9), (10, .ifCond .ge (10), 3, 0, 0, 0), (13, .aload_n 0, 1, 0, 0, 0), (14, .getfield 206, 3, 8, 21, 0), (17, .goto (7), 3, 0, 0, 0), (20, .aload_n 0, 1, 0, 0, 0), (21, .getfield 211, 3, 8, 22, 0), (24, .putfield 221, 3, 8, 24, 0), (27, .aload_n 0, 1, 0, 0, 0), (28, .getfield 211, 3, 8, 22, 0), (31, .istore_n 2, 1, 0, 0, 0), (32, .iload_n 2, 1, 0, 0, 0), (33, .aload_n 0, 1, 0, 0, 0), (34, .getfield 206, 3, 8, 21, 0), (37, .if_icmp .ge (62), 3, 0, 0, 0), (40, .aload_n 0, 1, 0, 0, 0), (41, .getfield 50, 3, 8, 20, 0), (44, .iload_n 2, 1, 0, 0, 0), (45, .iaload, 1, 0, 0, 0), (46, .bipush (48), 2, 0, 0, 0), (48, .bipush (57), 2, 0, 0, 0), (50, .invokestatic 69, 3, 46, 3, 0), (53, .ifCond .eq (46), 3, 0, 0, 0), (56, .aload_n 0, 1, 0, 0, 0), (57, .iload_n 2, 1, 0, 0, 0), (58, .aload_n 0, 1, 0, 0, 0), (59, .getfield 211, 3, 8, 22, 0), (62, .isub, 1, 0, 0, 0), (63, .iconst 1, 1, 0, 0, 0), (64, .if_icmp .le (9), 3, 0, 0, 0), (67, .sipush (1000), 3, 0, 0, 0), (70, .goto (20), 3, 0, 0, 0), (73, .bipush (10), 2, 0, 0, 0), (75, .aload_n 0, 1, 0, 0, 0), (76, .getfield 218, 3, 8, 23, 0), (79, .imul, 1, 0, 0, 0), (80, .aload_n 0, 1, 0, 0, 0), (81, .getfield 50, 3, 8, 20, 0), (84, .iload_n 2, 1, 0, 0, 0), (85, .iaload, 1, 0, 0, 0), (86, .iadd, 1, 0, 0, 0), (87, .bipush (48), 2, 0, 0, 0), (89, .isub, 1, 0, 0, 0), (90, .putfield 218, 3, 8, 23, 0), (93, .iinc 2 (1), 3, 0, 0, 0), (96, .goto (-64), 3, 0, 0, 0), (99, .iload_n 2, 1, 0, 0, 0), (100, .aload_n 0, 1, 0, 0, 0), (101, .getfield 211, 3, 8, 22, 0), (104, .if_icmp .eq (11), 3, 0, 0, 0), (107, .aload_n 0, 1, 0, 0, 0), (108, .getfield 218, 3, 8, 23, 0), (111, .iload_n 1, 1, 0, 0, 0), (112, .if_icmp .le (5), 3, 0, 0, 0), (115, .iconst 0, 1, 0, 0, 0), (116, .ireturn, 1, 1, 0, 0), (117, .aload_n 0, 1, 0, 0, 0), (118, .iload_n 2, 1, 0, 0, 0), (119, .putfield 211, 3, 8, 22, 0), (122, .iconst 1, 1, 0, 0, 0), (123, .ireturn, 1, 1, 0, 0)]
def k_M_readsEntry : List mm_E := [(0, .aload_n 0, 1, 0, 0, 0), (1, .bipush (45), 2, 0, 0, 0), (3, .invokevirtual 224, 3, 100, 2, 9), (6, .istore_n 2, 1, 0, 0, 0), (7, .aload_n 0, 1, 0, 0, 0), (8, .bipush (99), 2, 0, 0, 0), (10, .invokevirtual 227, 3, 101, 2, 9), (13, .ifCond .ne (5), 3, 0, 0, 0), (16, .iconst 0, 1, 0, 0, 0), (17, .ireturn, 1, 1, 0, 0), (18, .iconst 1, 1, 0, 0, 0), (19, .istore_n 3, 1, 0, 0, 0), (20, .aload_n 0, 1, 0, 0, 0), (21, .getfield 221, 3, 8, 24, 0), (24, .istore 4, 2, 0, 0, 0), (26, .aload_n 0, 1, 0, 0, 0), (27, .bipush (42), 2, 0, 0, 0), (29, .invokevirtual 224, 3, 100, 2, 9), (32, .ifCond .eq (33), 3, 0, 0, 0), (35, .aload_n 0, 1, 0, 0, 0), (36, .getfield 218, 3, 8, 23, 0), (39, .istore_n 3, 1, 0, 0, 0), (40, .iload_n 3, 1, 0, 0, 0), (41, .bipush (9), 2, 0, 0, 0), (43, .if_icmp .le (11), 3, 0, 0, 0), (46, .aload_n 0, 1, 0, 0, 0), (47, .iload 4, 2, 0, 0, 0), (49, .putfield 211, 3, 8, 22, 0), (52, .iconst 0, 1, 0, 0, 0), (53, .ireturn, 1, 1, 0, 0), (54, .aload_n 0, 1, 0, 0, 0), (55, .bipush (99), 2, 0, 0, 0), (57, .invokevirtual 227, 3, 101, 2, 9), (60, .ifCond .ne (5), 3, 0, 0, 0), (63, .iconst 0, 1, 0, 0, 0), (64, .ireturn, 1, 1, 0, 0), (65, .iload 4, 2, 0, 0, 0), (67, .aload_n 0, 1, 0, 0, 0), (68, .getfield 221, 3, 8, 24, 0), (71, .if_icmp .ne (21), 3, 0, 0, 0), (74, .aload_n 0, 1, 0, 0, 0), (75, .getfield 218, 3, 8, 23, 0), (78, .bipush (10), 2, 0, 0, 0), (80, .if_icmp .ge (12), 3, 0, 0, 0), (83, .aload_n 0, 1, 0, 0, 0), (84, .invokevirtual 214, 3, 99, 1, 9), (87, .ifCond .ge (5), 3, 0, 0, 0), (90, .iconst 0, 1, 0, 0, 0), (91, .ireturn, 1, 1, 0, 0), (92, .aload_n 0, 1, 0, 0, 0), (93, .getfield 218, 3, 8, 23, 0), (96, .iload_n 1, 1, 0, 0, 0), (97, .if_icmp .ge (28), 3, 0, 0, 0), (100, .aload_n 0, 1, 0, 0, 0), (101, .getfield 53, 3, 8, 25, 0), (104, .aload_n 0, 1, 0, 0, 0), (105, .getfield 218, 3, 8, 23, 0), (108, .baload, 1, 0, 0, 0), (109, .ifCond .ne (16), 3, 0, 0, 0), (112, .aload_n 0, 1, 0, 0, 0), (113, .iconst 4, 1, 0, 0, 0), (114, .iload_n 1, 1, 0, 0, 0), (115, .aload_n 0, 1, 0, 0, 0), (116, .getfield 218, 3, 8, 23, 0), (119, .invokevirtual 100, 3, 52, 4, 9), (122, .ifCond .ne (13), 3, 0, 0, 0), (125, .aload_n 0, 1, 0, 0, 0), (126, .aload_n 0, 1, 0, 0, 0), (127, .getfield 221, 3, 8, 24, 0), (130, .putfield 211, 3, 8, 22, 0), (133, .iconst 0, 1, 0, 0, 0), (134, .ireturn, 1, 1, 0, 0), (135, .aload_n 0, 1, 0, 0, 0), (136, .getfield 53, 3, 8, 25, 0), (139, .aload_n 0, 1, 0, 0, 0), (140, .getfield 218, 3, 8, 23, 0), (143, .iconst 1, 1, 0, 0, 0), (144, .bastore, 1, 0, 0, 0), (145, .aload_n 0, 1, 0, 0, 0), (146, .getfield 19, 3, 8, 3, 0), (149, .sipush (576), 3, 0, 0, 0), (152, .bipush (12), 2, 0, 0, 0), (154, .iload_n 1, 1, 0, 0, 0), (155, .imul, 1, 0, 0, 0), (156, .iadd, 1, 0, 0, 0), (157, .aload_n 0, 1, 0, 0, 0), (158, .getfield 218, 3, 8, 23, 0), (161, .iadd, 1, 0, 0, 0), (162, .iload_n 2, 1, 0, 0, 0), (163, .ifCond .eq (8), 3, 0, 0, 0), (166, .iload_n 3, 1, 0, 0, 0), (167, .ineg, 1, 0, 0, 0), (168, .goto (4), 3, 0, 0, 0), (171, .iload_n 3, 1, 0, 0, 0), (172, .iastore, 1, 0, 0, 0), (173, .iconst 1, 1, 0, 0, 0), (174, .ireturn, 1, 1, 0, 0)]
def k_M_readsCell : List mm_E := [(0, .aload_n 0, 1, 0, 0, 0), (1, .getfield 7, 3, 8, 0, 0), (4, .iconst 4, 1, 0, 0, 0), (5, .iaload, 1, 0, 0, 0), (6, .istore_n 1, 1, 0, 0, 0), (7, .iload_n 1, 1, 0, 0, 0), (8, .bipush (12), 2, 0, 0, 0), (10, .if_icmp .eq (11), 3, 0, 0, 0), (13, .aload_n 0, 1, 0, 0, 0), (14, .iconst 4, 1, 0, 0, 0), (15, .invokevirtual 227, 3, 101, 2, 9), (18, .ifCond .ne (5), 3, 0, 0, 0), (21, .iconst 0, 1, 0, 0, 0), (22, .ireturn, 1, 1, 0, 0), (23, .aload_n 0, 1, 0, 0, 0), (24, .getfield 218, 3, 8, 23, 0), (27, .istore_n 2, 1, 0, 0, 0), (28, .iconst 0, 1, 0, 0, 0), (29, .istore_n 3, 1, 0, 0, 0), (30, .iconst 0, 1, 0, 0, 0), (31, .istore 4, 2, 0, 0, 0), (33, .aload_n 0, 1, 0, 0, 0), (34, .bipush (64), 2, 0, 0, 0), (36, .invokevirtual 224, 3, 100, 2, 9), (39, .ifCond .eq (53), 3, 0, 0, 0), (42, .aload_n 0, 1, 0, 0, 0), (43, .bipush (9), 2, 0, 0, 0), (45, .invokevirtual 227, 3, 101, 2, 9), (48, .ifCond .ne (5), 3, 0, 0, 0), (51, .iconst 0, 1, 0, 0, 0), (52, .ireturn, 1, 1, 0, 0), (53, .aload_n 0, 1, 0, 0, 0), (54, .getfield 218, 3, 8, 23, 0), (57, .istore_n 3, 1, 0, 0, 0), (58, .iload_n 3, 1, 0, 0, 0), (59, .istore 4, 2, 0, 0, 0), (61, .aload_n 0, 1, 0, 0, 0), (62, .invokevirtual 214, 3, 99, 1, 9), (65, .bipush (48), 2, 0, 0, 0), (67, .bipush (57), 2, 0, 0, 0), (69, .invokestatic 69, 3, 46, 3, 0), (72, .ifCond .eq (20), 3, 0, 0, 0), (75, .aload_n 0, 1, 0, 0, 0), (76, .bipush (9), 2, 0, 0, 0), (78, .invokevirtual 227, 3, 101, 2, 9), (81, .ifCond .ne (5), 3, 0, 0, 0), (84, .iconst 0, 1, 0, 0, 0), (85, .ireturn, 1, 1, 0, 0), (86, .aload_n 0, 1, 0, 0, 0), (87, .getfield 218, 3, 8, 23, 0), (90, .istore 4, 2, 0, 0, 0), (92, .aload_n 0, 1, 0, 0, 0), (93, .iconst 4, 1, 0, 0, 0), (94, .iload_n 1, 1, 0, 0, 0), (95, .iload_n 2, 1, 0, 0, 0), (96, .iload_n 3, 1, 0, 0, 0), (97, .iload 4, 2, 0, 0, 0), (99, .invokevirtual 81, 3, 53, 6, 9), (102, .iconst 0, 1, 0, 0, 0), (103, .istore 5, 2, 0, 0, 0), (105, .iload 5, 2, 0, 0, 0), (107, .bipush (12), 2, 0, 0, 0), (109, .if_icmp .ge (17), 3, 0, 0, 0), (112, .aload_n 0, 1, 0, 0, 0), (113, .getfield 53, 3, 8, 25, 0), (116, .iload 5, 2, 0, 0, 0), (118, .iconst 0, 1, 0, 0, 0), (119, .bastore, 1, 0, 0, 0), (120, .iinc 5 (1), 3, 0, 0, 0), (123, .goto (-18), 3, 0, 0, 0), (126, .aload_n 0, 1, 0, 0, 0), (127, .bipush (58), 2, 0, 0, 0), (129, .invokevirtual 224, 3, 100, 2, 9), (132, .istore 5, 2, 0, 0, 0), (134, .iload 5, 2, 0, 0, 0), (136, .ifCond .eq (24), 3, 0, 0, 0), (139, .aload_n 0, 1, 0, 0, 0), (140, .iload_n 1, 1, 0, 0, 0), (141, .invokevirtual 230, 3, 102, 2, 9), (144, .ifCond .ne (5), 3, 0, 0, 0), (147, .iconst 0, 1, 0, 0, 0), (148, .ireturn, 1, 1, 0, 0), (149, .aload_n 0, 1, 0, 0, 0), (150, .bipush (44), 2, 0, 0, 0), (152, .invokevirtual 224, 3, 100, 2, 9), (155, .istore 5, 2, 0, 0, 0), (157, .goto (-23), 3, 0, 0, 0), (160, .aload_n 0, 1, 0, 0, 0), (161, .getfield 7, 3, 8, 0, 0), (164, .iconst 4, 1, 0, 0, 0), (165, .dup2, 1, 0, 0, 0), (166, .iaload, 1, 0, 0, 0), (167, .iconst 1, 1, 0, 0, 0), (168, .iadd, 1, 0, 0, 0), (169, .iastore, 1, 0, 0, 0), (170, .aload_n 0, 1, 0, 0, 0), (171, .bipush (59), 2, 0, 0, 0), (173, .invokevirtual 224, 3, 100, 2, 9), (176, .ireturn, 1, 1, 0, 0)]
def k_M_text : List mm_E := [(0, .iload_n 1, 1, 0, 0, 0), (1, .invokestatic 85, 3, 47, 1, 0), (4, .ifCond .ne (5), 3, 0, 0, 0), (7, .iconst (-1), 1, 0, 0, 0), (8, .ireturn, 1, 0, 0, 0), (9, .aload_n 0, 1, 0, 0, 0), (10, .iconst 0, 1, 0, 0, 0), (11, .putfield 211, 3, 8, 22, 0), (14, .aload_n 0, 1, 0, 0, 0), (15, .iconst 4, 1, 0, 0, 0), (16, .invokevirtual 89, 3, 54, 2, 9), (19, .iconst 1, 1, 0, 0, 0), (20, .istore_n 2, 1, 0, 0, 0), (21, .iload_n 2, 1, 0, 0, 0), (22, .ifCond .eq (18), 3, 0, 0, 0), (25, .aload_n 0, 1, 0, 0, 0), (26, .invokevirtual 214, 3, 99, 1, 9), (29, .ifCond .lt (11), 3, 0, 0, 0), (32, .aload_n 0, 1, 0, 0, 0), (33, .invokevirtual 233, 3, 103, 1, 9), (36, .istore_n 2, 1, 0, 0, 0), (37, .goto (-16), 3, 0, 0, 0), (40, .aload_n 0, 1, 0, 0, 0), (41, .invokevirtual 214, 3, 99, 1, 9), (44, .ifCond .ge (10), 3, 0, 0, 0), (47, .aload_n 0, 1, 0, 0, 0), (48, .getfield 206, 3, 8, 21, 0), (51, .goto (7), 3, 0, 0, 0), (54, .aload_n 0, 1, 0, 0, 0), (55, .getfield 211, 3, 8, 22, 0), (58, .istore_n 3, 1, 0, 0, 0), (59, .aload_n 0, 1, 0, 0, 0), (60, .iconst 0, 1, 0, 0, 0), (61, .putfield 206, 3, 8, 21, 0), (64, .iload_n 2, 1, 0, 0, 0), (65, .ifCond .ne (8), 3, 0, 0, 0), (68, .bipush (-100), 2, 0, 0, 0), (70, .iload_n 3, 1, 0, 0, 0), (71, .isub, 1, 0, 0, 0), (72, .ireturn, 1, 0, 0, 0), (73, .aload_n 0, 1, 0, 0, 0), (74, .iconst 4, 1, 0, 0, 0), (75, .iload_n 1, 1, 0, 0, 0), (76, .invokevirtual 203, 3, 55, 3, 9), (79, .aload_n 0, 1, 0, 0, 0), (80, .getfield 7, 3, 8, 0, 0), (83, .iload_n 1, 1, 0, 0, 0), (84, .iaload, 1, 0, 0, 0), (85, .ireturn, 1, 0, 0, 0)]
def k_M_isSheet : List mm_E := [(0, .iload_n 0, 1, 0, 0, 0), (1, .iconst 0, 1, 0, 0, 0), (2, .iconst 3, 1, 0, 0, 0), (3, .invokestatic 69, 3, 46, 3, 0), (6, .ireturn, 1, 1, 0, 0)]
def k_M_isOutside : List mm_E := [(0, .iload_n 3, 1, 0, 0, 0), (1, .ifCond .lt (23), 3, 0, 0, 0), (4, .iload_n 2, 1, 0, 0, 0), (5, .ifCond .lt (19), 3, 0, 0, 0), (8, .iload_n 2, 1, 0, 0, 0), (9, .i2l, 1, 0, 0, 0), (10, .iload_n 3, 1, 0, 0, 0), (11, .i2l, 1, 0, 0, 0), (12, .ladd, 1, 0, 0, 0), (13, .aload_n 0, 1, 0, 0, 0), (14, .getfield 60, 3, 8, 27, 0), (17, .iload_n 1, 1, 0, 0, 0), (18, .iaload, 1, 0, 0, 0), (19, .i2l, 1, 0, 0, 0), (20, .lcmp, 1, 0, 0, 0), (21, .ifCond .le (7), 3, 0, 0, 0), (24, .iconst 1, 1, 0, 0, 0), (25, .goto (4), 3, 0, 0, 0), (28, .iconst 0, 1, 0, 0, 0), (29, .ireturn, 1, 1, 0, 0)]
def k_M_cut : List mm_E := [(0, .iload_n 0, 1, 0, 0, 0), (1, .ifCond .ne (10), 3, 0, 0, 0), (4, .lload_n 1, 1, 0, 0, 0), (5, .l2i, 1, 0, 0, 0), (6, .i2b, 1, 0, 0, 0), (7, .i2l, 1, 0, 0, 0), (8, .goto (15), 3, 0, 0, 0), (11, .iload_n 0, 1, 0, 0, 0), (12, .iconst 1, 1, 0, 0, 0), (13, .if_icmp .ne (9), 3, 0, 0, 0), (16, .lload_n 1, 1, 0, 0, 0), (17, .l2i, 1, 0, 0, 0), (18, .i2l, 1, 0, 0, 0), (19, .goto (4), 3, 0, 0, 0), (22, .lload_n 1, 1, 0, 0, 0), (23, .lreturn, 1, 0, 0, 0)]
def k_M_sheet : List mm_E := [(0, .iload_n 1, 1, 0, 0, 0), (1, .invokestatic 237, 3, 105, 1, 0), (4, .ifCond .eq (22), 3, 0, 0, 0), (7, .iload_n 2, 1, 0, 0, 0), (8, .iconst (-1), 1, 0, 0, 0), (9, .iconst 2, 1, 0, 0, 0), (10, .invokestatic 69, 3, 46, 3, 0), (13, .ifCond .eq (13), 3, 0, 0, 0), (16, .iload_n 2, 1, 0, 0, 0), (17, .ifCond .lt (11), 3, 0, 0, 0), (20, .iload_n 3, 1, 0, 0, 0), (21, .bipush (40), 2, 0, 0, 0), (23, .if_icmp .le (5), 3, 0, 0, 0), (26, .iconst (-1), 1, 0, 0, 0), (27, .ireturn, 1, 0, 0, 0), (28, .iload_n 2, 1, 0, 0, 0), (29, .ifCond .lt (10), 3, 0, 0, 0), (32, .iload_n 3, 1, 0, 0, 0), (33, .ifCond .ge (6), 3, 0, 0, 0), (36, .bipush (-14), 2, 0, 0, 0), (38, .ireturn, 1, 0, 0, 0), (39, .aload_n 0, 1, 0, 0, 0), (40, .getfield 57, 3, 8, 26, 0), (43, .iload_n 1, 1, 0, 0, 0), (44, .iload_n 2, 1, 0, 0, 0), (45, .iastore, 1, 0, 0, 0), (46, .aload_n 0, 1, 0, 0, 0), (47, .getfield 60, 3, 8, 27, 0), (50, .iload_n 1, 1, 0, 0, 0), (51, .iload_n 2, 1, 0, 0, 0), (52, .ifCond .ge (7), 3, 0, 0, 0), (55, .iconst 0, 1, 0, 0, 0), (56, .goto (4), 3, 0, 0, 0), (59, .iload_n 3, 1, 0, 0, 0), (60, .iastore, 1, 0, 0, 0), (61, .iconst 0, 1, 0, 0, 0), (62, .istore 4, 2, 0, 0, 0), (64, .iload 4, 2, 0, 0, 0), (66, .bipush (40), 2, 0, 0, 0), (68, .if_icmp .ge (22), 3, 0, 0, 0), (71, .aload_n 0, 1, 0, 0, 0), (72, .getfield 63, 3, 8, 28, 0), (75, .bipush (40), 2, 0, 0, 0), (77, .iload_n 1, 1, 0, 0, 0), (78, .imul, 1, 0, 0, 0), (79, .iload 4, 2, 0, 0, 0), (81, .iadd, 1, 0, 0, 0), (82, .lconst 0, 1, 0, 0, 0), (83, .lastore, 1, 0, 0, 0), (84, .iinc 4 (1), 3, 0, 0, 0), (87, .goto (-23), 3, 0, 0, 0), (90, .iconst 1, 1, 0, 0, 0), (91, .ireturn, 1, 0, 0, 0)]
def k_M_put : List mm_E := [(0, .iload_n 1, 1, 0, 0, 0), (1, .invokestatic 237, 3, 105, 1, 0), (4, .ifCond .ne (5), 3, 0, 0, 0), (7, .iconst (-1), 1, 0, 0, 0), (8, .ireturn, 1, 0, 0, 0), (9, .aload_n 0, 1, 0, 0, 0), (10, .getfield 57, 3, 8, 26, 0), (13, .iload_n 1, 1, 0, 0, 0), (14, .iaload, 1, 0, 0, 0), (15, .ifCond .ge (6), 3, 0, 0, 0), (18, .bipush (-11), 2, 0, 0, 0), (20, .ireturn, 1, 0, 0, 0), (21, .iload_n 2, 1, 0, 0, 0), (22, .iconst 0, 1, 0, 0, 0), (23, .aload_n 0, 1, 0, 0, 0), (24, .getfield 60, 3, 8, 27, 0), (27, .iload_n 1, 1, 0, 0, 0), (28, .iaload, 1, 0, 0, 0), (29, .iconst 1, 1, 0, 0, 0), (30, .isub, 1, 0, 0, 0), (31, .invokestatic 69, 3, 46, 3, 0), (34, .ifCond .ne (6), 3, 0, 0, 0), (37, .bipush (-12), 2, 0, 0, 0), (39, .ireturn, 1, 0, 0, 0), (40, .aload_n 0, 1, 0, 0, 0), (41, .getfield 63, 3, 8, 28, 0), (44, .bipush (40), 2, 0, 0, 0), (46, .iload_n 1, 1, 0, 0, 0), (47, .imul, 1, 0, 0, 0), (48, .iload_n 2, 1, 0, 0, 0), (49, .iadd, 1, 0, 0, 0), (50, .aload_n 0, 1, 0, 0, 0), (51, .getfield 57, 3, 8, 26, 0), (54, .iload_n 1, 1, 0, 0, 0), (55, .iaload, 1, 0, 0, 0), (56, .lload_n 3, 1, 0, 0, 0), (57, .invokestatic 240, 3, 107, 2, 0), (60, .lastore, 1, 0, 0, 0), (61, .iconst 1, 1, 0, 0, 0), (62, .ireturn, 1, 0, 0, 0)]
def k_M_item : List mm_E := [(0, .iload_n 1, 1, 0, 0, 0), (1, .invokestatic 237, 3, 105, 1, 0), (4, .ifCond .eq (12), 3, 0, 0, 0), (7, .iload_n 2, 1, 0, 0, 0), (8, .iconst 0, 1, 0, 0, 0), (9, .iconst 2, 1, 0, 0, 0), (10, .invokestatic 69, 3, 46, 3, 0), (13, .ifCond .ne (5), 3, 0, 0, 0), (16, .iconst (-1), 1, 0, 0, 0), (17, .ireturn, 1, 0, 0, 0), (18, .aload_n 0, 1, 0, 0, 0), (19, .getfield 57, 3, 8, 26, 0), (22, .iload_n 1, 1, 0, 0, 0), (23, .iaload, 1, 0, 0, 0), (24, .iload_n 2, 1, 0, 0, 0), (25, .if_icmp .eq (20), 3, 0, 0, 0), (28, .aload_n 0, 1, 0, 0, 0), (29, .getfield 57, 3, 8, 26, 0), (32, .iload_n 1, 1, 0, 0, 0), (33, .iaload, 1, 0, 0, 0), (34, .ifCond .ge (8), 3, 0, 0, 0), (37, .bipush (-11), 2, 0, 0, 0), (39, .goto (5), 3, 0, 0, 0), (42, .bipush (-13), 2, 0, 0, 0), (44, .ireturn, 1, 0, 0, 0), (45, .iload_n 3, 1, 0, 0, 0), (46, .iconst 0, 1, 0, 0, 0), (47, .aload_n 0, 1, 0, 0, 0), (48, .getfield 60, 3, 8, 27, 0), (51, .iload_n 1, 1, 0, 0, 0), (52, .iaload, 1, 0, 0, 0), (53, .iconst 1, 1, 0, 0, 0), (54, .isub, 1, 0, 0, 0), (55, .invokestatic 69, 3, 46, 3, 0), (58, .ifCond .eq (18), 3, 0, 0, 0), (61, .aload_n 0, 1, 0, 0, 0), (62, .getfield 63, 3, 8, 28, 0), (65, .bipush (40), 2, 0, 0, 0), (67, .iload_n 1, 1, 0, 0, 0), (68, .imul, 1, 0, 0, 0), (69, .iload_n 3, 1, 0, 0, 0), (70, .iadd, 1, 0, 0, 0), (71, .laload, 1, 0, 0, 0), (72, .l2i, 1, 0, 0, 0), (73, .goto (5), 3, 0, 0, 0), (76, .bipush (-12), 2, 0, 0, 0), (78, .ireturn, 1, 0, 0, 0)]
def k_M_copy : List mm_E := [(0, .iload_n 1, 1, 0, 0, 0), (1, .invokestatic 237, 3, 105, 1, 0), (4, .ifCond .eq (10), 3, 0, 0, 0), (7, .iload_n 3, 1, 0, 0, 0), (8, .invokestatic 237, 3, 105, 1, 0), (11, .ifCond .ne (5), 3, 0, 0, 0), (14, .iconst (-1), 1, 0, 0, 0), (15, .ireturn, 1, 0, 0, 0), (16, .aload_n 0, 1, 0, 0, 0), (17, .getfield 57, 3, 8, 26, 0), (20, .iload_n 1, 1, 0, 0, 0), (21, .iaload, 1, 0, 0, 0), (22, .ifCond .lt (12), 3, 0, 0, 0), (25, .aload_n 0, 1, 0, 0, 0), (26, .getfield 57, 3, 8, 26, 0), (29, .iload_n 3, 1, 0, 0, 0), (30, .iaload, 1, 0, 0, 0), (31, .ifCond .ge (6), 3, 0, 0, 0), (34, .bipush (-11), 2, 0, 0, 0), (36, .ireturn, 1, 0, 0, 0), (37, .aload_n 0, 1, 0, 0, 0), (38, .getfield 57, 3, 8, 26, 0), (41, .iload_n 1, 1, 0, 0, 0), (42, .iaload, 1, 0, 0, 0), (43, .aload_n 0, 1, 0, 0, 0), (44, .getfield 57, 3, 8, 26, 0), (47, .iload_n 3, 1, 0, 0, 0), (48, .iaload, 1, 0, 0, 0), (49, .if_icmp .eq (6), 3, 0, 0, 0), (52, .bipush (-13), 2, 0, 0, 0), (54, .ireturn, 1, 0, 0, 0), (55, .aload_n 0, 1, 0, 0, 0), (56, .iload_n 1, 1, 0, 0, 0), (57, .iload_n 2, 1, 0, 0, 0), (58, .iload 5, 2, 0, 0, 0), (60, .invokevirtual 244, 3, 106, 4, 9), (63, .ifCond .ne (15), 3, 0, 0, 0), (66, .aload_n 0, 1, 0, 0, 0), (67, .iload_n 3, 1, 0, 0, 0), (68, .iload 4, 2, 0, 0, 0), (70, .iload 5, 2, 0, 0, 0), (72, .invokevirtual 244, 3, 106, 4, 9), (75, .ifCond .eq (6), 3, 0, 0, 0), (78, .bipush (-12), 2, 0, 0, 0), (80, .ireturn, 1, 0, 0, 0), (81, .iconst 0, 1, 0, 0, 0), (82, .istore 6, 2, 0, 0, 0), (84, .iload 6, 2, 0, 0, 0), (86, .iload 5, 2, 0, 0, 0), (88, .if_icmp .ge (30), 3, 0, 0, 0), (91, .aload_n 0, 1, 0, 0, 0), (92, .getfield 66, 3, 8, 29, 0), (95, .iload 6, 2, 0, 0, 0), (97, .aload_n 0, 1, 0, 0, 0), (98, .getfield 63, 3, 8, 28, 0), (101, .bipush (40), 2, 0, 0, 0), (103, .iload_n 1, 1, 0, 0, 0), (104, .imul, 1, 0, 0, 0), (105, .iload_n 2, 1, 0, 0, 0), (106, .iadd, 1, 0, 0, 0), (107, .iload 6, 2, 0, 0, 0), (109, .iadd, 1, 0, 0, 0), (110, .laload, 1, 0, 0, 0), (111, .lastore, 1, 0, 0, 0), (112, .iinc 6 (1), 3, 0, 0, 0), (115, .goto (-31), 3, 0, 0, 0), (118, .iconst 0, 1, 0, 0, 0), (119, .istore 6, 2, 0, 0, 0), (121, .iload 6, 2, 0, 0, 0), (123, .iload 5, 2, 0, 0, 0), (125, .if_icmp .ge (31), 3, 0, 0, 0), (128, .aload_n 0, 1, 0, 0, 0), (129, .getfield 63, 3, 8, 28, 0), (132, .bipush (40), 2, 0, 0, 0), (134, .iload_n 3, 1, 0, 0, 0), (135, .imul, 1, 0, 0, 0), (136, .iload 4, 2, 0, 0, 0), (138, .iadd, 1, 0, 0, 0), (139, .iload 6, 2, 0, 0, 0), (141, .iadd, 1, 0, 0, 0), (142, .aload_n 0, 1, 0, 0, 0), (143, .getfield 66, 3, 8, 29, 0), (146, .iload 6, 2, 0, 0, 0), (148, .laload, 1, 0, 0, 0), (149, .lastore, 1, 0, 0, 0), (150, .iinc 6 (1), 3, 0, 0, 0), (153, .goto (-32), 3, 0, 0, 0), (156, .iload 5, 2, 0, 0, 0), (158, .ireturn, 1, 0, 0, 0)]
def k_M_lacks : List mm_E := [(0, .aload_n 0, 1, 0, 0, 0), (1, .getfield 57, 3, 8, 26, 0), (4, .iload_n 1, 1, 0, 0, 0), (5, .iaload, 1, 0, 0, 0), (6, .ifCond .ge (6), 3, 0, 0, 0), (9, .bipush (-11), 2, 0, 0, 0), (11, .ireturn, 1, 0, 0, 0), (12, .aload_n 0, 1, 0, 0, 0), (13, .getfield 57, 3, 8, 26, 0), (16, .iload_n 1, 1, 0, 0, 0), (17, .iaload, 1, 0, 0, 0), (18, .iconst 2, 1, 0, 0, 0), (19, .if_icmp .ne (8), 3, 0, 0, 0), (22, .bipush (-13), 2, 0, 0, 0), (24, .goto (19), 3, 0, 0, 0), (27, .aload_n 0, 1, 0, 0, 0), (28, .iload_n 1, 1, 0, 0, 0), (29, .iload_n 2, 1, 0, 0, 0), (30, .iload_n 3, 1, 0, 0, 0), (31, .invokevirtual 244, 3, 106, 4, 9), (34, .ifCond .eq (8), 3, 0, 0, 0), (37, .bipush (-12), 2, 0, 0, 0), (39, .goto (4), 3, 0, 0, 0), (42, .iconst 0, 1, 0, 0, 0), (43, .ireturn, 1, 0, 0, 0)]
def k_M_lay : List mm_E := [(0, .iload_n 1, 1, 0, 0, 0), (1, .invokestatic 85, 3, 47, 1, 0), (4, .ifCond .eq (19), 3, 0, 0, 0), (7, .aload_n 0, 1, 0, 0, 0), (8, .iload_n 1, 1, 0, 0, 0), (9, .iload_n 2, 1, 0, 0, 0), (10, .invokevirtual 93, 3, 48, 3, 9), (13, .ifCond .eq (10), 3, 0, 0, 0), (16, .iload_n 3, 1, 0, 0, 0), (17, .invokestatic 237, 3, 105, 1, 0), (20, .ifCond .ne (5), 3, 0, 0, 0), (23, .iconst (-1), 1, 0, 0, 0), (24, .ireturn, 1, 0, 0, 0), (25, .aload_n 0, 1, 0, 0, 0), (26, .iload_n 3, 1, 0, 0, 0), (27, .iload 4, 2, 0, 0, 0), (29, .aload_n 0, 1, 0, 0, 0), (30, .getfield 7, 3, 8, 0, 0), (33, .iload_n 1, 1, 0, 0, 0), (34, .iaload, 1, 0, 0, 0), (35, .invokevirtual 247, 3, 112, 4, 9), (38, .istore 5, 2, 0, 0, 0), (40, .iconst 0, 1, 0, 0, 0), (41, .istore 6, 2, 0, 0, 0), (43, .iload 6, 2, 0, 0, 0), (45, .aload_n 0, 1, 0, 0, 0), (46, .getfield 7, 3, 8, 0, 0), (49, .iload_n 1, 1, 0, 0, 0), (50, .iaload, 1, 0, 0, 0), (51, .if_icmp .ge (38), 3, 0, 0, 0), (54, .iload 5, 2, 0, 0, 0), (56, .ifCond .ne (33), 3, 0, 0, 0), (59, .aload_n 0, 1, 0, 0, 0), (60, .getfield 63, 3, 8, 28, 0), (63, .bipush (40), 2, 0, 0, 0), (65, .iload_n 3, 1, 0, 0, 0), (66, .imul, 1, 0, 0, 0), (67, .iload 4, 2, 0, 0, 0), (69, .iadd, 1, 0, 0, 0), (70, .iload 6, 2, 0, 0, 0), (72, .iadd, 1, 0, 0, 0), (73, .aload_n 0, 1, 0, 0, 0), (74, .iload_n 1, 1, 0, 0, 0), (75, .iload_n 2, 1, 0, 0, 0), (76, .iload 6, 2, 0, 0, 0), (78, .invokevirtual 103, 3, 51, 4, 9), (81, .i2l, 1, 0, 0, 0), (82, .lastore, 1, 0, 0, 0), (83, .iinc 6 (1), 3, 0, 0, 0), (86, .goto (-43), 3, 0, 0, 0), (89, .iload 5, 2, 0, 0, 0), (91, .ifCond .ne (12), 3, 0, 0, 0), (94, .aload_n 0, 1, 0, 0, 0), (95, .getfield 7, 3, 8, 0, 0), (98, .iload_n 1, 1, 0, 0, 0), (99, .iaload, 1, 0, 0, 0), (100, .goto (5), 3, 0, 0, 0), (103, .iload 5, 2, 0, 0, 0), (105, .ireturn, 1, 0, 0, 0)]
def k_M_take : List mm_E := [(0, .iload_n 3, 1, 0, 0, 0), (1, .invokestatic 85, 3, 47, 1, 0), (4, .ifCond .eq (20), 3, 0, 0, 0), (7, .aload_n 0, 1, 0, 0, 0), (8, .iload_n 3, 1, 0, 0, 0), (9, .iload 4, 2, 0, 0, 0), (11, .invokevirtual 93, 3, 48, 3, 9), (14, .ifCond .eq (10), 3, 0, 0, 0), (17, .iload_n 1, 1, 0, 0, 0), (18, .invokestatic 237, 3, 105, 1, 0), (21, .ifCond .ne (5), 3, 0, 0, 0), (24, .iconst (-1), 1, 0, 0, 0), (25, .ireturn, 1, 0, 0, 0), (26, .aload_n 0, 1, 0, 0, 0), (27, .iload_n 1, 1, 0, 0, 0), (28, .iload_n 2, 1, 0, 0, 0), (29, .aload_n 0, 1, 0, 0, 0), (30, .getfield 7, 3, 8, 0, 0), (33, .iload_n 3, 1, 0, 0, 0), (34, .iaload, 1, 0, 0, 0), (35, .invokevirtual 247, 3, 112, 4, 9), (38, .istore 5, 2, 0, 0, 0), (40, .iload 5, 2, 0, 0, 0), (42, .ifCond .eq (6), 3, 0, 0, 0), (45, .iload 5, 2, 0, 0, 0), (47, .ireturn, 1, 0, 0, 0), (48, .iconst 1, 1, 0, 0, 0), (49, .istore 6, 2, 0, 0, 0), (51, .iconst 0, 1, 0, 0, 0), (52, .istore 7, 2, 0, 0, 0), (54, .iconst 0, 1, 0, 0, 0), (55, .istore 8, 2, 0, 0, 0), (57, .iload 8, 2, 0, 0, 0), (59, .aload_n 0, 1, 0, 0, 0), (60, .getfield 7, 3, 8, 0, 0), (63, .iload_n 3, 1, 0, 0, 0), (64, .iaload, 1, 0, 0, 0), (65, .if_icmp .ge (100), 3, 0, 0, 0), (68, .aload_n 0, 1, 0, 0, 0), (69, .getfield 63, 3, 8, 28, 0), (72, .bipush (40), 2, 0, 0, 0), (74, .iload_n 1, 1, 0, 0, 0), (75, .imul, 1, 0, 0, 0), (76, .iload_n 2, 1, 0, 0, 0), (77, .iadd, 1, 0, 0, 0), (78, .iload 8, 2, 0, 0, 0), (80, .iadd, 1, 0, 0, 0), (81, .laload, 1, 0, 0, 0), (82, .lstore 9, 2, 0, 0, 0), (84, .iload 6, 2, 0, 0, 0), (86, .ifCond .eq (44), 3, 0, 0, 0), (89, .lload 9, 2, 0, 0, 0), (91, .ldc2_w 250, 3, 0, 0, (-9)), (94, .lcmp, 1, 0, 0, 0), (95, .ifCond .lt (35), 3, 0, 0, 0), (98, .lload 9, 2, 0, 0, 0), (100, .ldc2_w 252, 3, 0, 0, 9), (103, .lcmp, 1, 0, 0, 0), (104, .ifCond .gt (26), 3, 0, 0, 0), (107, .lload 9, 2, 0, 0, 0), (109, .lconst 0, 1, 0, 0, 0), (110, .lcmp, 1, 0, 0, 0), (111, .ifCond .eq (15), 3, 0, 0, 0), (114, .aload_n 0, 1, 0, 0, 0), (115, .iload_n 3, 1, 0, 0, 0), (116, .iload 4, 2, 0, 0, 0), (118, .iload 8, 2, 0, 0, 0), (120, .invokevirtual 100, 3, 52, 4, 9), (123, .ifCond .eq (7), 3, 0, 0, 0), (126, .iconst 1, 1, 0, 0, 0), (127, .goto (4), 3, 0, 0, 0), (130, .iconst 0, 1, 0, 0, 0), (131, .istore 6, 2, 0, 0, 0), (133, .iload 7, 2, 0, 0, 0), (135, .lload 9, 2, 0, 0, 0), (137, .aload_n 0, 1, 0, 0, 0), (138, .iload_n 3, 1, 0, 0, 0), (139, .iload 4, 2, 0, 0, 0), (141, .iload 8, 2, 0, 0, 0), (143, .invokevirtual 103, 3, 51, 4, 9), (146, .i2l, 1, 0, 0, 0), (147, .lcmp, 1, 0, 0, 0), (148, .ifCond .eq (7), 3, 0, 0, 0), (151, .iconst 1, 1, 0, 0, 0), (152, .goto (4), 3, 0, 0, 0), (155, .iconst 0, 1, 0, 0, 0), (156, .iadd, 1, 0, 0, 0), (157, .istore 7, 2, 0, 0, 0), (159, .iinc 8 (1), 3, 0, 0, 0), (162, .goto (-105), 3, 0, 0, 0), (165, .iconst 0, 1, 0, 0, 0), (166, .istore 8, 2, 0, 0, 0), (168, .iload 8, 2, 0, 0, 0), (170, .aload_n 0, 1, 0, 0, 0), (171, .getfield 7, 3, 8, 0, 0), (174, .iload_n 3, 1, 0, 0, 0), (175, .iaload, 1, 0, 0, 0), (176, .if_icmp .ge (48), 3, 0, 0, 0), (179, .iload 6, 2, 0, 0, 0), (181, .ifCond .eq (43), 3, 0, 0, 0), (184, .aload_n 0, 1, 0, 0, 0), (185, .getfield 19, 3, 8, 3, 0), (188, .sipush (144), 3, 0, 0, 0), (191, .iload_n 3, 1, 0, 0, 0), (192, .imul, 1, 0, 0, 0), (193, .bipush (12), 2, 0, 0, 0), (195, .iload 4, 2, 0, 0, 0), (197, .imul, 1, 0, 0, 0), (198, .iadd, 1, 0, 0, 0), (199, .iload 8, 2, 0, 0, 0), (201, .iadd, 1, 0, 0, 0), (202, .aload_n 0, 1, 0, 0, 0), (203, .getfield 63, 3, 8, 28, 0), (206, .bipush (40), 2, 0, 0, 0), (208, .iload_n 1, 1, 0, 0, 0), (209, .imul, 1, 0, 0, 0), (210, .iload_n 2, 1, 0, 0, 0), (211, .iadd, 1, 0, 0, 0), (212, .iload 8, 2, 0, 0, 0), (214, .iadd, 1, 0, 0, 0), (215, .laload, 1, 0, 0, 0), (216, .l2i, 1, 0, 0, 0), (217, .iastore, 1, 0, 0, 0), (218, .iinc 8 (1), 3, 0, 0, 0), (221, .goto (-53), 3, 0, 0, 0), (224, .iload 6, 2, 0, 0, 0), (226, .ifCond .eq (8), 3, 0, 0, 0), (229, .iload 7, 2, 0, 0, 0), (231, .goto (4), 3, 0, 0, 0), (234, .iconst (-1), 1, 0, 0, 0), (235, .ireturn, 1, 0, 0, 0)]
def k_M_cellsAll : List mm_E := [(0, .iconst 0, 1, 0, 0, 0), (1, .istore_n 1, 1, 0, 0, 0), (2, .iconst 0, 1, 0, 0, 0), (3, .istore_n 2, 1, 0, 0, 0), (4, .iload_n 2, 1, 0, 0, 0), (5, .iconst 4, 1, 0, 0, 0), (6, .if_icmp .ge (18), 3, 0, 0, 0), (9, .iload_n 1, 1, 0, 0, 0), (10, .aload_n 0, 1, 0, 0, 0), (11, .getfield 7, 3, 8, 0, 0), (14, .iload_n 2, 1, 0, 0, 0), (15, .iaload, 1, 0, 0, 0), (16, .iadd, 1, 0, 0, 0), (17, .istore_n 1, 1, 0, 0, 0), (18, .iinc 2 (1), 3, 0, 0, 0), (21, .goto (-17), 3, 0, 0, 0), (24, .iload_n 1, 1, 0, 0, 0), (25, .ireturn, 1, 0, 0, 0)]
def k_M_many : List mm_E := [(0, .iconst 0, 1, 0, 0, 0), (1, .istore_n 2, 1, 0, 0, 0), (2, .iconst 0, 1, 0, 0, 0), (3, .istore_n 3, 1, 0, 0, 0), (4, .iload_n 3, 1, 0, 0, 0), (5, .iconst 4, 1, 0, 0, 0), (6, .if_icmp .ge (44), 3, 0, 0, 0), (9, .iload_n 2, 1, 0, 0, 0), (10, .iload_n 1, 1, 0, 0, 0), (11, .iconst 2, 1, 0, 0, 0), (12, .if_icmp .ne (14), 3, 0, 0, 0), (15, .aload_n 0, 1, 0, 0, 0), (16, .iload_n 3, 1, 0, 0, 0), (17, .invokevirtual 110, 3, 63, 2, 9), (20, .ifCond .eq (21), 3, 0, 0, 0), (23, .goto (12), 3, 0, 0, 0), (26, .aload_n 0, 1, 0, 0, 0), (27, .getfield 7, 3, 8, 0, 0), (30, .iload_n 3, 1, 0, 0, 0), (31, .iaload, 1, 0, 0, 0), (32, .ifCond .le (9), 3, 0, 0, 0), (35, .iconst 1, 1, 0, 0, 0), (36, .iload_n 3, 1, 0, 0, 0), (37, .ishl, 1, 0, 0, 0), (38, .goto (4), 3, 0, 0, 0), (41, .iconst 0, 1, 0, 0, 0), (42, .ior, 1, 0, 0, 0), (43, .istore_n 2, 1, 0, 0, 0), (44, .iinc 3 (1), 3, 0, 0, 0), (47, .goto (-43), 3, 0, 0, 0), (50, .iload_n 1, 1, 0, 0, 0), (51, .tableswitch (41) (0) (3) #[(29), (34), (34), (36)], 29, 0, 0, 0), (80, .aload_n 0, 1, 0, 0, 0), (81, .invokevirtual 254, 3, 115, 1, 9), (84, .ireturn, 1, 0, 0, 0), (85, .iload_n 2, 1, 0, 0, 0), (86, .ireturn, 1, 0, 0, 0), (87, .aload_n 0, 1, 0, 0, 0), (88, .getfield 206, 3, 8, 21, 0), (91, .ireturn, 1, 0, 0, 0), (92, .iconst (-1), 1, 0, 0, 0), (93, .ireturn, 1, 0, 0, 0)]
def k_M_moves : List mm_E := [(0, .iconst 0, 1, 0, 0, 0), (1, .istore_n 2, 1, 0, 0, 0), (2, .iload_n 2, 1, 0, 0, 0), (3, .aload_n 0, 1, 0, 0, 0), (4, .arraylength, 1, 0, 0, 0), (5, .if_icmp .ge (21), 3, 0, 0, 0), (8, .iload_n 2, 1, 0, 0, 0), (9, .aload_n 1, 1, 0, 0, 0), (10, .arraylength, 1, 0, 0, 0), (11, .if_icmp .ge (15), 3, 0, 0, 0), (14, .aload_n 1, 1, 0, 0, 0), (15, .iload_n 2, 1, 0, 0, 0), (16, .aload_n 0, 1, 0, 0, 0), (17, .iload_n 2, 1, 0, 0, 0), (18, .iaload, 1, 0, 0, 0), (19, .iastore, 1, 0, 0, 0), (20, .iinc 2 (1), 3, 0, 0, 0), (23, .goto (-21), 3, 0, 0, 0), (26, .return_, 1, 0, 0, 0)]
def k_M_keep : List mm_E := [(0, .aload_n 0, 1, 0, 0, 0), (1, .getfield 7, 3, 8, 0, 0), (4, .aload_n 0, 1, 0, 0, 0), (5, .getfield 22, 3, 8, 4, 0), (8, .invokestatic 257, 3, 117, 2, 0), (11, .aload_n 0, 1, 0, 0, 0), (12, .getfield 13, 3, 8, 1, 0), (15, .aload_n 0, 1, 0, 0, 0), (16, .getfield 25, 3, 8, 5, 0), (19, .invokestatic 257, 3, 117, 2, 0), (22, .aload_n 0, 1, 0, 0, 0), (23, .getfield 16, 3, 8, 2, 0), (26, .aload_n 0, 1, 0, 0, 0), (27, .getfield 28, 3, 8, 6, 0), (30, .invokestatic 257, 3, 117, 2, 0), (33, .aload_n 0, 1, 0, 0, 0), (34, .getfield 19, 3, 8, 3, 0), (37, .aload_n 0, 1, 0, 0, 0), (38, .getfield 31, 3, 8, 7, 0), (41, .invokestatic 257, 3, 117, 2, 0), (44, .aload_n 0, 1, 0, 0, 0), (45, .iconst 1, 1, 0, 0, 0), (46, .putfield 261, 3, 8, 8, 0), (49, .iconst 1, 1, 0, 0, 0), (50, .ireturn, 1, 0, 0, 0)]
def k_M_again : List mm_E := [(0, .aload_n 0, 1, 0, 0, 0), (1, .getfield 261, 3, 8, 8, 0), (4, .ifCond .ne (6), 3, 0, 0, 0), (7, .bipush (-3), 2, 0, 0, 0), (9, .ireturn, 1, 0, 0, 0), (10, .aload_n 0, 1, 0, 0, 0), (11, .getfield 22, 3, 8, 4, 0), (14, .aload_n 0, 1, 0, 0, 0), (15, .getfield 7, 3, 8, 0, 0), (18, .invokestatic 257, 3, 117, 2, 0), (21, .aload_n 0, 1, 0, 0, 0), (22, .getfield 25, 3, 8, 5, 0), (25, .aload_n 0, 1, 0, 0, 0), (26, .getfield 13, 3, 8, 1, 0), (29, .invokestatic 257, 3, 117, 2, 0), (32, .aload_n 0, 1, 0, 0, 0), (33, .getfield 28, 3, 8, 6, 0), (36, .aload_n 0, 1, 0, 0, 0), (37, .getfield 16, 3, 8, 2, 0), (40, .invokestatic 257, 3, 117, 2, 0), (43, .aload_n 0, 1, 0, 0, 0), (44, .getfield 31, 3, 8, 7, 0), (47, .aload_n 0, 1, 0, 0, 0), (48, .getfield 19, 3, 8, 3, 0), (51, .invokestatic 257, 3, 117, 2, 0), (54, .aload_n 0, 1, 0, 0, 0), (55, .invokevirtual 254, 3, 115, 1, 9), (58, .ireturn, 1, 0, 0, 0)]
def k_C_has : List mm_E := [(0, .iload_n 1, 1, 0, 0, 0), (1, .ifCond .lt (24), 3, 0, 0, 0), (4, .iload_n 1, 1, 0, 0, 0), (5, .aload_n 0, 1, 0, 0, 0), (6, .getfield 9, 3, 1, 0, 0), (9, .if_icmp .ge (16), 3, 0, 0, 0), (12, .aload_n 0, 1, 0, 0, 0), (13, .getfield 9, 3, 1, 0, 0), (16, .bipush (12), 2, 0, 0, 0), (18, .if_icmp .gt (7), 3, 0, 0, 0), (21, .iconst 1, 1, 0, 0, 0), (22, .goto (4), 3, 0, 0, 0), (25, .iconst 0, 1, 0, 0, 0), (26, .ireturn, 1, 1, 0, 0)]
def k_C_degree : List mm_E := [(0, .aload_n 0, 1, 0, 0, 0), (1, .iload_n 1, 1, 0, 0, 0), (2, .invokevirtual 28, 3, 120, 2, 2), (5, .ifCond .eq (12), 3, 0, 0, 0), (8, .aload_n 0, 1, 0, 0, 0), (9, .getfield 15, 3, 1, 1, 0), (12, .iload_n 1, 1, 0, 0, 0), (13, .iaload, 1, 0, 0, 0), (14, .goto (4), 3, 0, 0, 0), (17, .iconst 0, 1, 0, 0, 0), (18, .ireturn, 1, 0, 0, 0)]
def k_C_level : List mm_E := [(0, .aload_n 0, 1, 0, 0, 0), (1, .iload_n 2, 1, 0, 0, 0), (2, .invokevirtual 28, 3, 120, 2, 2), (5, .ifCond .ne (5), 3, 0, 0, 0), (8, .iconst 0, 1, 0, 0, 0), (9, .ireturn, 1, 0, 0, 0), (10, .iload_n 1, 1, 0, 0, 0), (11, .ifCond .ne (12), 3, 0, 0, 0), (14, .aload_n 0, 1, 0, 0, 0), (15, .getfield 19, 3, 1, 2, 0), (18, .iload_n 2, 1, 0, 0, 0), (19, .iaload, 1, 0, 0, 0), (20, .goto (9), 3, 0, 0, 0), (23, .aload_n 0, 1, 0, 0, 0), (24, .getfield 22, 3, 1, 3, 0), (27, .iload_n 2, 1, 0, 0, 0), (28, .iaload, 1, 0, 0, 0), (29, .ireturn, 1, 0, 0, 0)]
def k_C_edge : List mm_E := [(0, .aload_n 0, 1, 0, 0, 0), (1, .iload_n 1, 1, 0, 0, 0), (2, .invokevirtual 28, 3, 120, 2, 2), (5, .ifCond .eq (25), 3, 0, 0, 0), (8, .aload_n 0, 1, 0, 0, 0), (9, .iload_n 2, 1, 0, 0, 0), (10, .invokevirtual 28, 3, 120, 2, 2), (13, .ifCond .eq (17), 3, 0, 0, 0), (16, .aload_n 0, 1, 0, 0, 0), (17, .getfield 25, 3, 1, 4, 0), (20, .iload_n 1, 1, 0, 0, 0), (21, .bipush (12), 2, 0, 0, 0), (23, .imul, 1, 0, 0, 0), (24, .iload_n 2, 1, 0, 0, 0), (25, .iadd, 1, 0, 0, 0), (26, .iaload, 1, 0, 0, 0), (27, .goto (4), 3, 0, 0, 0), (30, .iconst 0, 1, 0, 0, 0), (31, .ireturn, 1, 0, 0, 0)]
def k_C_setEdge : List mm_E := [(0, .aload_n 0, 1, 0, 0, 0), (1, .iload_n 1, 1, 0, 0, 0), (2, .invokevirtual 28, 3, 120, 2, 2), (5, .ifCond .eq (23), 3, 0, 0, 0), (8, .aload_n 0, 1, 0, 0, 0), (9, .iload_n 2, 1, 0, 0, 0), (10, .invokevirtual 28, 3, 120, 2, 2), (13, .ifCond .eq (15), 3, 0, 0, 0), (16, .aload_n 0, 1, 0, 0, 0), (17, .getfield 25, 3, 1, 4, 0), (20, .iload_n 1, 1, 0, 0, 0), (21, .bipush (12), 2, 0, 0, 0), (23, .imul, 1, 0, 0, 0), (24, .iload_n 2, 1, 0, 0, 0), (25, .iadd, 1, 0, 0, 0), (26, .iload_n 3, 1, 0, 0, 0), (27, .iastore, 1, 0, 0, 0), (28, .return_, 1, 0, 0, 0)]
def k_C_mayHave : List mm_E := [(0, .aload_n 0, 1, 0, 0, 0), (1, .iload_n 1, 1, 0, 0, 0), (2, .invokevirtual 28, 3, 120, 2, 2), (5, .ifCond .eq (62), 3, 0, 0, 0), (8, .aload_n 0, 1, 0, 0, 0), (9, .iload_n 2, 1, 0, 0, 0), (10, .invokevirtual 28, 3, 120, 2, 2), (13, .ifCond .eq (54), 3, 0, 0, 0), (16, .aload_n 0, 1, 0, 0, 0), (17, .getfield 15, 3, 1, 1, 0), (20, .iload_n 2, 1, 0, 0, 0), (21, .iaload, 1, 0, 0, 0), (22, .aload_n 0, 1, 0, 0, 0), (23, .getfield 15, 3, 1, 1, 0), (26, .iload_n 1, 1, 0, 0, 0), (27, .iaload, 1, 0, 0, 0), (28, .iconst 1, 1, 0, 0, 0), (29, .isub, 1, 0, 0, 0), (30, .if_icmp .ne (37), 3, 0, 0, 0), (33, .aload_n 0, 1, 0, 0, 0), (34, .getfield 19, 3, 1, 2, 0), (37, .iload_n 2, 1, 0, 0, 0), (38, .iaload, 1, 0, 0, 0), (39, .aload_n 0, 1, 0, 0, 0), (40, .getfield 19, 3, 1, 2, 0), (43, .iload_n 1, 1, 0, 0, 0), (44, .iaload, 1, 0, 0, 0), (45, .if_icmp .gt (22), 3, 0, 0, 0), (48, .aload_n 0, 1, 0, 0, 0), (49, .getfield 22, 3, 1, 3, 0), (52, .iload_n 2, 1, 0, 0, 0), (53, .iaload, 1, 0, 0, 0), (54, .aload_n 0, 1, 0, 0, 0), (55, .getfield 22, 3, 1, 3, 0), (58, .iload_n 1, 1, 0, 0, 0), (59, .iaload, 1, 0, 0, 0), (60, .if_icmp .gt (7), 3, 0, 0, 0), (63, .iconst 1, 1, 0, 0, 0), (64, .goto (4), 3, 0, 0, 0), (67, .iconst 0, 1, 0, 0, 0), (68, .ireturn, 1, 1, 0, 0)]
def k_C_empty : List mm_E := [(0, .aload_n 0, 1, 0, 0, 0), (1, .iconst 0, 1, 0, 0, 0), (2, .putfield 9, 3, 1, 0, 0), (5, .return_, 1, 0, 0, 0)]
def k_C_add : List mm_E := [(0, .aload_n 0, 1, 0, 0, 0), (1, .getfield 9, 3, 1, 0, 0), (4, .ifCond .lt (12), 3, 0, 0, 0), (7, .aload_n 0, 1, 0, 0, 0), (8, .getfield 9, 3, 1, 0, 0), (11, .bipush (12), 2, 0, 0, 0), (13, .if_icmp .lt (6), 3, 0, 0, 0), (16, .bipush (-2), 2, 0, 0, 0), (18, .ireturn, 1, 0, 0, 0), (19, .aload_n 0, 1, 0, 0, 0), (20, .getfield 9, 3, 1, 0, 0), (23, .istore 4, 2, 0, 0, 0), (25, .aload_n 0, 1, 0, 0, 0), (26, .getfield 15, 3, 1, 1, 0), (29, .iload 4, 2, 0, 0, 0), (31, .iload_n 1, 1, 0, 0, 0), (32, .iastore, 1, 0, 0, 0), (33, .aload_n 0, 1, 0, 0, 0), (34, .getfield 19, 3, 1, 2, 0), (37, .iload 4, 2, 0, 0, 0), (39, .iload_n 2, 1, 0, 0, 0), (40, .iastore, 1, 0, 0, 0), (41, .aload_n 0, 1, 0, 0, 0), (42, .getfield 22, 3, 1, 3, 0), (45, .iload 4, 2, 0, 0, 0), (47, .iload_n 3, 1, 0, 0, 0), (48, .iastore, 1, 0, 0, 0), (49, .aload_n 0, 1, 0, 0, 0), (50, .dup, 1, 0, 0, 0), (51, .getfield 9, 3, 1, 0, 0), (54, .iconst 1, 1, 0, 0, 0), (55, .iadd, 1, 0, 0, 0), (56, .putfield 9, 3, 1, 0, 0), (59, .iconst 0, 1, 0, 0, 0), (60, .istore 5, 2, 0, 0, 0), (62, .iload 5, 2, 0, 0, 0), (64, .iload 4, 2, 0, 0, 0), (66, .if_icmp .gt (27), 3, 0, 0, 0), (69, .aload_n 0, 1, 0, 0, 0), (70, .iload 4, 2, 0, 0, 0), (72, .iload 5, 2, 0, 0, 0), (74, .iconst 0, 1, 0, 0, 0), (75, .invokevirtual 32, 3, 124, 4, 2), (78, .aload_n 0, 1, 0, 0, 0), (79, .iload 5, 2, 0, 0, 0), (81, .iload 4, 2, 0, 0, 0), (83, .iconst 0, 1, 0, 0, 0), (84, .invokevirtual 32, 3, 124, 4, 2), (87, .iinc 5 (1), 3, 0, 0, 0), (90, .goto (-28), 3, 0, 0, 0), (93, .iload 4, 2, 0, 0, 0), (95, .ireturn, 1, 0, 0, 0)]
def k_C_entriesIn : List mm_E := [(0, .iconst 0, 1, 0, 0, 0), (1, .istore_n 2, 1, 0, 0, 0), (2, .iconst 0, 1, 0, 0, 0), (3, .istore_n 3, 1, 0, 0, 0), (4, .iload_n 3, 1, 0, 0, 0), (5, .aload_n 0, 1, 0, 0, 0), (6, .getfield 9, 3, 1, 0, 0), (9, .if_icmp .ge (26), 3, 0, 0, 0), (12, .iload_n 2, 1, 0, 0, 0), (13, .aload_n 0, 1, 0, 0, 0), (14, .iload_n 1, 1, 0, 0, 0), (15, .iload_n 3, 1, 0, 0, 0), (16, .invokevirtual 36, 3, 123, 3, 2), (19, .ifCond .eq (7), 3, 0, 0, 0), (22, .iconst 1, 1, 0, 0, 0), (23, .goto (4), 3, 0, 0, 0), (26, .iconst 0, 1, 0, 0, 0), (27, .iadd, 1, 0, 0, 0), (28, .istore_n 2, 1, 0, 0, 0), (29, .iinc 3 (1), 3, 0, 0, 0), (32, .goto (-28), 3, 0, 0, 0), (35, .iload_n 2, 1, 0, 0, 0), (36, .ireturn, 1, 0, 0, 0)]
def k_C_edgesWith : List mm_E := [(0, .iconst 0, 1, 0, 0, 0), (1, .istore_n 2, 1, 0, 0, 0), (2, .iconst 0, 1, 0, 0, 0), (3, .istore_n 3, 1, 0, 0, 0), (4, .iload_n 3, 1, 0, 0, 0), (5, .aload_n 0, 1, 0, 0, 0), (6, .getfield 9, 3, 1, 0, 0), (9, .if_icmp .ge (26), 3, 0, 0, 0), (12, .iload_n 2, 1, 0, 0, 0), (13, .aload_n 0, 1, 0, 0, 0), (14, .iload_n 3, 1, 0, 0, 0), (15, .iload_n 1, 1, 0, 0, 0), (16, .invokevirtual 36, 3, 123, 3, 2), (19, .ifCond .eq (7), 3, 0, 0, 0), (22, .iconst 1, 1, 0, 0, 0), (23, .goto (4), 3, 0, 0, 0), (26, .iconst 0, 1, 0, 0, 0), (27, .iadd, 1, 0, 0, 0), (28, .istore_n 2, 1, 0, 0, 0), (29, .iinc 3 (1), 3, 0, 0, 0), (32, .goto (-28), 3, 0, 0, 0), (35, .iload_n 2, 1, 0, 0, 0), (36, .ireturn, 1, 0, 0, 0)]
def k_C_isBroken : List mm_E := [(0, .aload_n 0, 1, 0, 0, 0), (1, .invokevirtual 40, 3, 131, 1, 2), (4, .ifCond .eq (7), 3, 0, 0, 0), (7, .iconst 1, 1, 0, 0, 0), (8, .goto (4), 3, 0, 0, 0), (11, .iconst 0, 1, 0, 0, 0), (12, .ireturn, 1, 1, 0, 0)]
def k_C_firstBroken : List mm_E := [(0, .iconst 0, 1, 0, 0, 0), (1, .istore_n 1, 1, 0, 0, 0), (2, .iload_n 1, 1, 0, 0, 0), (3, .aload_n 0, 1, 0, 0, 0), (4, .getfield 9, 3, 1, 0, 0), (7, .if_icmp .ge (64), 3, 0, 0, 0), (10, .aload_n 0, 1, 0, 0, 0), (11, .iload_n 1, 1, 0, 0, 0), (12, .invokevirtual 44, 3, 121, 2, 2), (15, .iconst 2, 1, 0, 0, 0), (16, .isub, 1, 0, 0, 0), (17, .istore_n 2, 1, 0, 0, 0), (18, .iconst 0, 1, 0, 0, 0), (19, .istore_n 3, 1, 0, 0, 0), (20, .iload_n 3, 1, 0, 0, 0), (21, .aload_n 0, 1, 0, 0, 0), (22, .getfield 9, 3, 1, 0, 0), (25, .if_icmp .ge (40), 3, 0, 0, 0), (28, .iload_n 2, 1, 0, 0, 0), (29, .ifCond .lt (36), 3, 0, 0, 0), (32, .aload_n 0, 1, 0, 0, 0), (33, .iload_n 3, 1, 0, 0, 0), (34, .invokevirtual 44, 3, 121, 2, 2), (37, .iload_n 2, 1, 0, 0, 0), (38, .if_icmp .ne (21), 3, 0, 0, 0), (41, .aload_n 0, 1, 0, 0, 0), (42, .iload_n 1, 1, 0, 0, 0), (43, .iload_n 3, 1, 0, 0, 0), (44, .invokevirtual 48, 3, 133, 3, 2), (47, .ifCond .eq (12), 3, 0, 0, 0), (50, .iconst 1, 1, 0, 0, 0), (51, .bipush (16), 2, 0, 0, 0), (53, .iload_n 1, 1, 0, 0, 0), (54, .imul, 1, 0, 0, 0), (55, .iadd, 1, 0, 0, 0), (56, .iload_n 3, 1, 0, 0, 0), (57, .iadd, 1, 0, 0, 0), (58, .ireturn, 1, 0, 0, 0), (59, .iinc 3 (1), 3, 0, 0, 0), (62, .goto (-42), 3, 0, 0, 0), (65, .iinc 1 (1), 3, 0, 0, 0), (68, .goto (-66), 3, 0, 0, 0), (71, .iconst 0, 1, 0, 0, 0), (72, .ireturn, 1, 0, 0, 0)]
def k_C_stillBroken : List mm_E := [(0, .iload_n 1, 1, 0, 0, 0), (1, .iconst 1, 1, 0, 0, 0), (2, .isub, 1, 0, 0, 0), (3, .istore_n 2, 1, 0, 0, 0), (4, .iload_n 2, 1, 0, 0, 0), (5, .ifCond .lt (22), 3, 0, 0, 0), (8, .aload_n 0, 1, 0, 0, 0), (9, .iload_n 2, 1, 0, 0, 0), (10, .bipush (16), 2, 0, 0, 0), (12, .idiv, 1, 0, 0, 0), (13, .iload_n 2, 1, 0, 0, 0), (14, .bipush (16), 2, 0, 0, 0), (16, .irem, 1, 0, 0, 0), (17, .invokevirtual 48, 3, 133, 3, 2), (20, .ifCond .eq (7), 3, 0, 0, 0), (23, .iload_n 1, 1, 0, 0, 0), (24, .goto (7), 3, 0, 0, 0), (27, .aload_n 0, 1, 0, 0, 0), (28, .invokevirtual 40, 3, 131, 1, 2), (31, .ireturn, 1, 0, 0, 0)]
def k_C_edgeOfEdge : List mm_E := [(0, .aload_n 0, 1, 0, 0, 0), (1, .iload_n 1, 1, 0, 0, 0), (2, .invokevirtual 28, 3, 120, 2, 2), (5, .ifCond .eq (11), 3, 0, 0, 0), (8, .aload_n 0, 1, 0, 0, 0), (9, .iload_n 2, 1, 0, 0, 0), (10, .invokevirtual 28, 3, 120, 2, 2), (13, .ifCond .ne (5), 3, 0, 0, 0), (16, .iconst 0, 1, 0, 0, 0), (17, .ireturn, 1, 0, 0, 0), (18, .iconst 0, 1, 0, 0, 0), (19, .istore_n 3, 1, 0, 0, 0), (20, .iconst 0, 1, 0, 0, 0), (21, .istore 4, 2, 0, 0, 0), (23, .iload 4, 2, 0, 0, 0), (25, .aload_n 0, 1, 0, 0, 0), (26, .getfield 9, 3, 1, 0, 0), (29, .if_icmp .ge (46), 3, 0, 0, 0), (32, .aload_n 0, 1, 0, 0, 0), (33, .getfield 25, 3, 1, 4, 0), (36, .iload_n 1, 1, 0, 0, 0), (37, .bipush (12), 2, 0, 0, 0), (39, .imul, 1, 0, 0, 0), (40, .iload 4, 2, 0, 0, 0), (42, .iadd, 1, 0, 0, 0), (43, .iaload, 1, 0, 0, 0), (44, .istore 5, 2, 0, 0, 0), (46, .iload 5, 2, 0, 0, 0), (48, .ifCond .eq (21), 3, 0, 0, 0), (51, .iload_n 3, 1, 0, 0, 0), (52, .iload 5, 2, 0, 0, 0), (54, .aload_n 0, 1, 0, 0, 0), (55, .getfield 25, 3, 1, 4, 0), (58, .iload 4, 2, 0, 0, 0), (60, .bipush (12), 2, 0, 0, 0), (62, .imul, 1, 0, 0, 0), (63, .iload_n 2, 1, 0, 0, 0), (64, .iadd, 1, 0, 0, 0), (65, .iaload, 1, 0, 0, 0), (66, .imul, 1, 0, 0, 0), (67, .iadd, 1, 0, 0, 0), (68, .istore_n 3, 1, 0, 0, 0), (69, .iinc 4 (1), 3, 0, 0, 0), (72, .goto (-49), 3, 0, 0, 0), (75, .iload_n 3, 1, 0, 0, 0), (76, .ireturn, 1, 0, 0, 0)]
def k_C_become : List mm_E := [(0, .aload_n 0, 1, 0, 0, 0), (1, .aload_n 1, 1, 0, 0, 0), (2, .getfield 9, 3, 1, 0, 0), (5, .putfield 9, 3, 1, 0, 0), (8, .aload_n 1, 1, 0, 0, 0), (9, .getfield 15, 3, 1, 1, 0), (12, .iconst 0, 1, 0, 0, 0), (13, .aload_n 0, 1, 0, 0, 0), (14, .getfield 15, 3, 1, 1, 0), (17, .iconst 0, 1, 0, 0, 0), (18, .bipush (12), 2, 0, 0, 0), (20, .invokestatic 51, 3, 999, 0, 0), (23, .aload_n 1, 1, 0, 0, 0), (24, .getfield 19, 3, 1, 2, 0), (27, .iconst 0, 1, 0, 0, 0), (28, .aload_n 0, 1, 0, 0, 0), (29, .getfield 19, 3, 1, 2, 0), (32, .iconst 0, 1, 0, 0, 0), (33, .bipush (12), 2, 0, 0, 0), (35, .invokestatic 51, 3, 999, 0, 0), (38, .aload_n 1, 1, 0, 0, 0), (39, .getfield 22, 3, 1, 3, 0), (42, .iconst 0, 1, 0, 0, 0), (43, .aload_n 0, 1, 0, 0, 0), (44, .getfield 22, 3, 1, 3, 0), (47, .iconst 0, 1, 0, 0, 0), (48, .bipush (12), 2, 0, 0, 0), (50, .invokestatic 51, 3, 999, 0, 0), (53, .aload_n 1, 1, 0, 0, 0), (54, .getfield 25, 3, 1, 4, 0), (57, .iconst 0, 1, 0, 0, 0), (58, .aload_n 0, 1, 0, 0, 0), (59, .getfield 25, 3, 1, 4, 0), (62, .iconst 0, 1, 0, 0, 0), (63, .sipush (144), 3, 0, 0, 0), (66, .invokestatic 51, 3, 999, 0, 0), (69, .return_, 1, 0, 0, 0)]
def k_C_canBeMultiplied : List mm_E := [(0, .aload_n 0, 1, 0, 0, 0), (1, .getfield 9, 3, 1, 0, 0), (4, .aload_n 1, 1, 0, 0, 0), (5, .getfield 9, 3, 1, 0, 0), (8, .imul, 1, 0, 0, 0), (9, .bipush (12), 2, 0, 0, 0), (11, .if_icmp .gt (16), 3, 0, 0, 0), (14, .aload_n 0, 1, 0, 0, 0), (15, .invokevirtual 57, 3, 136, 1, 2), (18, .aload_n 1, 1, 0, 0, 0), (19, .invokevirtual 57, 3, 136, 1, 2), (22, .iadd, 1, 0, 0, 0), (23, .iconst 4, 1, 0, 0, 0), (24, .if_icmp .le (5), 3, 0, 0, 0), (27, .iconst 0, 1, 0, 0, 0), (28, .ireturn, 1, 1, 0, 0), (29, .aload_n 0, 1, 0, 0, 0), (30, .iconst 0, 1, 0, 0, 0), (31, .invokevirtual 60, 3, 137, 2, 2), (34, .aload_n 1, 1, 0, 0, 0), (35, .iconst 0, 1, 0, 0, 0), (36, .invokevirtual 60, 3, 137, 2, 2), (39, .iadd, 1, 0, 0, 0), (40, .bipush (9), 2, 0, 0, 0), (42, .if_icmp .gt (23), 3, 0, 0, 0), (45, .aload_n 0, 1, 0, 0, 0), (46, .iconst 1, 1, 0, 0, 0), (47, .invokevirtual 60, 3, 137, 2, 2), (50, .aload_n 1, 1, 0, 0, 0), (51, .iconst 1, 1, 0, 0, 0), (52, .invokevirtual 60, 3, 137, 2, 2), (55, .iadd, 1, 0, 0, 0), (56, .bipush (9), 2, 0, 0, 0), (58, .if_icmp .gt (7), 3, 0, 0, 0), (61, .iconst 1, 1, 0, 0, 0), (62, .goto (4), 3, 0, 0, 0), (65, .iconst 0, 1, 0, 0, 0), (66, .ireturn, 1, 1, 0, 0)]
def k_C_topDegree : List mm_E := [(0, .iconst 0, 1, 0, 0, 0), (1, .istore_n 1, 1, 0, 0, 0), (2, .iconst 0, 1, 0, 0, 0), (3, .istore_n 2, 1, 0, 0, 0), (4, .iload_n 2, 1, 0, 0, 0), (5, .aload_n 0, 1, 0, 0, 0), (6, .getfield 9, 3, 1, 0, 0), (9, .if_icmp .ge (19), 3, 0, 0, 0), (12, .iload_n 1, 1, 0, 0, 0), (13, .aload_n 0, 1, 0, 0, 0), (14, .iload_n 2, 1, 0, 0, 0), (15, .invokevirtual 44, 3, 121, 2, 2), (18, .invokestatic 63, 3, 186, 2, 0), (21, .istore_n 1, 1, 0, 0, 0), (22, .iinc 2 (1), 3, 0, 0, 0), (25, .goto (-21), 3, 0, 0, 0), (28, .iload_n 1, 1, 0, 0, 0), (29, .ireturn, 1, 0, 0, 0)]
def k_C_topLevel : List mm_E := [(0, .iconst 0, 1, 0, 0, 0), (1, .istore_n 2, 1, 0, 0, 0), (2, .iconst 0, 1, 0, 0, 0), (3, .istore_n 3, 1, 0, 0, 0), (4, .iload_n 3, 1, 0, 0, 0), (5, .aload_n 0, 1, 0, 0, 0), (6, .getfield 9, 3, 1, 0, 0), (9, .if_icmp .ge (20), 3, 0, 0, 0), (12, .iload_n 2, 1, 0, 0, 0), (13, .aload_n 0, 1, 0, 0, 0), (14, .iload_n 1, 1, 0, 0, 0), (15, .iload_n 3, 1, 0, 0, 0), (16, .invokevirtual 68, 3, 122, 3, 2), (19, .invokestatic 63, 3, 186, 2, 0), (22, .istore_n 2, 1, 0, 0, 0), (23, .iinc 3 (1), 3, 0, 0, 0), (26, .goto (-22), 3, 0, 0, 0), (29, .iload_n 2, 1, 0, 0, 0), (30, .ireturn, 1, 0, 0, 0)]
def k_C_becomeProduct : List mm_E := [(0, .aload_n 0, 1, 0, 0, 0), (1, .invokevirtual 71, 3, 126, 1, 2), (4, .iconst 0, 1, 0, 0, 0), (5, .istore_n 3, 1, 0, 0, 0), (6, .iload_n 3, 1, 0, 0, 0), (7, .aload_n 1, 1, 0, 0, 0), (8, .getfield 9, 3, 1, 0, 0), (11, .if_icmp .ge (72), 3, 0, 0, 0), (14, .iconst 0, 1, 0, 0, 0), (15, .istore 4, 2, 0, 0, 0), (17, .iload 4, 2, 0, 0, 0), (19, .aload_n 2, 1, 0, 0, 0), (20, .getfield 9, 3, 1, 0, 0), (23, .if_icmp .ge (54), 3, 0, 0, 0), (26, .aload_n 0, 1, 0, 0, 0), (27, .aload_n 1, 1, 0, 0, 0), (28, .iload_n 3, 1, 0, 0, 0), (29, .invokevirtual 44, 3, 121, 2, 2), (32, .aload_n 2, 1, 0, 0, 0), (33, .iload 4, 2, 0, 0, 0), (35, .invokevirtual 44, 3, 121, 2, 2), (38, .iadd, 1, 0, 0, 0), (39, .aload_n 1, 1, 0, 0, 0), (40, .iconst 0, 1, 0, 0, 0), (41, .iload_n 3, 1, 0, 0, 0), (42, .invokevirtual 68, 3, 122, 3, 2), (45, .aload_n 2, 1, 0, 0, 0), (46, .iconst 0, 1, 0, 0, 0), (47, .iload 4, 2, 0, 0, 0), (49, .invokevirtual 68, 3, 122, 3, 2), (52, .iadd, 1, 0, 0, 0), (53, .aload_n 1, 1, 0, 0, 0), (54, .iconst 1, 1, 0, 0, 0), (55, .iload_n 3, 1, 0, 0, 0), (56, .invokevirtual 68, 3, 122, 3, 2), (59, .aload_n 2, 1, 0, 0, 0), (60, .iconst 1, 1, 0, 0, 0), (61, .iload 4, 2, 0, 0, 0), (63, .invokevirtual 68, 3, 122, 3, 2), (66, .iadd, 1, 0, 0, 0), (67, .invokevirtual 74, 3, 127, 4, 2), (70, .pop, 1, 0, 0, 0), (71, .iinc 4 (1), 3, 0, 0, 0), (74, .goto (-57), 3, 0, 0, 0), (77, .iinc 3 (1), 3, 0, 0, 0), (80, .goto (-74), 3, 0, 0, 0), (83, .iconst 0, 1, 0, 0, 0), (84, .istore_n 3, 1, 0, 0, 0), (85, .iload_n 3, 1, 0, 0, 0), (86, .aload_n 1, 1, 0, 0, 0), (87, .getfield 9, 3, 1, 0, 0), (90, .if_icmp .ge (36), 3, 0, 0, 0), (93, .iconst 0, 1, 0, 0, 0), (94, .istore 4, 2, 0, 0, 0), (96, .iload 4, 2, 0, 0, 0), (98, .aload_n 2, 1, 0, 0, 0), (99, .getfield 9, 3, 1, 0, 0), (102, .if_icmp .ge (18), 3, 0, 0, 0), (105, .aload_n 0, 1, 0, 0, 0), (106, .aload_n 1, 1, 0, 0, 0), (107, .aload_n 2, 1, 0, 0, 0), (108, .iload_n 3, 1, 0, 0, 0), (109, .iload 4, 2, 0, 0, 0), (111, .invokevirtual 78, 3, 139, 5, 2), (114, .iinc 4 (1), 3, 0, 0, 0), (117, .goto (-21), 3, 0, 0, 0), (120, .iinc 3 (1), 3, 0, 0, 0), (123, .goto (-38), 3, 0, 0, 0), (126, .return_, 1, 0, 0, 0)]
def k_C_setProductEdge : List mm_E := [(0, .aload_n 2, 1, 0, 0, 0), (1, .getfield 9, 3, 1, 0, 0), (4, .istore 5, 2, 0, 0, 0), (6, .iload_n 3, 1, 0, 0, 0), (7, .iload 5, 2, 0, 0, 0), (9, .imul, 1, 0, 0, 0), (10, .iload 4, 2, 0, 0, 0), (12, .iadd, 1, 0, 0, 0), (13, .istore 6, 2, 0, 0, 0), (15, .aload_n 1, 1, 0, 0, 0), (16, .iload_n 3, 1, 0, 0, 0), (17, .invokevirtual 44, 3, 121, 2, 2), (20, .iconst 2, 1, 0, 0, 0), (21, .irem, 1, 0, 0, 0), (22, .iconst 1, 1, 0, 0, 0), (23, .if_icmp .ne (7), 3, 0, 0, 0), (26, .iconst (-1), 1, 0, 0, 0), (27, .goto (4), 3, 0, 0, 0), (30, .iconst 1, 1, 0, 0, 0), (31, .istore 7, 2, 0, 0, 0), (33, .iconst 0, 1, 0, 0, 0), (34, .istore 8, 2, 0, 0, 0), (36, .iload 8, 2, 0, 0, 0), (38, .aload_n 1, 1, 0, 0, 0), (39, .getfield 9, 3, 1, 0, 0), (42, .if_icmp .ge (30), 3, 0, 0, 0), (45, .aload_n 0, 1, 0, 0, 0), (46, .iload 6, 2, 0, 0, 0), (48, .iload 8, 2, 0, 0, 0), (50, .iload 5, 2, 0, 0, 0), (52, .imul, 1, 0, 0, 0), (53, .iload 4, 2, 0, 0, 0), (55, .iadd, 1, 0, 0, 0), (56, .aload_n 1, 1, 0, 0, 0), (57, .iload_n 3, 1, 0, 0, 0), (58, .iload 8, 2, 0, 0, 0), (60, .invokevirtual 36, 3, 123, 3, 2), (63, .invokevirtual 32, 3, 124, 4, 2), (66, .iinc 8 (1), 3, 0, 0, 0), (69, .goto (-33), 3, 0, 0, 0), (72, .iconst 0, 1, 0, 0, 0), (73, .istore 8, 2, 0, 0, 0), (75, .iload 8, 2, 0, 0, 0), (77, .iload 5, 2, 0, 0, 0), (79, .if_icmp .ge (33), 3, 0, 0, 0), (82, .aload_n 0, 1, 0, 0, 0), (83, .iload 6, 2, 0, 0, 0), (85, .iload_n 3, 1, 0, 0, 0), (86, .iload 5, 2, 0, 0, 0), (88, .imul, 1, 0, 0, 0), (89, .iload 8, 2, 0, 0, 0), (91, .iadd, 1, 0, 0, 0), (92, .iload 7, 2, 0, 0, 0), (94, .aload_n 2, 1, 0, 0, 0), (95, .iload 4, 2, 0, 0, 0), (97, .iload 8, 2, 0, 0, 0), (99, .invokevirtual 36, 3, 123, 3, 2), (102, .imul, 1, 0, 0, 0), (103, .invokevirtual 32, 3, 124, 4, 2), (106, .iinc 8 (1), 3, 0, 0, 0), (109, .goto (-34), 3, 0, 0, 0), (112, .return_, 1, 0, 0, 0)]
def k_C_becomePart : List mm_E := [(0, .aload_n 0, 1, 0, 0, 0), (1, .invokevirtual 71, 3, 126, 1, 2), (4, .iconst 0, 1, 0, 0, 0), (5, .istore 4, 2, 0, 0, 0), (7, .iload 4, 2, 0, 0, 0), (9, .aload_n 1, 1, 0, 0, 0), (10, .getfield 9, 3, 1, 0, 0), (13, .if_icmp .ge (45), 3, 0, 0, 0), (16, .aload_n 1, 1, 0, 0, 0), (17, .iload_n 2, 1, 0, 0, 0), (18, .iload 4, 2, 0, 0, 0), (20, .invokevirtual 68, 3, 122, 3, 2), (23, .iload_n 3, 1, 0, 0, 0), (24, .if_icmp .gt (28), 3, 0, 0, 0), (27, .aload_n 0, 1, 0, 0, 0), (28, .aload_n 1, 1, 0, 0, 0), (29, .iload 4, 2, 0, 0, 0), (31, .invokevirtual 44, 3, 121, 2, 2), (34, .aload_n 1, 1, 0, 0, 0), (35, .iconst 0, 1, 0, 0, 0), (36, .iload 4, 2, 0, 0, 0), (38, .invokevirtual 68, 3, 122, 3, 2), (41, .aload_n 1, 1, 0, 0, 0), (42, .iconst 1, 1, 0, 0, 0), (43, .iload 4, 2, 0, 0, 0), (45, .invokevirtual 68, 3, 122, 3, 2), (48, .invokevirtual 74, 3, 127, 4, 2), (51, .pop, 1, 0, 0, 0), (52, .iinc 4 (1), 3, 0, 0, 0), (55, .goto (-48), 3, 0, 0, 0), (58, .iconst 0, 1, 0, 0, 0), (59, .istore 4, 2, 0, 0, 0), (61, .iconst 0, 1, 0, 0, 0), (62, .istore 5, 2, 0, 0, 0), (64, .iload 5, 2, 0, 0, 0), (66, .aload_n 1, 1, 0, 0, 0), (67, .getfield 9, 3, 1, 0, 0), (70, .if_icmp .ge (34), 3, 0, 0, 0), (73, .aload_n 1, 1, 0, 0, 0), (74, .iload_n 2, 1, 0, 0, 0), (75, .iload 5, 2, 0, 0, 0), (77, .invokevirtual 68, 3, 122, 3, 2), (80, .iload_n 3, 1, 0, 0, 0), (81, .if_icmp .gt (17), 3, 0, 0, 0), (84, .aload_n 0, 1, 0, 0, 0), (85, .iload 4, 2, 0, 0, 0), (87, .aload_n 1, 1, 0, 0, 0), (88, .iload 5, 2, 0, 0, 0), (90, .iload_n 2, 1, 0, 0, 0), (91, .iload_n 3, 1, 0, 0, 0), (92, .invokevirtual 82, 3, 141, 6, 2), (95, .iinc 4 (1), 3, 0, 0, 0), (98, .iinc 5 (1), 3, 0, 0, 0), (101, .goto (-37), 3, 0, 0, 0), (104, .return_, 1, 0, 0, 0)]
def k_C_setPartEdge : List mm_E := [(0, .iconst 0, 1, 0, 0, 0), (1, .istore 6, 2, 0, 0, 0), (3, .iconst 0, 1, 0, 0, 0), (4, .istore 7, 2, 0, 0, 0), (6, .iload 7, 2, 0, 0, 0), (8, .aload_n 2, 1, 0, 0, 0), (9, .getfield 9, 3, 1, 0, 0), (12, .if_icmp .ge (39), 3, 0, 0, 0), (15, .aload_n 2, 1, 0, 0, 0), (16, .iload 4, 2, 0, 0, 0), (18, .iload 7, 2, 0, 0, 0), (20, .invokevirtual 68, 3, 122, 3, 2), (23, .iload 5, 2, 0, 0, 0), (25, .if_icmp .gt (20), 3, 0, 0, 0), (28, .aload_n 0, 1, 0, 0, 0), (29, .iload_n 1, 1, 0, 0, 0), (30, .iload 6, 2, 0, 0, 0), (32, .aload_n 2, 1, 0, 0, 0), (33, .iload_n 3, 1, 0, 0, 0), (34, .iload 7, 2, 0, 0, 0), (36, .invokevirtual 36, 3, 123, 3, 2), (39, .invokevirtual 32, 3, 124, 4, 2), (42, .iinc 6 (1), 3, 0, 0, 0), (45, .iinc 7 (1), 3, 0, 0, 0), (48, .goto (-42), 3, 0, 0, 0), (51, .return_, 1, 0, 0, 0)]
def k_Re_read : List mm_E := [(0, .aload_n 0, 1, 0, 0, 0), (1, .iconst 0, 1, 0, 0, 0), (2, .putfield 9, 3, 6, 2, 0), (5, .aload_n 0, 1, 0, 0, 0), (6, .getfield 31, 3, 6, 1, 0), (9, .invokevirtual 35, 3, 126, 1, 2), (12, .iconst 0, 1, 0, 0, 0), (13, .istore_n 1, 1, 0, 0, 0), (14, .iload_n 1, 1, 0, 0, 0), (15, .bipush (12), 2, 0, 0, 0), (17, .if_icmp .ge (58), 3, 0, 0, 0), (20, .aload_n 0, 1, 0, 0, 0), (21, .invokevirtual 40, 3, 143, 1, 7), (24, .ifCond .ne (51), 3, 0, 0, 0), (27, .aload_n 0, 1, 0, 0, 0), (28, .invokevirtual 44, 3, 149, 1, 7), (31, .ifCond .eq (19), 3, 0, 0, 0), (34, .aload_n 0, 1, 0, 0, 0), (35, .bipush (58), 2, 0, 0, 0), (37, .invokevirtual 47, 3, 146, 2, 7), (40, .ifCond .eq (15), 3, 0, 0, 0), (43, .aload_n 0, 1, 0, 0, 0), (44, .invokevirtual 51, 3, 150, 1, 7), (47, .ifCond .ne (8), 3, 0, 0, 0), (50, .aload_n 0, 1, 0, 0, 0), (51, .getfield 15, 3, 6, 3, 0), (54, .ireturn, 1, 0, 0, 0), (55, .aload_n 0, 1, 0, 0, 0), (56, .bipush (59), 2, 0, 0, 0), (58, .invokevirtual 47, 3, 146, 2, 7), (61, .ifCond .ne (8), 3, 0, 0, 0), (64, .aload_n 0, 1, 0, 0, 0), (65, .getfield 9, 3, 6, 2, 0), (68, .ireturn, 1, 0, 0, 0), (69, .iinc 1 (1), 3, 0, 0, 0), (72, .goto (-58), 3, 0, 0, 0), (75, .aload_n 0, 1, 0, 0, 0), (76, .invokevirtual 40, 3, 143, 1, 7), (79, .ifCond .eq (7), 3, 0, 0, 0), (82, .iconst (-1), 1, 0, 0, 0), (83, .goto (7), 3, 0, 0, 0), (86, .aload_n 0, 1, 0, 0, 0), (87, .getfield 9, 3, 6, 2, 0), (90, .ireturn, 1, 0, 0, 0)]
def k_Re_isAtEnd : List mm_E := [(0, .aload_n 0, 1, 0, 0, 0), (1, .invokevirtual 54, 3, 144, 1, 7), (4, .aload_n 0, 1, 0, 0, 0), (5, .getfield 27, 3, 6, 0, 0), (8, .aload_n 0, 1, 0, 0, 0), (9, .getfield 9, 3, 6, 2, 0), (12, .invokevirtual 57, 3, 170, 2, 6), (15, .iconst (-1), 1, 0, 0, 0), (16, .if_icmp .ne (7), 3, 0, 0, 0), (19, .iconst 1, 1, 0, 0, 0), (20, .goto (4), 3, 0, 0, 0), (23, .iconst 0, 1, 0, 0, 0), (24, .ireturn, 1, 1, 0, 0)]
def k_Re_skipBlanks : List mm_E := [(0, .aload_n 0, 1, 0, 0, 0), (1, .getfield 9, 3, 6, 2, 0), (4, .aload_n 0, 1, 0, 0, 0), (5, .getfield 27, 3, 6, 0, 0), (8, .getfield 63, 3, 5, 0, 0), (11, .if_icmp .ge (32), 3, 0, 0, 0), (14, .aload_n 0, 1, 0, 0, 0), (15, .getfield 27, 3, 6, 0, 0), (18, .aload_n 0, 1, 0, 0, 0), (19, .getfield 9, 3, 6, 2, 0), (22, .invokevirtual 57, 3, 170, 2, 6), (25, .bipush (32), 2, 0, 0, 0), (27, .if_icmp .ne (16), 3, 0, 0, 0), (30, .aload_n 0, 1, 0, 0, 0), (31, .dup, 1, 0, 0, 0), (32, .getfield 9, 3, 6, 2, 0), (35, .iconst 1, 1, 0, 0, 0), (36, .iadd, 1, 0, 0, 0), (37, .putfield 9, 3, 6, 2, 0), (40, .goto (-40), 3, 0, 0, 0), (43, .return_, 1, 0, 0, 0)]
def k_Re_fails : List mm_E := [(0, .aload_n 0, 1, 0, 0, 0), (1, .iload_n 1, 1, 0, 0, 0), (2, .putfield 15, 3, 6, 3, 0), (5, .iconst 0, 1, 0, 0, 0), (6, .ireturn, 1, 1, 0, 0)]
def k_Re_passes : List mm_E := [(0, .aload_n 0, 1, 0, 0, 0), (1, .invokevirtual 54, 3, 144, 1, 7), (4, .aload_n 0, 1, 0, 0, 0), (5, .getfield 27, 3, 6, 0, 0), (8, .aload_n 0, 1, 0, 0, 0), (9, .getfield 9, 3, 6, 2, 0), (12, .invokevirtual 57, 3, 170, 2, 6), (15, .iload_n 1, 1, 0, 0, 0), (16, .if_icmp .ne (7), 3, 0, 0, 0), (19, .iconst 1, 1, 0, 0, 0), (20, .goto (4), 3, 0, 0, 0), (23, .iconst 0, 1, 0, 0, 0), (24, .istore_n 2, 1, 0, 0, 0), (25, .aload_n 0, 1, 0, 0, 0), (26, .dup, 1, 0, 0, 0), (27, .getfield 9, 3, 6, 2, 0), (30, .iload_n 2, 1, 0, 0, 0), (31, .ifCond .eq (7), 3, 0, 0, 0), (34, .iconst 1, 1, 0, 0, 0), (35, .goto (4), 3, 0, 0, 0), (38, .iconst 0, 1, 0, 0, 0), (39, .iadd, 1, 0, 0, 0), (40, .putfield 9, 3, 6, 2, 0), (43, .iload_n 2, 1, 0, 0, 0), (44, .ireturn, 1, 1, 0, 0)]
def k_Re_isAtDigit : List mm_E := [(0, .aload_n 0, 1, 0, 0, 0), (1, .getfield 27, 3, 6, 0, 0), (4, .aload_n 0, 1, 0, 0, 0), (5, .getfield 9, 3, 6, 2, 0), (8, .invokevirtual 57, 3, 170, 2, 6), (11, .istore_n 1, 1, 0, 0, 0), (12, .iload_n 1, 1, 0, 0, 0), (13, .bipush (48), 2, 0, 0, 0), (15, .if_icmp .lt (13), 3, 0, 0, 0), (18, .iload_n 1, 1, 0, 0, 0), (19, .bipush (57), 2, 0, 0, 0), (21, .if_icmp .gt (7), 3, 0, 0, 0), (24, .iconst 1, 1, 0, 0, 0), (25, .goto (4), 3, 0, 0, 0), (28, .iconst 0, 1, 0, 0, 0), (29, .ireturn, 1, 1, 0, 0)]
def k_Re_readsNumber : List mm_E := [(0, .aload_n 0, 1, 0, 0, 0), (1, .invokevirtual 54, 3, 144, 1, 7), (4, .aload_n 0, 1, 0, 0, 0), (5, .aload_n 0, 1, 0, 0, 0), (6, .getfield 9, 3, 6, 2, 0), (9, .putfield 21, 3, 6, 5, 0), (12, .aload_n 0, 1, 0, 0, 0), (13, .iconst 0, 1, 0, 0, 0), (14, .putfield 18, 3, 6, 4, 0), (17, .aload_n 0, 1, 0, 0, 0), (18, .getfield 9, 3, 6, 2, 0), (21, .aload_n 0, 1, 0, 0, 0), (22, .getfield 27, 3, 6, 0, 0), (25, .getfield 63, 3, 5, 0, 0), (28, .if_icmp .ge (55), 3, 0, 0, 0), (31, .aload_n 0, 1, 0, 0, 0), (32, .invokevirtual 66, 3, 147, 1, 7), (35, .ifCond .eq (48), 3, 0, 0, 0), (38, .aload_n 0, 1, 0, 0, 0), (39, .sipush (1000), 3, 0, 0, 0), (42, .aload_n 0, 1, 0, 0, 0), (43, .getfield 18, 3, 6, 4, 0), (46, .bipush (10), 2, 0, 0, 0), (48, .imul, 1, 0, 0, 0), (49, .aload_n 0, 1, 0, 0, 0), (50, .getfield 27, 3, 6, 0, 0), (53, .aload_n 0, 1, 0, 0, 0), (54, .getfield 9, 3, 6, 2, 0), (57, .invokevirtual 57, 3, 170, 2, 6), (60, .iadd, 1, 0, 0, 0), (61, .bipush (48), 2, 0, 0, 0), (63, .isub, 1, 0, 0, 0), (64, .invokestatic 69, 3, 187, 2, 0), (67, .putfield 18, 3, 6, 4, 0), (70, .aload_n 0, 1, 0, 0, 0), (71, .dup, 1, 0, 0, 0), (72, .getfield 9, 3, 6, 2, 0), (75, .iconst 1, 1, 0, 0, 0), (76, .iadd, 1, 0, 0, 0), (77, .putfield 9, 3, 6, 2, 0), (80, .goto (-63), 3, 0, 0, 0), (83, .aload_n 0, 1, 0, 0, 0), (84, .getfield 9, 3, 6, 2, 0), (87, .aload_n 0, 1, 0, 0, 0), (88, .getfield 21, 3, 6, 5, 0), (91, .isub, 1, 0, 0, 0), (92, .istore_n 2, 1, 0, 0, 0), (93, .iload_n 2, 1, 0, 0, 0), (94, .ifCond .ne (12), 3, 0, 0, 0), (97, .aload_n 0, 1, 0, 0, 0), (98, .aload_n 0, 1, 0, 0, 0), (99, .getfield 9, 3, 6, 2, 0), (102, .invokevirtual 75, 3, 145, 2, 7), (105, .ireturn, 1, 1, 0, 0), (106, .iload_n 2, 1, 0, 0, 0), (107, .iconst 2, 1, 0, 0, 0), (108, .if_icmp .gt (11), 3, 0, 0, 0), (111, .aload_n 0, 1, 0, 0, 0), (112, .getfield 18, 3, 6, 4, 0), (115, .iload_n 1, 1, 0, 0, 0), (116, .if_icmp .le (14), 3, 0, 0, 0), (119, .aload_n 0, 1, 0, 0, 0), (120, .aload_n 0, 1, 0, 0, 0), (121, .getfield 21, 3, 6, 5, 0), (124, .invokevirtual 75, 3, 145, 2, 7), (127, .ifCond .eq (7), 3, 0, 0, 0), (130, .iconst 1, 1, 0, 0, 0), (131, .goto (4), 3, 0, 0, 0), (134, .iconst 0, 1, 0, 0, 0), (135, .ireturn, 1, 1, 0, 0)]
def k_Re_readsHead : List mm_E := [(0, .aload_n 0, 1, 0, 0, 0), (1, .iconst 4, 1, 0, 0, 0), (2, .invokevirtual 79, 3, 148, 2, 7), (5, .ifCond .ne (5), 3, 0, 0, 0), (8, .iconst 0, 1, 0, 0, 0), (9, .ireturn, 1, 1, 0, 0), (10, .aload_n 0, 1, 0, 0, 0), (11, .getfield 18, 3, 6, 4, 0), (14, .istore_n 1, 1, 0, 0, 0), (15, .iconst 0, 1, 0, 0, 0), (16, .istore_n 2, 1, 0, 0, 0), (17, .iconst 0, 1, 0, 0, 0), (18, .istore_n 3, 1, 0, 0, 0), (19, .aload_n 0, 1, 0, 0, 0), (20, .bipush (64), 2, 0, 0, 0), (22, .invokevirtual 47, 3, 146, 2, 7), (25, .ifCond .eq (46), 3, 0, 0, 0), (28, .aload_n 0, 1, 0, 0, 0), (29, .bipush (9), 2, 0, 0, 0), (31, .invokevirtual 79, 3, 148, 2, 7), (34, .ifCond .ne (5), 3, 0, 0, 0), (37, .iconst 0, 1, 0, 0, 0), (38, .ireturn, 1, 1, 0, 0), (39, .aload_n 0, 1, 0, 0, 0), (40, .getfield 18, 3, 6, 4, 0), (43, .istore_n 2, 1, 0, 0, 0), (44, .aload_n 0, 1, 0, 0, 0), (45, .invokevirtual 54, 3, 144, 1, 7), (48, .aload_n 0, 1, 0, 0, 0), (49, .invokevirtual 66, 3, 147, 1, 7), (52, .ifCond .eq (14), 3, 0, 0, 0), (55, .aload_n 0, 1, 0, 0, 0), (56, .bipush (9), 2, 0, 0, 0), (58, .invokevirtual 79, 3, 148, 2, 7), (61, .ifCond .ne (5), 3, 0, 0, 0), (64, .iconst 0, 1, 0, 0, 0), (65, .ireturn, 1, 1, 0, 0), (66, .aload_n 0, 1, 0, 0, 0), (67, .getfield 18, 3, 6, 4, 0), (70, .istore_n 3, 1, 0, 0, 0), (71, .aload_n 0, 1, 0, 0, 0), (72, .getfield 31, 3, 6, 1, 0), (75, .iload_n 1, 1, 0, 0, 0), (76, .iload_n 2, 1, 0, 0, 0), (77, .iload_n 3, 1, 0, 0, 0), (78, .invokevirtual 82, 3, 127, 4, 2), (81, .pop, 1, 0, 0, 0), (82, .iconst 1, 1, 0, 0, 0), (83, .ireturn, 1, 1, 0, 0)]
def k_Re_readsEntries : List mm_E := [(0, .aload_n 0, 1, 0, 0, 0), (1, .iconst 0, 1, 0, 0, 0), (2, .putfield 24, 3, 6, 6, 0), (5, .iconst 1, 1, 0, 0, 0), (6, .istore_n 1, 1, 0, 0, 0), (7, .iconst 0, 1, 0, 0, 0), (8, .istore_n 2, 1, 0, 0, 0), (9, .iload_n 2, 1, 0, 0, 0), (10, .sipush (200), 3, 0, 0, 0), (13, .if_icmp .ge (29), 3, 0, 0, 0), (16, .iload_n 1, 1, 0, 0, 0), (17, .ifCond .eq (25), 3, 0, 0, 0), (20, .aload_n 0, 1, 0, 0, 0), (21, .invokevirtual 86, 3, 151, 1, 7), (24, .ifCond .ne (5), 3, 0, 0, 0), (27, .iconst 0, 1, 0, 0, 0), (28, .ireturn, 1, 1, 0, 0), (29, .aload_n 0, 1, 0, 0, 0), (30, .bipush (44), 2, 0, 0, 0), (32, .invokevirtual 47, 3, 146, 2, 7), (35, .istore_n 1, 1, 0, 0, 0), (36, .iinc 2 (1), 3, 0, 0, 0), (39, .goto (-30), 3, 0, 0, 0), (42, .iconst 1, 1, 0, 0, 0), (43, .ireturn, 1, 1, 0, 0)]
def k_Re_readsEntry : List mm_E := [(0, .aload_n 0, 1, 0, 0, 0), (1, .bipush (45), 2, 0, 0, 0), (3, .invokevirtual 47, 3, 146, 2, 7), (6, .ifCond .eq (7), 3, 0, 0, 0), (9, .iconst (-1), 1, 0, 0, 0), (10, .goto (4), 3, 0, 0, 0), (13, .iconst 1, 1, 0, 0, 0), (14, .istore_n 1, 1, 0, 0, 0), (15, .aload_n 0, 1, 0, 0, 0), (16, .bipush (99), 2, 0, 0, 0), (18, .invokevirtual 79, 3, 148, 2, 7), (21, .ifCond .ne (5), 3, 0, 0, 0), (24, .iconst 0, 1, 0, 0, 0), (25, .ireturn, 1, 1, 0, 0), (26, .iconst 1, 1, 0, 0, 0), (27, .istore_n 2, 1, 0, 0, 0), (28, .aload_n 0, 1, 0, 0, 0), (29, .bipush (42), 2, 0, 0, 0), (31, .invokevirtual 47, 3, 146, 2, 7), (34, .ifCond .eq (34), 3, 0, 0, 0), (37, .aload_n 0, 1, 0, 0, 0), (38, .getfield 18, 3, 6, 4, 0), (41, .istore_n 2, 1, 0, 0, 0), (42, .iload_n 2, 1, 0, 0, 0), (43, .bipush (9), 2, 0, 0, 0), (45, .if_icmp .le (12), 3, 0, 0, 0), (48, .aload_n 0, 1, 0, 0, 0), (49, .aload_n 0, 1, 0, 0, 0), (50, .getfield 21, 3, 6, 5, 0), (53, .invokevirtual 75, 3, 145, 2, 7), (56, .ireturn, 1, 1, 0, 0), (57, .aload_n 0, 1, 0, 0, 0), (58, .bipush (99), 2, 0, 0, 0), (60, .invokevirtual 79, 3, 148, 2, 7), (63, .ifCond .ne (30), 3, 0, 0, 0), (66, .iconst 0, 1, 0, 0, 0), (67, .ireturn, 1, 1, 0, 0), (68, .aload_n 0, 1, 0, 0, 0), (69, .getfield 18, 3, 6, 4, 0), (72, .bipush (9), 2, 0, 0, 0), (74, .if_icmp .gt (19), 3, 0, 0, 0), (77, .aload_n 0, 1, 0, 0, 0), (78, .invokevirtual 40, 3, 143, 1, 7), (81, .ifCond .eq (12), 3, 0, 0, 0), (84, .aload_n 0, 1, 0, 0, 0), (85, .aload_n 0, 1, 0, 0, 0), (86, .getfield 9, 3, 6, 2, 0), (89, .invokevirtual 75, 3, 145, 2, 7), (92, .ireturn, 1, 1, 0, 0), (93, .aload_n 0, 1, 0, 0, 0), (94, .getfield 31, 3, 6, 1, 0), (97, .getfield 89, 3, 1, 0, 0), (100, .iconst 1, 1, 0, 0, 0), (101, .isub, 1, 0, 0, 0), (102, .istore_n 3, 1, 0, 0, 0), (103, .aload_n 0, 1, 0, 0, 0), (104, .getfield 31, 3, 6, 1, 0), (107, .iload_n 3, 1, 0, 0, 0), (108, .aload_n 0, 1, 0, 0, 0), (109, .getfield 18, 3, 6, 4, 0), (112, .invokevirtual 92, 3, 125, 3, 2), (115, .ifCond .eq (17), 3, 0, 0, 0), (118, .aload_n 0, 1, 0, 0, 0), (119, .getfield 24, 3, 6, 6, 0), (122, .aload_n 0, 1, 0, 0, 0), (123, .getfield 18, 3, 6, 4, 0), (126, .ishr, 1, 0, 0, 0), (127, .iconst 1, 1, 0, 0, 0), (128, .iand, 1, 0, 0, 0), (129, .ifCond .eq (12), 3, 0, 0, 0), (132, .aload_n 0, 1, 0, 0, 0), (133, .aload_n 0, 1, 0, 0, 0), (134, .getfield 21, 3, 6, 5, 0), (137, .invokevirtual 75, 3, 145, 2, 7), (140, .ireturn, 1, 1, 0, 0), (141, .aload_n 0, 1, 0, 0, 0), (142, .dup, 1, 0, 0, 0), (143, .getfield 24, 3, 6, 6, 0), (146, .iconst 1, 1, 0, 0, 0), (147, .aload_n 0, 1, 0, 0, 0), (148, .getfield 18, 3, 6, 4, 0), (151, .ishl, 1, 0, 0, 0), (152, .ior, 1, 0, 0, 0), (153, .putfield 24, 3, 6, 6, 0), (156, .aload_n 0, 1, 0, 0, 0), (157, .getfield 31, 3, 6, 1, 0), (160, .iload_n 3, 1, 0, 0, 0), (161, .aload_n 0, 1, 0, 0, 0), (162, .getfield 18, 3, 6, 4, 0), (165, .iload_n 1, 1, 0, 0, 0), (166, .iload_n 2, 1, 0, 0, 0), (167, .imul, 1, 0, 0, 0), (168, .invokevirtual 96, 3, 124, 4, 2), (171, .iconst 1, 1, 0, 0, 0), (172, .ireturn, 1, 1, 0, 0)]
def k_Rd_run : List mm_E := [(0, .aload_n 0, 1, 0, 0, 0), (1, .aload_n 1, 1, 0, 0, 0), (2, .putfield 31, 3, 2, 0, 0), (5, .aload_n 0, 1, 0, 0, 0), (6, .iload_n 2, 1, 0, 0, 0), (7, .putfield 9, 3, 2, 1, 0), (10, .aload_n 0, 1, 0, 0, 0), (11, .iload_n 3, 1, 0, 0, 0), (12, .putfield 15, 3, 2, 2, 0), (15, .aload_n 0, 1, 0, 0, 0), (16, .getfield 28, 3, 2, 6, 0), (19, .bipush (-3), 2, 0, 0, 0), (21, .invokestatic 35, 3, 188, 2, 0), (24, .aload_n 0, 1, 0, 0, 0), (25, .invokevirtual 41, 3, 153, 1, 3), (28, .iconst 0, 1, 0, 0, 0), (29, .istore 4, 2, 0, 0, 0), (31, .iload 4, 2, 0, 0, 0), (33, .aload_n 1, 1, 0, 0, 0), (34, .getfield 44, 3, 1, 0, 0), (37, .if_icmp .ge (22), 3, 0, 0, 0), (40, .aload_n 0, 1, 0, 0, 0), (41, .aload_n 0, 1, 0, 0, 0), (42, .getfield 18, 3, 2, 3, 0), (45, .iload 4, 2, 0, 0, 0), (47, .invokestatic 49, 3, 38, 2, 0), (50, .invokevirtual 53, 3, 155, 2, 3), (53, .iinc 4 (1), 3, 0, 0, 0), (56, .goto (-25), 3, 0, 0, 0), (59, .return_, 1, 0, 0, 0)]
def k_Rd_putInOrder : List mm_E := [(0, .iconst 0, 1, 0, 0, 0), (1, .istore_n 1, 1, 0, 0, 0), (2, .iload_n 1, 1, 0, 0, 0), (3, .aload_n 0, 1, 0, 0, 0), (4, .getfield 31, 3, 2, 0, 0), (7, .getfield 44, 3, 1, 0, 0), (10, .if_icmp .ge (66), 3, 0, 0, 0), (13, .iload_n 1, 1, 0, 0, 0), (14, .istore_n 2, 1, 0, 0, 0), (15, .iload_n 2, 1, 0, 0, 0), (16, .ifCond .le (45), 3, 0, 0, 0), (19, .aload_n 0, 1, 0, 0, 0), (20, .iload_n 1, 1, 0, 0, 0), (21, .aload_n 0, 1, 0, 0, 0), (22, .getfield 18, 3, 2, 3, 0), (25, .iload_n 2, 1, 0, 0, 0), (26, .iconst 1, 1, 0, 0, 0), (27, .isub, 1, 0, 0, 0), (28, .invokestatic 49, 3, 38, 2, 0), (31, .invokevirtual 57, 3, 154, 3, 3), (34, .ifCond .eq (27), 3, 0, 0, 0), (37, .aload_n 0, 1, 0, 0, 0), (38, .getfield 18, 3, 2, 3, 0), (41, .iload_n 2, 1, 0, 0, 0), (42, .aload_n 0, 1, 0, 0, 0), (43, .getfield 18, 3, 2, 3, 0), (46, .iload_n 2, 1, 0, 0, 0), (47, .iconst 1, 1, 0, 0, 0), (48, .isub, 1, 0, 0, 0), (49, .invokestatic 49, 3, 38, 2, 0), (52, .invokestatic 61, 3, 39, 3, 0), (55, .iinc 2 (-1), 3, 0, 0, 0), (58, .goto (-43), 3, 0, 0, 0), (61, .aload_n 0, 1, 0, 0, 0), (62, .getfield 18, 3, 2, 3, 0), (65, .iload_n 2, 1, 0, 0, 0), (66, .iload_n 1, 1, 0, 0, 0), (67, .invokestatic 61, 3, 39, 3, 0), (70, .iinc 1 (1), 3, 0, 0, 0), (73, .goto (-71), 3, 0, 0, 0), (76, .return_, 1, 0, 0, 0)]
def k_Rd_standsBefore : List mm_E := [(0, .aload_n 0, 1, 0, 0, 0), (1, .getfield 31, 3, 2, 0, 0), (4, .aload_n 0, 1, 0, 0, 0), (5, .getfield 9, 3, 2, 1, 0), (8, .iload_n 1, 1, 0, 0, 0), (9, .invokevirtual 65, 3, 122, 3, 2), (12, .aload_n 0, 1, 0, 0, 0), (13, .getfield 31, 3, 2, 0, 0), (16, .aload_n 0, 1, 0, 0, 0), (17, .getfield 9, 3, 2, 1, 0), (20, .iload_n 2, 1, 0, 0, 0), (21, .invokevirtual 65, 3, 122, 3, 2), (24, .invokestatic 69, 3, 183, 2, 0), (27, .istore_n 3, 1, 0, 0, 0), (28, .iload_n 3, 1, 0, 0, 0), (29, .ifCond .eq (13), 3, 0, 0, 0), (32, .iload_n 3, 1, 0, 0, 0), (33, .ifCond .ge (7), 3, 0, 0, 0), (36, .iconst 1, 1, 0, 0, 0), (37, .goto (4), 3, 0, 0, 0), (40, .iconst 0, 1, 0, 0, 0), (41, .ireturn, 1, 1, 0, 0), (42, .aload_n 0, 1, 0, 0, 0), (43, .getfield 31, 3, 2, 0, 0), (46, .iload_n 1, 1, 0, 0, 0), (47, .invokevirtual 74, 3, 121, 2, 2), (50, .aload_n 0, 1, 0, 0, 0), (51, .getfield 31, 3, 2, 0, 0), (54, .iload_n 2, 1, 0, 0, 0), (55, .invokevirtual 74, 3, 121, 2, 2), (58, .invokestatic 69, 3, 183, 2, 0), (61, .istore 4, 2, 0, 0, 0), (63, .iload 4, 2, 0, 0, 0), (65, .ifCond .eq (16), 3, 0, 0, 0), (68, .iload 4, 2, 0, 0, 0), (70, .ifCond .ge (7), 3, 0, 0, 0), (73, .iconst 1, 1, 0, 0, 0), (74, .goto (17), 3, 0, 0, 0), (77, .iconst 0, 1, 0, 0, 0), (78, .goto (13), 3, 0, 0, 0), (81, .iload_n 1, 1, 0, 0, 0), (82, .iload_n 2, 1, 0, 0, 0), (83, .if_icmp .ge (7), 3, 0, 0, 0), (86, .iconst 1, 1, 0, 0, 0), (87, .goto (4), 3, 0, 0, 0), (90, .iconst 0, 1, 0, 0, 0), (91, .ireturn, 1, 1, 0, 0)]
def k_Rd_reduce : List mm_E := [(0, .iconst 0, 1, 0, 0, 0), (1, .istore_n 2, 1, 0, 0, 0), (2, .iload_n 2, 1, 0, 0, 0), (3, .aload_n 0, 1, 0, 0, 0), (4, .getfield 31, 3, 2, 0, 0), (7, .getfield 44, 3, 1, 0, 0), (10, .if_icmp .ge (35), 3, 0, 0, 0), (13, .aload_n 0, 1, 0, 0, 0), (14, .getfield 22, 3, 2, 4, 0), (17, .iload_n 1, 1, 0, 0, 0), (18, .bipush (12), 2, 0, 0, 0), (20, .imul, 1, 0, 0, 0), (21, .iload_n 2, 1, 0, 0, 0), (22, .iadd, 1, 0, 0, 0), (23, .aload_n 0, 1, 0, 0, 0), (24, .aload_n 0, 1, 0, 0, 0), (25, .getfield 31, 3, 2, 0, 0), (28, .iload_n 1, 1, 0, 0, 0), (29, .iload_n 2, 1, 0, 0, 0), (30, .invokevirtual 78, 3, 123, 3, 2), (33, .invokevirtual 81, 3, 158, 2, 3), (36, .invokestatic 61, 3, 39, 3, 0), (39, .iinc 2 (1), 3, 0, 0, 0), (42, .goto (-40), 3, 0, 0, 0), (45, .aload_n 0, 1, 0, 0, 0), (46, .iload_n 1, 1, 0, 0, 0), (47, .invokevirtual 84, 3, 156, 2, 3), (50, .istore_n 2, 1, 0, 0, 0), (51, .iconst 0, 1, 0, 0, 0), (52, .istore_n 3, 1, 0, 0, 0), (53, .iload_n 3, 1, 0, 0, 0), (54, .bipush (12), 2, 0, 0, 0), (56, .if_icmp .ge (48), 3, 0, 0, 0), (59, .iload_n 2, 1, 0, 0, 0), (60, .bipush (-3), 2, 0, 0, 0), (62, .if_icmp .eq (42), 3, 0, 0, 0), (65, .aload_n 0, 1, 0, 0, 0), (66, .getfield 28, 3, 2, 6, 0), (69, .iload_n 2, 1, 0, 0, 0), (70, .invokestatic 49, 3, 38, 2, 0), (73, .bipush (-3), 2, 0, 0, 0), (75, .if_icmp .eq (29), 3, 0, 0, 0), (78, .aload_n 0, 1, 0, 0, 0), (79, .iload_n 1, 1, 0, 0, 0), (80, .aload_n 0, 1, 0, 0, 0), (81, .getfield 28, 3, 2, 6, 0), (84, .iload_n 2, 1, 0, 0, 0), (85, .invokestatic 49, 3, 38, 2, 0), (88, .iload_n 2, 1, 0, 0, 0), (89, .invokevirtual 87, 3, 157, 4, 3), (92, .aload_n 0, 1, 0, 0, 0), (93, .iload_n 1, 1, 0, 0, 0), (94, .invokevirtual 84, 3, 156, 2, 3), (97, .istore_n 2, 1, 0, 0, 0), (98, .iinc 3 (1), 3, 0, 0, 0), (101, .goto (-48), 3, 0, 0, 0), (104, .aload_n 0, 1, 0, 0, 0), (105, .getfield 25, 3, 2, 5, 0), (108, .iload_n 1, 1, 0, 0, 0), (109, .iload_n 2, 1, 0, 0, 0), (110, .invokestatic 61, 3, 39, 3, 0), (113, .iload_n 2, 1, 0, 0, 0), (114, .bipush (-3), 2, 0, 0, 0), (116, .if_icmp .eq (12), 3, 0, 0, 0), (119, .aload_n 0, 1, 0, 0, 0), (120, .getfield 28, 3, 2, 6, 0), (123, .iload_n 2, 1, 0, 0, 0), (124, .iload_n 1, 1, 0, 0, 0), (125, .invokestatic 61, 3, 39, 3, 0), (128, .return_, 1, 0, 0, 0)]
def k_Rd_lastOf : List mm_E := [(0, .aload_n 0, 1, 0, 0, 0), (1, .getfield 31, 3, 2, 0, 0), (4, .getfield 44, 3, 1, 0, 0), (7, .iconst 1, 1, 0, 0, 0), (8, .isub, 1, 0, 0, 0), (9, .istore_n 2, 1, 0, 0, 0), (10, .iload_n 2, 1, 0, 0, 0), (11, .ifCond .lt (29), 3, 0, 0, 0), (14, .aload_n 0, 1, 0, 0, 0), (15, .getfield 18, 3, 2, 3, 0), (18, .iload_n 2, 1, 0, 0, 0), (19, .invokestatic 49, 3, 38, 2, 0), (22, .istore_n 3, 1, 0, 0, 0), (23, .aload_n 0, 1, 0, 0, 0), (24, .iload_n 1, 1, 0, 0, 0), (25, .iload_n 3, 1, 0, 0, 0), (26, .invokevirtual 91, 3, 159, 3, 3), (29, .ifCond .eq (5), 3, 0, 0, 0), (32, .iload_n 3, 1, 0, 0, 0), (33, .ireturn, 1, 0, 0, 0), (34, .iinc 2 (-1), 3, 0, 0, 0), (37, .goto (-27), 3, 0, 0, 0), (40, .bipush (-3), 2, 0, 0, 0), (42, .ireturn, 1, 0, 0, 0)]
def k_Rd_takeAway : List mm_E := [(0, .iconst 0, 1, 0, 0, 0), (1, .istore 4, 2, 0, 0, 0), (3, .iload 4, 2, 0, 0, 0), (5, .aload_n 0, 1, 0, 0, 0), (6, .getfield 15, 3, 2, 2, 0), (9, .if_icmp .ge (32), 3, 0, 0, 0), (12, .aload_n 0, 1, 0, 0, 0), (13, .aload_n 0, 1, 0, 0, 0), (14, .iload_n 1, 1, 0, 0, 0), (15, .iload_n 3, 1, 0, 0, 0), (16, .invokevirtual 91, 3, 159, 3, 3), (19, .iload 4, 2, 0, 0, 0), (21, .aload_n 0, 1, 0, 0, 0), (22, .iload_n 2, 1, 0, 0, 0), (23, .iload_n 3, 1, 0, 0, 0), (24, .invokevirtual 91, 3, 159, 3, 3), (27, .imul, 1, 0, 0, 0), (28, .isub, 1, 0, 0, 0), (29, .invokevirtual 81, 3, 158, 2, 3), (32, .ifCond .eq (9), 3, 0, 0, 0), (35, .iinc 4 (1), 3, 0, 0, 0), (38, .goto (-35), 3, 0, 0, 0), (41, .iconst 0, 1, 0, 0, 0), (42, .istore 5, 2, 0, 0, 0), (44, .iload 5, 2, 0, 0, 0), (46, .aload_n 0, 1, 0, 0, 0), (47, .getfield 31, 3, 2, 0, 0), (50, .getfield 44, 3, 1, 0, 0), (53, .if_icmp .ge (45), 3, 0, 0, 0), (56, .aload_n 0, 1, 0, 0, 0), (57, .getfield 22, 3, 2, 4, 0), (60, .iload_n 1, 1, 0, 0, 0), (61, .bipush (12), 2, 0, 0, 0), (63, .imul, 1, 0, 0, 0), (64, .iload 5, 2, 0, 0, 0), (66, .iadd, 1, 0, 0, 0), (67, .aload_n 0, 1, 0, 0, 0), (68, .aload_n 0, 1, 0, 0, 0), (69, .iload_n 1, 1, 0, 0, 0), (70, .iload 5, 2, 0, 0, 0), (72, .invokevirtual 91, 3, 159, 3, 3), (75, .iload 4, 2, 0, 0, 0), (77, .aload_n 0, 1, 0, 0, 0), (78, .iload_n 2, 1, 0, 0, 0), (79, .iload 5, 2, 0, 0, 0), (81, .invokevirtual 91, 3, 159, 3, 3), (84, .imul, 1, 0, 0, 0), (85, .isub, 1, 0, 0, 0), (86, .invokevirtual 81, 3, 158, 2, 3), (89, .invokestatic 61, 3, 39, 3, 0), (92, .iinc 5 (1), 3, 0, 0, 0), (95, .goto (-51), 3, 0, 0, 0), (98, .return_, 1, 0, 0, 0)]
def k_Rd_leaves : List mm_E := [(0, .aload_n 0, 1, 0, 0, 0), (1, .getfield 15, 3, 2, 2, 0), (4, .ifCond .le (14), 3, 0, 0, 0), (7, .iload_n 1, 1, 0, 0, 0), (8, .aload_n 0, 1, 0, 0, 0), (9, .getfield 15, 3, 2, 2, 0), (12, .invokestatic 94, 3, 185, 2, 0), (15, .goto (4), 3, 0, 0, 0), (18, .iconst 0, 1, 0, 0, 0), (19, .ireturn, 1, 0, 0, 0)]
def k_Rd_remainder : List mm_E := [(0, .aload_n 0, 1, 0, 0, 0), (1, .getfield 22, 3, 2, 4, 0), (4, .iload_n 1, 1, 0, 0, 0), (5, .bipush (12), 2, 0, 0, 0), (7, .imul, 1, 0, 0, 0), (8, .iload_n 2, 1, 0, 0, 0), (9, .iadd, 1, 0, 0, 0), (10, .invokestatic 49, 3, 38, 2, 0), (13, .ireturn, 1, 0, 0, 0)]
def k_Rd_partner : List mm_E := [(0, .aload_n 0, 1, 0, 0, 0), (1, .getfield 25, 3, 2, 5, 0), (4, .iload_n 1, 1, 0, 0, 0), (5, .invokestatic 49, 3, 38, 2, 0), (8, .istore_n 2, 1, 0, 0, 0), (9, .iload_n 2, 1, 0, 0, 0), (10, .bipush (-3), 2, 0, 0, 0), (12, .if_icmp .eq (7), 3, 0, 0, 0), (15, .iload_n 2, 1, 0, 0, 0), (16, .goto (11), 3, 0, 0, 0), (19, .aload_n 0, 1, 0, 0, 0), (20, .getfield 28, 3, 2, 6, 0), (23, .iload_n 1, 1, 0, 0, 0), (24, .invokestatic 49, 3, 38, 2, 0), (27, .ireturn, 1, 0, 0, 0)]
def k_Rd_gap : List mm_E := [(0, .aload_n 0, 1, 0, 0, 0), (1, .getfield 31, 3, 2, 0, 0), (4, .aload_n 0, 1, 0, 0, 0), (5, .getfield 9, 3, 2, 1, 0), (8, .iload_n 1, 1, 0, 0, 0), (9, .invokevirtual 65, 3, 122, 3, 2), (12, .aload_n 0, 1, 0, 0, 0), (13, .getfield 31, 3, 2, 0, 0), (16, .aload_n 0, 1, 0, 0, 0), (17, .getfield 9, 3, 2, 1, 0), (20, .aload_n 0, 1, 0, 0, 0), (21, .iload_n 1, 1, 0, 0, 0), (22, .invokevirtual 99, 3, 160, 2, 3), (25, .invokevirtual 65, 3, 122, 3, 2), (28, .isub, 1, 0, 0, 0), (29, .invokestatic 102, 3, 184, 1, 0), (32, .ireturn, 1, 0, 0, 0)]
def k_Rd_standsOn : List mm_E := [(0, .aload_n 0, 1, 0, 0, 0), (1, .iload_n 1, 1, 0, 0, 0), (2, .invokevirtual 99, 3, 160, 2, 3), (5, .bipush (-3), 2, 0, 0, 0), (7, .if_icmp .eq (12), 3, 0, 0, 0), (10, .aload_n 0, 1, 0, 0, 0), (11, .iload_n 1, 1, 0, 0, 0), (12, .invokevirtual 105, 3, 161, 2, 3), (15, .iload_n 2, 1, 0, 0, 0), (16, .if_icmp .lt (7), 3, 0, 0, 0), (19, .iconst 1, 1, 0, 0, 0), (20, .goto (4), 3, 0, 0, 0), (23, .iconst 0, 1, 0, 0, 0), (24, .ireturn, 1, 1, 0, 0)]
def k_Rd_turnsAt : List mm_E := [(0, .aload_n 0, 1, 0, 0, 0), (1, .getfield 25, 3, 2, 5, 0), (4, .iload_n 1, 1, 0, 0, 0), (5, .invokestatic 49, 3, 38, 2, 0), (8, .bipush (-3), 2, 0, 0, 0), (10, .if_icmp .eq (16), 3, 0, 0, 0), (13, .aload_n 0, 1, 0, 0, 0), (14, .iload_n 1, 1, 0, 0, 0), (15, .invokevirtual 105, 3, 161, 2, 3), (18, .iload_n 2, 1, 0, 0, 0), (19, .if_icmp .ne (7), 3, 0, 0, 0), (22, .iconst 1, 1, 0, 0, 0), (23, .goto (4), 3, 0, 0, 0), (26, .iconst 0, 1, 0, 0, 0), (27, .ireturn, 1, 1, 0, 0)]
def k_Sh_become : List mm_E := [(0, .aload_n 0, 1, 0, 0, 0), (1, .iload_n 1, 1, 0, 0, 0), (2, .putfield 9, 3, 7, 0, 0), (5, .aload_n 0, 1, 0, 0, 0), (6, .iload_n 2, 1, 0, 0, 0), (7, .putfield 15, 3, 7, 1, 0), (10, .aload_n 0, 1, 0, 0, 0), (11, .getfield 18, 3, 7, 2, 0), (14, .lconst 0, 1, 0, 0, 0), (15, .invokestatic 22, 3, 189, 2, 0), (18, .return_, 1, 0, 0, 0)]
def k_Sh_isOutside : List mm_E := [(0, .iload_n 2, 1, 0, 0, 0), (1, .ifCond .lt (17), 3, 0, 0, 0), (4, .iload_n 1, 1, 0, 0, 0), (5, .ifCond .lt (13), 3, 0, 0, 0), (8, .iload_n 2, 1, 0, 0, 0), (9, .aload_n 0, 1, 0, 0, 0), (10, .getfield 15, 3, 7, 1, 0), (13, .iload_n 1, 1, 0, 0, 0), (14, .isub, 1, 0, 0, 0), (15, .if_icmp .le (7), 3, 0, 0, 0), (18, .iconst 1, 1, 0, 0, 0), (19, .goto (4), 3, 0, 0, 0), (22, .iconst 0, 1, 0, 0, 0), (23, .ireturn, 1, 1, 0, 0)]
def k_Sh_get : List mm_E := [(0, .iload_n 1, 1, 0, 0, 0), (1, .ifCond .lt (26), 3, 0, 0, 0), (4, .iload_n 1, 1, 0, 0, 0), (5, .aload_n 0, 1, 0, 0, 0), (6, .getfield 15, 3, 7, 1, 0), (9, .if_icmp .ge (18), 3, 0, 0, 0), (12, .iload_n 1, 1, 0, 0, 0), (13, .bipush (40), 2, 0, 0, 0), (15, .if_icmp .ge (12), 3, 0, 0, 0), (18, .aload_n 0, 1, 0, 0, 0), (19, .getfield 18, 3, 7, 2, 0), (22, .iload_n 1, 1, 0, 0, 0), (23, .laload, 1, 0, 0, 0), (24, .goto (4), 3, 0, 0, 0), (27, .lconst 0, 1, 0, 0, 0), (28, .lreturn, 1, 0, 0, 0)]
def k_Sh_set : List mm_E := [(0, .iload_n 1, 1, 0, 0, 0), (1, .ifCond .lt (52), 3, 0, 0, 0), (4, .iload_n 1, 1, 0, 0, 0), (5, .aload_n 0, 1, 0, 0, 0), (6, .getfield 15, 3, 7, 1, 0), (9, .if_icmp .ge (44), 3, 0, 0, 0), (12, .iload_n 1, 1, 0, 0, 0), (13, .bipush (40), 2, 0, 0, 0), (15, .if_icmp .ge (38), 3, 0, 0, 0), (18, .aload_n 0, 1, 0, 0, 0), (19, .getfield 18, 3, 7, 2, 0), (22, .iload_n 1, 1, 0, 0, 0), (23, .aload_n 0, 1, 0, 0, 0), (24, .getfield 9, 3, 7, 0, 0), (27, .ifCond .ne (10), 3, 0, 0, 0), (30, .lload_n 2, 1, 0, 0, 0), (31, .l2i, 1, 0, 0, 0), (32, .i2b, 1, 0, 0, 0), (33, .i2l, 1, 0, 0, 0), (34, .goto (18), 3, 0, 0, 0), (37, .aload_n 0, 1, 0, 0, 0), (38, .getfield 9, 3, 7, 0, 0), (41, .iconst 1, 1, 0, 0, 0), (42, .if_icmp .ne (9), 3, 0, 0, 0), (45, .lload_n 2, 1, 0, 0, 0), (46, .l2i, 1, 0, 0, 0), (47, .i2l, 1, 0, 0, 0), (48, .goto (4), 3, 0, 0, 0), (51, .lload_n 2, 1, 0, 0, 0), (52, .lastore, 1, 0, 0, 0), (53, .return_, 1, 0, 0, 0)]
def k_Sh_copyPlaces : List mm_E := [(0, .aload_n 0, 1, 0, 0, 0), (1, .iload_n 1, 1, 0, 0, 0), (2, .iload 4, 2, 0, 0, 0), (4, .invokevirtual 28, 3, 165, 3, 8), (7, .ifCond .ne (46), 3, 0, 0, 0), (10, .aload_n 2, 1, 0, 0, 0), (11, .iload_n 3, 1, 0, 0, 0), (12, .iload 4, 2, 0, 0, 0), (14, .invokevirtual 28, 3, 165, 3, 8), (17, .ifCond .ne (36), 3, 0, 0, 0), (20, .aload_n 0, 1, 0, 0, 0), (21, .getfield 15, 3, 7, 1, 0), (24, .bipush (40), 2, 0, 0, 0), (26, .if_icmp .gt (27), 3, 0, 0, 0), (29, .aload_n 2, 1, 0, 0, 0), (30, .getfield 15, 3, 7, 1, 0), (33, .bipush (40), 2, 0, 0, 0), (35, .if_icmp .gt (18), 3, 0, 0, 0), (38, .aload_n 0, 1, 0, 0, 0), (39, .getfield 18, 3, 7, 2, 0), (42, .iload_n 1, 1, 0, 0, 0), (43, .aload_n 2, 1, 0, 0, 0), (44, .getfield 18, 3, 7, 2, 0), (47, .iload_n 3, 1, 0, 0, 0), (48, .iload 4, 2, 0, 0, 0), (50, .invokestatic 32, 3, 999, 0, 0), (53, .return_, 1, 0, 0, 0)]
def k_Tp_add : List mm_E := [(0, .aload_n 0, 1, 0, 0, 0), (1, .getfield 9, 3, 5, 0, 0), (4, .ifCond .lt (33), 3, 0, 0, 0), (7, .aload_n 0, 1, 0, 0, 0), (8, .getfield 9, 3, 5, 0, 0), (11, .sipush (200), 3, 0, 0, 0), (14, .if_icmp .ge (23), 3, 0, 0, 0), (17, .aload_n 0, 1, 0, 0, 0), (18, .getfield 15, 3, 5, 1, 0), (21, .aload_n 0, 1, 0, 0, 0), (22, .getfield 9, 3, 5, 0, 0), (25, .iload_n 1, 1, 0, 0, 0), (26, .bastore, 1, 0, 0, 0), (27, .aload_n 0, 1, 0, 0, 0), (28, .dup, 1, 0, 0, 0), (29, .getfield 9, 3, 5, 0, 0), (32, .iconst 1, 1, 0, 0, 0), (33, .iadd, 1, 0, 0, 0), (34, .putfield 9, 3, 5, 0, 0), (37, .return_, 1, 0, 0, 0)]
def k_Tp_at : List mm_E := [(0, .iload_n 1, 1, 0, 0, 0), (1, .ifCond .lt (31), 3, 0, 0, 0), (4, .iload_n 1, 1, 0, 0, 0), (5, .aload_n 0, 1, 0, 0, 0), (6, .getfield 9, 3, 5, 0, 0), (9, .if_icmp .ge (23), 3, 0, 0, 0), (12, .iload_n 1, 1, 0, 0, 0), (13, .sipush (200), 3, 0, 0, 0), (16, .if_icmp .ge (16), 3, 0, 0, 0), (19, .aload_n 0, 1, 0, 0, 0), (20, .getfield 15, 3, 5, 1, 0), (23, .iload_n 1, 1, 0, 0, 0), (24, .baload, 1, 0, 0, 0), (25, .sipush (255), 3, 0, 0, 0), (28, .iand, 1, 0, 0, 0), (29, .goto (4), 3, 0, 0, 0), (32, .iconst (-1), 1, 0, 0, 0), (33, .ireturn, 1, 0, 0, 0)]
def k_Tr_startAnew : List mm_E := [(0, .aload_n 0, 1, 0, 0, 0), (1, .iconst 0, 1, 0, 0, 0), (2, .putfield 7, 3, 4, 0, 0), (5, .aload_n 0, 1, 0, 0, 0), (6, .iconst 0, 1, 0, 0, 0), (7, .putfield 13, 3, 4, 1, 0), (10, .aload_n 0, 1, 0, 0, 0), (11, .iconst 0, 1, 0, 0, 0), (12, .putfield 16, 3, 4, 2, 0), (15, .return_, 1, 0, 0, 0)]
def k_Tr_open : List mm_E := [(0, .aload_n 0, 1, 0, 0, 0), (1, .aload_n 1, 1, 0, 0, 0), (2, .putfield 19, 3, 4, 3, 0), (5, .aload_n 0, 1, 0, 0, 0), (6, .iload_n 2, 1, 0, 0, 0), (7, .putfield 23, 3, 4, 4, 0), (10, .aload_n 0, 1, 0, 0, 0), (11, .iload_n 3, 1, 0, 0, 0), (12, .putfield 26, 3, 4, 5, 0), (15, .aload_n 0, 1, 0, 0, 0), (16, .aload_n 1, 1, 0, 0, 0), (17, .aload_n 0, 1, 0, 0, 0), (18, .getfield 23, 3, 4, 4, 0), (21, .aload_n 0, 1, 0, 0, 0), (22, .getfield 26, 3, 4, 5, 0), (25, .invokevirtual 32, 3, 123, 3, 2), (28, .putfield 29, 3, 4, 6, 0), (31, .aload_n 0, 1, 0, 0, 0), (32, .dup, 1, 0, 0, 0), (33, .getfield 7, 3, 4, 0, 0), (36, .iconst 1, 1, 0, 0, 0), (37, .iadd, 1, 0, 0, 0), (38, .putfield 7, 3, 4, 0, 0), (41, .aload_n 0, 1, 0, 0, 0), (42, .aload_n 0, 1, 0, 0, 0), (43, .getfield 16, 3, 4, 2, 0), (46, .aload_n 0, 1, 0, 0, 0), (47, .getfield 7, 3, 4, 0, 0), (50, .aload_n 0, 1, 0, 0, 0), (51, .getfield 13, 3, 4, 1, 0), (54, .isub, 1, 0, 0, 0), (55, .invokestatic 38, 3, 186, 2, 0), (58, .putfield 16, 3, 4, 2, 0), (61, .aload_n 1, 1, 0, 0, 0), (62, .aload_n 0, 1, 0, 0, 0), (63, .getfield 23, 3, 4, 4, 0), (66, .aload_n 0, 1, 0, 0, 0), (67, .getfield 26, 3, 4, 5, 0), (70, .iload 4, 2, 0, 0, 0), (72, .invokevirtual 43, 3, 124, 4, 2), (75, .return_, 1, 0, 0, 0)]
def k_Tr_close : List mm_E := [(0, .aload_n 0, 1, 0, 0, 0), (1, .getfield 19, 3, 4, 3, 0), (4, .ifnull (37), 3, 0, 0, 0), (7, .aload_n 0, 1, 0, 0, 0), (8, .getfield 19, 3, 4, 3, 0), (11, .aload_n 0, 1, 0, 0, 0), (12, .getfield 23, 3, 4, 4, 0), (15, .aload_n 0, 1, 0, 0, 0), (16, .getfield 26, 3, 4, 5, 0), (19, .aload_n 0, 1, 0, 0, 0), (20, .getfield 29, 3, 4, 6, 0), (23, .invokevirtual 43, 3, 124, 4, 2), (26, .aload_n 0, 1, 0, 0, 0), (27, .aconst_null, 1, 0, 0, 0), (28, .putfield 19, 3, 4, 3, 0), (31, .aload_n 0, 1, 0, 0, 0), (32, .dup, 1, 0, 0, 0), (33, .getfield 13, 3, 4, 1, 0), (36, .iconst 1, 1, 0, 0, 0), (37, .iadd, 1, 0, 0, 0), (38, .putfield 13, 3, 4, 1, 0), (41, .return_, 1, 0, 0, 0)]
def k_Wn_choose : List mm_E := [(0, .aload_n 0, 1, 0, 0, 0), (1, .aload_n 1, 1, 0, 0, 0), (2, .putfield 40, 3, 3, 0, 0), (5, .aload_n 0, 1, 0, 0, 0), (6, .iload_n 2, 1, 0, 0, 0), (7, .putfield 9, 3, 3, 1, 0), (10, .aload_n 0, 1, 0, 0, 0), (11, .iload_n 3, 1, 0, 0, 0), (12, .putfield 15, 3, 3, 2, 0), (15, .return_, 1, 0, 0, 0)]
def k_Wn_free : List mm_E := [(0, .aload_n 0, 1, 0, 0, 0), (1, .iload_n 1, 1, 0, 0, 0), (2, .invokevirtual 44, 3, 178, 2, 4), (5, .aload_n 0, 1, 0, 0, 0), (6, .getfield 37, 3, 3, 9, 0), (9, .istore_n 2, 1, 0, 0, 0), (10, .aload_n 0, 1, 0, 0, 0), (11, .getfield 25, 3, 3, 5, 0), (14, .istore_n 3, 1, 0, 0, 0), (15, .aload_n 0, 1, 0, 0, 0), (16, .iload_n 1, 1, 0, 0, 0), (17, .iconst 1, 1, 0, 0, 0), (18, .iadd, 1, 0, 0, 0), (19, .invokevirtual 44, 3, 178, 2, 4), (22, .iload_n 3, 1, 0, 0, 0), (23, .iload_n 2, 1, 0, 0, 0), (24, .isub, 1, 0, 0, 0), (25, .aload_n 0, 1, 0, 0, 0), (26, .getfield 37, 3, 3, 9, 0), (29, .isub, 1, 0, 0, 0), (30, .ireturn, 1, 0, 0, 0)]
def k_Wn_factor : List mm_E := [(0, .aload_n 0, 1, 0, 0, 0), (1, .iload_n 1, 1, 0, 0, 0), (2, .iconst 1, 1, 0, 0, 0), (3, .iadd, 1, 0, 0, 0), (4, .invokevirtual 44, 3, 178, 2, 4), (7, .iconst 0, 1, 0, 0, 0), (8, .istore_n 3, 1, 0, 0, 0), (9, .iload_n 3, 1, 0, 0, 0), (10, .aload_n 0, 1, 0, 0, 0), (11, .getfield 37, 3, 3, 9, 0), (14, .if_icmp .ge (20), 3, 0, 0, 0), (17, .aload_n 0, 1, 0, 0, 0), (18, .iload_n 3, 1, 0, 0, 0), (19, .iconst 1, 1, 0, 0, 0), (20, .iadd, 1, 0, 0, 0), (21, .invokevirtual 48, 3, 177, 2, 4), (24, .iconst 1, 1, 0, 0, 0), (25, .if_icmp .ne (9), 3, 0, 0, 0), (28, .iinc 3 (1), 3, 0, 0, 0), (31, .goto (-22), 3, 0, 0, 0), (34, .iload_n 2, 1, 0, 0, 0), (35, .aload_n 0, 1, 0, 0, 0), (36, .getfield 37, 3, 3, 9, 0), (39, .iload_n 3, 1, 0, 0, 0), (40, .isub, 1, 0, 0, 0), (41, .if_icmp .le (8), 3, 0, 0, 0), (44, .bipush (-3), 2, 0, 0, 0), (46, .goto (10), 3, 0, 0, 0), (49, .aload_n 0, 1, 0, 0, 0), (50, .iload_n 3, 1, 0, 0, 0), (51, .iload_n 2, 1, 0, 0, 0), (52, .iadd, 1, 0, 0, 0), (53, .invokevirtual 48, 3, 177, 2, 4), (56, .ireturn, 1, 0, 0, 0)]
def k_Wn_quotient : List mm_E := [(0, .aload_n 0, 1, 0, 0, 0), (1, .getfield 34, 3, 3, 8, 0), (4, .iload_n 1, 1, 0, 0, 0), (5, .iconst 1, 1, 0, 0, 0), (6, .isub, 1, 0, 0, 0), (7, .invokestatic 52, 3, 38, 2, 0), (10, .istore_n 2, 1, 0, 0, 0), (11, .iload_n 2, 1, 0, 0, 0), (12, .ifCond .ne (7), 3, 0, 0, 0), (15, .iconst 0, 1, 0, 0, 0), (16, .goto (13), 3, 0, 0, 0), (19, .aload_n 0, 1, 0, 0, 0), (20, .getfield 34, 3, 3, 8, 0), (23, .iload_n 1, 1, 0, 0, 0), (24, .invokestatic 52, 3, 38, 2, 0), (27, .iload_n 2, 1, 0, 0, 0), (28, .idiv, 1, 0, 0, 0), (29, .ireturn, 1, 0, 0, 0)]
def k_Wn_findDivisors : List mm_E := [(0, .aload_n 0, 1, 0, 0, 0), (1, .aload_n 0, 1, 0, 0, 0), (2, .aload_n 0, 1, 0, 0, 0), (3, .getfield 18, 3, 3, 3, 0), (6, .iload_n 1, 1, 0, 0, 0), (7, .invokevirtual 56, 3, 179, 3, 4), (10, .putfield 25, 3, 3, 5, 0), (13, .aload_n 0, 1, 0, 0, 0), (14, .aload_n 0, 1, 0, 0, 0), (15, .aload_n 0, 1, 0, 0, 0), (16, .getfield 22, 3, 3, 4, 0), (19, .iload_n 1, 1, 0, 0, 0), (20, .iconst 1, 1, 0, 0, 0), (21, .isub, 1, 0, 0, 0), (22, .invokevirtual 56, 3, 179, 3, 4), (25, .putfield 28, 3, 3, 6, 0), (28, .aload_n 0, 1, 0, 0, 0), (29, .getfield 34, 3, 3, 8, 0), (32, .iconst 0, 1, 0, 0, 0), (33, .invokestatic 59, 3, 188, 2, 0), (36, .aload_n 0, 1, 0, 0, 0), (37, .getfield 34, 3, 3, 8, 0), (40, .iconst 0, 1, 0, 0, 0), (41, .iconst 1, 1, 0, 0, 0), (42, .invokestatic 65, 3, 39, 3, 0), (45, .aload_n 0, 1, 0, 0, 0), (46, .getfield 31, 3, 3, 7, 0), (49, .iconst 0, 1, 0, 0, 0), (50, .iconst 1, 1, 0, 0, 0), (51, .invokestatic 65, 3, 39, 3, 0), (54, .iconst 1, 1, 0, 0, 0), (55, .istore_n 2, 1, 0, 0, 0), (56, .iload_n 2, 1, 0, 0, 0), (57, .iconst 1, 1, 0, 0, 0), (58, .aload_n 0, 1, 0, 0, 0), (59, .getfield 25, 3, 3, 5, 0), (62, .ishl, 1, 0, 0, 0), (63, .if_icmp .ge (94), 3, 0, 0, 0), (66, .iload_n 2, 1, 0, 0, 0), (67, .invokestatic 69, 3, 182, 1, 0), (70, .istore_n 3, 1, 0, 0, 0), (71, .iconst 1, 1, 0, 0, 0), (72, .istore 4, 2, 0, 0, 0), (74, .iload 4, 2, 0, 0, 0), (76, .iconst 1, 1, 0, 0, 0), (77, .aload_n 0, 1, 0, 0, 0), (78, .getfield 28, 3, 3, 6, 0), (81, .ishl, 1, 0, 0, 0), (82, .if_icmp .ge (69), 3, 0, 0, 0), (85, .iload 4, 2, 0, 0, 0), (87, .invokestatic 69, 3, 182, 1, 0), (90, .iload_n 3, 1, 0, 0, 0), (91, .if_icmp .ne (54), 3, 0, 0, 0), (94, .aload_n 0, 1, 0, 0, 0), (95, .iload_n 2, 1, 0, 0, 0), (96, .iload 4, 2, 0, 0, 0), (98, .invokevirtual 74, 3, 180, 3, 4), (101, .istore 5, 2, 0, 0, 0), (103, .aload_n 0, 1, 0, 0, 0), (104, .getfield 31, 3, 3, 7, 0), (107, .iload_n 2, 1, 0, 0, 0), (108, .aload_n 0, 1, 0, 0, 0), (109, .getfield 28, 3, 3, 6, 0), (112, .ishl, 1, 0, 0, 0), (113, .iload 4, 2, 0, 0, 0), (115, .ior, 1, 0, 0, 0), (116, .iload 5, 2, 0, 0, 0), (118, .invokestatic 65, 3, 39, 3, 0), (121, .aload_n 0, 1, 0, 0, 0), (122, .getfield 34, 3, 3, 8, 0), (125, .iload_n 3, 1, 0, 0, 0), (126, .aload_n 0, 1, 0, 0, 0), (127, .getfield 34, 3, 3, 8, 0), (130, .iload_n 3, 1, 0, 0, 0), (131, .invokestatic 52, 3, 38, 2, 0), (134, .iload 5, 2, 0, 0, 0), (136, .invokestatic 78, 3, 184, 1, 0), (139, .invokestatic 83, 3, 181, 2, 0), (142, .invokestatic 65, 3, 39, 3, 0), (145, .iinc 4 (1), 3, 0, 0, 0), (148, .goto (-74), 3, 0, 0, 0), (151, .iinc 2 (1), 3, 0, 0, 0), (154, .goto (-98), 3, 0, 0, 0), (157, .aload_n 0, 1, 0, 0, 0), (158, .iconst 0, 1, 0, 0, 0), (159, .putfield 37, 3, 3, 9, 0), (162, .aload_n 0, 1, 0, 0, 0), (163, .getfield 37, 3, 3, 9, 0), (166, .bipush (12), 2, 0, 0, 0), (168, .if_icmp .ge (32), 3, 0, 0, 0), (171, .aload_n 0, 1, 0, 0, 0), (172, .getfield 34, 3, 3, 8, 0), (175, .aload_n 0, 1, 0, 0, 0), (176, .getfield 37, 3, 3, 9, 0), (179, .iconst 1, 1, 0, 0, 0), (180, .iadd, 1, 0, 0, 0), (181, .invokestatic 52, 3, 38, 2, 0), (184, .ifCond .eq (16), 3, 0, 0, 0), (187, .aload_n 0, 1, 0, 0, 0), (188, .dup, 1, 0, 0, 0), (189, .getfield 37, 3, 3, 9, 0), (192, .iconst 1, 1, 0, 0, 0), (193, .iadd, 1, 0, 0, 0), (194, .putfield 37, 3, 3, 9, 0), (197, .goto (-35), 3, 0, 0, 0), (200, .return_, 1, 0, 0, 0)]
def k_Wn_gather : List mm_E := [(0, .iconst 0, 1, 0, 0, 0), (1, .istore_n 3, 1, 0, 0, 0), (2, .iconst 0, 1, 0, 0, 0), (3, .istore 4, 2, 0, 0, 0), (5, .iload 4, 2, 0, 0, 0), (7, .aload_n 0, 1, 0, 0, 0), (8, .getfield 40, 3, 3, 0, 0), (11, .getfield 86, 3, 1, 0, 0), (14, .if_icmp .ge (60), 3, 0, 0, 0), (17, .aload_n 0, 1, 0, 0, 0), (18, .getfield 40, 3, 3, 0, 0), (21, .iload 4, 2, 0, 0, 0), (23, .invokevirtual 91, 3, 121, 2, 2), (26, .iload_n 2, 1, 0, 0, 0), (27, .if_icmp .ne (41), 3, 0, 0, 0), (30, .aload_n 0, 1, 0, 0, 0), (31, .getfield 15, 3, 3, 2, 0), (34, .iconst (-1), 1, 0, 0, 0), (35, .if_icmp .eq (23), 3, 0, 0, 0), (38, .aload_n 0, 1, 0, 0, 0), (39, .getfield 40, 3, 3, 0, 0), (42, .aload_n 0, 1, 0, 0, 0), (43, .getfield 9, 3, 3, 1, 0), (46, .iload 4, 2, 0, 0, 0), (48, .invokevirtual 94, 3, 122, 3, 2), (51, .aload_n 0, 1, 0, 0, 0), (52, .getfield 15, 3, 3, 2, 0), (55, .if_icmp .ne (13), 3, 0, 0, 0), (58, .aload_n 1, 1, 0, 0, 0), (59, .iload_n 3, 1, 0, 0, 0), (60, .iload 4, 2, 0, 0, 0), (62, .invokestatic 65, 3, 39, 3, 0), (65, .iinc 3 (1), 3, 0, 0, 0), (68, .iinc 4 (1), 3, 0, 0, 0), (71, .goto (-66), 3, 0, 0, 0), (74, .iload_n 3, 1, 0, 0, 0), (75, .ireturn, 1, 0, 0, 0)]
def k_Wn_determinant : List mm_E := [(0, .iload_n 1, 1, 0, 0, 0), (1, .iload_n 1, 1, 0, 0, 0), (2, .iconst 1, 1, 0, 0, 0), (3, .isub, 1, 0, 0, 0), (4, .iand, 1, 0, 0, 0), (5, .istore_n 3, 1, 0, 0, 0), (6, .aload_n 0, 1, 0, 0, 0), (7, .getfield 18, 3, 3, 3, 0), (10, .iload_n 1, 1, 0, 0, 0), (11, .iload_n 3, 1, 0, 0, 0), (12, .ixor, 1, 0, 0, 0), (13, .iconst 1, 1, 0, 0, 0), (14, .isub, 1, 0, 0, 0), (15, .invokestatic 69, 3, 182, 1, 0), (18, .invokestatic 52, 3, 38, 2, 0), (21, .istore 4, 2, 0, 0, 0), (23, .iload_n 3, 1, 0, 0, 0), (24, .aload_n 0, 1, 0, 0, 0), (25, .getfield 28, 3, 3, 6, 0), (28, .ishl, 1, 0, 0, 0), (29, .istore 5, 2, 0, 0, 0), (31, .iconst 0, 1, 0, 0, 0), (32, .istore 6, 2, 0, 0, 0), (34, .iconst 1, 1, 0, 0, 0), (35, .istore 7, 2, 0, 0, 0), (37, .iconst 0, 1, 0, 0, 0), (38, .istore 8, 2, 0, 0, 0), (40, .iload 8, 2, 0, 0, 0), (42, .aload_n 0, 1, 0, 0, 0), (43, .getfield 28, 3, 3, 6, 0), (46, .if_icmp .ge (72), 3, 0, 0, 0), (49, .iconst 1, 1, 0, 0, 0), (50, .iload 8, 2, 0, 0, 0), (52, .ishl, 1, 0, 0, 0), (53, .istore 9, 2, 0, 0, 0), (55, .iload_n 2, 1, 0, 0, 0), (56, .iload 9, 2, 0, 0, 0), (58, .iand, 1, 0, 0, 0), (59, .ifCond .eq (53), 3, 0, 0, 0), (62, .aload_n 0, 1, 0, 0, 0), (63, .getfield 40, 3, 3, 0, 0), (66, .iload 4, 2, 0, 0, 0), (68, .aload_n 0, 1, 0, 0, 0), (69, .getfield 22, 3, 3, 4, 0), (72, .iload 8, 2, 0, 0, 0), (74, .invokestatic 52, 3, 38, 2, 0), (77, .invokevirtual 96, 3, 123, 3, 2), (80, .istore 10, 2, 0, 0, 0), (82, .iload 6, 2, 0, 0, 0), (84, .iload 7, 2, 0, 0, 0), (86, .iload 10, 2, 0, 0, 0), (88, .imul, 1, 0, 0, 0), (89, .aload_n 0, 1, 0, 0, 0), (90, .getfield 31, 3, 3, 7, 0), (93, .iload 5, 2, 0, 0, 0), (95, .iload_n 2, 1, 0, 0, 0), (96, .iload 9, 2, 0, 0, 0), (98, .ixor, 1, 0, 0, 0), (99, .ior, 1, 0, 0, 0), (100, .invokestatic 52, 3, 38, 2, 0), (103, .imul, 1, 0, 0, 0), (104, .iadd, 1, 0, 0, 0), (105, .istore 6, 2, 0, 0, 0), (107, .iload 7, 2, 0, 0, 0), (109, .ineg, 1, 0, 0, 0), (110, .istore 7, 2, 0, 0, 0), (112, .iinc 8 (1), 3, 0, 0, 0), (115, .goto (-75), 3, 0, 0, 0), (118, .iload 6, 2, 0, 0, 0), (120, .ireturn, 1, 0, 0, 0)]
def k_Wn_greatestDivisor : List mm_E := [(0, .iload_n 0, 1, 0, 0, 0), (1, .istore_n 2, 1, 0, 0, 0), (2, .iload_n 1, 1, 0, 0, 0), (3, .istore_n 3, 1, 0, 0, 0), (4, .iconst 0, 1, 0, 0, 0), (5, .istore 4, 2, 0, 0, 0), (7, .iload 4, 2, 0, 0, 0), (9, .bipush (100), 2, 0, 0, 0), (11, .if_icmp .ge (23), 3, 0, 0, 0), (14, .iload_n 3, 1, 0, 0, 0), (15, .ifCond .eq (19), 3, 0, 0, 0), (18, .iload_n 2, 1, 0, 0, 0), (19, .iload_n 3, 1, 0, 0, 0), (20, .irem, 1, 0, 0, 0), (21, .istore 5, 2, 0, 0, 0), (23, .iload_n 3, 1, 0, 0, 0), (24, .istore_n 2, 1, 0, 0, 0), (25, .iload 5, 2, 0, 0, 0), (27, .istore_n 3, 1, 0, 0, 0), (28, .iinc 4 (1), 3, 0, 0, 0), (31, .goto (-24), 3, 0, 0, 0), (34, .iload_n 2, 1, 0, 0, 0), (35, .ireturn, 1, 0, 0, 0)]
def k_In_bitCount : List mm_E := [(0, .iload_n 0, 1, 0, 0, 0), (1, .iload_n 0, 1, 0, 0, 0), (2, .iconst 1, 1, 0, 0, 0), (3, .iushr, 1, 0, 0, 0), (4, .ldc_w 265, 3, 0, 0, 1431655765), (7, .iand, 1, 0, 0, 0), (8, .isub, 1, 0, 0, 0), (9, .istore_n 0, 1, 0, 0, 0), (10, .iload_n 0, 1, 0, 0, 0), (11, .ldc_w 266, 3, 0, 0, 858993459), (14, .iand, 1, 0, 0, 0), (15, .iload_n 0, 1, 0, 0, 0), (16, .iconst 2, 1, 0, 0, 0), (17, .iushr, 1, 0, 0, 0), (18, .ldc_w 266, 3, 0, 0, 858993459), (21, .iand, 1, 0, 0, 0), (22, .iadd, 1, 0, 0, 0), (23, .istore_n 0, 1, 0, 0, 0), (24, .iload_n 0, 1, 0, 0, 0), (25, .iload_n 0, 1, 0, 0, 0), (26, .iconst 4, 1, 0, 0, 0), (27, .iushr, 1, 0, 0, 0), (28, .iadd, 1, 0, 0, 0), (29, .ldc_w 267, 3, 0, 0, 252645135), (32, .iand, 1, 0, 0, 0), (33, .istore_n 0, 1, 0, 0, 0), (34, .iload_n 0, 1, 0, 0, 0), (35, .iload_n 0, 1, 0, 0, 0), (36, .bipush (8), 2, 0, 0, 0), (38, .iushr, 1, 0, 0, 0), (39, .iadd, 1, 0, 0, 0), (40, .istore_n 0, 1, 0, 0, 0), (41, .iload_n 0, 1, 0, 0, 0), (42, .iload_n 0, 1, 0, 0, 0), (43, .bipush (16), 2, 0, 0, 0), (45, .iushr, 1, 0, 0, 0), (46, .iadd, 1, 0, 0, 0), (47, .istore_n 0, 1, 0, 0, 0), (48, .iload_n 0, 1, 0, 0, 0), (49, .bipush (63), 2, 0, 0, 0), (51, .iand, 1, 0, 0, 0), (52, .ireturn, 1, 0, 0, 0)]
def k_In_compare : List mm_E := [(0, .iload_n 0, 1, 0, 0, 0), (1, .iload_n 1, 1, 0, 0, 0), (2, .if_icmp .ge (7), 3, 0, 0, 0), (5, .iconst (-1), 1, 0, 0, 0), (6, .goto (13), 3, 0, 0, 0), (9, .iload_n 0, 1, 0, 0, 0), (10, .iload_n 1, 1, 0, 0, 0), (11, .if_icmp .ne (7), 3, 0, 0, 0), (14, .iconst 0, 1, 0, 0, 0), (15, .goto (4), 3, 0, 0, 0), (18, .iconst 1, 1, 0, 0, 0), (19, .ireturn, 1, 0, 0, 0)]
def k_Ma_abs : List mm_E := [(0, .iload_n 0, 1, 0, 0, 0), (1, .ifCond .ge (8), 3, 0, 0, 0), (4, .iload_n 0, 1, 0, 0, 0), (5, .ineg, 1, 0, 0, 0), (6, .goto (4), 3, 0, 0, 0), (9, .iload_n 0, 1, 0, 0, 0), (10, .ireturn, 1, 0, 0, 0)]
def k_Ma_floorMod : List mm_E := [(0, .iload_n 0, 1, 0, 0, 0), (1, .iload_n 1, 1, 0, 0, 0), (2, .irem, 1, 0, 0, 0), (3, .istore_n 2, 1, 0, 0, 0), (4, .iload_n 0, 1, 0, 0, 0), (5, .iload_n 1, 1, 0, 0, 0), (6, .ixor, 1, 0, 0, 0), (7, .ifCond .ge (11), 3, 0, 0, 0), (10, .iload_n 2, 1, 0, 0, 0), (11, .ifCond .eq (7), 3, 0, 0, 0), (14, .iload_n 2, 1, 0, 0, 0), (15, .iload_n 1, 1, 0, 0, 0), (16, .iadd, 1, 0, 0, 0), (17, .ireturn, 1, 0, 0, 0), (18, .iload_n 2, 1, 0, 0, 0), (19, .ireturn, 1, 0, 0, 0)]
def k_Ma_max : List mm_E := [(0, .iload_n 0, 1, 0, 0, 0), (1, .iload_n 1, 1, 0, 0, 0), (2, .if_icmp .lt (7), 3, 0, 0, 0), (5, .iload_n 0, 1, 0, 0, 0), (6, .goto (4), 3, 0, 0, 0), (9, .iload_n 1, 1, 0, 0, 0), (10, .ireturn, 1, 0, 0, 0)]
def k_Ma_min : List mm_E := [(0, .iload_n 0, 1, 0, 0, 0), (1, .iload_n 1, 1, 0, 0, 0), (2, .if_icmp .gt (7), 3, 0, 0, 0), (5, .iload_n 0, 1, 0, 0, 0), (6, .goto (4), 3, 0, 0, 0), (9, .iload_n 1, 1, 0, 0, 0), (10, .ireturn, 1, 0, 0, 0)]
def k_Ar_fill : List mm_E := [(0, .iconst 0, 1, 0, 0, 0), (1, .istore_n 2, 1, 0, 0, 0), (2, .aload_n 0, 1, 0, 0, 0), (3, .arraylength, 1, 0, 0, 0), (4, .istore_n 3, 1, 0, 0, 0), (5, .iload_n 2, 1, 0, 0, 0), (6, .iload_n 3, 1, 0, 0, 0), (7, .if_icmp .ge (13), 3, 0, 0, 0), (10, .aload_n 0, 1, 0, 0, 0), (11, .iload_n 2, 1, 0, 0, 0), (12, .iload_n 1, 1, 0, 0, 0), (13, .iastore, 1, 0, 0, 0), (14, .iinc 2 (1), 3, 0, 0, 0), (17, .goto (-12), 3, 0, 0, 0), (20, .return_, 1, 0, 0, 0)]
def k_Ar_fillL : List mm_E := [(0, .iconst 0, 1, 0, 0, 0), (1, .istore_n 3, 1, 0, 0, 0), (2, .aload_n 0, 1, 0, 0, 0), (3, .arraylength, 1, 0, 0, 0), (4, .istore 4, 2, 0, 0, 0), (6, .iload_n 3, 1, 0, 0, 0), (7, .iload 4, 2, 0, 0, 0), (9, .if_icmp .ge (13), 3, 0, 0, 0), (12, .aload_n 0, 1, 0, 0, 0), (13, .iload_n 3, 1, 0, 0, 0), (14, .lload_n 1, 1, 0, 0, 0), (15, .lastore, 1, 0, 0, 0), (16, .iinc 3 (1), 3, 0, 0, 0), (19, .goto (-13), 3, 0, 0, 0), (22, .return_, 1, 0, 0, 0)]
def mm_T (n : Nat) : List mm_E × Nat := ([(k_P_clear, 4), (k_P_cell, 6), (k_P_entry, 7), (k_P_entryOf, 5), (k_P_of, 5), (k_P_broken, 3), (k_P_mend, 7), (k_P_feed, 5), (k_P_text, 4), (k_P_goes, 6), (k_P_reduced, 7), (k_P_page, 7), (k_P_turns, 7), (k_P_stands, 7), (k_P_left, 5), (k_P_whole, 5), (k_P_wholeAt, 7), (k_P_times, 7), (k_P_part, 7), (k_P_would, 9), (k_P_trials, 2), (k_P_sheet, 5), (k_P_put, 6), (k_P_item, 5), (k_P_copy, 8), (k_P_lay, 9), (k_P_take, 11), (k_P_many, 2), (k_P_keep, 2), (k_P_again, 2), (k_P_complexAt, 2), (k_P_sheetAt, 2), (k_P_isDegree, 1), (k_P_isLevel, 1), (k_P_isEntry, 2), (k_P_isWay, 1), (k_P_isPrime, 1), (k_P_isSort, 1), (k_P_get, 2), (k_P_set, 3), (k_P_ofPage, 11), (k_P_staying, 6), (k_P_inWholeNumbers, 6), (k_P_refusalOfEdge, 3), (k_P_cellsTogether, 3), (k_P_setOfComplexes, 4), (k_M_in, 3), (k_M_isComplex, 1), (k_M_isCell, 3), (k_M_degree, 3), (k_M_level, 4), (k_M_edge, 4), (k_M_may, 4), (k_M_sets, 6), (k_M_empties, 3), (k_M_copies, 4), (k_M_clear, 3), (k_M_cell, 5), (k_M_isEntry, 4), (k_M_entry, 6), (k_M_entryOf, 4), (k_M_entriesOf, 6), (k_M_of, 4), (k_M_brokenAt, 6), (k_M_broken, 2), (k_M_mends, 7), (k_M_mend, 6), (k_M_would, 9), (k_M_trials, 2), (k_M_isPrime, 1), (k_M_isBefore, 5), (k_M_findOrder, 6), (k_M_lastOf, 5), (k_M_inverse, 3), (k_M_reduces, 10), (k_M_isAsked, 2), (k_M_goes, 5), (k_M_reduced, 6), (k_M_gap, 5), (k_M_counts, 10), (k_M_told, 8), (k_M_page, 7), (k_M_turns, 7), (k_M_stands, 7), (k_M_leftOf, 6), (k_M_left, 4), (k_M_isAt, 6), (k_M_cellsAt, 7), (k_M_takesTable, 8), (k_M_size, 2), (k_M_leastTo, 8), (k_M_lowers, 9), (k_M_simplifies, 1), (k_M_wholeOf, 8), (k_M_whole, 4), (k_M_wholeAt, 6), (k_M_times, 12), (k_M_part, 9), (k_M_feed, 5), (k_M_here, 1), (k_M_takes, 2), (k_M_readsNumber, 3), (k_M_readsEntry, 5), (k_M_readsCell, 6), (k_M_text, 4), (k_M_isSheet, 1), (k_M_isOutside, 4), (k_M_cut, 3), (k_M_sheet, 5), (k_M_put, 5), (k_M_item, 4), (k_M_copy, 7), (k_M_lacks, 4), (k_M_lay, 7), (k_M_take, 11), (k_M_cellsAll, 3), (k_M_many, 4), (k_M_moves, 3), (k_M_keep, 1), (k_M_again, 1), (k_C_has, 2), (k_C_degree, 2), (k_C_level, 3), (k_C_edge, 3), (k_C_setEdge, 4), (k_C_mayHave, 3), (k_C_empty, 1), (k_C_add, 6), (k_C_entriesIn, 4), (k_C_edgesWith, 4), (k_C_isBroken, 1), (k_C_firstBroken, 4), (k_C_stillBroken, 3), (k_C_edgeOfEdge, 6), (k_C_become, 2), (k_C_canBeMultiplied, 2), (k_C_topDegree, 3), (k_C_topLevel, 4), (k_C_becomeProduct, 5), (k_C_setProductEdge, 9), (k_C_becomePart, 6), (k_C_setPartEdge, 8), (k_Re_read, 2), (k_Re_isAtEnd, 1), (k_Re_skipBlanks, 1), (k_Re_fails, 2), (k_Re_passes, 3), (k_Re_isAtDigit, 2), (k_Re_readsNumber, 3), (k_Re_readsHead, 4), (k_Re_readsEntries, 3), (k_Re_readsEntry, 4), (k_Rd_run, 5), (k_Rd_putInOrder, 3), (k_Rd_standsBefore, 5), (k_Rd_reduce, 4), (k_Rd_lastOf, 4), (k_Rd_takeAway, 6), (k_Rd_leaves, 2), (k_Rd_remainder, 3), (k_Rd_partner, 3), (k_Rd_gap, 2), (k_Rd_standsOn, 3), (k_Rd_turnsAt, 3), (k_Sh_become, 3), (k_Sh_isOutside, 3), (k_Sh_get, 2), (k_Sh_set, 4), (k_Sh_copyPlaces, 5), (k_Tp_add, 2), (k_Tp_at, 2), (k_Tr_startAnew, 1), (k_Tr_open, 5), (k_Tr_close, 1), (k_Wn_choose, 4), (k_Wn_free, 4), (k_Wn_factor, 4), (k_Wn_quotient, 3), (k_Wn_findDivisors, 6), (k_Wn_gather, 5), (k_Wn_determinant, 11), (k_Wn_greatestDivisor, 6), (k_In_bitCount, 1), (k_In_compare, 2), (k_Ma_abs, 1), (k_Ma_floorMod, 3), (k_Ma_max, 2), (k_Ma_min, 2), (k_Ar_fill, 4), (k_Ar_fillL, 5)] : List (List mm_E × Nat)).getD n ([], 0)
end
section
/-! Runs: the small machine comes, from here, to an end that Q holds of. -/
def Rn (cd : List mm_E) (pc : Nat) (ls st : List mm_V) (S : mm_S) (Q : Option mm_V → mm_S → Prop) : Prop := ∃ n v S', mm_ex mm_T n cd pc ls st S = some (v, S') ∧ Q v S'
/-- a method from its start -/
def Cl (k : Nat) (as : List mm_V) (S : mm_S) (Q : Option mm_V → mm_S → Prop) : Prop := (mm_args as).length ≤ (mm_T k).2 ∧ Rn (mm_T k).1 0 (mm_ent (mm_T k).2 as) [] S Q
theorem Rn.mono {cd pc ls st S} {Q Q' : Option mm_V → mm_S → Prop} (h : Rn cd pc ls st S Q) (hq : ∀ v S', Q v S' → Q' v S') : Rn cd pc ls st S Q' := by
  obtain ⟨n, v, S', h1, h2⟩ := h
  exact ⟨n, v, S', h1, hq v S' h2⟩
theorem Cl.mono {k as S} {Q Q' : Option mm_V → mm_S → Prop} (h : Cl k as S Q) (hq : ∀ v S', Q v S' → Q' v S') : Cl k as S Q' := ⟨h.1, Rn.mono h.2 hq⟩
theorem mm_j_mono {k k' : Nat → List mm_V → List mm_V → mm_S → mm_R} {ck ck' : Nat → List mm_V → mm_S → mm_R} {e : mm_E} {ls st : List mm_V} {S : mm_S} {r : Option mm_V × mm_S} (hk : ∀ pc ls st S r, k pc ls st S = some r → k' pc ls st S = some r) (hc : ∀ m as S r, ck m as S = some r → ck' m as S = some r) (h : mm_j k ck e ls st S = some r) : mm_j k' ck' e ls st S = some r := by
  unfold mm_j at h ⊢
  cases h1 : mm_op e.1 e.2.1 (e.1 + e.2.2.1) e.2.2.2.1 e.2.2.2.2.1 e.2.2.2.2.2 st S with
  | some q => rw [h1] at h; exact hk _ _ _ _ _ h
  | none =>
    rw [h1] at h
    dsimp only at h ⊢
    cases h2 : mm_lo e.2.1 (e.1 + e.2.2.1) ls st with
    | some q => rw [h2] at h; exact hk _ _ _ _ _ h
    | none =>
      rw [h2] at h
      dsimp only at h ⊢
      cases h3 : mm_ret e.2.2.2.1 e.2.1 st with
      | some q => rw [h3] at h; exact h
      | none =>
        rw [h3] at h
        dsimp only at h ⊢
        cases h4 : mm_isv e.2.1 with
        | none => rw [h4] at h; cases h
        | some b =>
          rw [h4] at h
          dsimp only at h ⊢
          split at h
          · rename_i hg
            rw [if_pos hg]
            cases h5 : ck e.2.2.2.1 (st.take e.2.2.2.2.1).reverse S with
            | none => rw [h5] at h; cases h
            | some q =>
              rw [h5] at h
              rw [hc _ _ _ _ h5]
              exact hk _ _ _ _ _ h
          · cases h
theorem mm_ex_up {T : Nat → List mm_E × Nat} : ∀ (n : Nat) (cd : List mm_E) (pc : Nat) (ls st : List mm_V) (S : mm_S) (r : Option mm_V × mm_S), mm_ex T n cd pc ls st S = some r → mm_ex T (n + 1) cd pc ls st S = some r
  | 0, _, _, _, _, _, _, h => by cases h
  | n + 1, cd, pc, ls, st, S, r, h => by
    unfold mm_ex at h ⊢
    cases hf : mm_find cd pc with
    | none => rw [hf] at h; cases h
    | some e =>
      rw [hf] at h
      exact mm_j_mono (fun _ _ _ _ _ h => mm_ex_up n _ _ _ _ _ _ h) (fun _ _ _ _ h => by
        split at h
        · rename_i hl
          rw [if_pos hl]
          exact mm_ex_up n _ _ _ _ _ _ h
        · cases h) h
theorem mm_ex_le {T : Nat → List mm_E × Nat} {n m : Nat} (hnm : n ≤ m) {cd : List mm_E} {pc : Nat} {ls st : List mm_V} {S : mm_S} {r : Option mm_V × mm_S} (h : mm_ex T n cd pc ls st S = some r) : mm_ex T m cd pc ls st S = some r := by
  induction hnm with
  | refl => exact h
  | step _ ih => exact mm_ex_up _ _ _ _ _ _ _ ih
section RULES
variable {cd : List mm_E} {pc nx r1 r2 : Nat} {r3 : Int} {i : Instr} {len : Nat} {ls st : List mm_V} {S : mm_S} {Q : Option mm_V → mm_S → Prop}
/-- an instruction on the stack and the cells -/
theorem Rn.op (e : mm_E) (hf : mm_find cd pc = some e) {pc' : Nat} {st' : List mm_V} {S' : mm_S} (ho : mm_op e.1 e.2.1 (e.1 + e.2.2.1) e.2.2.2.1 e.2.2.2.2.1 e.2.2.2.2.2 st S = some (pc', st', S')) (k : Rn cd pc' ls st' S' Q) : Rn cd pc ls st S Q := by
  obtain ⟨n, v, S2, h1, h2⟩ := k
  refine ⟨n + 1, v, S2, ?_, h2⟩
  unfold mm_ex
  rw [hf]
  show mm_j _ _ e ls st S = _
  unfold mm_j
  rw [ho]
  exact h1
/-- one on the locals -/
theorem Rn.lo (e : mm_E) (hf : mm_find cd pc = some e) {pc' : Nat} {ls' st' : List mm_V} (ho : mm_op e.1 e.2.1 (e.1 + e.2.2.1) e.2.2.2.1 e.2.2.2.2.1 e.2.2.2.2.2 st S = none) (hl : mm_lo e.2.1 (e.1 + e.2.2.1) ls st = some (pc', ls', st')) (k : Rn cd pc' ls' st' S Q) : Rn cd pc ls st S Q := by
  obtain ⟨n, v, S2, h1, h2⟩ := k
  refine ⟨n + 1, v, S2, ?_, h2⟩
  unfold mm_ex
  rw [hf]
  show mm_j _ _ e ls st S = _
  unfold mm_j
  rw [ho]
  dsimp only
  rw [hl]
  exact h1
/-- the end -/
theorem Rn.ret (e : mm_E) (hf : mm_find cd pc = some e) {v : Option mm_V} (ho : mm_op e.1 e.2.1 (e.1 + e.2.2.1) e.2.2.2.1 e.2.2.2.2.1 e.2.2.2.2.2 st S = none) (hl : mm_lo e.2.1 (e.1 + e.2.2.1) ls st = none) (hr : mm_ret e.2.2.2.1 e.2.1 st = some v) (k : Q v S) : Rn cd pc ls st S Q := by
  refine ⟨1, v, S, ?_, k⟩
  unfold mm_ex
  rw [hf]
  show mm_j _ _ e ls st S = _
  unfold mm_j
  rw [ho]
  dsimp only
  rw [hl]
  dsimp only
  rw [hr]
/-- a call -/
theorem Rn.call (e : mm_E) (hf : mm_find cd pc = some e) {b : Bool} (as rest : List mm_V) (ho : mm_op e.1 e.2.1 (e.1 + e.2.2.1) e.2.2.2.1 e.2.2.2.2.1 e.2.2.2.2.2 st S = none) (hl : mm_lo e.2.1 (e.1 + e.2.2.1) ls st = none) (hr : mm_ret e.2.2.2.1 e.2.1 st = none) (hv : mm_isv e.2.1 = some b) (has : (st.take e.2.2.2.2.1).reverse = as) (hrest : st.drop e.2.2.2.2.1 = rest) (hlen : decide (e.2.2.2.2.1 ≤ st.length) = true) (hrc : mm_rcv e.2.2.2.2.2 as = true) (hcs : decide (mm_cs rest ≤ 8) = true)
    (k : Cl e.2.2.2.1 as S (fun v S' => Rn cd (e.1 + e.2.2.1) ls (v.toList ++ rest) S' Q)) : Rn cd pc ls st S Q := by
  obtain ⟨hlen2, n, v, S1, h1, n2, v2, S2, h2, h3⟩ := k
  refine ⟨max n n2 + 1, v2, S2, ?_, h3⟩
  unfold mm_ex
  rw [hf]
  show mm_j _ _ e ls st S = _
  unfold mm_j
  rw [ho]
  dsimp only
  rw [hl]
  dsimp only
  rw [hr]
  dsimp only
  rw [hv]
  dsimp only
  have hg : mm_cg e.2.2.2.2.1 e.2.2.2.2.2 st = true := by
    unfold mm_cg
    rw [hlen, has, hrest, hrc, hcs]; rfl
  rw [if_pos hg, has, if_pos hlen2, mm_ex_le (Nat.le_max_left n n2) h1]
  dsimp only
  rw [hrest]
  exact mm_ex_le (Nat.le_max_right n n2) h2
/-- a branch: two ways -/
theorem Rn.br (e : mm_E) (hf : mm_find cd pc = some e) {b : Bool} {pa pb : Nat} {st' : List mm_V} (ho : mm_op e.1 e.2.1 (e.1 + e.2.2.1) e.2.2.2.1 e.2.2.2.2.1 e.2.2.2.2.2 st S = some (if b then pa else pb, st', S)) {P : Prop} (hb : b = true ↔ P) (kt : P → Rn cd pa ls st' S Q) (kf : ¬ P → Rn cd pb ls st' S Q) : Rn cd pc ls st S Q := by
  cases b with
  | true => exact Rn.op e hf ho (kt (hb.mp rfl))
  | false => exact Rn.op e hf ho (kf (fun h => by have := hb.mpr h; cases this))
end RULES
theorem mm_w32_id {z : Int} (h : -2147483648 ≤ z ∧ z < 2147483648) : mm_w32 z = z := by
  unfold mm_w32
  rw [Int.bmod_def]
  split <;> omega
theorem mm_w64_id {z : Int} (h : -9223372036854775808 ≤ z ∧ z < 9223372036854775808) : mm_w64 z = z := by
  unfold mm_w64
  rw [Int.bmod_def]
  split <;> omega
end
section
/-- Met.ofW for a method of any class of which no row runs in its place -/
theorem Met.ofWF {l : Launch} {y : MethodName} {ws ws' : List Cond} {rm : Room} {Pc : Array Value → State → Prop} {Qc : Array Value → State → Outcome → State → Prop} {mc ms : Nat} {free : Addr → Prop} {cc : ByteArray} {maxL : Nat} {ret : Option FieldType}
    (hy : plainFor y = true) (hw : ws = Cond.code y cc maxL ret :: ws')
    (body : ∀ p e s m args below meth c s₁, BodyLoose p l y (headSpec ws rm) cc maxL ret e s m args below meth c s₁ → c.maxLocals = maxL → Pc args s →
      W p l e (headSpec ws rm).room s m args below meth c s.heap [] 0 0 (MQ below Qc args s mc ms free) (entryFrame m args maxL)) : Met l y ws rm Pc Qc mc ms free := by
  refine MetFree.of_bodySF (code := cc) (maxLocals := maxL) (ret := ret) hy ?_ ?_
  · intro args s m h hn
    obtain ⟨meth, c, h1, h2, h3, h4, h5, h6, -, -⟩ := Cond.code_spec hn (atoms_spec (ws := ws) h _ (by rw [hw]; exact List.mem_cons_self))
    exact ⟨meth, c, h1, h2, h3, h4, h5, h6⟩
  · intro p e s m args below meth c s₁ B hml hP _
    have hh0 : s₁.heap = s.heap := by rw [B.state]; rfl
    obtain ⟨t, a1, o, b1, b2, b3⟩ := body p e s m args below meth c s₁ B hml hP s₁ hh0 (Stand.of_body B)
    exact ⟨t, o, a1, b1, b2, ⟨b3.1, b3.2⟩⟩
def mm_cns : List String := ["PagesByLevels", "PagesByLevels$Complex", "PagesByLevels$Reduction", "PagesByLevels$WholeNumbers", "PagesByLevels$Trials", "PagesByLevels$Tape", "PagesByLevels$Reader", "PagesByLevels$Sheet", "PagesByLevelsModel", "java/lang/Integer", "java/lang/Math", "java/util/Arrays", "java/lang/System", "PagesByLevelsLaw"]
def mm_cn (n : Nat) : String := mm_cns.getD n ""
def mm_F0 : u_T := fun k => match k with
  | 0 => ("PagesByLevels", "complexes", "[LPagesByLevels$Complex;", true)
  | 1 => ("PagesByLevels", "kept", "[LPagesByLevels$Complex;", true)
  | 2 => ("PagesByLevels", "made", "LPagesByLevels$Complex;", true)
  | 3 => ("PagesByLevels", "reduction", "LPagesByLevels$Reduction;", true)
  | 4 => ("PagesByLevels", "numbers", "LPagesByLevels$WholeNumbers;", true)
  | 5 => ("PagesByLevels", "tried", "LPagesByLevels$Trials;", true)
  | 6 => ("PagesByLevels", "tape", "LPagesByLevels$Tape;", true)
  | 7 => ("PagesByLevels", "reader", "LPagesByLevels$Reader;", true)
  | 8 => ("PagesByLevels", "sheets", "[LPagesByLevels$Sheet;", true)
  | _ => ("PagesByLevels", "anythingKept", "Z", false)
def mm_ty0 : Nat → FieldType := fun k => match k with
  | 0 => (.array (.object "PagesByLevels$Complex"))
  | 1 => (.array (.object "PagesByLevels$Complex"))
  | 2 => (.object "PagesByLevels$Complex")
  | 3 => (.object "PagesByLevels$Reduction")
  | 4 => (.object "PagesByLevels$WholeNumbers")
  | 5 => (.object "PagesByLevels$Trials")
  | 6 => (.object "PagesByLevels$Tape")
  | 7 => (.object "PagesByLevels$Reader")
  | 8 => (.array (.object "PagesByLevels$Sheet"))
  | _ => .boolean
def mm_F1 : u_T := fun k => match k with
  | 0 => ("PagesByLevels$Complex", "count", "I", false)
  | 1 => ("PagesByLevels$Complex", "degrees", "[I", true)
  | 2 => ("PagesByLevels$Complex", "levels", "[I", true)
  | 3 => ("PagesByLevels$Complex", "otherLevels", "[I", true)
  | _ => ("PagesByLevels$Complex", "edges", "[I", true)
def mm_ty1 : Nat → FieldType := fun k => match k with
  | 0 => .int
  | 1 => (.array .int)
  | 2 => (.array .int)
  | 3 => (.array .int)
  | _ => (.array .int)
def mm_F2 : u_T := fun k => match k with
  | 0 => ("PagesByLevels$Reduction", "complex", "LPagesByLevels$Complex;", false)
  | 1 => ("PagesByLevels$Reduction", "way", "I", false)
  | 2 => ("PagesByLevels$Reduction", "prime", "I", false)
  | 3 => ("PagesByLevels$Reduction", "order", "[I", true)
  | 4 => ("PagesByLevels$Reduction", "remainders", "[I", true)
  | 5 => ("PagesByLevels$Reduction", "lasts", "[I", true)
  | _ => ("PagesByLevels$Reduction", "owners", "[I", true)
def mm_ty2 : Nat → FieldType := fun k => match k with
  | 0 => (.object "PagesByLevels$Complex")
  | 1 => .int
  | 2 => .int
  | 3 => (.array .int)
  | 4 => (.array .int)
  | 5 => (.array .int)
  | _ => (.array .int)
def mm_F3 : u_T := fun k => match k with
  | 0 => ("PagesByLevels$WholeNumbers", "complex", "LPagesByLevels$Complex;", false)
  | 1 => ("PagesByLevels$WholeNumbers", "way", "I", false)
  | 2 => ("PagesByLevels$WholeNumbers", "level", "I", false)
  | 3 => ("PagesByLevels$WholeNumbers", "rows", "[I", true)
  | 4 => ("PagesByLevels$WholeNumbers", "columns", "[I", true)
  | 5 => ("PagesByLevels$WholeNumbers", "rowCount", "I", false)
  | 6 => ("PagesByLevels$WholeNumbers", "columnCount", "I", false)
  | 7 => ("PagesByLevels$WholeNumbers", "determinants", "[I", true)
  | 8 => ("PagesByLevels$WholeNumbers", "divisors", "[I", true)
  | _ => ("PagesByLevels$WholeNumbers", "rank", "I", false)
def mm_ty3 : Nat → FieldType := fun k => match k with
  | 0 => (.object "PagesByLevels$Complex")
  | 1 => .int
  | 2 => .int
  | 3 => (.array .int)
  | 4 => (.array .int)
  | 5 => .int
  | 6 => .int
  | 7 => (.array .int)
  | 8 => (.array .int)
  | _ => .int
def mm_F4 : u_T := fun k => match k with
  | 0 => ("PagesByLevels$Trials", "opened", "I", false)
  | 1 => ("PagesByLevels$Trials", "closed", "I", false)
  | 2 => ("PagesByLevels$Trials", "openAtMost", "I", false)
  | 3 => ("PagesByLevels$Trials", "complex", "LPagesByLevels$Complex;", false)
  | 4 => ("PagesByLevels$Trials", "x", "I", false)
  | 5 => ("PagesByLevels$Trials", "y", "I", false)
  | _ => ("PagesByLevels$Trials", "was", "I", false)
def mm_ty4 : Nat → FieldType := fun k => match k with
  | 0 => .int
  | 1 => .int
  | 2 => .int
  | 3 => (.object "PagesByLevels$Complex")
  | 4 => .int
  | 5 => .int
  | _ => .int
def mm_F5 : u_T := fun k => match k with
  | 0 => ("PagesByLevels$Tape", "length", "I", false)
  | _ => ("PagesByLevels$Tape", "bytes", "[B", true)
def mm_ty5 : Nat → FieldType := fun k => match k with
  | 0 => .int
  | _ => (.array .byte)
def mm_F6 : u_T := fun k => match k with
  | 0 => ("PagesByLevels$Reader", "tape", "LPagesByLevels$Tape;", true)
  | 1 => ("PagesByLevels$Reader", "complex", "LPagesByLevels$Complex;", true)
  | 2 => ("PagesByLevels$Reader", "place", "I", false)
  | 3 => ("PagesByLevels$Reader", "fault", "I", false)
  | 4 => ("PagesByLevels$Reader", "number", "I", false)
  | 5 => ("PagesByLevels$Reader", "numberPlace", "I", false)
  | _ => ("PagesByLevels$Reader", "told", "I", false)
def mm_ty6 : Nat → FieldType := fun k => match k with
  | 0 => (.object "PagesByLevels$Tape")
  | 1 => (.object "PagesByLevels$Complex")
  | 2 => .int
  | 3 => .int
  | 4 => .int
  | 5 => .int
  | _ => .int
def mm_F7 : u_T := fun k => match k with
  | 0 => ("PagesByLevels$Sheet", "sort", "I", false)
  | 1 => ("PagesByLevels$Sheet", "size", "I", false)
  | _ => ("PagesByLevels$Sheet", "places", "[J", true)
def mm_ty7 : Nat → FieldType := fun k => match k with
  | 0 => .int
  | 1 => .int
  | _ => (.array .long)
def mm_F8 : u_T := fun k => match k with
  | 0 => ("PagesByLevelsModel", "many", "[I", true)
  | 1 => ("PagesByLevelsModel", "degrees", "[I", true)
  | 2 => ("PagesByLevelsModel", "levels", "[I", true)
  | 3 => ("PagesByLevelsModel", "edges", "[I", true)
  | 4 => ("PagesByLevelsModel", "keptMany", "[I", true)
  | 5 => ("PagesByLevelsModel", "keptDegrees", "[I", true)
  | 6 => ("PagesByLevelsModel", "keptLevels", "[I", true)
  | 7 => ("PagesByLevelsModel", "keptEdges", "[I", true)
  | 8 => ("PagesByLevelsModel", "isKept", "Z", false)
  | 9 => ("PagesByLevelsModel", "opened", "I", false)
  | 10 => ("PagesByLevelsModel", "closed", "I", false)
  | 11 => ("PagesByLevelsModel", "openMost", "I", false)
  | 12 => ("PagesByLevelsModel", "rest", "[I", true)
  | 13 => ("PagesByLevelsModel", "with", "[I", true)
  | 14 => ("PagesByLevelsModel", "order", "[I", true)
  | 15 => ("PagesByLevelsModel", "table", "[J", true)
  | 16 => ("PagesByLevelsModel", "simple", "[J", true)
  | 17 => ("PagesByLevelsModel", "tableRows", "I", false)
  | 18 => ("PagesByLevelsModel", "tableColumns", "I", false)
  | 19 => ("PagesByLevelsModel", "rank", "I", false)
  | 20 => ("PagesByLevelsModel", "tape", "[I", true)
  | 21 => ("PagesByLevelsModel", "taped", "I", false)
  | 22 => ("PagesByLevelsModel", "at", "I", false)
  | 23 => ("PagesByLevelsModel", "number", "I", false)
  | 24 => ("PagesByLevelsModel", "numberAt", "I", false)
  | 25 => ("PagesByLevelsModel", "isTold", "[Z", true)
  | 26 => ("PagesByLevelsModel", "sorts", "[I", true)
  | 27 => ("PagesByLevelsModel", "lengths", "[I", true)
  | 28 => ("PagesByLevelsModel", "cells", "[J", true)
  | _ => ("PagesByLevelsModel", "moved", "[J", true)
def mm_ty8 : Nat → FieldType := fun k => match k with
  | 0 => (.array .int)
  | 1 => (.array .int)
  | 2 => (.array .int)
  | 3 => (.array .int)
  | 4 => (.array .int)
  | 5 => (.array .int)
  | 6 => (.array .int)
  | 7 => (.array .int)
  | 8 => .boolean
  | 9 => .int
  | 10 => .int
  | 11 => .int
  | 12 => (.array .int)
  | 13 => (.array .int)
  | 14 => (.array .int)
  | 15 => (.array .long)
  | 16 => (.array .long)
  | 17 => .int
  | 18 => .int
  | 19 => .int
  | 20 => (.array .int)
  | 21 => .int
  | 22 => .int
  | 23 => .int
  | 24 => .int
  | 25 => (.array .boolean)
  | 26 => (.array .int)
  | 27 => (.array .int)
  | 28 => (.array .long)
  | _ => (.array .long)
def mm_F (ci : Nat) : u_T := match ci with
  | 0 => mm_F0
  | 1 => mm_F1
  | 2 => mm_F2
  | 3 => mm_F3
  | 4 => mm_F4
  | 5 => mm_F5
  | 6 => mm_F6
  | 7 => mm_F7
  | _ => mm_F8
def mm_ty (ci : Nat) : Nat → FieldType := match ci with
  | 0 => mm_ty0
  | 1 => mm_ty1
  | 2 => mm_ty2
  | 3 => mm_ty3
  | 4 => mm_ty4
  | 5 => mm_ty5
  | 6 => mm_ty6
  | 7 => mm_ty7
  | _ => mm_ty8
def mm_nf (ci : Nat) : Nat := (mm_fks.getD ci []).length
def mm_cl : List vw_C := [(mm_cn 0, mm_F 0, mm_nf 0), (mm_cn 1, mm_F 1, mm_nf 1), (mm_cn 2, mm_F 2, mm_nf 2), (mm_cn 3, mm_F 3, mm_nf 3), (mm_cn 4, mm_F 4, mm_nf 4), (mm_cn 5, mm_F 5, mm_nf 5), (mm_cn 6, mm_F 6, mm_nf 6), (mm_cn 7, mm_F 7, mm_nf 7), (mm_cn 8, mm_F 8, mm_nf 8)]
abbrev mm_Hd : Type := MethodName × ByteArray × Nat × Option FieldType × Nat × Nat × Nat × Nat × Bool
def mm_hds : List mm_Hd := [(⟨"PagesByLevels", "clear", "(I)I"⟩, prog_1_method_2_code, 4, (some .int), 0, 1, 21, 1, false), (⟨"PagesByLevels", "cell", "(IIII)I"⟩, prog_1_method_3_code, 6, (some .int), 0, 3, 69, 4, false), (⟨"PagesByLevels", "entry", "(IIII)I"⟩, prog_1_method_4_code, 7, (some .int), 0, 2, 44, 4, false), (⟨"PagesByLevels", "entryOf", "(III)I"⟩, prog_1_method_5_code, 5, (some .int), 0, 2, 43, 3, false), (⟨"PagesByLevels", "of", "(III)I"⟩, prog_1_method_6_code, 5, (some .int), 0, 3, 66, 3, false), (⟨"PagesByLevels", "broken", "(I)I"⟩, prog_1_method_7_code, 3, (some .int), 0, 3, 69, 1, false), (⟨"PagesByLevels", "mend", "(I)I"⟩, prog_1_method_8_code, 7, (some .int), 0, 4, 91, 1, false), (⟨"PagesByLevels", "feed", "(JI)I"⟩, prog_1_method_9_code, 5, (some .int), 0, 1, 21, 2, false), (⟨"PagesByLevels", "text", "(I)I"⟩, prog_1_method_10_code, 4, (some .int), 0, 6, 130, 1, false), (⟨"PagesByLevels", "goes", "(IIII)I"⟩, prog_1_method_11_code, 6, (some .int), 0, 5, 115, 4, false), (⟨"PagesByLevels", "reduced", "(IIIII)I"⟩, prog_1_method_12_code, 7, (some .int), 0, 5, 115, 5, false), (⟨"PagesByLevels", "page", "(IIIIII)I"⟩, prog_1_method_13_code, 7, (some .int), 0, 6, 145, 6, false), (⟨"PagesByLevels", "turns", "(IIIIII)I"⟩, prog_1_method_14_code, 7, (some .int), 0, 6, 145, 6, false), (⟨"PagesByLevels", "stands", "(III)I"⟩, prog_1_method_15_code, 7, (some .int), 0, 5, 115, 3, false), (⟨"PagesByLevels", "left", "(III)I"⟩, prog_1_method_16_code, 5, (some .int), 0, 6, 140, 3, false), (⟨"PagesByLevels", "whole", "(III)I"⟩, prog_1_method_17_code, 5, (some .int), 0, 6, 146, 3, false), (⟨"PagesByLevels", "wholeAt", "(IIIII)I"⟩, prog_1_method_18_code, 7, (some .int), 0, 6, 146, 5, false), (⟨"PagesByLevels", "times", "(III)I"⟩, prog_1_method_19_code, 7, (some .int), 0, 4, 96, 3, false), (⟨"PagesByLevels", "part", "(IIII)I"⟩, prog_1_method_20_code, 7, (some .int), 0, 4, 96, 4, false), (⟨"PagesByLevels", "would", "(IIIIII)I"⟩, prog_1_method_21_code, 9, (some .int), 0, 6, 140, 6, false), (⟨"PagesByLevels", "trials", "(I)I"⟩, prog_1_method_22_code, 2, (some .int), 0, 0, 0, 1, false), (⟨"PagesByLevels", "sheet", "(III)I"⟩, prog_1_method_23_code, 5, (some .int), 0, 2, 46, 3, false), (⟨"PagesByLevels", "put", "(IIJ)I"⟩, prog_1_method_24_code, 6, (some .int), 0, 1, 23, 3, false), (⟨"PagesByLevels", "item", "(III)I"⟩, prog_1_method_25_code, 5, (some .int), 0, 1, 22, 3, false), (⟨"PagesByLevels", "copy", "(IIIII)I"⟩, prog_1_method_26_code, 8, (some .int), 0, 2, 64, 5, false), (⟨"PagesByLevels", "lay", "(IIII)I"⟩, prog_1_method_27_code, 9, (some .int), 0, 2, 44, 4, false), (⟨"PagesByLevels", "take", "(IIII)I"⟩, prog_1_method_28_code, 11, (some .int), 0, 2, 44, 4, false), (⟨"PagesByLevels", "many", "(I)I"⟩, prog_1_method_29_code, 2, (some .int), 0, 5, 112, 1, false), (⟨"PagesByLevels", "keep", "()I"⟩, prog_1_method_30_code, 2, (some .int), 0, 2, 61, 0, false), (⟨"PagesByLevels", "again", "()I"⟩, prog_1_method_31_code, 2, (some .int), 0, 2, 61, 0, false), (⟨"PagesByLevels", "complexAt", "(I)LPagesByLevels$Complex;"⟩, prog_1_method_32_code, 2, (some (.object "PagesByLevels$Complex")), 0, 0, 0, 1, false), (⟨"PagesByLevels", "sheetAt", "(I)LPagesByLevels$Sheet;"⟩, prog_1_method_33_code, 2, (some (.object "PagesByLevels$Sheet")), 0, 0, 0, 1, false), (⟨"PagesByLevels", "isDegree", "(I)Z"⟩, prog_1_method_34_code, 1, (some .boolean), 0, 0, 0, 1, true), (⟨"PagesByLevels", "isLevel", "(I)Z"⟩, prog_1_method_35_code, 1, (some .boolean), 0, 0, 0, 1, true), (⟨"PagesByLevels", "isEntry", "(J)Z"⟩, prog_1_method_36_code, 2, (some .boolean), 0, 0, 0, 1, true), (⟨"PagesByLevels", "isWay", "(I)Z"⟩, prog_1_method_37_code, 1, (some .boolean), 0, 0, 0, 1, true), (⟨"PagesByLevels", "isPrime", "(I)Z"⟩, prog_1_method_38_code, 1, (some .boolean), 0, 0, 0, 1, true), (⟨"PagesByLevels", "isSort", "(I)Z"⟩, prog_1_method_39_code, 1, (some .boolean), 0, 0, 0, 1, true), (⟨"PagesByLevels", "get", "([II)I"⟩, prog_1_method_40_code, 2, (some .int), 0, 0, 0, 2, true), (⟨"PagesByLevels", "set", "([III)V"⟩, prog_1_method_41_code, 3, none, 0, 0, 0, 3, true), (⟨"PagesByLevels", "ofPage", "(IIIIIIZ)I"⟩, prog_1_method_42_code, 11, (some .int), 0, 5, 115, 7, false), (⟨"PagesByLevels", "staying", "(LPagesByLevels$Complex;II)I"⟩, prog_1_method_43_code, 6, (some .int), 0, 5, 115, 3, false), (⟨"PagesByLevels", "inWholeNumbers", "(LPagesByLevels$Complex;IIII)I"⟩, prog_1_method_44_code, 6, (some .int), 0, 5, 121, 5, false), (⟨"PagesByLevels", "refusalOfEdge", "(LPagesByLevels$Sheet;II)I"⟩, prog_1_method_45_code, 3, (some .int), 0, 1, 22, 3, true), (⟨"PagesByLevels", "cellsTogether", "()I"⟩, prog_1_method_46_code, 3, (some .int), 0, 0, 0, 0, false), (⟨"PagesByLevels", "setOfComplexes", "(Z)I"⟩, prog_1_method_47_code, 4, (some .int), 0, 4, 89, 1, false), (⟨"PagesByLevelsModel", "in", "(III)Z"⟩, prog_10_method_2_code, 3, (some .boolean), 8, 0, 0, 3, true), (⟨"PagesByLevelsModel", "isComplex", "(I)Z"⟩, prog_10_method_3_code, 1, (some .boolean), 8, 1, 22, 1, true), (⟨"PagesByLevelsModel", "isCell", "(II)Z"⟩, prog_10_method_4_code, 3, (some .boolean), 8, 1, 22, 2, false), (⟨"PagesByLevelsModel", "degree", "(II)I"⟩, prog_10_method_5_code, 3, (some .int), 8, 0, 0, 2, false), (⟨"PagesByLevelsModel", "level", "(III)I"⟩, prog_10_method_6_code, 4, (some .int), 8, 0, 0, 3, false), (⟨"PagesByLevelsModel", "edge", "(III)I"⟩, prog_10_method_7_code, 4, (some .int), 8, 0, 0, 3, false), (⟨"PagesByLevelsModel", "may", "(III)Z"⟩, prog_10_method_8_code, 4, (some .boolean), 8, 1, 23, 3, false), (⟨"PagesByLevelsModel", "sets", "(IIIII)V"⟩, prog_10_method_9_code, 6, none, 8, 0, 0, 5, false), (⟨"PagesByLevelsModel", "empties", "(I)V"⟩, prog_10_method_10_code, 3, none, 8, 0, 0, 1, false), (⟨"PagesByLevelsModel", "copies", "(II)V"⟩, prog_10_method_11_code, 4, none, 8, 1, 25, 2, false), (⟨"PagesByLevelsModel", "clear", "(I)I"⟩, prog_10_method_12_code, 3, (some .int), 8, 2, 42, 1, false), (⟨"PagesByLevelsModel", "cell", "(IIII)I"⟩, prog_10_method_13_code, 5, (some .int), 8, 2, 42, 4, false), (⟨"PagesByLevelsModel", "isEntry", "(III)Z"⟩, prog_10_method_14_code, 4, (some .boolean), 8, 2, 44, 3, false), (⟨"PagesByLevelsModel", "entry", "(IIII)I"⟩, prog_10_method_15_code, 6, (some .int), 8, 3, 67, 4, false), (⟨"PagesByLevelsModel", "entryOf", "(III)I"⟩, prog_10_method_16_code, 4, (some .int), 8, 3, 67, 3, false), (⟨"PagesByLevelsModel", "entriesOf", "(IIZ)I"⟩, prog_10_method_17_code, 6, (some .int), 8, 1, 23, 3, false), (⟨"PagesByLevelsModel", "of", "(III)I"⟩, prog_10_method_18_code, 4, (some .int), 8, 2, 48, 3, false), (⟨"PagesByLevelsModel", "brokenAt", "(I)I"⟩, prog_10_method_19_code, 6, (some .int), 8, 1, 23, 1, false), (⟨"PagesByLevelsModel", "broken", "(I)I"⟩, prog_10_method_20_code, 2, (some .int), 8, 2, 48, 1, false), (⟨"PagesByLevelsModel", "mends", "(IIII)Z"⟩, prog_10_method_21_code, 7, (some .boolean), 8, 2, 48, 4, false), (⟨"PagesByLevelsModel", "mend", "(I)I"⟩, prog_10_method_22_code, 6, (some .int), 8, 3, 74, 1, false), (⟨"PagesByLevelsModel", "would", "(IIIIII)I"⟩, prog_10_method_23_code, 9, (some .int), 8, 5, 126, 6, false), (⟨"PagesByLevelsModel", "trials", "(I)I"⟩, prog_10_method_24_code, 2, (some .int), 8, 0, 0, 1, false), (⟨"PagesByLevelsModel", "isPrime", "(I)Z"⟩, prog_10_method_25_code, 1, (some .boolean), 8, 0, 0, 1, true), (⟨"PagesByLevelsModel", "isBefore", "(IIII)Z"⟩, prog_10_method_26_code, 5, (some .boolean), 8, 1, 23, 4, false), (⟨"PagesByLevelsModel", "findOrder", "(II)V"⟩, prog_10_method_27_code, 6, none, 8, 2, 47, 2, false), (⟨"PagesByLevelsModel", "lastOf", "(II)I"⟩, prog_10_method_28_code, 5, (some .int), 8, 0, 0, 2, false), (⟨"PagesByLevelsModel", "inverse", "(II)I"⟩, prog_10_method_29_code, 3, (some .int), 8, 0, 0, 2, true), (⟨"PagesByLevelsModel", "reduces", "(III)V"⟩, prog_10_method_30_code, 10, none, 8, 3, 72, 3, false), (⟨"PagesByLevelsModel", "isAsked", "(II)Z"⟩, prog_10_method_31_code, 2, (some .boolean), 8, 1, 22, 2, true), (⟨"PagesByLevelsModel", "goes", "(IIII)I"⟩, prog_10_method_32_code, 5, (some .int), 8, 4, 101, 4, false), (⟨"PagesByLevelsModel", "reduced", "(IIIII)I"⟩, prog_10_method_33_code, 6, (some .int), 8, 4, 101, 5, false), (⟨"PagesByLevelsModel", "gap", "(III)I"⟩, prog_10_method_34_code, 5, (some .int), 8, 1, 23, 3, false), (⟨"PagesByLevelsModel", "counts", "(IIIIIZ)I"⟩, prog_10_method_35_code, 10, (some .int), 8, 2, 47, 6, false), (⟨"PagesByLevelsModel", "told", "(IIIIIIZ)I"⟩, prog_10_method_36_code, 8, (some .int), 8, 4, 101, 7, false), (⟨"PagesByLevelsModel", "page", "(IIIIII)I"⟩, prog_10_method_37_code, 7, (some .int), 8, 5, 128, 6, false), (⟨"PagesByLevelsModel", "turns", "(IIIIII)I"⟩, prog_10_method_38_code, 7, (some .int), 8, 5, 128, 6, false), (⟨"PagesByLevelsModel", "stands", "(III)I"⟩, prog_10_method_39_code, 7, (some .int), 8, 4, 101, 3, false), (⟨"PagesByLevelsModel", "leftOf", "(III)I"⟩, prog_10_method_40_code, 6, (some .int), 8, 4, 101, 3, false), (⟨"PagesByLevelsModel", "left", "(III)I"⟩, prog_10_method_41_code, 4, (some .int), 8, 5, 126, 3, false), (⟨"PagesByLevelsModel", "isAt", "(IIIII)Z"⟩, prog_10_method_42_code, 6, (some .boolean), 8, 1, 23, 5, false), (⟨"PagesByLevelsModel", "cellsAt", "(IIII)I"⟩, prog_10_method_43_code, 7, (some .int), 8, 2, 48, 4, false), (⟨"PagesByLevelsModel", "takesTable", "(IIII)V"⟩, prog_10_method_44_code, 8, none, 8, 3, 74, 4, false), (⟨"PagesByLevelsModel", "size", "(J)J"⟩, prog_10_method_45_code, 2, (some .long), 8, 0, 0, 1, true), (⟨"PagesByLevelsModel", "leastTo", "(I)Z"⟩, prog_10_method_46_code, 8, (some .boolean), 8, 1, 21, 1, false), (⟨"PagesByLevelsModel", "lowers", "(I)Z"⟩, prog_10_method_47_code, 9, (some .boolean), 8, 0, 0, 1, false), (⟨"PagesByLevelsModel", "simplifies", "()V"⟩, prog_10_method_48_code, 1, none, 8, 2, 48, 0, false), (⟨"PagesByLevelsModel", "wholeOf", "(IIIII)I"⟩, prog_10_method_49_code, 8, (some .int), 8, 4, 101, 5, false), (⟨"PagesByLevelsModel", "whole", "(III)I"⟩, prog_10_method_50_code, 4, (some .int), 8, 5, 128, 3, false), (⟨"PagesByLevelsModel", "wholeAt", "(IIIII)I"⟩, prog_10_method_51_code, 6, (some .int), 8, 5, 128, 5, false), (⟨"PagesByLevelsModel", "times", "(III)I"⟩, prog_10_method_52_code, 12, (some .int), 8, 2, 48, 3, false), (⟨"PagesByLevelsModel", "part", "(IIII)I"⟩, prog_10_method_53_code, 9, (some .int), 8, 2, 48, 4, false), (⟨"PagesByLevelsModel", "feed", "(JI)I"⟩, prog_10_method_54_code, 5, (some .int), 8, 1, 22, 2, false), (⟨"PagesByLevelsModel", "here", "()I"⟩, prog_10_method_55_code, 1, (some .int), 8, 0, 0, 0, false), (⟨"PagesByLevelsModel", "takes", "(I)Z"⟩, prog_10_method_56_code, 2, (some .boolean), 8, 1, 20, 1, false), (⟨"PagesByLevelsModel", "readsNumber", "(I)Z"⟩, prog_10_method_57_code, 3, (some .boolean), 8, 1, 22, 1, false), (⟨"PagesByLevelsModel", "readsEntry", "(I)Z"⟩, prog_10_method_58_code, 5, (some .boolean), 8, 2, 46, 1, false), (⟨"PagesByLevelsModel", "readsCell", "()Z"⟩, prog_10_method_59_code, 6, (some .boolean), 8, 3, 70, 0, false), (⟨"PagesByLevelsModel", "text", "(I)I"⟩, prog_10_method_60_code, 4, (some .int), 8, 4, 95, 1, false), (⟨"PagesByLevelsModel", "isSheet", "(I)Z"⟩, prog_10_method_61_code, 1, (some .boolean), 8, 1, 22, 1, true), (⟨"PagesByLevelsModel", "isOutside", "(III)Z"⟩, prog_10_method_62_code, 4, (some .boolean), 8, 0, 0, 3, false), (⟨"PagesByLevelsModel", "cut", "(IJ)J"⟩, prog_10_method_63_code, 3, (some .long), 8, 0, 0, 2, true), (⟨"PagesByLevelsModel", "sheet", "(III)I"⟩, prog_10_method_64_code, 5, (some .int), 8, 2, 42, 3, false), (⟨"PagesByLevelsModel", "put", "(IIJ)I"⟩, prog_10_method_65_code, 5, (some .int), 8, 2, 42, 3, false), (⟨"PagesByLevelsModel", "item", "(III)I"⟩, prog_10_method_66_code, 4, (some .int), 8, 2, 42, 3, false), (⟨"PagesByLevelsModel", "copy", "(IIIII)I"⟩, prog_10_method_67_code, 7, (some .int), 8, 2, 42, 5, false), (⟨"PagesByLevelsModel", "lacks", "(III)I"⟩, prog_10_method_68_code, 4, (some .int), 8, 1, 23, 3, false), (⟨"PagesByLevelsModel", "lay", "(IIII)I"⟩, prog_10_method_69_code, 7, (some .int), 8, 2, 46, 4, false), (⟨"PagesByLevelsModel", "take", "(IIII)I"⟩, prog_10_method_70_code, 11, (some .int), 8, 2, 46, 4, false), (⟨"PagesByLevelsModel", "cellsAll", "()I"⟩, prog_10_method_71_code, 3, (some .int), 8, 0, 0, 0, false), (⟨"PagesByLevelsModel", "many", "(I)I"⟩, prog_10_method_72_code, 4, (some .int), 8, 2, 48, 1, false), (⟨"PagesByLevelsModel", "moves", "([I[I)V"⟩, prog_10_method_73_code, 3, none, 8, 0, 0, 2, true), (⟨"PagesByLevelsModel", "keep", "()I"⟩, prog_10_method_74_code, 1, (some .int), 8, 1, 22, 0, false), (⟨"PagesByLevelsModel", "again", "()I"⟩, prog_10_method_75_code, 1, (some .int), 8, 1, 22, 0, false), (⟨"PagesByLevels$Complex", "has", "(I)Z"⟩, prog_2_method_2_code, 2, (some .boolean), 1, 0, 0, 1, false), (⟨"PagesByLevels$Complex", "degree", "(I)I"⟩, prog_2_method_3_code, 2, (some .int), 1, 1, 21, 1, false), (⟨"PagesByLevels$Complex", "level", "(II)I"⟩, prog_2_method_4_code, 3, (some .int), 1, 1, 21, 2, false), (⟨"PagesByLevels$Complex", "edge", "(II)I"⟩, prog_2_method_5_code, 3, (some .int), 1, 1, 21, 2, false), (⟨"PagesByLevels$Complex", "setEdge", "(III)V"⟩, prog_2_method_6_code, 4, none, 1, 1, 21, 3, false), (⟨"PagesByLevels$Complex", "mayHave", "(II)Z"⟩, prog_2_method_7_code, 3, (some .boolean), 1, 1, 21, 2, false), (⟨"PagesByLevels$Complex", "empty", "()V"⟩, prog_2_method_8_code, 1, none, 1, 0, 0, 0, false), (⟨"PagesByLevels$Complex", "add", "(III)I"⟩, prog_2_method_9_code, 6, (some .int), 1, 2, 44, 3, false), (⟨"PagesByLevels$Complex", "entriesIn", "(I)I"⟩, prog_2_method_10_code, 4, (some .int), 1, 2, 43, 1, false), (⟨"PagesByLevels$Complex", "edgesWith", "(I)I"⟩, prog_2_method_11_code, 4, (some .int), 1, 2, 43, 1, false), (⟨"PagesByLevels$Complex", "isBroken", "()Z"⟩, prog_2_method_12_code, 1, (some .boolean), 1, 3, 69, 0, false), (⟨"PagesByLevels$Complex", "firstBroken", "()I"⟩, prog_2_method_13_code, 4, (some .int), 1, 2, 46, 0, false), (⟨"PagesByLevels$Complex", "stillBroken", "(I)I"⟩, prog_2_method_14_code, 3, (some .int), 1, 3, 69, 1, false), (⟨"PagesByLevels$Complex", "edgeOfEdge", "(II)I"⟩, prog_2_method_15_code, 6, (some .int), 1, 1, 21, 2, false), (⟨"PagesByLevels$Complex", "become", "(LPagesByLevels$Complex;)V"⟩, prog_2_method_16_code, 2, none, 1, 1, 40, 1, false), (⟨"PagesByLevels$Complex", "canBeMultiplied", "(LPagesByLevels$Complex;)Z"⟩, prog_2_method_17_code, 2, (some .boolean), 1, 3, 66, 1, false), (⟨"PagesByLevels$Complex", "topDegree", "()I"⟩, prog_2_method_18_code, 3, (some .int), 1, 2, 42, 0, false), (⟨"PagesByLevels$Complex", "topLevel", "(I)I"⟩, prog_2_method_19_code, 4, (some .int), 1, 2, 43, 1, false), (⟨"PagesByLevels$Complex", "becomeProduct", "(LPagesByLevels$Complex;LPagesByLevels$Complex;)V"⟩, prog_2_method_20_code, 5, none, 1, 3, 72, 2, false), (⟨"PagesByLevels$Complex", "setProductEdge", "(LPagesByLevels$Complex;LPagesByLevels$Complex;II)V"⟩, prog_2_method_21_code, 9, none, 1, 2, 44, 4, false), (⟨"PagesByLevels$Complex", "becomePart", "(LPagesByLevels$Complex;II)V"⟩, prog_2_method_22_code, 6, none, 1, 3, 71, 3, false), (⟨"PagesByLevels$Complex", "setPartEdge", "(ILPagesByLevels$Complex;III)V"⟩, prog_2_method_23_code, 8, none, 1, 2, 44, 5, false), (⟨"PagesByLevels$Reader", "read", "()I"⟩, prog_3_method_2_code, 2, (some .int), 6, 5, 109, 0, false), (⟨"PagesByLevels$Reader", "isAtEnd", "()Z"⟩, prog_3_method_3_code, 1, (some .boolean), 6, 2, 41, 0, false), (⟨"PagesByLevels$Reader", "skipBlanks", "()V"⟩, prog_3_method_4_code, 1, none, 6, 1, 21, 0, false), (⟨"PagesByLevels$Reader", "fails", "(I)Z"⟩, prog_3_method_5_code, 2, (some .boolean), 6, 0, 0, 1, false), (⟨"PagesByLevels$Reader", "passes", "(C)Z"⟩, prog_3_method_6_code, 3, (some .boolean), 6, 2, 41, 1, false), (⟨"PagesByLevels$Reader", "isAtDigit", "()Z"⟩, prog_3_method_7_code, 2, (some .boolean), 6, 1, 21, 0, false), (⟨"PagesByLevels$Reader", "readsNumber", "(I)Z"⟩, prog_3_method_8_code, 3, (some .boolean), 6, 2, 42, 1, false), (⟨"PagesByLevels$Reader", "readsHead", "()Z"⟩, prog_3_method_9_code, 4, (some .boolean), 6, 3, 69, 0, false), (⟨"PagesByLevels$Reader", "readsEntries", "()Z"⟩, prog_3_method_10_code, 3, (some .boolean), 6, 4, 87, 0, false), (⟨"PagesByLevels$Reader", "readsEntry", "()Z"⟩, prog_3_method_11_code, 4, (some .boolean), 6, 3, 64, 0, false), (⟨"PagesByLevels$Reduction", "run", "(LPagesByLevels$Complex;II)V"⟩, prog_4_method_2_code, 5, none, 2, 4, 91, 3, false), (⟨"PagesByLevels$Reduction", "putInOrder", "()V"⟩, prog_4_method_3_code, 3, none, 2, 3, 67, 0, false), (⟨"PagesByLevels$Reduction", "standsBefore", "(II)Z"⟩, prog_4_method_4_code, 5, (some .boolean), 2, 2, 43, 2, false), (⟨"PagesByLevels$Reduction", "reduce", "(I)V"⟩, prog_4_method_5_code, 4, none, 2, 3, 68, 1, false), (⟨"PagesByLevels$Reduction", "lastOf", "(I)I"⟩, prog_4_method_6_code, 4, (some .int), 2, 2, 43, 1, false), (⟨"PagesByLevels$Reduction", "takeAway", "(III)V"⟩, prog_4_method_7_code, 6, none, 2, 2, 43, 3, false), (⟨"PagesByLevels$Reduction", "leaves", "(I)I"⟩, prog_4_method_8_code, 2, (some .int), 2, 1, 22, 1, false), (⟨"PagesByLevels$Reduction", "remainder", "(II)I"⟩, prog_4_method_9_code, 3, (some .int), 2, 1, 21, 2, false), (⟨"PagesByLevels$Reduction", "partner", "(I)I"⟩, prog_4_method_10_code, 3, (some .int), 2, 1, 21, 1, false), (⟨"PagesByLevels$Reduction", "gap", "(I)I"⟩, prog_4_method_11_code, 2, (some .int), 2, 2, 43, 1, false), (⟨"PagesByLevels$Reduction", "standsOn", "(II)Z"⟩, prog_4_method_12_code, 3, (some .boolean), 2, 3, 64, 2, false), (⟨"PagesByLevels$Reduction", "turnsAt", "(II)Z"⟩, prog_4_method_13_code, 3, (some .boolean), 2, 3, 64, 2, false), (⟨"PagesByLevels$Sheet", "become", "(II)V"⟩, prog_5_method_2_code, 3, none, 7, 1, 24, 2, false), (⟨"PagesByLevels$Sheet", "isOutside", "(II)Z"⟩, prog_5_method_3_code, 3, (some .boolean), 7, 0, 0, 2, false), (⟨"PagesByLevels$Sheet", "get", "(I)J"⟩, prog_5_method_4_code, 2, (some .long), 7, 0, 0, 1, false), (⟨"PagesByLevels$Sheet", "set", "(IJ)V"⟩, prog_5_method_5_code, 4, none, 7, 0, 0, 2, false), (⟨"PagesByLevels$Sheet", "copyPlaces", "(ILPagesByLevels$Sheet;II)V"⟩, prog_5_method_6_code, 5, none, 7, 1, 40, 4, false), (⟨"PagesByLevels$Tape", "add", "(B)V"⟩, prog_6_method_2_code, 2, none, 5, 0, 0, 1, false), (⟨"PagesByLevels$Tape", "at", "(I)I"⟩, prog_6_method_3_code, 2, (some .int), 5, 0, 0, 1, false), (⟨"PagesByLevels$Trials", "startAnew", "()V"⟩, prog_7_method_2_code, 1, none, 4, 0, 0, 0, false), (⟨"PagesByLevels$Trials", "open", "(LPagesByLevels$Complex;III)V"⟩, prog_7_method_3_code, 5, none, 4, 2, 44, 4, false), (⟨"PagesByLevels$Trials", "close", "()V"⟩, prog_7_method_4_code, 1, none, 4, 2, 44, 0, false), (⟨"PagesByLevels$WholeNumbers", "choose", "(LPagesByLevels$Complex;II)V"⟩, prog_8_method_2_code, 4, none, 3, 0, 0, 3, false), (⟨"PagesByLevels$WholeNumbers", "free", "(I)I"⟩, prog_8_method_3_code, 4, (some .int), 3, 4, 98, 1, false), (⟨"PagesByLevels$WholeNumbers", "factor", "(II)I"⟩, prog_8_method_4_code, 4, (some .int), 3, 4, 98, 2, false), (⟨"PagesByLevels$WholeNumbers", "quotient", "(I)I"⟩, prog_8_method_5_code, 3, (some .int), 3, 1, 21, 1, false), (⟨"PagesByLevels$WholeNumbers", "findDivisors", "(I)V"⟩, prog_8_method_6_code, 6, none, 3, 3, 73, 1, false), (⟨"PagesByLevels$WholeNumbers", "gather", "([II)I"⟩, prog_8_method_7_code, 5, (some .int), 3, 2, 43, 2, false), (⟨"PagesByLevels$WholeNumbers", "determinant", "(II)I"⟩, prog_8_method_8_code, 11, (some .int), 3, 2, 43, 2, false), (⟨"PagesByLevels$WholeNumbers", "greatestDivisor", "(II)I"⟩, prog_8_method_9_code, 6, (some .int), 3, 0, 0, 2, true), (⟨"java/lang/Integer", "bitCount", "(I)I"⟩, prog_11_method_49_code, 1, (some .int), 9, 0, 0, 1, true), (⟨"java/lang/Integer", "compare", "(II)I"⟩, prog_11_method_40_code, 2, (some .int), 9, 0, 0, 2, true), (⟨"java/lang/Math", "abs", "(I)I"⟩, prog_12_method_59_code, 1, (some .int), 10, 0, 0, 1, true), (⟨"java/lang/Math", "floorMod", "(II)I"⟩, prog_12_method_50_code, 3, (some .int), 10, 0, 0, 2, true), (⟨"java/lang/Math", "max", "(II)I"⟩, prog_12_method_65_code, 2, (some .int), 10, 0, 0, 2, true), (⟨"java/lang/Math", "min", "(II)I"⟩, prog_12_method_69_code, 2, (some .int), 10, 0, 0, 2, true), (⟨"java/util/Arrays", "fill", "([II)V"⟩, prog_14_method_103_code, 4, none, 11, 0, 0, 2, true), (⟨"java/util/Arrays", "fill", "([JJ)V"⟩, prog_14_method_101_code, 5, none, 11, 0, 0, 2, true)]
def mm_hps : List (Nat × Nat × Nat × Nat) := [(285, 43, 283, 284), (297, 43, 295, 296), (319, 43, 317, 318), (337, 43, 335, 336), (342, 43, 340, 341), (363, 43, 361, 362), (376, 43, 374, 375), (402, 43, 400, 401), (410, 43, 408, 409), (472, 43, 470, 471), (540, 43, 538, 539), (545, 43, 543, 544), (569, 43, 567, 568), (573, 43, 571, 572), (579, 43, 577, 578), (587, 43, 585, 586), (639, 43, 637, 638), (643, 43, 641, 642), (671, 43, 669, 670), (683, 43, 681, 682), (687, 43, 685, 686), (691, 43, 689, 690), (709, 43, 707, 708), (721, 43, 719, 720), (729, 43, 727, 728), (739, 43, 737, 738), (746, 43, 744, 745), (750, 43, 748, 749), (762, 43, 760, 761), (766, 43, 764, 765), (289, 43, 288, 0), (695, 43, 694, 4), (300, 43, 299, 299), (303, 43, 302, 302), (326, 43, 325, 325), (475, 43, 474, 474), (478, 43, 477, 477), (698, 43, 697, 697), (496, 43, 495, 495), (508, 43, 507, 507), (549, 43, 548, 1), (583, 43, 582, 2), (591, 43, 590, 3), (742, 43, 741, 741), (754, 43, 753, 5), (758, 43, 757, 6), (874, 51, 873, 873), (871, 51, 870, 870), (898, 51, 897, 10), (906, 51, 905, 12), (910, 51, 909, 13), (914, 51, 913, 14), (902, 51, 901, 11), (886, 51, 885, 8), (878, 51, 877, 7), (1062, 51, 1061, 33), (868, 51, 866, 867), (882, 51, 880, 881), (894, 51, 893, 9), (890, 51, 888, 889), (918, 51, 916, 917), (926, 51, 925, 15), (922, 51, 920, 921), (934, 51, 933, 16), (930, 51, 928, 929), (942, 51, 941, 17), (938, 51, 936, 937), (946, 51, 944, 945), (976, 51, 974, 975), (949, 51, 948, 948), (965, 51, 964, 21), (961, 51, 960, 20), (969, 51, 968, 22), (972, 51, 971, 971), (957, 51, 956, 19), (983, 51, 982, 982), (980, 51, 978, 979), (987, 51, 985, 986), (1003, 51, 1002, 25), (999, 51, 998, 24), (995, 51, 994, 23), (991, 51, 989, 990), (1007, 51, 1005, 1006), (1011, 51, 1009, 1010), (953, 51, 952, 18), (1015, 51, 1013, 1014), (1035, 51, 1034, 29), (1031, 51, 1030, 28), (1027, 51, 1026, 27), (1046, 51, 1045, 1045), (1043, 51, 1042, 31), (1050, 51, 1049, 32), (1039, 51, 1038, 30), (1023, 51, 1022, 26), (1019, 51, 1017, 1018), (1054, 51, 1052, 1053), (1058, 51, 1056, 1057), (1066, 51, 1064, 1065), (1070, 51, 1068, 1069), (1079, 51, 1078, 34), (1091, 51, 1090, 37), (1087, 51, 1086, 36), (1095, 51, 1094, 38), (1083, 51, 1082, 35), (1075, 51, 1073, 1074), (1102, 51, 1101, 1101), (1121, 51, 1120, 39), (1109, 51, 1108, 1108), (1099, 51, 1097, 1098), (1106, 51, 1104, 1105), (1113, 51, 1111, 1112), (1117, 51, 1115, 1116), (1129, 51, 1128, 40), (1125, 51, 1123, 1124), (1133, 51, 1131, 1132), (1143, 51, 1142, 41), (1139, 51, 1137, 1138), (1150, 51, 1149, 1149), (1147, 51, 1145, 1146), (1154, 51, 1152, 1153), (315, 44, 313, 314), (346, 44, 344, 345), (350, 44, 348, 349), (332, 44, 330, 331), (311, 44, 309, 310), (323, 44, 321, 322), (293, 44, 291, 292), (307, 44, 305, 306), (354, 44, 352, 353), (359, 44, 357, 358), (482, 44, 480, 481), (367, 44, 365, 366), (393, 44, 391, 392), (372, 44, 370, 371), (465, 44, 463, 464), (647, 44, 645, 646), (651, 44, 649, 650), (656, 44, 654, 655), (661, 44, 659, 660), (667, 44, 665, 666), (675, 44, 673, 674), (679, 44, 677, 678), (414, 49, 412, 413), (419, 49, 417, 418), (423, 49, 421, 422), (446, 49, 444, 445), (450, 49, 448, 449), (439, 49, 437, 438), (435, 49, 433, 434), (431, 49, 429, 430), (455, 49, 453, 454), (459, 49, 457, 458), (486, 45, 484, 485), (493, 45, 491, 492), (500, 45, 498, 499), (512, 45, 510, 511), (524, 45, 522, 523), (532, 45, 530, 531), (517, 45, 515, 516), (528, 45, 526, 527), (536, 45, 534, 535), (557, 45, 555, 556), (565, 45, 563, 564), (553, 45, 551, 552), (702, 50, 700, 701), (713, 50, 711, 712), (725, 50, 723, 724), (717, 50, 715, 716), (733, 50, 731, 732), (406, 48, 404, 405), (427, 48, 425, 426), (380, 47, 378, 379), (384, 47, 382, 383), (398, 47, 396, 397), (595, 46, 593, 594), (599, 46, 597, 598), (631, 46, 629, 630), (635, 46, 633, 634), (603, 46, 601, 602), (607, 46, 605, 606), (621, 46, 619, 620), (627, 46, 626, 626), (614, 55, 613, 613), (504, 55, 503, 503), (561, 52, 560, 560), (520, 52, 519, 519), (388, 52, 387, 387), (442, 52, 441, 441), (489, 54, 488, 488), (705, 54, 704, 704)]
def mm_lf : List (Nat × Nat × Nat × Nat × Nat) := [(0, 11, 0, 0, 251), (0, 15, 0, 1, 252), (0, 19, 0, 2, 253), (0, 28, 0, 3, 254), (0, 35, 0, 4, 255), (0, 42, 0, 5, 256), (0, 49, 0, 6, 257), (0, 58, 0, 7, 258), (0, 64, 0, 8, 259), (0, 68, 0, 9, 260), (0, 77, 1, 0, 72), (0, 144, 5, 0, 196), (0, 207, 4, 0, 164), (0, 210, 4, 1, 166), (0, 213, 4, 2, 168), (0, 226, 7, 0, 240), (1, 9, 1, 0, 71), (1, 15, 1, 1, 76), (1, 19, 1, 2, 77), (1, 22, 1, 3, 78), (1, 25, 1, 4, 79), (2, 9, 2, 1, 99), (2, 15, 2, 2, 100), (2, 18, 2, 3, 101), (2, 22, 2, 4, 102), (2, 25, 2, 5, 103), (2, 28, 2, 6, 104), (2, 31, 2, 0, 98), (2, 44, 1, 0, 73), (3, 9, 3, 1, 127), (3, 15, 3, 2, 128), (3, 18, 3, 3, 129), (3, 22, 3, 4, 130), (3, 25, 3, 5, 131), (3, 28, 3, 6, 132), (3, 31, 3, 7, 133), (3, 34, 3, 8, 134), (3, 37, 3, 9, 135), (3, 40, 3, 0, 126), (3, 86, 1, 0, 74), (4, 7, 4, 0, 163), (4, 13, 4, 1, 165), (4, 16, 4, 2, 167), (4, 19, 4, 3, 169), (4, 23, 4, 4, 170), (4, 26, 4, 5, 171), (4, 29, 4, 6, 172), (5, 9, 5, 0, 194), (5, 15, 5, 1, 197), (6, 9, 6, 2, 212), (6, 15, 6, 3, 213), (6, 18, 6, 4, 214), (6, 21, 6, 5, 215), (6, 24, 6, 6, 216), (6, 27, 6, 0, 210), (6, 31, 6, 1, 211), (6, 63, 5, 0, 195), (6, 89, 1, 0, 75), (7, 9, 7, 0, 239), (7, 15, 7, 1, 241), (7, 18, 7, 2, 242), (8, 7, 8, 0, 773), (8, 13, 8, 1, 774), (8, 16, 8, 2, 775), (8, 19, 8, 3, 776), (8, 22, 8, 4, 777), (8, 25, 8, 5, 778), (8, 28, 8, 6, 779), (8, 31, 8, 7, 780), (8, 34, 8, 12, 785), (8, 37, 8, 13, 786), (8, 40, 8, 14, 787), (8, 43, 8, 15, 788), (8, 47, 8, 16, 789), (8, 50, 8, 20, 793), (8, 53, 8, 25, 798), (8, 57, 8, 26, 799), (8, 60, 8, 27, 800), (8, 63, 8, 28, 801), (8, 66, 8, 29, 802), (8, 114, 8, 9, 782), (8, 118, 8, 11, 784), (8, 121, 8, 10, 783), (8, 169, 8, 17, 790), (8, 176, 8, 18, 791), (8, 183, 8, 19, 792), (8, 206, 8, 21, 794), (8, 211, 8, 22, 795), (8, 218, 8, 23, 796), (8, 221, 8, 24, 797), (8, 261, 8, 8, 781)]
def mm_lm : List (Nat × Nat × Nat × Nat) := [(0, 73, 30, 286), (0, 81, 126, 290), (0, 84, 32, 298), (0, 88, 33, 301), (0, 91, 127, 304), (0, 95, 125, 320), (0, 99, 34, 324), (0, 103, 123, 329), (0, 107, 124, 333), (0, 111, 120, 338), (0, 114, 121, 343), (0, 118, 122, 347), (0, 121, 128, 351), (0, 124, 129, 356), (0, 127, 131, 364), (0, 131, 171, 377), (0, 134, 172, 381), (0, 138, 132, 390), (0, 141, 173, 395), (0, 147, 169, 403), (0, 150, 142, 411), (0, 153, 134, 462), (0, 156, 35, 473), (0, 159, 36, 476), (0, 162, 130, 479), (0, 166, 152, 483), (0, 170, 160, 533), (0, 173, 159, 541), (0, 176, 40, 546), (0, 180, 161, 574), (0, 183, 186, 575), (0, 188, 41, 580), (0, 192, 42, 588), (0, 196, 135, 644), (0, 200, 138, 658), (0, 204, 140, 672), (0, 216, 31, 692), (0, 220, 37, 696), (0, 223, 164, 699), (0, 229, 165, 710), (0, 232, 167, 714), (0, 236, 166, 722), (0, 240, 168, 730), (0, 244, 43, 740), (0, 248, 44, 751), (0, 251, 45, 755), (0, 259, 163, 550), (0, 262, 162, 562), (0, 265, 174, 592), (0, 268, 175, 596), (0, 271, 176, 628), (1, 28, 120, 312), (1, 32, 124, 308), (1, 36, 123, 355), (1, 40, 131, 394), (1, 44, 121, 368), (1, 48, 133, 369), (1, 57, 136, 648), (1, 60, 137, 653), (1, 63, 186, 652), (1, 68, 122, 657), (1, 71, 126, 662), (1, 74, 127, 663), (1, 78, 139, 664), (1, 82, 141, 676), (2, 35, 188, 487), (2, 41, 153, 490), (2, 53, 155, 509), (2, 57, 154, 497), (2, 65, 122, 501), (2, 69, 183, 502), (2, 74, 121, 505), (2, 78, 123, 513), (2, 81, 158, 514), (2, 84, 156, 521), (2, 87, 157, 529), (2, 91, 159, 525), (2, 94, 185, 518), (2, 99, 160, 558), (2, 102, 184, 559), (2, 105, 161, 554), (3, 44, 178, 600), (3, 48, 177, 632), (3, 56, 179, 604), (3, 59, 188, 611), (3, 69, 182, 612), (3, 74, 180, 618), (3, 78, 184, 624), (3, 83, 181, 625), (3, 91, 121, 608), (3, 94, 122, 609), (3, 96, 123, 623), (4, 32, 123, 385), (4, 38, 186, 386), (4, 43, 124, 389), (6, 35, 126, 415), (6, 40, 143, 416), (6, 44, 149, 428), (6, 47, 146, 447), (6, 51, 150, 452), (6, 54, 144, 420), (6, 57, 170, 424), (6, 66, 147, 436), (6, 69, 187, 440), (6, 75, 145, 443), (6, 79, 148, 432), (6, 82, 127, 451), (6, 86, 151, 456), (6, 92, 125, 460), (6, 96, 124, 461), (7, 22, 189, 703), (7, 28, 165, 734), (8, 69, 46, 872), (8, 73, 49, 903), (8, 77, 50, 907), (8, 81, 53, 883), (8, 85, 47, 869), (8, 89, 54, 875), (8, 93, 48, 895), (8, 97, 58, 891), (8, 100, 52, 899), (8, 103, 51, 911), (8, 106, 61, 923), (8, 110, 63, 931), (8, 124, 65, 939), (8, 128, 69, 947), (8, 131, 84, 950), (8, 134, 70, 962), (8, 137, 71, 958), (8, 141, 72, 966), (8, 144, 73, 970), (8, 147, 75, 981), (8, 150, 74, 954), (8, 154, 78, 1000), (8, 157, 79, 996), (8, 161, 80, 992), (8, 165, 86, 1032), (8, 172, 87, 1028), (8, 179, 89, 1044), (8, 186, 90, 1040), (8, 189, 91, 1047), (8, 192, 88, 1024), (8, 196, 92, 1036), (8, 199, 93, 1020), (8, 203, 55, 1059), (8, 214, 99, 1076), (8, 224, 100, 1088), (8, 227, 101, 1084), (8, 230, 102, 1092), (8, 233, 103, 1080), (8, 237, 105, 1100), (8, 240, 107, 1107), (8, 244, 106, 1118), (8, 247, 112, 1126), (8, 254, 115, 1140), (8, 257, 117, 1148), (13, 13, 0, 282), (13, 17, 56, 865), (13, 18, 1, 294), (13, 22, 57, 879), (13, 23, 2, 316), (13, 26, 59, 887), (13, 27, 3, 334), (13, 31, 60, 915), (13, 32, 4, 339), (13, 35, 62, 919), (13, 36, 5, 360), (13, 39, 64, 927), (13, 40, 6, 373), (13, 43, 66, 935), (13, 46, 7, 399), (13, 50, 98, 1067), (13, 51, 8, 407), (13, 54, 104, 1072), (13, 55, 9, 469), (13, 58, 76, 977), (13, 59, 10, 537), (13, 63, 77, 984), (13, 64, 11, 542), (13, 68, 81, 988), (13, 69, 12, 566), (13, 72, 82, 1004), (13, 73, 13, 570), (13, 76, 83, 1008), (13, 77, 14, 576), (13, 80, 85, 1012), (13, 81, 15, 584), (13, 84, 94, 1016), (13, 85, 16, 636), (13, 88, 95, 1051), (13, 89, 17, 640), (13, 92, 96, 1055), (13, 93, 18, 668), (13, 96, 97, 1063), (13, 97, 19, 680), (13, 100, 67, 943), (13, 101, 20, 684), (13, 104, 68, 973), (13, 105, 21, 688), (13, 108, 108, 1096), (13, 109, 22, 706), (13, 113, 109, 1103), (13, 114, 23, 718), (13, 117, 110, 1110), (13, 118, 24, 726), (13, 121, 111, 1114), (13, 122, 25, 736), (13, 125, 113, 1122), (13, 126, 26, 743), (13, 129, 114, 1130), (13, 130, 27, 747), (13, 133, 116, 1136), (13, 134, 28, 759), (13, 138, 118, 1144), (13, 139, 29, 763), (13, 142, 119, 1151)]
def mm_ln : List (Nat × Nat × Nat × Nat) := [(2, 49, 38, 494), (2, 61, 39, 506), (3, 52, 38, 622), (3, 65, 39, 610)]
def mm_lc : List (Nat × Nat × Int × Nat) := [(9, 265, 1431655765, 615), (9, 266, 858993459, 616), (9, 267, 252645135, 617)]
def mm_ll : List (Nat × Nat × Int × Nat) := [(0, 255, (-9), 327), (0, 257, 9, 328), (8, 209, 255, 1071), (8, 250, (-9), 1134), (8, 252, 9, 1135), (13, 44, 4294967295, 1155)]
def mm_la : List (Nat × Nat × Nat) := [(1, 51, 466), (7, 32, 735)]
def mm_hd0 : mm_Hd := (⟨"", "", ""⟩, ⟨#[]⟩, 0, none, 0, 0, 0, 0, true)
def mm_hd (m : Nat) : mm_Hd := mm_hds.getD m mm_hd0
def wA : List Cond := lw_tbl.filter goodWord
theorem wA_of {i : Nat} {w : Cond} (h : lw_tbl[i]? = some w) (hg : goodWord w = true) : w ∈ wA := List.mem_filter.mpr ⟨List.mem_of_getElem? h, hg⟩
theorem wA_good : ∀ w ∈ wA, goodWord w = true := fun w h => (List.mem_filter.mp h).2
theorem wA_in : ∀ w ∈ wA, w ∈ lw_tbl := fun w h => (List.mem_filter.mp h).1
def mm_wat (i : Nat) (w : Cond) : Bool := decide (lw_tbl[i]? = some w) && goodWord w
theorem mm_wat_ok {i : Nat} {w : Cond} (h : mm_wat i w = true) : w ∈ wA := by
  unfold mm_wat at h
  rw [Bool.and_eq_true, decide_eq_true_eq] at h
  exact wA_of h.1 h.2
def mm_lfw (q : Nat × Nat × Nat × Nat × Nat) : Cond := .fieldLink (mm_cn q.1) q.2.1 (mm_F q.2.2.1 q.2.2.2.1).1 (mm_F q.2.2.1 q.2.2.2.1).2.1 (mm_F q.2.2.1 q.2.2.2.1).2.2.1
theorem mm_lf_ok : ∀ q ∈ mm_lf, mm_lfw q ∈ wA ∧ q.2.2.1 < 9 ∧ q.2.2.2.1 < mm_nf q.2.2.1 := by
  have h : mm_lf.all (fun q => mm_wat q.2.2.2.2 (mm_lfw q) && (decide (q.2.2.1 < 9) && decide (q.2.2.2.1 < mm_nf q.2.2.1))) = true := by decide +kernel
  intro q hq
  have h1 := List.all_eq_true.mp h q hq
  rw [Bool.and_eq_true, Bool.and_eq_true, decide_eq_true_eq, decide_eq_true_eq] at h1
  exact ⟨mm_wat_ok h1.1, h1.2⟩
theorem mm_lm_ok : ∀ q ∈ mm_lm, Cond.methodLink (mm_cn q.1) q.2.1 (mm_hd q.2.2.1).1 ∈ wA := by
  have h : mm_lm.all (fun q => mm_wat q.2.2.2 (.methodLink (mm_cn q.1) q.2.1 (mm_hd q.2.2.1).1)) = true := by decide +kernel
  exact fun q hq => mm_wat_ok (List.all_eq_true.mp h q hq)
theorem mm_ln_ok : ∀ q ∈ mm_ln, Cond.methodLinkNest (mm_cn q.1) q.2.1 (mm_hd q.2.2.1).1 "PagesByLevels" ∈ lw_tbl := by
  have h : mm_ln.all (fun q => decide (lw_tbl[q.2.2.2]? = some (.methodLinkNest (mm_cn q.1) q.2.1 (mm_hd q.2.2.1).1 "PagesByLevels"))) = true := by decide +kernel
  exact fun q hq => List.mem_of_getElem? (of_decide_eq_true (List.all_eq_true.mp h q hq))
theorem mm_lc_ok : ∀ q ∈ mm_lc, Cond.constant (mm_cn q.1) q.2.1 (Int32.ofInt q.2.2.1) ∈ wA ∧ (-2147483648 ≤ q.2.2.1 ∧ q.2.2.1 < 2147483648) := by
  have h : mm_lc.all (fun q => mm_wat q.2.2.2 (.constant (mm_cn q.1) q.2.1 (Int32.ofInt q.2.2.1)) && decide (-2147483648 ≤ q.2.2.1 ∧ q.2.2.1 < 2147483648)) = true := by decide +kernel
  intro q hq
  have h1 := List.all_eq_true.mp h q hq
  rw [Bool.and_eq_true, decide_eq_true_eq] at h1
  exact ⟨mm_wat_ok h1.1, h1.2⟩
theorem mm_ll_ok : ∀ q ∈ mm_ll, Cond.constantLong (mm_cn q.1) q.2.1 (Int64.ofInt q.2.2.1) ∈ wA ∧ (-9223372036854775808 ≤ q.2.2.1 ∧ q.2.2.1 < 9223372036854775808) := by
  have h : mm_ll.all (fun q => mm_wat q.2.2.2 (.constantLong (mm_cn q.1) q.2.1 (Int64.ofInt q.2.2.1)) && decide (-9223372036854775808 ≤ q.2.2.1 ∧ q.2.2.1 < 9223372036854775808)) = true := by decide +kernel
  intro q hq
  have h1 := List.all_eq_true.mp h q hq
  rw [Bool.and_eq_true, decide_eq_true_eq] at h1
  exact ⟨mm_wat_ok h1.1, h1.2⟩
theorem mm_la_ok : ∀ q ∈ mm_la, Cond.methodLink (mm_cn q.1) q.2.1 arraycopyName ∈ wA := by
  have h : mm_la.all (fun q => mm_wat q.2.2 (.methodLink (mm_cn q.1) q.2.1 arraycopyName)) = true := by decide +kernel
  exact fun q hq => mm_wat_ok (List.all_eq_true.mp h q hq)
theorem mm_acw : Cond.native arraycopyName ∈ wA ∧ Cond.static arraycopyName ∈ wA ∧ Cond.initialized "java/lang/System" ∈ wA := ⟨mm_wat_ok (i := 468) (by decide +kernel), mm_wat_ok (i := 467) (by decide +kernel), mm_wat_ok (i := 53) (by decide +kernel)⟩
def mm_hok (q : mm_Hd × (Nat × Nat × Nat × Nat)) : Bool :=
  (mm_wat q.2.2.1 (.initialized q.1.1.cls) && (if q.1.2.2.2.2.2.2.2.2 then mm_wat q.2.2.2.1 (.static q.1.1) else mm_wat q.2.2.2.1 (.instanceMethod q.1.1) && mm_wat q.2.2.2.2 (.selects q.1.1.cls q.1.1 q.1.1)) &&
   decide (q.1.1.cls = mm_cn q.1.2.2.2.2.1 ∧ q.1.1.cls ≠ "java/lang/invoke/MethodHandle" ∧ q.1.1.cls ≠ "java/lang/invoke/VarHandle" ∧ (parseMethodDescriptor q.1.1.desc).map (fun d => d.parameters.length) = some q.1.2.2.2.2.2.2.2.1 ∧ plainFor q.1.1 = true))
theorem mm_hds_ok : ∀ m, m < 190 → mm_hok (mm_hd m, mm_hps.getD m (0, 0, 0, 0)) = true := by
  have h : (List.range 190).all (fun m => mm_hok (mm_hd m, mm_hps.getD m (0, 0, 0, 0))) = true := by decide +kernel
  intro m hm
  exact List.all_eq_true.mp h m (List.mem_range.mpr hm)
def mm_cw (q : mm_Hd) : Cond := .code q.1 q.2.1 q.2.2.1 q.2.2.2.1

set_option maxRecDepth 200000 in
set_option maxHeartbeats 4000000 in
theorem mm_cw0 : ((List.range 10).map fun j => some (mm_cw (mm_hd (0 + j)))) = ((List.range 10).map fun j => lw_tbl[(mm_hps.getD (0 + j) (0, 0, 0, 0)).1]?) := by rfl
set_option maxRecDepth 200000 in
set_option maxHeartbeats 4000000 in
theorem mm_cw1 : ((List.range 10).map fun j => some (mm_cw (mm_hd (10 + j)))) = ((List.range 10).map fun j => lw_tbl[(mm_hps.getD (10 + j) (0, 0, 0, 0)).1]?) := by rfl
set_option maxRecDepth 200000 in
set_option maxHeartbeats 4000000 in
theorem mm_cw2 : ((List.range 10).map fun j => some (mm_cw (mm_hd (20 + j)))) = ((List.range 10).map fun j => lw_tbl[(mm_hps.getD (20 + j) (0, 0, 0, 0)).1]?) := by rfl
set_option maxRecDepth 200000 in
set_option maxHeartbeats 4000000 in
theorem mm_cw3 : ((List.range 10).map fun j => some (mm_cw (mm_hd (30 + j)))) = ((List.range 10).map fun j => lw_tbl[(mm_hps.getD (30 + j) (0, 0, 0, 0)).1]?) := by rfl
set_option maxRecDepth 200000 in
set_option maxHeartbeats 4000000 in
theorem mm_cw4 : ((List.range 10).map fun j => some (mm_cw (mm_hd (40 + j)))) = ((List.range 10).map fun j => lw_tbl[(mm_hps.getD (40 + j) (0, 0, 0, 0)).1]?) := by rfl
set_option maxRecDepth 200000 in
set_option maxHeartbeats 4000000 in
theorem mm_cw5 : ((List.range 10).map fun j => some (mm_cw (mm_hd (50 + j)))) = ((List.range 10).map fun j => lw_tbl[(mm_hps.getD (50 + j) (0, 0, 0, 0)).1]?) := by rfl
set_option maxRecDepth 200000 in
set_option maxHeartbeats 4000000 in
theorem mm_cw6 : ((List.range 10).map fun j => some (mm_cw (mm_hd (60 + j)))) = ((List.range 10).map fun j => lw_tbl[(mm_hps.getD (60 + j) (0, 0, 0, 0)).1]?) := by rfl
set_option maxRecDepth 200000 in
set_option maxHeartbeats 4000000 in
theorem mm_cw7 : ((List.range 10).map fun j => some (mm_cw (mm_hd (70 + j)))) = ((List.range 10).map fun j => lw_tbl[(mm_hps.getD (70 + j) (0, 0, 0, 0)).1]?) := by rfl
set_option maxRecDepth 200000 in
set_option maxHeartbeats 4000000 in
theorem mm_cw8 : ((List.range 10).map fun j => some (mm_cw (mm_hd (80 + j)))) = ((List.range 10).map fun j => lw_tbl[(mm_hps.getD (80 + j) (0, 0, 0, 0)).1]?) := by rfl
set_option maxRecDepth 200000 in
set_option maxHeartbeats 4000000 in
theorem mm_cw9 : ((List.range 10).map fun j => some (mm_cw (mm_hd (90 + j)))) = ((List.range 10).map fun j => lw_tbl[(mm_hps.getD (90 + j) (0, 0, 0, 0)).1]?) := by rfl
set_option maxRecDepth 200000 in
set_option maxHeartbeats 4000000 in
theorem mm_cw10 : ((List.range 10).map fun j => some (mm_cw (mm_hd (100 + j)))) = ((List.range 10).map fun j => lw_tbl[(mm_hps.getD (100 + j) (0, 0, 0, 0)).1]?) := by rfl
set_option maxRecDepth 200000 in
set_option maxHeartbeats 4000000 in
theorem mm_cw11 : ((List.range 10).map fun j => some (mm_cw (mm_hd (110 + j)))) = ((List.range 10).map fun j => lw_tbl[(mm_hps.getD (110 + j) (0, 0, 0, 0)).1]?) := by rfl
set_option maxRecDepth 200000 in
set_option maxHeartbeats 4000000 in
theorem mm_cw12 : ((List.range 10).map fun j => some (mm_cw (mm_hd (120 + j)))) = ((List.range 10).map fun j => lw_tbl[(mm_hps.getD (120 + j) (0, 0, 0, 0)).1]?) := by rfl
set_option maxRecDepth 200000 in
set_option maxHeartbeats 4000000 in
theorem mm_cw13 : ((List.range 10).map fun j => some (mm_cw (mm_hd (130 + j)))) = ((List.range 10).map fun j => lw_tbl[(mm_hps.getD (130 + j) (0, 0, 0, 0)).1]?) := by rfl
set_option maxRecDepth 200000 in
set_option maxHeartbeats 4000000 in
theorem mm_cw14 : ((List.range 10).map fun j => some (mm_cw (mm_hd (140 + j)))) = ((List.range 10).map fun j => lw_tbl[(mm_hps.getD (140 + j) (0, 0, 0, 0)).1]?) := by rfl
set_option maxRecDepth 200000 in
set_option maxHeartbeats 4000000 in
theorem mm_cw15 : ((List.range 10).map fun j => some (mm_cw (mm_hd (150 + j)))) = ((List.range 10).map fun j => lw_tbl[(mm_hps.getD (150 + j) (0, 0, 0, 0)).1]?) := by rfl
set_option maxRecDepth 200000 in
set_option maxHeartbeats 4000000 in
theorem mm_cw16 : ((List.range 10).map fun j => some (mm_cw (mm_hd (160 + j)))) = ((List.range 10).map fun j => lw_tbl[(mm_hps.getD (160 + j) (0, 0, 0, 0)).1]?) := by rfl
set_option maxRecDepth 200000 in
set_option maxHeartbeats 4000000 in
theorem mm_cw17 : ((List.range 10).map fun j => some (mm_cw (mm_hd (170 + j)))) = ((List.range 10).map fun j => lw_tbl[(mm_hps.getD (170 + j) (0, 0, 0, 0)).1]?) := by rfl
set_option maxRecDepth 200000 in
set_option maxHeartbeats 4000000 in
theorem mm_cw18 : ((List.range 10).map fun j => some (mm_cw (mm_hd (180 + j)))) = ((List.range 10).map fun j => lw_tbl[(mm_hps.getD (180 + j) (0, 0, 0, 0)).1]?) := by rfl
theorem mm_cw_at {n k i : Nat} (h : ((List.range n).map fun j => some (mm_cw (mm_hd (i + j)))) = ((List.range n).map fun j => lw_tbl[(mm_hps.getD (i + j) (0, 0, 0, 0)).1]?)) (hk : k < n) : mm_cw (mm_hd (i + k)) ∈ wA := by
  have h1 := congrArg (fun l => l[k]?) h
  simp only [List.getElem?_map, List.getElem?_range hk, Option.map_some] at h1
  exact wA_of (Option.some.inj h1).symm rfl
theorem mm_cw_ok : ∀ m, m < 190 → mm_cw (mm_hd m) ∈ wA := by
  intro m hm
  have e : m = 10 * (m / 10) + m % 10 := by omega
  have h1 : m / 10 < 19 := by omega
  have h2 : m % 10 < 10 := by omega
  rw [e]
  generalize m / 10 = q at h1 e ⊢
  generalize m % 10 = r at h2 e ⊢
  match q, h1 with
  | 0, _ => exact mm_cw_at mm_cw0 (by omega)
  | 1, _ => exact mm_cw_at mm_cw1 (by omega)
  | 2, _ => exact mm_cw_at mm_cw2 (by omega)
  | 3, _ => exact mm_cw_at mm_cw3 (by omega)
  | 4, _ => exact mm_cw_at mm_cw4 (by omega)
  | 5, _ => exact mm_cw_at mm_cw5 (by omega)
  | 6, _ => exact mm_cw_at mm_cw6 (by omega)
  | 7, _ => exact mm_cw_at mm_cw7 (by omega)
  | 8, _ => exact mm_cw_at mm_cw8 (by omega)
  | 9, _ => exact mm_cw_at mm_cw9 (by omega)
  | 10, _ => exact mm_cw_at mm_cw10 (by omega)
  | 11, _ => exact mm_cw_at mm_cw11 (by omega)
  | 12, _ => exact mm_cw_at mm_cw12 (by omega)
  | 13, _ => exact mm_cw_at mm_cw13 (by omega)
  | 14, _ => exact mm_cw_at mm_cw14 (by omega)
  | 15, _ => exact mm_cw_at mm_cw15 (by omega)
  | 16, _ => exact mm_cw_at mm_cw16 (by omega)
  | 17, _ => exact mm_cw_at mm_cw17 (by omega)
  | 18, _ => exact mm_cw_at mm_cw18 (by omega)
  | n + 19, h => exact absurd h (by omega)
theorem mm_Fw0 : ∀ w ∈ u_ws (mm_cn 0) (mm_F 0) (mm_nf 0), w ∈ wA := by
  have h : (u_ws (mm_cn 0) (mm_F 0) (mm_nf 0)).all (fun w => decide (w ∈ lw_tbl) && goodWord w) = true := by decide +kernel
  intro w hw
  have h1 := List.all_eq_true.mp h w hw
  rw [Bool.and_eq_true, decide_eq_true_eq] at h1
  exact List.mem_filter.mpr h1
theorem mm_Fw1 : ∀ w ∈ u_ws (mm_cn 1) (mm_F 1) (mm_nf 1), w ∈ wA := by
  have h : (u_ws (mm_cn 1) (mm_F 1) (mm_nf 1)).all (fun w => decide (w ∈ lw_tbl) && goodWord w) = true := by decide +kernel
  intro w hw
  have h1 := List.all_eq_true.mp h w hw
  rw [Bool.and_eq_true, decide_eq_true_eq] at h1
  exact List.mem_filter.mpr h1
theorem mm_Fw2 : ∀ w ∈ u_ws (mm_cn 2) (mm_F 2) (mm_nf 2), w ∈ wA := by
  have h : (u_ws (mm_cn 2) (mm_F 2) (mm_nf 2)).all (fun w => decide (w ∈ lw_tbl) && goodWord w) = true := by decide +kernel
  intro w hw
  have h1 := List.all_eq_true.mp h w hw
  rw [Bool.and_eq_true, decide_eq_true_eq] at h1
  exact List.mem_filter.mpr h1
theorem mm_Fw3 : ∀ w ∈ u_ws (mm_cn 3) (mm_F 3) (mm_nf 3), w ∈ wA := by
  have h : (u_ws (mm_cn 3) (mm_F 3) (mm_nf 3)).all (fun w => decide (w ∈ lw_tbl) && goodWord w) = true := by decide +kernel
  intro w hw
  have h1 := List.all_eq_true.mp h w hw
  rw [Bool.and_eq_true, decide_eq_true_eq] at h1
  exact List.mem_filter.mpr h1
theorem mm_Fw4 : ∀ w ∈ u_ws (mm_cn 4) (mm_F 4) (mm_nf 4), w ∈ wA := by
  have h : (u_ws (mm_cn 4) (mm_F 4) (mm_nf 4)).all (fun w => decide (w ∈ lw_tbl) && goodWord w) = true := by decide +kernel
  intro w hw
  have h1 := List.all_eq_true.mp h w hw
  rw [Bool.and_eq_true, decide_eq_true_eq] at h1
  exact List.mem_filter.mpr h1
theorem mm_Fw5 : ∀ w ∈ u_ws (mm_cn 5) (mm_F 5) (mm_nf 5), w ∈ wA := by
  have h : (u_ws (mm_cn 5) (mm_F 5) (mm_nf 5)).all (fun w => decide (w ∈ lw_tbl) && goodWord w) = true := by decide +kernel
  intro w hw
  have h1 := List.all_eq_true.mp h w hw
  rw [Bool.and_eq_true, decide_eq_true_eq] at h1
  exact List.mem_filter.mpr h1
theorem mm_Fw6 : ∀ w ∈ u_ws (mm_cn 6) (mm_F 6) (mm_nf 6), w ∈ wA := by
  have h : (u_ws (mm_cn 6) (mm_F 6) (mm_nf 6)).all (fun w => decide (w ∈ lw_tbl) && goodWord w) = true := by decide +kernel
  intro w hw
  have h1 := List.all_eq_true.mp h w hw
  rw [Bool.and_eq_true, decide_eq_true_eq] at h1
  exact List.mem_filter.mpr h1
theorem mm_Fw7 : ∀ w ∈ u_ws (mm_cn 7) (mm_F 7) (mm_nf 7), w ∈ wA := by
  have h : (u_ws (mm_cn 7) (mm_F 7) (mm_nf 7)).all (fun w => decide (w ∈ lw_tbl) && goodWord w) = true := by decide +kernel
  intro w hw
  have h1 := List.all_eq_true.mp h w hw
  rw [Bool.and_eq_true, decide_eq_true_eq] at h1
  exact List.mem_filter.mpr h1
theorem mm_Fw8 : ∀ w ∈ u_ws (mm_cn 8) (mm_F 8) (mm_nf 8), w ∈ wA := by
  have h : (u_ws (mm_cn 8) (mm_F 8) (mm_nf 8)).all (fun w => decide (w ∈ lw_tbl) && goodWord w) = true := by decide +kernel
  intro w hw
  have h1 := List.all_eq_true.mp h w hw
  rw [Bool.and_eq_true, decide_eq_true_eq] at h1
  exact List.mem_filter.mpr h1
theorem mm_Fw : ∀ ci, ci < 9 → ∀ w ∈ u_ws (mm_cn ci) (mm_F ci) (mm_nf ci), w ∈ wA := by
  intro ci h
  match ci, h with
  | 0, _ => exact mm_Fw0
  | 1, _ => exact mm_Fw1
  | 2, _ => exact mm_Fw2
  | 3, _ => exact mm_Fw3
  | 4, _ => exact mm_Fw4
  | 5, _ => exact mm_Fw5
  | 6, _ => exact mm_Fw6
  | 7, _ => exact mm_Fw7
  | 8, _ => exact mm_Fw8
  | n + 9, h => exact absurd h (by omega)
theorem mm_Fty : ∀ ci, ci < 9 → ∀ k, k < mm_nf ci → parseFieldDescriptor (mm_F ci k).2.2.1 = some (mm_ty ci k) := by
  intro ci h
  match ci, h with
  | 0, _ => exact by decide +kernel
  | 1, _ => exact by decide +kernel
  | 2, _ => exact by decide +kernel
  | 3, _ => exact by decide +kernel
  | 4, _ => exact by decide +kernel
  | 5, _ => exact by decide +kernel
  | 6, _ => exact by decide +kernel
  | 7, _ => exact by decide +kernel
  | 8, _ => exact by decide +kernel
  | n + 9, h => exact absurd h (by omega)
theorem mm_Fnm : ∀ ci, ci < 9 → ∀ a, a < mm_nf ci → ∀ b, b < mm_nf ci → a ≠ b → (mm_F ci a).2.1 ≠ (mm_F ci b).2.1 := by
  intro ci h
  match ci, h with
  | 0, _ => exact by decide +kernel
  | 1, _ => exact by decide +kernel
  | 2, _ => exact by decide +kernel
  | 3, _ => exact by decide +kernel
  | 4, _ => exact by decide +kernel
  | 5, _ => exact by decide +kernel
  | 6, _ => exact by decide +kernel
  | 7, _ => exact by decide +kernel
  | 8, _ => exact by decide +kernel
  | n + 9, h => exact absurd h (by omega)
theorem mm_Ffi : ∀ ci, ci < 9 → ∀ k, k < mm_nf ci → mm_fk ci k ≠ 1 → (mm_F ci k).2.2.2 = false := by
  intro ci h
  match ci, h with
  | 0, _ => exact by decide +kernel
  | 1, _ => exact by decide +kernel
  | 2, _ => exact by decide +kernel
  | 3, _ => exact by decide +kernel
  | 4, _ => exact by decide +kernel
  | 5, _ => exact by decide +kernel
  | 6, _ => exact by decide +kernel
  | 7, _ => exact by decide +kernel
  | 8, _ => exact by decide +kernel
  | n + 9, h => exact absurd h (by omega)
theorem mm_Fki : ∀ ci, ci < 9 → ∀ k, k < mm_nf ci → (mm_fk ci k = 0 → mm_ty ci k = .int) ∧ (mm_fk ci k = 3 → mm_ty ci k = .boolean) ∧ (mm_fk ci k = 2 → mm_ty ci k = .object "PagesByLevels$Complex") ∧ mm_fk ci k < 4 := by
  intro ci h
  match ci, h with
  | 0, _ => exact by decide +kernel
  | 1, _ => exact by decide +kernel
  | 2, _ => exact by decide +kernel
  | 3, _ => exact by decide +kernel
  | 4, _ => exact by decide +kernel
  | 5, _ => exact by decide +kernel
  | 6, _ => exact by decide +kernel
  | 7, _ => exact by decide +kernel
  | 8, _ => exact by decide +kernel
  | n + 9, h => exact absurd h (by omega)
theorem mm_Fcl : ∀ ci, ci < 9 → mm_cl[ci]? = some (mm_cn ci, mm_F ci, mm_nf ci) := by
  intro ci h
  match ci, h with
  | 0, _ => exact rfl
  | 1, _ => exact rfl
  | 2, _ => exact rfl
  | 3, _ => exact rfl
  | 4, _ => exact rfl
  | 5, _ => exact rfl
  | 6, _ => exact rfl
  | 7, _ => exact rfl
  | 8, _ => exact rfl
  | n + 9, h => exact absurd h (by omega)
end
section
/-- a call's room and words -/
def mm_cok (own fr lo idx r1 r2 : Nat) (r3 : Int) (v : Bool) : Bool :=
  decide (r1 < 190) && ((mm_lm.any (fun q => decide (q.1 = own ∧ q.2.1 = idx ∧ q.2.2.1 = r1)) || (!v && mm_ln.any (fun q => decide (q.1 = own ∧ q.2.1 = idx ∧ q.2.2.1 = r1)))) &&
   decide ((mm_hd r1).2.2.2.2.2.2.2.2 = !v ∧ r2 = (mm_hd r1).2.2.2.2.2.2.2.1 + (if v then 1 else 0) ∧ r3 = (if v then ((mm_hd r1).2.2.2.2.1 : Int) + 1 else 0) ∧ (mm_hd r1).2.2.2.2.2.1 + 1 ≤ fr ∧ 8 + ((mm_hd r1).2.2.1 + 11) + (mm_hd r1).2.2.2.2.2.2.1 ≤ lo))
def mm_iok (own fr lo : Nat) (e : mm_E) : Bool := match e.2.1 with
  | .getfield idx => mm_lf.any fun q => decide (q.1 = own ∧ q.2.1 = idx ∧ q.2.2.1 = e.2.2.2.1 ∧ q.2.2.2.1 = e.2.2.2.2.1)
  | .putfield idx => mm_lf.any fun q => decide (q.1 = own ∧ q.2.1 = idx ∧ q.2.2.1 = e.2.2.2.1 ∧ q.2.2.2.1 = e.2.2.2.2.1)
  | .ldc idx => mm_lc.any fun q => decide (q.1 = own ∧ q.2.1 = idx ∧ q.2.2.1 = e.2.2.2.2.2)
  | .ldc_w idx => mm_lc.any fun q => decide (q.1 = own ∧ q.2.1 = idx ∧ q.2.2.1 = e.2.2.2.2.2)
  | .ldc2_w idx => mm_ll.any fun q => decide (q.1 = own ∧ q.2.1 = idx ∧ q.2.2.1 = e.2.2.2.2.2)
  | .iconst n => decide (-1 ≤ n ∧ n ≤ 5)
  | .bipush n => decide (-128 ≤ n ∧ n < 128)
  | .sipush n => decide (-32768 ≤ n ∧ n < 32768)
  | .iinc _ n => decide (-128 ≤ n ∧ n < 128)
  | .goto off => decide (0 ≤ (e.1 : Int) + off)
  | .if_icmp _ off => decide (0 ≤ (e.1 : Int) + off)
  | .ifCond _ off => decide (0 ≤ (e.1 : Int) + off)
  | .ifnull off => decide (0 ≤ (e.1 : Int) + off)
  | .ifnonnull off => decide (0 ≤ (e.1 : Int) + off)
  | .tableswitch d lw hi offs => decide (0 ≤ (e.1 : Int) + d ∧ -1000000 < lw ∧ hi < 1000000 ∧ (offs.size : Int) = hi - lw + 1) && offs.toList.all fun o => decide (0 ≤ (e.1 : Int) + o)
  | .invokevirtual idx => mm_cok own fr lo idx e.2.2.2.1 e.2.2.2.2.1 e.2.2.2.2.2 true
  | .invokestatic idx => if e.2.2.2.1 = 999 then mm_la.any (fun q => decide (q.1 = own ∧ q.2.1 = idx)) && decide (1 ≤ fr ∧ 26 ≤ lo) else mm_cok own fr lo idx e.2.2.2.1 e.2.2.2.2.1 e.2.2.2.2.2 false
  | .iaload => decide (e.2.2.2.1 = 7 → own = 13)
  | .arraylength => decide (e.2.2.2.1 = 7 → own = 13)
  | _ => true
def mm_il : Instr → Nat
  | .iload _ | .lload _ | .aload _ | .istore _ | .lstore _ | .astore _ | .bipush _ | .ldc _ => 2
  | .sipush _ | .iinc _ _ | .goto _ | .if_icmp _ _ | .ifCond _ _ | .ifnull _ | .ifnonnull _ | .getfield _ | .putfield _ | .invokevirtual _ | .invokestatic _ | .ldc_w _ | .ldc2_w _ => 3
  | .tableswitch _ _ _ _ => 0
  | _ => 1
def mm_rok (rt : Option FieldType) (e : mm_E) : Bool := match e.2.1 with
  | .ireturn => decide (rt = some .int ∨ (rt = some .boolean ∧ e.2.2.2.1 = 1))
  | .lreturn => decide (rt = some .long)
  | .areturn => match rt with
    | some (.object _) => true
    | _ => false
  | .return_ => decide (rt = none)
  | _ => true
def mm_eok (own fr lo : Nat) (bytes : ByteArray) (e : mm_E) : Bool := decide (decode bytes e.1 = .ok (e.2.1, e.2.2.1)) && (decide (mm_il e.2.1 = 0 ∨ e.2.2.1 = mm_il e.2.1) && mm_iok own fr lo e)

theorem rk_P_clear : k_P_clear.all (mm_rok (some .int)) = true := by decide +kernel
theorem ek_P_clear : k_P_clear.all (mm_eok 0 1 21 prog_1_method_2_code) = true := by decide +kernel
theorem rk_P_cell : k_P_cell.all (mm_rok (some .int)) = true := by decide +kernel
theorem ek_P_cell : k_P_cell.all (mm_eok 0 3 69 prog_1_method_3_code) = true := by decide +kernel
theorem rk_P_entry : k_P_entry.all (mm_rok (some .int)) = true := by decide +kernel
theorem ek_P_entry : k_P_entry.all (mm_eok 0 2 44 prog_1_method_4_code) = true := by decide +kernel
theorem rk_P_entryOf : k_P_entryOf.all (mm_rok (some .int)) = true := by decide +kernel
theorem ek_P_entryOf : k_P_entryOf.all (mm_eok 0 2 43 prog_1_method_5_code) = true := by decide +kernel
theorem rk_P_of : k_P_of.all (mm_rok (some .int)) = true := by decide +kernel
theorem ek_P_of : k_P_of.all (mm_eok 0 3 66 prog_1_method_6_code) = true := by decide +kernel
theorem rk_P_broken : k_P_broken.all (mm_rok (some .int)) = true := by decide +kernel
theorem ek_P_broken : k_P_broken.all (mm_eok 0 3 69 prog_1_method_7_code) = true := by decide +kernel
theorem rk_P_mend : k_P_mend.all (mm_rok (some .int)) = true := by decide +kernel
theorem ek_P_mend : k_P_mend.all (mm_eok 0 4 91 prog_1_method_8_code) = true := by decide +kernel
theorem rk_P_feed : k_P_feed.all (mm_rok (some .int)) = true := by decide +kernel
theorem ek_P_feed : k_P_feed.all (mm_eok 0 1 21 prog_1_method_9_code) = true := by decide +kernel
theorem rk_P_text : k_P_text.all (mm_rok (some .int)) = true := by decide +kernel
theorem ek_P_text : k_P_text.all (mm_eok 0 6 130 prog_1_method_10_code) = true := by decide +kernel
theorem rk_P_goes : k_P_goes.all (mm_rok (some .int)) = true := by decide +kernel
theorem ek_P_goes : k_P_goes.all (mm_eok 0 5 115 prog_1_method_11_code) = true := by decide +kernel
theorem rk_P_reduced : k_P_reduced.all (mm_rok (some .int)) = true := by decide +kernel
theorem ek_P_reduced : k_P_reduced.all (mm_eok 0 5 115 prog_1_method_12_code) = true := by decide +kernel
theorem rk_P_page : k_P_page.all (mm_rok (some .int)) = true := by decide +kernel
theorem ek_P_page : k_P_page.all (mm_eok 0 6 145 prog_1_method_13_code) = true := by decide +kernel
theorem rk_P_turns : k_P_turns.all (mm_rok (some .int)) = true := by decide +kernel
theorem ek_P_turns : k_P_turns.all (mm_eok 0 6 145 prog_1_method_14_code) = true := by decide +kernel
theorem rk_P_stands : k_P_stands.all (mm_rok (some .int)) = true := by decide +kernel
theorem ek_P_stands : k_P_stands.all (mm_eok 0 5 115 prog_1_method_15_code) = true := by decide +kernel
theorem rk_P_left : k_P_left.all (mm_rok (some .int)) = true := by decide +kernel
theorem ek_P_left : k_P_left.all (mm_eok 0 6 140 prog_1_method_16_code) = true := by decide +kernel
theorem rk_P_whole : k_P_whole.all (mm_rok (some .int)) = true := by decide +kernel
theorem ek_P_whole : k_P_whole.all (mm_eok 0 6 146 prog_1_method_17_code) = true := by decide +kernel
theorem rk_P_wholeAt : k_P_wholeAt.all (mm_rok (some .int)) = true := by decide +kernel
theorem ek_P_wholeAt : k_P_wholeAt.all (mm_eok 0 6 146 prog_1_method_18_code) = true := by decide +kernel
theorem rk_P_times : k_P_times.all (mm_rok (some .int)) = true := by decide +kernel
theorem ek_P_times : k_P_times.all (mm_eok 0 4 96 prog_1_method_19_code) = true := by decide +kernel
theorem rk_P_part : k_P_part.all (mm_rok (some .int)) = true := by decide +kernel
theorem ek_P_part : k_P_part.all (mm_eok 0 4 96 prog_1_method_20_code) = true := by decide +kernel
theorem rk_P_would : k_P_would.all (mm_rok (some .int)) = true := by decide +kernel
theorem ek_P_would : k_P_would.all (mm_eok 0 6 140 prog_1_method_21_code) = true := by decide +kernel
theorem rk_P_trials : k_P_trials.all (mm_rok (some .int)) = true := by decide +kernel
theorem ek_P_trials : k_P_trials.all (mm_eok 0 0 0 prog_1_method_22_code) = true := by decide +kernel
theorem rk_P_sheet : k_P_sheet.all (mm_rok (some .int)) = true := by decide +kernel
theorem ek_P_sheet : k_P_sheet.all (mm_eok 0 2 46 prog_1_method_23_code) = true := by decide +kernel
theorem rk_P_put : k_P_put.all (mm_rok (some .int)) = true := by decide +kernel
theorem ek_P_put : k_P_put.all (mm_eok 0 1 23 prog_1_method_24_code) = true := by decide +kernel
theorem rk_P_item : k_P_item.all (mm_rok (some .int)) = true := by decide +kernel
theorem ek_P_item : k_P_item.all (mm_eok 0 1 22 prog_1_method_25_code) = true := by decide +kernel
theorem rk_P_copy : k_P_copy.all (mm_rok (some .int)) = true := by decide +kernel
theorem ek_P_copy : k_P_copy.all (mm_eok 0 2 64 prog_1_method_26_code) = true := by decide +kernel
theorem rk_P_lay : k_P_lay.all (mm_rok (some .int)) = true := by decide +kernel
theorem ek_P_lay : k_P_lay.all (mm_eok 0 2 44 prog_1_method_27_code) = true := by decide +kernel
theorem rk_P_take : k_P_take.all (mm_rok (some .int)) = true := by decide +kernel
theorem ek_P_take : k_P_take.all (mm_eok 0 2 44 prog_1_method_28_code) = true := by decide +kernel
theorem rk_P_many : k_P_many.all (mm_rok (some .int)) = true := by decide +kernel
theorem ek_P_many : k_P_many.all (mm_eok 0 5 112 prog_1_method_29_code) = true := by decide +kernel
theorem rk_P_keep : k_P_keep.all (mm_rok (some .int)) = true := by decide +kernel
theorem ek_P_keep : k_P_keep.all (mm_eok 0 2 61 prog_1_method_30_code) = true := by decide +kernel
theorem rk_P_again : k_P_again.all (mm_rok (some .int)) = true := by decide +kernel
theorem ek_P_again : k_P_again.all (mm_eok 0 2 61 prog_1_method_31_code) = true := by decide +kernel
theorem rk_P_complexAt : k_P_complexAt.all (mm_rok (some (.object "PagesByLevels$Complex"))) = true := by decide +kernel
theorem ek_P_complexAt : k_P_complexAt.all (mm_eok 0 0 0 prog_1_method_32_code) = true := by decide +kernel
theorem rk_P_sheetAt : k_P_sheetAt.all (mm_rok (some (.object "PagesByLevels$Sheet"))) = true := by decide +kernel
theorem ek_P_sheetAt : k_P_sheetAt.all (mm_eok 0 0 0 prog_1_method_33_code) = true := by decide +kernel
theorem rk_P_isDegree : k_P_isDegree.all (mm_rok (some .boolean)) = true := by decide +kernel
theorem ek_P_isDegree : k_P_isDegree.all (mm_eok 0 0 0 prog_1_method_34_code) = true := by decide +kernel
theorem rk_P_isLevel : k_P_isLevel.all (mm_rok (some .boolean)) = true := by decide +kernel
theorem ek_P_isLevel : k_P_isLevel.all (mm_eok 0 0 0 prog_1_method_35_code) = true := by decide +kernel
theorem rk_P_isEntry : k_P_isEntry.all (mm_rok (some .boolean)) = true := by decide +kernel
theorem ek_P_isEntry : k_P_isEntry.all (mm_eok 0 0 0 prog_1_method_36_code) = true := by decide +kernel
theorem rk_P_isWay : k_P_isWay.all (mm_rok (some .boolean)) = true := by decide +kernel
theorem ek_P_isWay : k_P_isWay.all (mm_eok 0 0 0 prog_1_method_37_code) = true := by decide +kernel
theorem rk_P_isPrime : k_P_isPrime.all (mm_rok (some .boolean)) = true := by decide +kernel
theorem ek_P_isPrime : k_P_isPrime.all (mm_eok 0 0 0 prog_1_method_38_code) = true := by decide +kernel
theorem rk_P_isSort : k_P_isSort.all (mm_rok (some .boolean)) = true := by decide +kernel
theorem ek_P_isSort : k_P_isSort.all (mm_eok 0 0 0 prog_1_method_39_code) = true := by decide +kernel
theorem rk_P_get : k_P_get.all (mm_rok (some .int)) = true := by decide +kernel
theorem ek_P_get : k_P_get.all (mm_eok 0 0 0 prog_1_method_40_code) = true := by decide +kernel
theorem rk_P_set : k_P_set.all (mm_rok none) = true := by decide +kernel
theorem ek_P_set : k_P_set.all (mm_eok 0 0 0 prog_1_method_41_code) = true := by decide +kernel
theorem rk_P_ofPage : k_P_ofPage.all (mm_rok (some .int)) = true := by decide +kernel
theorem ek_P_ofPage : k_P_ofPage.all (mm_eok 0 5 115 prog_1_method_42_code) = true := by decide +kernel
theorem rk_P_staying : k_P_staying.all (mm_rok (some .int)) = true := by decide +kernel
theorem ek_P_staying : k_P_staying.all (mm_eok 0 5 115 prog_1_method_43_code) = true := by decide +kernel
theorem rk_P_inWholeNumbers : k_P_inWholeNumbers.all (mm_rok (some .int)) = true := by decide +kernel
theorem ek_P_inWholeNumbers : k_P_inWholeNumbers.all (mm_eok 0 5 121 prog_1_method_44_code) = true := by decide +kernel
theorem rk_P_refusalOfEdge : k_P_refusalOfEdge.all (mm_rok (some .int)) = true := by decide +kernel
theorem ek_P_refusalOfEdge : k_P_refusalOfEdge.all (mm_eok 0 1 22 prog_1_method_45_code) = true := by decide +kernel
theorem rk_P_cellsTogether : k_P_cellsTogether.all (mm_rok (some .int)) = true := by decide +kernel
theorem ek_P_cellsTogether : k_P_cellsTogether.all (mm_eok 0 0 0 prog_1_method_46_code) = true := by decide +kernel
theorem rk_P_setOfComplexes : k_P_setOfComplexes.all (mm_rok (some .int)) = true := by decide +kernel
theorem ek_P_setOfComplexes : k_P_setOfComplexes.all (mm_eok 0 4 89 prog_1_method_47_code) = true := by decide +kernel
theorem rk_M_in : k_M_in.all (mm_rok (some .boolean)) = true := by decide +kernel
theorem ek_M_in : k_M_in.all (mm_eok 8 0 0 prog_10_method_2_code) = true := by decide +kernel
theorem rk_M_isComplex : k_M_isComplex.all (mm_rok (some .boolean)) = true := by decide +kernel
theorem ek_M_isComplex : k_M_isComplex.all (mm_eok 8 1 22 prog_10_method_3_code) = true := by decide +kernel
theorem rk_M_isCell : k_M_isCell.all (mm_rok (some .boolean)) = true := by decide +kernel
theorem ek_M_isCell : k_M_isCell.all (mm_eok 8 1 22 prog_10_method_4_code) = true := by decide +kernel
theorem rk_M_degree : k_M_degree.all (mm_rok (some .int)) = true := by decide +kernel
theorem ek_M_degree : k_M_degree.all (mm_eok 8 0 0 prog_10_method_5_code) = true := by decide +kernel
theorem rk_M_level : k_M_level.all (mm_rok (some .int)) = true := by decide +kernel
theorem ek_M_level : k_M_level.all (mm_eok 8 0 0 prog_10_method_6_code) = true := by decide +kernel
theorem rk_M_edge : k_M_edge.all (mm_rok (some .int)) = true := by decide +kernel
theorem ek_M_edge : k_M_edge.all (mm_eok 8 0 0 prog_10_method_7_code) = true := by decide +kernel
theorem rk_M_may : k_M_may.all (mm_rok (some .boolean)) = true := by decide +kernel
theorem ek_M_may : k_M_may.all (mm_eok 8 1 23 prog_10_method_8_code) = true := by decide +kernel
theorem rk_M_sets : k_M_sets.all (mm_rok none) = true := by decide +kernel
theorem ek_M_sets : k_M_sets.all (mm_eok 8 0 0 prog_10_method_9_code) = true := by decide +kernel
theorem rk_M_empties : k_M_empties.all (mm_rok none) = true := by decide +kernel
theorem ek_M_empties : k_M_empties.all (mm_eok 8 0 0 prog_10_method_10_code) = true := by decide +kernel
theorem rk_M_copies : k_M_copies.all (mm_rok none) = true := by decide +kernel
theorem ek_M_copies : k_M_copies.all (mm_eok 8 1 25 prog_10_method_11_code) = true := by decide +kernel
theorem rk_M_clear : k_M_clear.all (mm_rok (some .int)) = true := by decide +kernel
theorem ek_M_clear : k_M_clear.all (mm_eok 8 2 42 prog_10_method_12_code) = true := by decide +kernel
theorem rk_M_cell : k_M_cell.all (mm_rok (some .int)) = true := by decide +kernel
theorem ek_M_cell : k_M_cell.all (mm_eok 8 2 42 prog_10_method_13_code) = true := by decide +kernel
theorem rk_M_isEntry : k_M_isEntry.all (mm_rok (some .boolean)) = true := by decide +kernel
theorem ek_M_isEntry : k_M_isEntry.all (mm_eok 8 2 44 prog_10_method_14_code) = true := by decide +kernel
theorem rk_M_entry : k_M_entry.all (mm_rok (some .int)) = true := by decide +kernel
theorem ek_M_entry : k_M_entry.all (mm_eok 8 3 67 prog_10_method_15_code) = true := by decide +kernel
theorem rk_M_entryOf : k_M_entryOf.all (mm_rok (some .int)) = true := by decide +kernel
theorem ek_M_entryOf : k_M_entryOf.all (mm_eok 8 3 67 prog_10_method_16_code) = true := by decide +kernel
theorem rk_M_entriesOf : k_M_entriesOf.all (mm_rok (some .int)) = true := by decide +kernel
theorem ek_M_entriesOf : k_M_entriesOf.all (mm_eok 8 1 23 prog_10_method_17_code) = true := by decide +kernel
theorem rk_M_of : k_M_of.all (mm_rok (some .int)) = true := by decide +kernel
theorem ek_M_of : k_M_of.all (mm_eok 8 2 48 prog_10_method_18_code) = true := by decide +kernel
theorem rk_M_brokenAt : k_M_brokenAt.all (mm_rok (some .int)) = true := by decide +kernel
theorem ek_M_brokenAt : k_M_brokenAt.all (mm_eok 8 1 23 prog_10_method_19_code) = true := by decide +kernel
theorem rk_M_broken : k_M_broken.all (mm_rok (some .int)) = true := by decide +kernel
theorem ek_M_broken : k_M_broken.all (mm_eok 8 2 48 prog_10_method_20_code) = true := by decide +kernel
theorem rk_M_mends : k_M_mends.all (mm_rok (some .boolean)) = true := by decide +kernel
theorem ek_M_mends : k_M_mends.all (mm_eok 8 2 48 prog_10_method_21_code) = true := by decide +kernel
theorem rk_M_mend : k_M_mend.all (mm_rok (some .int)) = true := by decide +kernel
theorem ek_M_mend : k_M_mend.all (mm_eok 8 3 74 prog_10_method_22_code) = true := by decide +kernel
theorem rk_M_would : k_M_would.all (mm_rok (some .int)) = true := by decide +kernel
theorem ek_M_would : k_M_would.all (mm_eok 8 5 126 prog_10_method_23_code) = true := by decide +kernel
theorem rk_M_trials : k_M_trials.all (mm_rok (some .int)) = true := by decide +kernel
theorem ek_M_trials : k_M_trials.all (mm_eok 8 0 0 prog_10_method_24_code) = true := by decide +kernel
theorem rk_M_isPrime : k_M_isPrime.all (mm_rok (some .boolean)) = true := by decide +kernel
theorem ek_M_isPrime : k_M_isPrime.all (mm_eok 8 0 0 prog_10_method_25_code) = true := by decide +kernel
theorem rk_M_isBefore : k_M_isBefore.all (mm_rok (some .boolean)) = true := by decide +kernel
theorem ek_M_isBefore : k_M_isBefore.all (mm_eok 8 1 23 prog_10_method_26_code) = true := by decide +kernel
theorem rk_M_findOrder : k_M_findOrder.all (mm_rok none) = true := by decide +kernel
theorem ek_M_findOrder : k_M_findOrder.all (mm_eok 8 2 47 prog_10_method_27_code) = true := by decide +kernel
theorem rk_M_lastOf : k_M_lastOf.all (mm_rok (some .int)) = true := by decide +kernel
theorem ek_M_lastOf : k_M_lastOf.all (mm_eok 8 0 0 prog_10_method_28_code) = true := by decide +kernel
theorem rk_M_inverse : k_M_inverse.all (mm_rok (some .int)) = true := by decide +kernel
theorem ek_M_inverse : k_M_inverse.all (mm_eok 8 0 0 prog_10_method_29_code) = true := by decide +kernel
theorem rk_M_reduces : k_M_reduces.all (mm_rok none) = true := by decide +kernel
theorem ek_M_reduces : k_M_reduces.all (mm_eok 8 3 72 prog_10_method_30_code) = true := by decide +kernel
theorem rk_M_isAsked : k_M_isAsked.all (mm_rok (some .boolean)) = true := by decide +kernel
theorem ek_M_isAsked : k_M_isAsked.all (mm_eok 8 1 22 prog_10_method_31_code) = true := by decide +kernel
theorem rk_M_goes : k_M_goes.all (mm_rok (some .int)) = true := by decide +kernel
theorem ek_M_goes : k_M_goes.all (mm_eok 8 4 101 prog_10_method_32_code) = true := by decide +kernel
theorem rk_M_reduced : k_M_reduced.all (mm_rok (some .int)) = true := by decide +kernel
theorem ek_M_reduced : k_M_reduced.all (mm_eok 8 4 101 prog_10_method_33_code) = true := by decide +kernel
theorem rk_M_gap : k_M_gap.all (mm_rok (some .int)) = true := by decide +kernel
theorem ek_M_gap : k_M_gap.all (mm_eok 8 1 23 prog_10_method_34_code) = true := by decide +kernel
theorem rk_M_counts : k_M_counts.all (mm_rok (some .int)) = true := by decide +kernel
theorem ek_M_counts : k_M_counts.all (mm_eok 8 2 47 prog_10_method_35_code) = true := by decide +kernel
theorem rk_M_told : k_M_told.all (mm_rok (some .int)) = true := by decide +kernel
theorem ek_M_told : k_M_told.all (mm_eok 8 4 101 prog_10_method_36_code) = true := by decide +kernel
theorem rk_M_page : k_M_page.all (mm_rok (some .int)) = true := by decide +kernel
theorem ek_M_page : k_M_page.all (mm_eok 8 5 128 prog_10_method_37_code) = true := by decide +kernel
theorem rk_M_turns : k_M_turns.all (mm_rok (some .int)) = true := by decide +kernel
theorem ek_M_turns : k_M_turns.all (mm_eok 8 5 128 prog_10_method_38_code) = true := by decide +kernel
theorem rk_M_stands : k_M_stands.all (mm_rok (some .int)) = true := by decide +kernel
theorem ek_M_stands : k_M_stands.all (mm_eok 8 4 101 prog_10_method_39_code) = true := by decide +kernel
theorem rk_M_leftOf : k_M_leftOf.all (mm_rok (some .int)) = true := by decide +kernel
theorem ek_M_leftOf : k_M_leftOf.all (mm_eok 8 4 101 prog_10_method_40_code) = true := by decide +kernel
theorem rk_M_left : k_M_left.all (mm_rok (some .int)) = true := by decide +kernel
theorem ek_M_left : k_M_left.all (mm_eok 8 5 126 prog_10_method_41_code) = true := by decide +kernel
theorem rk_M_isAt : k_M_isAt.all (mm_rok (some .boolean)) = true := by decide +kernel
theorem ek_M_isAt : k_M_isAt.all (mm_eok 8 1 23 prog_10_method_42_code) = true := by decide +kernel
theorem rk_M_cellsAt : k_M_cellsAt.all (mm_rok (some .int)) = true := by decide +kernel
theorem ek_M_cellsAt : k_M_cellsAt.all (mm_eok 8 2 48 prog_10_method_43_code) = true := by decide +kernel
theorem rk_M_takesTable : k_M_takesTable.all (mm_rok none) = true := by decide +kernel
theorem ek_M_takesTable : k_M_takesTable.all (mm_eok 8 3 74 prog_10_method_44_code) = true := by decide +kernel
theorem rk_M_size : k_M_size.all (mm_rok (some .long)) = true := by decide +kernel
theorem ek_M_size : k_M_size.all (mm_eok 8 0 0 prog_10_method_45_code) = true := by decide +kernel
theorem rk_M_leastTo : k_M_leastTo.all (mm_rok (some .boolean)) = true := by decide +kernel
theorem ek_M_leastTo : k_M_leastTo.all (mm_eok 8 1 21 prog_10_method_46_code) = true := by decide +kernel
theorem rk_M_lowers : k_M_lowers.all (mm_rok (some .boolean)) = true := by decide +kernel
theorem ek_M_lowers : k_M_lowers.all (mm_eok 8 0 0 prog_10_method_47_code) = true := by decide +kernel
theorem rk_M_simplifies : k_M_simplifies.all (mm_rok none) = true := by decide +kernel
theorem ek_M_simplifies : k_M_simplifies.all (mm_eok 8 2 48 prog_10_method_48_code) = true := by decide +kernel
theorem rk_M_wholeOf : k_M_wholeOf.all (mm_rok (some .int)) = true := by decide +kernel
theorem ek_M_wholeOf : k_M_wholeOf.all (mm_eok 8 4 101 prog_10_method_49_code) = true := by decide +kernel
theorem rk_M_whole : k_M_whole.all (mm_rok (some .int)) = true := by decide +kernel
theorem ek_M_whole : k_M_whole.all (mm_eok 8 5 128 prog_10_method_50_code) = true := by decide +kernel
theorem rk_M_wholeAt : k_M_wholeAt.all (mm_rok (some .int)) = true := by decide +kernel
theorem ek_M_wholeAt : k_M_wholeAt.all (mm_eok 8 5 128 prog_10_method_51_code) = true := by decide +kernel
theorem rk_M_times : k_M_times.all (mm_rok (some .int)) = true := by decide +kernel
theorem ek_M_times : k_M_times.all (mm_eok 8 2 48 prog_10_method_52_code) = true := by decide +kernel
theorem rk_M_part : k_M_part.all (mm_rok (some .int)) = true := by decide +kernel
theorem ek_M_part : k_M_part.all (mm_eok 8 2 48 prog_10_method_53_code) = true := by decide +kernel
theorem rk_M_feed : k_M_feed.all (mm_rok (some .int)) = true := by decide +kernel
theorem ek_M_feed : k_M_feed.all (mm_eok 8 1 22 prog_10_method_54_code) = true := by decide +kernel
theorem rk_M_here : k_M_here.all (mm_rok (some .int)) = true := by decide +kernel
theorem ek_M_here : k_M_here.all (mm_eok 8 0 0 prog_10_method_55_code) = true := by decide +kernel
theorem rk_M_takes : k_M_takes.all (mm_rok (some .boolean)) = true := by decide +kernel
theorem ek_M_takes : k_M_takes.all (mm_eok 8 1 20 prog_10_method_56_code) = true := by decide +kernel
theorem rk_M_readsNumber : k_M_readsNumber.all (mm_rok (some .boolean)) = true := by decide +kernel
theorem ek_M_readsNumber : k_M_readsNumber.all (mm_eok 8 1 22 prog_10_method_57_code) = true := by decide +kernel
theorem rk_M_readsEntry : k_M_readsEntry.all (mm_rok (some .boolean)) = true := by decide +kernel
theorem ek_M_readsEntry : k_M_readsEntry.all (mm_eok 8 2 46 prog_10_method_58_code) = true := by decide +kernel
theorem rk_M_readsCell : k_M_readsCell.all (mm_rok (some .boolean)) = true := by decide +kernel
theorem ek_M_readsCell : k_M_readsCell.all (mm_eok 8 3 70 prog_10_method_59_code) = true := by decide +kernel
theorem rk_M_text : k_M_text.all (mm_rok (some .int)) = true := by decide +kernel
theorem ek_M_text : k_M_text.all (mm_eok 8 4 95 prog_10_method_60_code) = true := by decide +kernel
theorem rk_M_isSheet : k_M_isSheet.all (mm_rok (some .boolean)) = true := by decide +kernel
theorem ek_M_isSheet : k_M_isSheet.all (mm_eok 8 1 22 prog_10_method_61_code) = true := by decide +kernel
theorem rk_M_isOutside : k_M_isOutside.all (mm_rok (some .boolean)) = true := by decide +kernel
theorem ek_M_isOutside : k_M_isOutside.all (mm_eok 8 0 0 prog_10_method_62_code) = true := by decide +kernel
theorem rk_M_cut : k_M_cut.all (mm_rok (some .long)) = true := by decide +kernel
theorem ek_M_cut : k_M_cut.all (mm_eok 8 0 0 prog_10_method_63_code) = true := by decide +kernel
theorem rk_M_sheet : k_M_sheet.all (mm_rok (some .int)) = true := by decide +kernel
theorem ek_M_sheet : k_M_sheet.all (mm_eok 8 2 42 prog_10_method_64_code) = true := by decide +kernel
theorem rk_M_put : k_M_put.all (mm_rok (some .int)) = true := by decide +kernel
theorem ek_M_put : k_M_put.all (mm_eok 8 2 42 prog_10_method_65_code) = true := by decide +kernel
theorem rk_M_item : k_M_item.all (mm_rok (some .int)) = true := by decide +kernel
theorem ek_M_item : k_M_item.all (mm_eok 8 2 42 prog_10_method_66_code) = true := by decide +kernel
theorem rk_M_copy : k_M_copy.all (mm_rok (some .int)) = true := by decide +kernel
theorem ek_M_copy : k_M_copy.all (mm_eok 8 2 42 prog_10_method_67_code) = true := by decide +kernel
theorem rk_M_lacks : k_M_lacks.all (mm_rok (some .int)) = true := by decide +kernel
theorem ek_M_lacks : k_M_lacks.all (mm_eok 8 1 23 prog_10_method_68_code) = true := by decide +kernel
theorem rk_M_lay : k_M_lay.all (mm_rok (some .int)) = true := by decide +kernel
theorem ek_M_lay : k_M_lay.all (mm_eok 8 2 46 prog_10_method_69_code) = true := by decide +kernel
theorem rk_M_take : k_M_take.all (mm_rok (some .int)) = true := by decide +kernel
theorem ek_M_take : k_M_take.all (mm_eok 8 2 46 prog_10_method_70_code) = true := by decide +kernel
theorem rk_M_cellsAll : k_M_cellsAll.all (mm_rok (some .int)) = true := by decide +kernel
theorem ek_M_cellsAll : k_M_cellsAll.all (mm_eok 8 0 0 prog_10_method_71_code) = true := by decide +kernel
theorem rk_M_many : k_M_many.all (mm_rok (some .int)) = true := by decide +kernel
theorem ek_M_many : k_M_many.all (mm_eok 8 2 48 prog_10_method_72_code) = true := by decide +kernel
theorem rk_M_moves : k_M_moves.all (mm_rok none) = true := by decide +kernel
theorem ek_M_moves : k_M_moves.all (mm_eok 8 0 0 prog_10_method_73_code) = true := by decide +kernel
theorem rk_M_keep : k_M_keep.all (mm_rok (some .int)) = true := by decide +kernel
theorem ek_M_keep : k_M_keep.all (mm_eok 8 1 22 prog_10_method_74_code) = true := by decide +kernel
theorem rk_M_again : k_M_again.all (mm_rok (some .int)) = true := by decide +kernel
theorem ek_M_again : k_M_again.all (mm_eok 8 1 22 prog_10_method_75_code) = true := by decide +kernel
theorem rk_C_has : k_C_has.all (mm_rok (some .boolean)) = true := by decide +kernel
theorem ek_C_has : k_C_has.all (mm_eok 1 0 0 prog_2_method_2_code) = true := by decide +kernel
theorem rk_C_degree : k_C_degree.all (mm_rok (some .int)) = true := by decide +kernel
theorem ek_C_degree : k_C_degree.all (mm_eok 1 1 21 prog_2_method_3_code) = true := by decide +kernel
theorem rk_C_level : k_C_level.all (mm_rok (some .int)) = true := by decide +kernel
theorem ek_C_level : k_C_level.all (mm_eok 1 1 21 prog_2_method_4_code) = true := by decide +kernel
theorem rk_C_edge : k_C_edge.all (mm_rok (some .int)) = true := by decide +kernel
theorem ek_C_edge : k_C_edge.all (mm_eok 1 1 21 prog_2_method_5_code) = true := by decide +kernel
theorem rk_C_setEdge : k_C_setEdge.all (mm_rok none) = true := by decide +kernel
theorem ek_C_setEdge : k_C_setEdge.all (mm_eok 1 1 21 prog_2_method_6_code) = true := by decide +kernel
theorem rk_C_mayHave : k_C_mayHave.all (mm_rok (some .boolean)) = true := by decide +kernel
theorem ek_C_mayHave : k_C_mayHave.all (mm_eok 1 1 21 prog_2_method_7_code) = true := by decide +kernel
theorem rk_C_empty : k_C_empty.all (mm_rok none) = true := by decide +kernel
theorem ek_C_empty : k_C_empty.all (mm_eok 1 0 0 prog_2_method_8_code) = true := by decide +kernel
theorem rk_C_add : k_C_add.all (mm_rok (some .int)) = true := by decide +kernel
theorem ek_C_add : k_C_add.all (mm_eok 1 2 44 prog_2_method_9_code) = true := by decide +kernel
theorem rk_C_entriesIn : k_C_entriesIn.all (mm_rok (some .int)) = true := by decide +kernel
theorem ek_C_entriesIn : k_C_entriesIn.all (mm_eok 1 2 43 prog_2_method_10_code) = true := by decide +kernel
theorem rk_C_edgesWith : k_C_edgesWith.all (mm_rok (some .int)) = true := by decide +kernel
theorem ek_C_edgesWith : k_C_edgesWith.all (mm_eok 1 2 43 prog_2_method_11_code) = true := by decide +kernel
theorem rk_C_isBroken : k_C_isBroken.all (mm_rok (some .boolean)) = true := by decide +kernel
theorem ek_C_isBroken : k_C_isBroken.all (mm_eok 1 3 69 prog_2_method_12_code) = true := by decide +kernel
theorem rk_C_firstBroken : k_C_firstBroken.all (mm_rok (some .int)) = true := by decide +kernel
theorem ek_C_firstBroken : k_C_firstBroken.all (mm_eok 1 2 46 prog_2_method_13_code) = true := by decide +kernel
theorem rk_C_stillBroken : k_C_stillBroken.all (mm_rok (some .int)) = true := by decide +kernel
theorem ek_C_stillBroken : k_C_stillBroken.all (mm_eok 1 3 69 prog_2_method_14_code) = true := by decide +kernel
theorem rk_C_edgeOfEdge : k_C_edgeOfEdge.all (mm_rok (some .int)) = true := by decide +kernel
theorem ek_C_edgeOfEdge : k_C_edgeOfEdge.all (mm_eok 1 1 21 prog_2_method_15_code) = true := by decide +kernel
theorem rk_C_become : k_C_become.all (mm_rok none) = true := by decide +kernel
theorem ek_C_become : k_C_become.all (mm_eok 1 1 40 prog_2_method_16_code) = true := by decide +kernel
theorem rk_C_canBeMultiplied : k_C_canBeMultiplied.all (mm_rok (some .boolean)) = true := by decide +kernel
theorem ek_C_canBeMultiplied : k_C_canBeMultiplied.all (mm_eok 1 3 66 prog_2_method_17_code) = true := by decide +kernel
theorem rk_C_topDegree : k_C_topDegree.all (mm_rok (some .int)) = true := by decide +kernel
theorem ek_C_topDegree : k_C_topDegree.all (mm_eok 1 2 42 prog_2_method_18_code) = true := by decide +kernel
theorem rk_C_topLevel : k_C_topLevel.all (mm_rok (some .int)) = true := by decide +kernel
theorem ek_C_topLevel : k_C_topLevel.all (mm_eok 1 2 43 prog_2_method_19_code) = true := by decide +kernel
theorem rk_C_becomeProduct : k_C_becomeProduct.all (mm_rok none) = true := by decide +kernel
theorem ek_C_becomeProduct : k_C_becomeProduct.all (mm_eok 1 3 72 prog_2_method_20_code) = true := by decide +kernel
theorem rk_C_setProductEdge : k_C_setProductEdge.all (mm_rok none) = true := by decide +kernel
theorem ek_C_setProductEdge : k_C_setProductEdge.all (mm_eok 1 2 44 prog_2_method_21_code) = true := by decide +kernel
theorem rk_C_becomePart : k_C_becomePart.all (mm_rok none) = true := by decide +kernel
theorem ek_C_becomePart : k_C_becomePart.all (mm_eok 1 3 71 prog_2_method_22_code) = true := by decide +kernel
theorem rk_C_setPartEdge : k_C_setPartEdge.all (mm_rok none) = true := by decide +kernel
theorem ek_C_setPartEdge : k_C_setPartEdge.all (mm_eok 1 2 44 prog_2_method_23_code) = true := by decide +kernel
theorem rk_Re_read : k_Re_read.all (mm_rok (some .int)) = true := by decide +kernel
theorem ek_Re_read : k_Re_read.all (mm_eok 6 5 109 prog_3_method_2_code) = true := by decide +kernel
theorem rk_Re_isAtEnd : k_Re_isAtEnd.all (mm_rok (some .boolean)) = true := by decide +kernel
theorem ek_Re_isAtEnd : k_Re_isAtEnd.all (mm_eok 6 2 41 prog_3_method_3_code) = true := by decide +kernel
theorem rk_Re_skipBlanks : k_Re_skipBlanks.all (mm_rok none) = true := by decide +kernel
theorem ek_Re_skipBlanks : k_Re_skipBlanks.all (mm_eok 6 1 21 prog_3_method_4_code) = true := by decide +kernel
theorem rk_Re_fails : k_Re_fails.all (mm_rok (some .boolean)) = true := by decide +kernel
theorem ek_Re_fails : k_Re_fails.all (mm_eok 6 0 0 prog_3_method_5_code) = true := by decide +kernel
theorem rk_Re_passes : k_Re_passes.all (mm_rok (some .boolean)) = true := by decide +kernel
theorem ek_Re_passes : k_Re_passes.all (mm_eok 6 2 41 prog_3_method_6_code) = true := by decide +kernel
theorem rk_Re_isAtDigit : k_Re_isAtDigit.all (mm_rok (some .boolean)) = true := by decide +kernel
theorem ek_Re_isAtDigit : k_Re_isAtDigit.all (mm_eok 6 1 21 prog_3_method_7_code) = true := by decide +kernel
theorem rk_Re_readsNumber : k_Re_readsNumber.all (mm_rok (some .boolean)) = true := by decide +kernel
theorem ek_Re_readsNumber : k_Re_readsNumber.all (mm_eok 6 2 42 prog_3_method_8_code) = true := by decide +kernel
theorem rk_Re_readsHead : k_Re_readsHead.all (mm_rok (some .boolean)) = true := by decide +kernel
theorem ek_Re_readsHead : k_Re_readsHead.all (mm_eok 6 3 69 prog_3_method_9_code) = true := by decide +kernel
theorem rk_Re_readsEntries : k_Re_readsEntries.all (mm_rok (some .boolean)) = true := by decide +kernel
theorem ek_Re_readsEntries : k_Re_readsEntries.all (mm_eok 6 4 87 prog_3_method_10_code) = true := by decide +kernel
theorem rk_Re_readsEntry : k_Re_readsEntry.all (mm_rok (some .boolean)) = true := by decide +kernel
theorem ek_Re_readsEntry : k_Re_readsEntry.all (mm_eok 6 3 64 prog_3_method_11_code) = true := by decide +kernel
theorem rk_Rd_run : k_Rd_run.all (mm_rok none) = true := by decide +kernel
theorem ek_Rd_run : k_Rd_run.all (mm_eok 2 4 91 prog_4_method_2_code) = true := by decide +kernel
theorem rk_Rd_putInOrder : k_Rd_putInOrder.all (mm_rok none) = true := by decide +kernel
theorem ek_Rd_putInOrder : k_Rd_putInOrder.all (mm_eok 2 3 67 prog_4_method_3_code) = true := by decide +kernel
theorem rk_Rd_standsBefore : k_Rd_standsBefore.all (mm_rok (some .boolean)) = true := by decide +kernel
theorem ek_Rd_standsBefore : k_Rd_standsBefore.all (mm_eok 2 2 43 prog_4_method_4_code) = true := by decide +kernel
theorem rk_Rd_reduce : k_Rd_reduce.all (mm_rok none) = true := by decide +kernel
theorem ek_Rd_reduce : k_Rd_reduce.all (mm_eok 2 3 68 prog_4_method_5_code) = true := by decide +kernel
theorem rk_Rd_lastOf : k_Rd_lastOf.all (mm_rok (some .int)) = true := by decide +kernel
theorem ek_Rd_lastOf : k_Rd_lastOf.all (mm_eok 2 2 43 prog_4_method_6_code) = true := by decide +kernel
theorem rk_Rd_takeAway : k_Rd_takeAway.all (mm_rok none) = true := by decide +kernel
theorem ek_Rd_takeAway : k_Rd_takeAway.all (mm_eok 2 2 43 prog_4_method_7_code) = true := by decide +kernel
theorem rk_Rd_leaves : k_Rd_leaves.all (mm_rok (some .int)) = true := by decide +kernel
theorem ek_Rd_leaves : k_Rd_leaves.all (mm_eok 2 1 22 prog_4_method_8_code) = true := by decide +kernel
theorem rk_Rd_remainder : k_Rd_remainder.all (mm_rok (some .int)) = true := by decide +kernel
theorem ek_Rd_remainder : k_Rd_remainder.all (mm_eok 2 1 21 prog_4_method_9_code) = true := by decide +kernel
theorem rk_Rd_partner : k_Rd_partner.all (mm_rok (some .int)) = true := by decide +kernel
theorem ek_Rd_partner : k_Rd_partner.all (mm_eok 2 1 21 prog_4_method_10_code) = true := by decide +kernel
theorem rk_Rd_gap : k_Rd_gap.all (mm_rok (some .int)) = true := by decide +kernel
theorem ek_Rd_gap : k_Rd_gap.all (mm_eok 2 2 43 prog_4_method_11_code) = true := by decide +kernel
theorem rk_Rd_standsOn : k_Rd_standsOn.all (mm_rok (some .boolean)) = true := by decide +kernel
theorem ek_Rd_standsOn : k_Rd_standsOn.all (mm_eok 2 3 64 prog_4_method_12_code) = true := by decide +kernel
theorem rk_Rd_turnsAt : k_Rd_turnsAt.all (mm_rok (some .boolean)) = true := by decide +kernel
theorem ek_Rd_turnsAt : k_Rd_turnsAt.all (mm_eok 2 3 64 prog_4_method_13_code) = true := by decide +kernel
theorem rk_Sh_become : k_Sh_become.all (mm_rok none) = true := by decide +kernel
theorem ek_Sh_become : k_Sh_become.all (mm_eok 7 1 24 prog_5_method_2_code) = true := by decide +kernel
theorem rk_Sh_isOutside : k_Sh_isOutside.all (mm_rok (some .boolean)) = true := by decide +kernel
theorem ek_Sh_isOutside : k_Sh_isOutside.all (mm_eok 7 0 0 prog_5_method_3_code) = true := by decide +kernel
theorem rk_Sh_get : k_Sh_get.all (mm_rok (some .long)) = true := by decide +kernel
theorem ek_Sh_get : k_Sh_get.all (mm_eok 7 0 0 prog_5_method_4_code) = true := by decide +kernel
theorem rk_Sh_set : k_Sh_set.all (mm_rok none) = true := by decide +kernel
theorem ek_Sh_set : k_Sh_set.all (mm_eok 7 0 0 prog_5_method_5_code) = true := by decide +kernel
theorem rk_Sh_copyPlaces : k_Sh_copyPlaces.all (mm_rok none) = true := by decide +kernel
theorem ek_Sh_copyPlaces : k_Sh_copyPlaces.all (mm_eok 7 1 40 prog_5_method_6_code) = true := by decide +kernel
theorem rk_Tp_add : k_Tp_add.all (mm_rok none) = true := by decide +kernel
theorem ek_Tp_add : k_Tp_add.all (mm_eok 5 0 0 prog_6_method_2_code) = true := by decide +kernel
theorem rk_Tp_at : k_Tp_at.all (mm_rok (some .int)) = true := by decide +kernel
theorem ek_Tp_at : k_Tp_at.all (mm_eok 5 0 0 prog_6_method_3_code) = true := by decide +kernel
theorem rk_Tr_startAnew : k_Tr_startAnew.all (mm_rok none) = true := by decide +kernel
theorem ek_Tr_startAnew : k_Tr_startAnew.all (mm_eok 4 0 0 prog_7_method_2_code) = true := by decide +kernel
theorem rk_Tr_open : k_Tr_open.all (mm_rok none) = true := by decide +kernel
theorem ek_Tr_open : k_Tr_open.all (mm_eok 4 2 44 prog_7_method_3_code) = true := by decide +kernel
theorem rk_Tr_close : k_Tr_close.all (mm_rok none) = true := by decide +kernel
theorem ek_Tr_close : k_Tr_close.all (mm_eok 4 2 44 prog_7_method_4_code) = true := by decide +kernel
theorem rk_Wn_choose : k_Wn_choose.all (mm_rok none) = true := by decide +kernel
theorem ek_Wn_choose : k_Wn_choose.all (mm_eok 3 0 0 prog_8_method_2_code) = true := by decide +kernel
theorem rk_Wn_free : k_Wn_free.all (mm_rok (some .int)) = true := by decide +kernel
theorem ek_Wn_free : k_Wn_free.all (mm_eok 3 4 98 prog_8_method_3_code) = true := by decide +kernel
theorem rk_Wn_factor : k_Wn_factor.all (mm_rok (some .int)) = true := by decide +kernel
theorem ek_Wn_factor : k_Wn_factor.all (mm_eok 3 4 98 prog_8_method_4_code) = true := by decide +kernel
theorem rk_Wn_quotient : k_Wn_quotient.all (mm_rok (some .int)) = true := by decide +kernel
theorem ek_Wn_quotient : k_Wn_quotient.all (mm_eok 3 1 21 prog_8_method_5_code) = true := by decide +kernel
theorem rk_Wn_findDivisors : k_Wn_findDivisors.all (mm_rok none) = true := by decide +kernel
theorem ek_Wn_findDivisors : k_Wn_findDivisors.all (mm_eok 3 3 73 prog_8_method_6_code) = true := by decide +kernel
theorem rk_Wn_gather : k_Wn_gather.all (mm_rok (some .int)) = true := by decide +kernel
theorem ek_Wn_gather : k_Wn_gather.all (mm_eok 3 2 43 prog_8_method_7_code) = true := by decide +kernel
theorem rk_Wn_determinant : k_Wn_determinant.all (mm_rok (some .int)) = true := by decide +kernel
theorem ek_Wn_determinant : k_Wn_determinant.all (mm_eok 3 2 43 prog_8_method_8_code) = true := by decide +kernel
theorem rk_Wn_greatestDivisor : k_Wn_greatestDivisor.all (mm_rok (some .int)) = true := by decide +kernel
theorem ek_Wn_greatestDivisor : k_Wn_greatestDivisor.all (mm_eok 3 0 0 prog_8_method_9_code) = true := by decide +kernel
theorem rk_In_bitCount : k_In_bitCount.all (mm_rok (some .int)) = true := by decide +kernel
theorem ek_In_bitCount : k_In_bitCount.all (mm_eok 9 0 0 prog_11_method_49_code) = true := by decide +kernel
theorem rk_In_compare : k_In_compare.all (mm_rok (some .int)) = true := by decide +kernel
theorem ek_In_compare : k_In_compare.all (mm_eok 9 0 0 prog_11_method_40_code) = true := by decide +kernel
theorem rk_Ma_abs : k_Ma_abs.all (mm_rok (some .int)) = true := by decide +kernel
theorem ek_Ma_abs : k_Ma_abs.all (mm_eok 10 0 0 prog_12_method_59_code) = true := by decide +kernel
theorem rk_Ma_floorMod : k_Ma_floorMod.all (mm_rok (some .int)) = true := by decide +kernel
theorem ek_Ma_floorMod : k_Ma_floorMod.all (mm_eok 10 0 0 prog_12_method_50_code) = true := by decide +kernel
theorem rk_Ma_max : k_Ma_max.all (mm_rok (some .int)) = true := by decide +kernel
theorem ek_Ma_max : k_Ma_max.all (mm_eok 10 0 0 prog_12_method_65_code) = true := by decide +kernel
theorem rk_Ma_min : k_Ma_min.all (mm_rok (some .int)) = true := by decide +kernel
theorem ek_Ma_min : k_Ma_min.all (mm_eok 10 0 0 prog_12_method_69_code) = true := by decide +kernel
theorem rk_Ar_fill : k_Ar_fill.all (mm_rok none) = true := by decide +kernel
theorem ek_Ar_fill : k_Ar_fill.all (mm_eok 11 0 0 prog_14_method_103_code) = true := by decide +kernel
theorem rk_Ar_fillL : k_Ar_fillL.all (mm_rok none) = true := by decide +kernel
theorem ek_Ar_fillL : k_Ar_fillL.all (mm_eok 11 0 0 prog_14_method_101_code) = true := by decide +kernel
def mm_mok (m : Nat) : Prop := (mm_T m).1.all (mm_eok (mm_hd m).2.2.2.2.1 (mm_hd m).2.2.2.2.2.1 (mm_hd m).2.2.2.2.2.2.1 (mm_hd m).2.1) = true ∧ (mm_T m).2 = (mm_hd m).2.2.1 ∧ (mm_T m).1.all (mm_rok (mm_hd m).2.2.2.1) = true
theorem ek_g0 : ∀ r, r < 10 → mm_mok (0 + r) := by
  intro r h
  match r, h with
  | 0, _ => exact ⟨ek_P_clear, rfl, rk_P_clear⟩
  | 1, _ => exact ⟨ek_P_cell, rfl, rk_P_cell⟩
  | 2, _ => exact ⟨ek_P_entry, rfl, rk_P_entry⟩
  | 3, _ => exact ⟨ek_P_entryOf, rfl, rk_P_entryOf⟩
  | 4, _ => exact ⟨ek_P_of, rfl, rk_P_of⟩
  | 5, _ => exact ⟨ek_P_broken, rfl, rk_P_broken⟩
  | 6, _ => exact ⟨ek_P_mend, rfl, rk_P_mend⟩
  | 7, _ => exact ⟨ek_P_feed, rfl, rk_P_feed⟩
  | 8, _ => exact ⟨ek_P_text, rfl, rk_P_text⟩
  | 9, _ => exact ⟨ek_P_goes, rfl, rk_P_goes⟩
  | n + 10, h => exact absurd h (by omega)
theorem ek_g1 : ∀ r, r < 10 → mm_mok (10 + r) := by
  intro r h
  match r, h with
  | 0, _ => exact ⟨ek_P_reduced, rfl, rk_P_reduced⟩
  | 1, _ => exact ⟨ek_P_page, rfl, rk_P_page⟩
  | 2, _ => exact ⟨ek_P_turns, rfl, rk_P_turns⟩
  | 3, _ => exact ⟨ek_P_stands, rfl, rk_P_stands⟩
  | 4, _ => exact ⟨ek_P_left, rfl, rk_P_left⟩
  | 5, _ => exact ⟨ek_P_whole, rfl, rk_P_whole⟩
  | 6, _ => exact ⟨ek_P_wholeAt, rfl, rk_P_wholeAt⟩
  | 7, _ => exact ⟨ek_P_times, rfl, rk_P_times⟩
  | 8, _ => exact ⟨ek_P_part, rfl, rk_P_part⟩
  | 9, _ => exact ⟨ek_P_would, rfl, rk_P_would⟩
  | n + 10, h => exact absurd h (by omega)
theorem ek_g2 : ∀ r, r < 10 → mm_mok (20 + r) := by
  intro r h
  match r, h with
  | 0, _ => exact ⟨ek_P_trials, rfl, rk_P_trials⟩
  | 1, _ => exact ⟨ek_P_sheet, rfl, rk_P_sheet⟩
  | 2, _ => exact ⟨ek_P_put, rfl, rk_P_put⟩
  | 3, _ => exact ⟨ek_P_item, rfl, rk_P_item⟩
  | 4, _ => exact ⟨ek_P_copy, rfl, rk_P_copy⟩
  | 5, _ => exact ⟨ek_P_lay, rfl, rk_P_lay⟩
  | 6, _ => exact ⟨ek_P_take, rfl, rk_P_take⟩
  | 7, _ => exact ⟨ek_P_many, rfl, rk_P_many⟩
  | 8, _ => exact ⟨ek_P_keep, rfl, rk_P_keep⟩
  | 9, _ => exact ⟨ek_P_again, rfl, rk_P_again⟩
  | n + 10, h => exact absurd h (by omega)
theorem ek_g3 : ∀ r, r < 10 → mm_mok (30 + r) := by
  intro r h
  match r, h with
  | 0, _ => exact ⟨ek_P_complexAt, rfl, rk_P_complexAt⟩
  | 1, _ => exact ⟨ek_P_sheetAt, rfl, rk_P_sheetAt⟩
  | 2, _ => exact ⟨ek_P_isDegree, rfl, rk_P_isDegree⟩
  | 3, _ => exact ⟨ek_P_isLevel, rfl, rk_P_isLevel⟩
  | 4, _ => exact ⟨ek_P_isEntry, rfl, rk_P_isEntry⟩
  | 5, _ => exact ⟨ek_P_isWay, rfl, rk_P_isWay⟩
  | 6, _ => exact ⟨ek_P_isPrime, rfl, rk_P_isPrime⟩
  | 7, _ => exact ⟨ek_P_isSort, rfl, rk_P_isSort⟩
  | 8, _ => exact ⟨ek_P_get, rfl, rk_P_get⟩
  | 9, _ => exact ⟨ek_P_set, rfl, rk_P_set⟩
  | n + 10, h => exact absurd h (by omega)
theorem ek_g4 : ∀ r, r < 10 → mm_mok (40 + r) := by
  intro r h
  match r, h with
  | 0, _ => exact ⟨ek_P_ofPage, rfl, rk_P_ofPage⟩
  | 1, _ => exact ⟨ek_P_staying, rfl, rk_P_staying⟩
  | 2, _ => exact ⟨ek_P_inWholeNumbers, rfl, rk_P_inWholeNumbers⟩
  | 3, _ => exact ⟨ek_P_refusalOfEdge, rfl, rk_P_refusalOfEdge⟩
  | 4, _ => exact ⟨ek_P_cellsTogether, rfl, rk_P_cellsTogether⟩
  | 5, _ => exact ⟨ek_P_setOfComplexes, rfl, rk_P_setOfComplexes⟩
  | 6, _ => exact ⟨ek_M_in, rfl, rk_M_in⟩
  | 7, _ => exact ⟨ek_M_isComplex, rfl, rk_M_isComplex⟩
  | 8, _ => exact ⟨ek_M_isCell, rfl, rk_M_isCell⟩
  | 9, _ => exact ⟨ek_M_degree, rfl, rk_M_degree⟩
  | n + 10, h => exact absurd h (by omega)
theorem ek_g5 : ∀ r, r < 10 → mm_mok (50 + r) := by
  intro r h
  match r, h with
  | 0, _ => exact ⟨ek_M_level, rfl, rk_M_level⟩
  | 1, _ => exact ⟨ek_M_edge, rfl, rk_M_edge⟩
  | 2, _ => exact ⟨ek_M_may, rfl, rk_M_may⟩
  | 3, _ => exact ⟨ek_M_sets, rfl, rk_M_sets⟩
  | 4, _ => exact ⟨ek_M_empties, rfl, rk_M_empties⟩
  | 5, _ => exact ⟨ek_M_copies, rfl, rk_M_copies⟩
  | 6, _ => exact ⟨ek_M_clear, rfl, rk_M_clear⟩
  | 7, _ => exact ⟨ek_M_cell, rfl, rk_M_cell⟩
  | 8, _ => exact ⟨ek_M_isEntry, rfl, rk_M_isEntry⟩
  | 9, _ => exact ⟨ek_M_entry, rfl, rk_M_entry⟩
  | n + 10, h => exact absurd h (by omega)
theorem ek_g6 : ∀ r, r < 10 → mm_mok (60 + r) := by
  intro r h
  match r, h with
  | 0, _ => exact ⟨ek_M_entryOf, rfl, rk_M_entryOf⟩
  | 1, _ => exact ⟨ek_M_entriesOf, rfl, rk_M_entriesOf⟩
  | 2, _ => exact ⟨ek_M_of, rfl, rk_M_of⟩
  | 3, _ => exact ⟨ek_M_brokenAt, rfl, rk_M_brokenAt⟩
  | 4, _ => exact ⟨ek_M_broken, rfl, rk_M_broken⟩
  | 5, _ => exact ⟨ek_M_mends, rfl, rk_M_mends⟩
  | 6, _ => exact ⟨ek_M_mend, rfl, rk_M_mend⟩
  | 7, _ => exact ⟨ek_M_would, rfl, rk_M_would⟩
  | 8, _ => exact ⟨ek_M_trials, rfl, rk_M_trials⟩
  | 9, _ => exact ⟨ek_M_isPrime, rfl, rk_M_isPrime⟩
  | n + 10, h => exact absurd h (by omega)
theorem ek_g7 : ∀ r, r < 10 → mm_mok (70 + r) := by
  intro r h
  match r, h with
  | 0, _ => exact ⟨ek_M_isBefore, rfl, rk_M_isBefore⟩
  | 1, _ => exact ⟨ek_M_findOrder, rfl, rk_M_findOrder⟩
  | 2, _ => exact ⟨ek_M_lastOf, rfl, rk_M_lastOf⟩
  | 3, _ => exact ⟨ek_M_inverse, rfl, rk_M_inverse⟩
  | 4, _ => exact ⟨ek_M_reduces, rfl, rk_M_reduces⟩
  | 5, _ => exact ⟨ek_M_isAsked, rfl, rk_M_isAsked⟩
  | 6, _ => exact ⟨ek_M_goes, rfl, rk_M_goes⟩
  | 7, _ => exact ⟨ek_M_reduced, rfl, rk_M_reduced⟩
  | 8, _ => exact ⟨ek_M_gap, rfl, rk_M_gap⟩
  | 9, _ => exact ⟨ek_M_counts, rfl, rk_M_counts⟩
  | n + 10, h => exact absurd h (by omega)
theorem ek_g8 : ∀ r, r < 10 → mm_mok (80 + r) := by
  intro r h
  match r, h with
  | 0, _ => exact ⟨ek_M_told, rfl, rk_M_told⟩
  | 1, _ => exact ⟨ek_M_page, rfl, rk_M_page⟩
  | 2, _ => exact ⟨ek_M_turns, rfl, rk_M_turns⟩
  | 3, _ => exact ⟨ek_M_stands, rfl, rk_M_stands⟩
  | 4, _ => exact ⟨ek_M_leftOf, rfl, rk_M_leftOf⟩
  | 5, _ => exact ⟨ek_M_left, rfl, rk_M_left⟩
  | 6, _ => exact ⟨ek_M_isAt, rfl, rk_M_isAt⟩
  | 7, _ => exact ⟨ek_M_cellsAt, rfl, rk_M_cellsAt⟩
  | 8, _ => exact ⟨ek_M_takesTable, rfl, rk_M_takesTable⟩
  | 9, _ => exact ⟨ek_M_size, rfl, rk_M_size⟩
  | n + 10, h => exact absurd h (by omega)
theorem ek_g9 : ∀ r, r < 10 → mm_mok (90 + r) := by
  intro r h
  match r, h with
  | 0, _ => exact ⟨ek_M_leastTo, rfl, rk_M_leastTo⟩
  | 1, _ => exact ⟨ek_M_lowers, rfl, rk_M_lowers⟩
  | 2, _ => exact ⟨ek_M_simplifies, rfl, rk_M_simplifies⟩
  | 3, _ => exact ⟨ek_M_wholeOf, rfl, rk_M_wholeOf⟩
  | 4, _ => exact ⟨ek_M_whole, rfl, rk_M_whole⟩
  | 5, _ => exact ⟨ek_M_wholeAt, rfl, rk_M_wholeAt⟩
  | 6, _ => exact ⟨ek_M_times, rfl, rk_M_times⟩
  | 7, _ => exact ⟨ek_M_part, rfl, rk_M_part⟩
  | 8, _ => exact ⟨ek_M_feed, rfl, rk_M_feed⟩
  | 9, _ => exact ⟨ek_M_here, rfl, rk_M_here⟩
  | n + 10, h => exact absurd h (by omega)
theorem ek_g10 : ∀ r, r < 10 → mm_mok (100 + r) := by
  intro r h
  match r, h with
  | 0, _ => exact ⟨ek_M_takes, rfl, rk_M_takes⟩
  | 1, _ => exact ⟨ek_M_readsNumber, rfl, rk_M_readsNumber⟩
  | 2, _ => exact ⟨ek_M_readsEntry, rfl, rk_M_readsEntry⟩
  | 3, _ => exact ⟨ek_M_readsCell, rfl, rk_M_readsCell⟩
  | 4, _ => exact ⟨ek_M_text, rfl, rk_M_text⟩
  | 5, _ => exact ⟨ek_M_isSheet, rfl, rk_M_isSheet⟩
  | 6, _ => exact ⟨ek_M_isOutside, rfl, rk_M_isOutside⟩
  | 7, _ => exact ⟨ek_M_cut, rfl, rk_M_cut⟩
  | 8, _ => exact ⟨ek_M_sheet, rfl, rk_M_sheet⟩
  | 9, _ => exact ⟨ek_M_put, rfl, rk_M_put⟩
  | n + 10, h => exact absurd h (by omega)
theorem ek_g11 : ∀ r, r < 10 → mm_mok (110 + r) := by
  intro r h
  match r, h with
  | 0, _ => exact ⟨ek_M_item, rfl, rk_M_item⟩
  | 1, _ => exact ⟨ek_M_copy, rfl, rk_M_copy⟩
  | 2, _ => exact ⟨ek_M_lacks, rfl, rk_M_lacks⟩
  | 3, _ => exact ⟨ek_M_lay, rfl, rk_M_lay⟩
  | 4, _ => exact ⟨ek_M_take, rfl, rk_M_take⟩
  | 5, _ => exact ⟨ek_M_cellsAll, rfl, rk_M_cellsAll⟩
  | 6, _ => exact ⟨ek_M_many, rfl, rk_M_many⟩
  | 7, _ => exact ⟨ek_M_moves, rfl, rk_M_moves⟩
  | 8, _ => exact ⟨ek_M_keep, rfl, rk_M_keep⟩
  | 9, _ => exact ⟨ek_M_again, rfl, rk_M_again⟩
  | n + 10, h => exact absurd h (by omega)
theorem ek_g12 : ∀ r, r < 10 → mm_mok (120 + r) := by
  intro r h
  match r, h with
  | 0, _ => exact ⟨ek_C_has, rfl, rk_C_has⟩
  | 1, _ => exact ⟨ek_C_degree, rfl, rk_C_degree⟩
  | 2, _ => exact ⟨ek_C_level, rfl, rk_C_level⟩
  | 3, _ => exact ⟨ek_C_edge, rfl, rk_C_edge⟩
  | 4, _ => exact ⟨ek_C_setEdge, rfl, rk_C_setEdge⟩
  | 5, _ => exact ⟨ek_C_mayHave, rfl, rk_C_mayHave⟩
  | 6, _ => exact ⟨ek_C_empty, rfl, rk_C_empty⟩
  | 7, _ => exact ⟨ek_C_add, rfl, rk_C_add⟩
  | 8, _ => exact ⟨ek_C_entriesIn, rfl, rk_C_entriesIn⟩
  | 9, _ => exact ⟨ek_C_edgesWith, rfl, rk_C_edgesWith⟩
  | n + 10, h => exact absurd h (by omega)
theorem ek_g13 : ∀ r, r < 10 → mm_mok (130 + r) := by
  intro r h
  match r, h with
  | 0, _ => exact ⟨ek_C_isBroken, rfl, rk_C_isBroken⟩
  | 1, _ => exact ⟨ek_C_firstBroken, rfl, rk_C_firstBroken⟩
  | 2, _ => exact ⟨ek_C_stillBroken, rfl, rk_C_stillBroken⟩
  | 3, _ => exact ⟨ek_C_edgeOfEdge, rfl, rk_C_edgeOfEdge⟩
  | 4, _ => exact ⟨ek_C_become, rfl, rk_C_become⟩
  | 5, _ => exact ⟨ek_C_canBeMultiplied, rfl, rk_C_canBeMultiplied⟩
  | 6, _ => exact ⟨ek_C_topDegree, rfl, rk_C_topDegree⟩
  | 7, _ => exact ⟨ek_C_topLevel, rfl, rk_C_topLevel⟩
  | 8, _ => exact ⟨ek_C_becomeProduct, rfl, rk_C_becomeProduct⟩
  | 9, _ => exact ⟨ek_C_setProductEdge, rfl, rk_C_setProductEdge⟩
  | n + 10, h => exact absurd h (by omega)
theorem ek_g14 : ∀ r, r < 10 → mm_mok (140 + r) := by
  intro r h
  match r, h with
  | 0, _ => exact ⟨ek_C_becomePart, rfl, rk_C_becomePart⟩
  | 1, _ => exact ⟨ek_C_setPartEdge, rfl, rk_C_setPartEdge⟩
  | 2, _ => exact ⟨ek_Re_read, rfl, rk_Re_read⟩
  | 3, _ => exact ⟨ek_Re_isAtEnd, rfl, rk_Re_isAtEnd⟩
  | 4, _ => exact ⟨ek_Re_skipBlanks, rfl, rk_Re_skipBlanks⟩
  | 5, _ => exact ⟨ek_Re_fails, rfl, rk_Re_fails⟩
  | 6, _ => exact ⟨ek_Re_passes, rfl, rk_Re_passes⟩
  | 7, _ => exact ⟨ek_Re_isAtDigit, rfl, rk_Re_isAtDigit⟩
  | 8, _ => exact ⟨ek_Re_readsNumber, rfl, rk_Re_readsNumber⟩
  | 9, _ => exact ⟨ek_Re_readsHead, rfl, rk_Re_readsHead⟩
  | n + 10, h => exact absurd h (by omega)
theorem ek_g15 : ∀ r, r < 10 → mm_mok (150 + r) := by
  intro r h
  match r, h with
  | 0, _ => exact ⟨ek_Re_readsEntries, rfl, rk_Re_readsEntries⟩
  | 1, _ => exact ⟨ek_Re_readsEntry, rfl, rk_Re_readsEntry⟩
  | 2, _ => exact ⟨ek_Rd_run, rfl, rk_Rd_run⟩
  | 3, _ => exact ⟨ek_Rd_putInOrder, rfl, rk_Rd_putInOrder⟩
  | 4, _ => exact ⟨ek_Rd_standsBefore, rfl, rk_Rd_standsBefore⟩
  | 5, _ => exact ⟨ek_Rd_reduce, rfl, rk_Rd_reduce⟩
  | 6, _ => exact ⟨ek_Rd_lastOf, rfl, rk_Rd_lastOf⟩
  | 7, _ => exact ⟨ek_Rd_takeAway, rfl, rk_Rd_takeAway⟩
  | 8, _ => exact ⟨ek_Rd_leaves, rfl, rk_Rd_leaves⟩
  | 9, _ => exact ⟨ek_Rd_remainder, rfl, rk_Rd_remainder⟩
  | n + 10, h => exact absurd h (by omega)
theorem ek_g16 : ∀ r, r < 10 → mm_mok (160 + r) := by
  intro r h
  match r, h with
  | 0, _ => exact ⟨ek_Rd_partner, rfl, rk_Rd_partner⟩
  | 1, _ => exact ⟨ek_Rd_gap, rfl, rk_Rd_gap⟩
  | 2, _ => exact ⟨ek_Rd_standsOn, rfl, rk_Rd_standsOn⟩
  | 3, _ => exact ⟨ek_Rd_turnsAt, rfl, rk_Rd_turnsAt⟩
  | 4, _ => exact ⟨ek_Sh_become, rfl, rk_Sh_become⟩
  | 5, _ => exact ⟨ek_Sh_isOutside, rfl, rk_Sh_isOutside⟩
  | 6, _ => exact ⟨ek_Sh_get, rfl, rk_Sh_get⟩
  | 7, _ => exact ⟨ek_Sh_set, rfl, rk_Sh_set⟩
  | 8, _ => exact ⟨ek_Sh_copyPlaces, rfl, rk_Sh_copyPlaces⟩
  | 9, _ => exact ⟨ek_Tp_add, rfl, rk_Tp_add⟩
  | n + 10, h => exact absurd h (by omega)
theorem ek_g17 : ∀ r, r < 10 → mm_mok (170 + r) := by
  intro r h
  match r, h with
  | 0, _ => exact ⟨ek_Tp_at, rfl, rk_Tp_at⟩
  | 1, _ => exact ⟨ek_Tr_startAnew, rfl, rk_Tr_startAnew⟩
  | 2, _ => exact ⟨ek_Tr_open, rfl, rk_Tr_open⟩
  | 3, _ => exact ⟨ek_Tr_close, rfl, rk_Tr_close⟩
  | 4, _ => exact ⟨ek_Wn_choose, rfl, rk_Wn_choose⟩
  | 5, _ => exact ⟨ek_Wn_free, rfl, rk_Wn_free⟩
  | 6, _ => exact ⟨ek_Wn_factor, rfl, rk_Wn_factor⟩
  | 7, _ => exact ⟨ek_Wn_quotient, rfl, rk_Wn_quotient⟩
  | 8, _ => exact ⟨ek_Wn_findDivisors, rfl, rk_Wn_findDivisors⟩
  | 9, _ => exact ⟨ek_Wn_gather, rfl, rk_Wn_gather⟩
  | n + 10, h => exact absurd h (by omega)
theorem ek_g18 : ∀ r, r < 10 → mm_mok (180 + r) := by
  intro r h
  match r, h with
  | 0, _ => exact ⟨ek_Wn_determinant, rfl, rk_Wn_determinant⟩
  | 1, _ => exact ⟨ek_Wn_greatestDivisor, rfl, rk_Wn_greatestDivisor⟩
  | 2, _ => exact ⟨ek_In_bitCount, rfl, rk_In_bitCount⟩
  | 3, _ => exact ⟨ek_In_compare, rfl, rk_In_compare⟩
  | 4, _ => exact ⟨ek_Ma_abs, rfl, rk_Ma_abs⟩
  | 5, _ => exact ⟨ek_Ma_floorMod, rfl, rk_Ma_floorMod⟩
  | 6, _ => exact ⟨ek_Ma_max, rfl, rk_Ma_max⟩
  | 7, _ => exact ⟨ek_Ma_min, rfl, rk_Ma_min⟩
  | 8, _ => exact ⟨ek_Ar_fill, rfl, rk_Ar_fill⟩
  | 9, _ => exact ⟨ek_Ar_fillL, rfl, rk_Ar_fillL⟩
  | n + 10, h => exact absurd h (by omega)
theorem mm_mok_all : ∀ m, m < 190 → mm_mok m := by
  intro m hm
  have e : m = 10 * (m / 10) + m % 10 := by omega
  have h1 : m / 10 < 19 := by omega
  have h2 : m % 10 < 10 := by omega
  rw [e]
  generalize m / 10 = q at h1 e ⊢
  generalize m % 10 = r at h2 e ⊢
  match q, h1 with
  | 0, _ => exact ek_g0 r (by omega)
  | 1, _ => exact ek_g1 r (by omega)
  | 2, _ => exact ek_g2 r (by omega)
  | 3, _ => exact ek_g3 r (by omega)
  | 4, _ => exact ek_g4 r (by omega)
  | 5, _ => exact ek_g5 r (by omega)
  | 6, _ => exact ek_g6 r (by omega)
  | 7, _ => exact ek_g7 r (by omega)
  | 8, _ => exact ek_g8 r (by omega)
  | 9, _ => exact ek_g9 r (by omega)
  | 10, _ => exact ek_g10 r (by omega)
  | 11, _ => exact ek_g11 r (by omega)
  | 12, _ => exact ek_g12 r (by omega)
  | 13, _ => exact ek_g13 r (by omega)
  | 14, _ => exact ek_g14 r (by omega)
  | 15, _ => exact ek_g15 r (by omega)
  | 16, _ => exact ek_g16 r (by omega)
  | 17, _ => exact ek_g17 r (by omega)
  | 18, _ => exact ek_g18 r (by omega)
  | n + 19, h => exact absurd h (by omega)
end
section
/-! The small machine's words in the real one's. -/
def mm_rl (σ : Nat → Nat) (v : mm_V) : Value := if v.1 = 0 then .int (Int32.ofInt v.2) else if v.1 = 1 then .long (Int64.ofInt v.2) else if v.2 < 0 then .null else .ref (σ v.2.toNat)
def mm_r32 (x : Int) : Prop := -2147483648 ≤ x ∧ x < 2147483648
def mm_r64 (x : Int) : Prop := -9223372036854775808 ≤ x ∧ x < 9223372036854775808
def mm_ir (v : mm_V) : Prop := (v.1 = 0 → mm_r32 v.2) ∧ (v.1 = 1 → mm_r64 v.2)
def mm_sok (S : mm_S) : Prop := ∀ a k : Int, ((mm_kd a.toNat).1 = 2 → mm_r64 (S a k)) ∧ ((mm_kd a.toNat).1 ≠ 2 → mm_r32 (S a k))
def mm_cellR (σ : Nat → Nat) (P : Nat → ClassId) (a : Nat) (R : Int → Int) : va_E :=
  if (mm_kd a).1 = 0 then .inr ((mm_kd a).2, (List.range (mm_nf (mm_kd a).2)).map fun k => mm_rl σ (mm_gw (mm_kd a).2 k a (R k) (mm_fk (mm_kd a).2 k)))
  else if (mm_kd a).1 = 2 then .inl (P 2, (mm_kd a).2, .inr (.inl fun j => Int64.ofInt (R j)))
  else if (mm_kd a).1 = 5 ∨ (mm_kd a).1 = 6 then .inl (P (mm_kd a).1, (mm_kd a).2, .inr (.inr (.inr (.inr fun j => some (σ (mm_ra a j).toNat)))))
  else .inl (P (mm_kd a).1, (mm_kd a).2, .inl fun j => Int32.ofInt (R j))
def mm_ws (σ : Nat → Nat) (P : Nat → ClassId) (S : mm_S) : va_W := (List.range 91).map fun a => (σ a, mm_cellR σ P a (S a))
def mm_tys (P : Nat → ClassId) : List (ClassId × FieldType) := [(P 1, .int), (P 2, .long), (P 3, .byte), (P 4, .boolean), (P 5, .object "PagesByLevels$Complex"), (P 6, .object "PagesByLevels$Sheet")]
def mm_nw (q : Nat × Nat × Nat × Nat) : Cond := .methodLinkNest (mm_cn q.1) q.2.1 (mm_hd q.2.2.1).1 "PagesByLevels"
theorem mm_w32_of (z : Int) : Int32.ofInt (mm_w32 z) = Int32.ofInt z := by
  apply Int32.toInt_inj.mp
  rw [Int32.toInt_ofInt, Int32.toInt_ofInt]
  exact Int.bmod_bmod
theorem mm_w64_of (z : Int) : Int64.ofInt (mm_w64 z) = Int64.ofInt z := by
  apply Int64.toInt_inj.mp
  rw [Int64.toInt_ofInt, Int64.toInt_ofInt]
  exact Int.bmod_bmod
theorem mm_w32_r (z : Int) : mm_r32 (mm_w32 z) := by
  unfold mm_w32 mm_r32
  rw [Int.bmod_def]
  split <;> omega
theorem mm_w64_r (z : Int) : mm_r64 (mm_w64 z) := by
  unfold mm_w64 mm_r64
  rw [Int.bmod_def]
  split <;> omega
theorem mm_toInt32 {x : Int} (h : mm_r32 x) : (Int32.ofInt x).toInt = x := Int32.toInt_ofInt_of_le (by have := h.1; omega) (by have := h.2; omega)
theorem mm_toInt64 {x : Int} (h : mm_r64 x) : (Int64.ofInt x).toInt = x := Int64.toInt_ofInt_of_le (by have := h.1; omega) (by have := h.2; omega)
theorem mm_i32_r (x : Int32) : mm_r32 x.toInt := ⟨by have := x.le_toInt; omega, by have := x.toInt_lt; omega⟩
theorem mm_i64_r (x : Int64) : mm_r64 x.toInt := ⟨by have := x.le_toInt; omega, by have := x.toInt_lt; omega⟩
theorem mm_eq32 {x y : Int} (hx : mm_r32 x) (hy : mm_r32 y) : Int32.ofInt x = Int32.ofInt y ↔ x = y := by rw [← Int32.toInt_inj, mm_toInt32 hx, mm_toInt32 hy]
theorem mm_lt32 {x y : Int} (hx : mm_r32 x) (hy : mm_r32 y) : Int32.ofInt x < Int32.ofInt y ↔ x < y := by rw [Int32.lt_iff_toInt_lt, mm_toInt32 hx, mm_toInt32 hy]
theorem mm_le32 {x y : Int} (hx : mm_r32 x) (hy : mm_r32 y) : Int32.ofInt x ≤ Int32.ofInt y ↔ x ≤ y := by rw [Int32.le_iff_toInt_le, mm_toInt32 hx, mm_toInt32 hy]
theorem mm_r32_0 : mm_r32 0 := by unfold mm_r32; omega
theorem mm_kd_lt {a : Nat} (h : (mm_kd a).1 < 99) : a < 91 := by
  rcases Nat.lt_or_ge a 91 with q | q
  · exact q
  · exfalso
    have e : mm_kd a = (99, 0) := by
      unfold mm_kd
      rw [List.getD_eq_getElem?_getD, List.getElem?_eq_none (by show mm_lay.length ≤ a; exact Nat.le_trans (by decide +kernel) q)]
      rfl
    rw [e] at h
    exact absurd h (by decide)
theorem mm_ws_get {σ : Nat → Nat} {P : Nat → ClassId} {S : mm_S} {a : Nat} (h : a < 91) : (mm_ws σ P S)[a]? = some (σ a, mm_cellR σ P a (S a)) := by
  unfold mm_ws
  rw [List.getElem?_map, List.getElem?_range h]
  rfl
theorem mm_ws_set {σ : Nat → Nat} {P : Nat → ClassId} {S S' : mm_S} {a : Nat} {c : va_E} (h : a < 91) (hc : mm_cellR σ P a (S' a) = c) (ho : ∀ b : Nat, b ≠ a → mm_cellR σ P b (S' b) = mm_cellR σ P b (S b)) : (mm_ws σ P S).set a (σ a, c) = mm_ws σ P S' := by
  apply List.ext_getElem?
  intro j
  by_cases hj : j = a
  · subst hj
    rw [List.getElem?_set_self (by show j < (mm_ws σ P S).length; unfold mm_ws; rw [List.length_map, List.length_range]; exact h), mm_ws_get h, hc]
  · rw [List.getElem?_set_ne (Ne.symm hj)]
    by_cases hl : j < 91
    · rw [mm_ws_get hl, mm_ws_get hl, ho j hj]
    · have h1 : ∀ S0 : mm_S, (mm_ws σ P S0)[j]? = none := fun S0 => List.getElem?_eq_none (by unfold mm_ws; rw [List.length_map, List.length_range]; omega)
      rw [h1, h1]
/-- the addresses are apart -/
def mm_ap (B0 : Nat) (σ : Nat → Nat) : Prop := (∀ i j, i < 91 → j < 91 → σ i = σ j → i = j) ∧ ∀ i, i < 91 → B0 ≤ σ i
theorem mm_ws_at {σ : Nat → Nat} {P : Nat → ClassId} {S : mm_S} {k : Nat} {q : Nat × va_E} (h : (mm_ws σ P S)[k]? = some q) : k < 91 ∧ q = (σ k, mm_cellR σ P k (S k)) := by
  have hl : k < 91 := by
    have := (List.getElem?_eq_some_iff.mp h).1
    unfold mm_ws at this
    rwa [List.length_map, List.length_range] at this
  rw [mm_ws_get hl] at h
  exact ⟨hl, (Option.some.inj h).symm⟩
theorem mm_ws_D {σ : Nat → Nat} {P : Nat → ClassId} {S : mm_S} {B0 : Nat} (h : mm_ap B0 σ) : va_D (fun q => B0 ≤ q) (mm_ws σ P S) := by
  refine ⟨fun i j p q hi hj e => ?_, fun k q hk => ?_⟩
  · obtain ⟨h1, rfl⟩ := mm_ws_at hi
    obtain ⟨h2, rfl⟩ := mm_ws_at hj
    exact h.1 i j h1 h2 e
  · obtain ⟨h1, rfl⟩ := mm_ws_at hk
    exact h.2 k h1
theorem mm_b2_inv {st : List mm_V} {t1 t2 : Nat} {x y : Int} {r : List mm_V} (h : mm_b2 st t1 t2 = some (x, y, r)) : st = (t2, y) :: (t1, x) :: r := by
  unfold mm_b2 at h
  split at h
  · split at h
    · rename_i h1
      cases h
      rw [← h1.1, ← h1.2]
    · cases h
  · cases h
theorem mm_b1_inv {st : List mm_V} {t : Nat} {x : Int} {r : List mm_V} (h : mm_b1 st t = some (x, r)) : st = (t, x) :: r := by
  unfold mm_b1 at h
  split at h
  · split at h
    · rename_i h1
      cases h
      rw [← h1]
    · cases h
  · cases h
theorem mm_bin_inv {pc : Nat} {st : List mm_V} {S : mm_S} {t1 t2 t : Nat} {f : Int → Int → Int} {pc' : Nat} {st' : List mm_V} {S' : mm_S} (h : mm_bin pc st S t1 t2 t f = some (pc', st', S')) : ∃ x y r, st = (t2, y) :: (t1, x) :: r ∧ pc' = pc ∧ st' = (t, f x y) :: r ∧ S' = S := by
  unfold mm_bin at h
  split at h
  · rename_i x y r h1
    cases h
    exact ⟨x, y, r, mm_b2_inv h1, rfl, rfl, rfl⟩
  · cases h
theorem mm_dv_inv {pc : Nat} {st : List mm_V} {S : mm_S} {t : Nat} {f : Int → Int → Int} {pc' : Nat} {st' : List mm_V} {S' : mm_S} (h : mm_dv pc st S t f = some (pc', st', S')) : ∃ x y r, st = (t, y) :: (t, x) :: r ∧ y ≠ 0 ∧ pc' = pc ∧ st' = (t, f x y) :: r ∧ S' = S := by
  unfold mm_dv at h
  split at h
  · rename_i x y r h1
    split at h
    · cases h
    · rename_i h2
      cases h
      exact ⟨x, y, r, mm_b2_inv h1, h2, rfl, rfl, rfl⟩
  · cases h
theorem mm_un_inv {pc : Nat} {st : List mm_V} {S : mm_S} {t1 t : Nat} {f : Int → Int} {pc' : Nat} {st' : List mm_V} {S' : mm_S} (h : mm_un pc st S t1 t f = some (pc', st', S')) : ∃ x r, st = (t1, x) :: r ∧ pc' = pc ∧ st' = (t, f x) :: r ∧ S' = S := by
  unfold mm_un at h
  split at h
  · rename_i x r h1
    cases h
    exact ⟨x, r, mm_b1_inv h1, rfl, rfl, rfl⟩
  · cases h
theorem mm_br1_inv {pc nx : Nat} {off : Int} {st : List mm_V} {S : mm_S} {t : Nat} {f : Int → Bool} {pc' : Nat} {st' : List mm_V} {S' : mm_S} (h : mm_br1 pc nx off st S t f = some (pc', st', S')) : ∃ x, st = (t, x) :: st' ∧ pc' = (if f x then ((pc : Int) + off).toNat else nx) ∧ S' = S := by
  unfold mm_br1 at h
  split at h
  · rename_i x r h1
    cases h
    exact ⟨x, mm_b1_inv h1, rfl, rfl⟩
  · cases h
theorem mm_br2_inv {pc nx : Nat} {off : Int} {st : List mm_V} {S : mm_S} {f : Int → Int → Bool} {pc' : Nat} {st' : List mm_V} {S' : mm_S} (h : mm_br2 pc nx off st S f = some (pc', st', S')) : ∃ x y, st = (0, y) :: (0, x) :: st' ∧ pc' = (if f x y then ((pc : Int) + off).toNat else nx) ∧ S' = S := by
  unfold mm_br2 at h
  split at h
  · rename_i x y r h1
    cases h
    exact ⟨x, y, mm_b2_inv h1, rfl, rfl⟩
  · cases h
theorem mm_el_inv {a i : Int} {ks : List Nat} (h : mm_el a i ks = true) : 0 ≤ a ∧ (mm_kd a.toNat).1 ∈ ks ∧ 0 ≤ i ∧ i < ((mm_kd a.toNat).2 : Int) := of_decide_eq_true h
theorem mm_ald_inv {pc : Nat} {st : List mm_V} {S : mm_S} {ks : List Nat} {f : Int → Int → mm_V} {pc' : Nat} {st' : List mm_V} {S' : mm_S} (h : mm_ald pc st S ks f = some (pc', st', S')) : ∃ a i r, st = (0, i) :: (2, a) :: r ∧ (0 ≤ a ∧ (mm_kd a.toNat).1 ∈ ks ∧ 0 ≤ i ∧ i < ((mm_kd a.toNat).2 : Int)) ∧ pc' = pc ∧ st' = f a i :: r ∧ S' = S := by
  unfold mm_ald at h
  split at h
  · rename_i a i r h1
    split at h
    · rename_i h2
      cases h
      exact ⟨a, i, r, mm_b2_inv h1, mm_el_inv h2, rfl, rfl, rfl⟩
    · cases h
  · cases h
theorem mm_ast_inv {pc : Nat} {st : List mm_V} {S : mm_S} {ks : List Nat} {t : Nat} {g : Nat → Int → Bool} {pc' : Nat} {st' : List mm_V} {S' : mm_S} (h : mm_ast pc st S ks t g = some (pc', st', S')) : ∃ a i x, st = (t, x) :: (0, i) :: (2, a) :: st' ∧ (0 ≤ a ∧ (mm_kd a.toNat).1 ∈ ks ∧ 0 ≤ i ∧ i < ((mm_kd a.toNat).2 : Int)) ∧ g (mm_kd a.toNat).1 x = true ∧ pc' = pc ∧ S' = mm_up S a i x := by
  unfold mm_ast at h
  split at h
  · rename_i x r h1
    split at h
    · rename_i a i q h2
      split at h
      · rename_i h3
        cases h
        rw [Bool.and_eq_true] at h3
        exact ⟨a, i, x, by rw [mm_b1_inv h1, mm_b2_inv h2], mm_el_inv h3.1, h3.2, rfl, rfl⟩
      · cases h
    · cases h
  · cases h
theorem mm_up_ne {S : mm_S} {a k x : Int} {b : Int} (h : b ≠ a) : mm_up S a k x b = S b := by
  funext j
  show (if b = a ∧ j = k then x else S b j) = S b j
  rw [if_neg (fun q => h q.1)]
theorem mm_up_at (S : mm_S) (a k x j : Int) : mm_up S a k x a j = if j = k then x else S a j := by
  show (if a = a ∧ j = k then x else S a j) = _
  by_cases h : j = k
  · rw [if_pos ⟨rfl, h⟩, if_pos h]
  · rw [if_neg (fun q => h q.2), if_neg h]
theorem mm_sok_up {S : mm_S} (h : mm_sok S) {a k x : Int} (hx : ((mm_kd a.toNat).1 = 2 → mm_r64 x) ∧ ((mm_kd a.toNat).1 ≠ 2 → mm_r32 x)) : mm_sok (mm_up S a k x) := by
  intro b j
  show _ ∧ _
  unfold mm_up
  by_cases e : b = a ∧ j = k
  · rw [if_pos e, e.1]; exact hx
  · rw [if_neg e]; exact h b j
end
section
def mm_Cx (p : Program) (s : State) (m : MethodId) (args : Array Value) (own : Nat) (σ : Nat → Nat) (P : Nat → ClassId) (dC : Nat → ClassId) (dI : Nat → Nat → Nat) (B0 : Nat) : Prop :=
  p.tables.exec = Jvm.exec ∧ s.vm.findClass (mm_cn own) = some m.cls ∧ (∀ w ∈ wA, w.before args s = true) ∧ va_K (dC, dI) mm_cl (mm_tys P) s ∧ (∀ q ∈ mm_ln, va_Nw (mm_nw q) s) ∧ mm_ap B0 σ
theorem mm_cat (σ : Nat → Nat) (v : mm_V) : (mm_rl σ v).category = if v.1 = 1 then 2 else 1 := by
  unfold mm_rl
  by_cases h0 : v.1 = 0
  · rw [if_pos h0, if_neg (by omega)]; rfl
  · rw [if_neg h0]
    by_cases h1 : v.1 = 1
    · rw [if_pos h1, if_pos h1]; rfl
    · rw [if_neg h1, if_neg h1]
      split <;> rfl
theorem mm_cat1 {σ : Nat → Nat} {v : mm_V} (h : ¬ v.1 = 1) : (mm_rl σ v).category = 1 := by rw [mm_cat, if_neg h]
theorem mm_cat_sum (σ : Nat → Nat) : ∀ st : List mm_V, ((st.map (mm_rl σ)).map fun v => v.category).sum = mm_cs st
  | [] => rfl
  | v :: r => by
    show (mm_rl σ v).category + ((r.map (mm_rl σ)).map fun v => v.category).sum = _
    rw [mm_cat_sum σ r, mm_cat]
    rfl
theorem mm_byte {n : Int} (h : -128 ≤ n ∧ n < 128) : (Int8.ofInt n).toInt32 = Int32.ofInt n := by
  apply Int32.toInt_inj.mp
  rw [Int8.toInt_toInt32, Int8.toInt_ofInt_of_le (by omega) (by omega), mm_toInt32 ⟨by omega, by omega⟩]
theorem mm_short {n : Int} (h : -32768 ≤ n ∧ n < 32768) : (Int16.ofInt n).toInt32 = Int32.ofInt n := by
  apply Int32.toInt_inj.mp
  rw [Int16.toInt_toInt32, Int16.toInt_ofInt_of_le (by omega) (by omega), mm_toInt32 ⟨by omega, by omega⟩]
theorem mm_div32 {x y : Int} (hx : mm_r32 x) (hy : mm_r32 y) : Int32.ofInt x / Int32.ofInt y = Int32.ofInt (mm_w32 (Int.tdiv x y)) := by
  apply Int32.toInt_inj.mp
  rw [Int32.toInt_div, mm_toInt32 hx, mm_toInt32 hy, mm_toInt32 (mm_w32_r _)]
  rfl
theorem mm_div64 {x y : Int} (hx : mm_r64 x) (hy : mm_r64 y) : Int64.ofInt x / Int64.ofInt y = Int64.ofInt (mm_w64 (Int.tdiv x y)) := by
  apply Int64.toInt_inj.mp
  rw [Int64.toInt_div, mm_toInt64 hx, mm_toInt64 hy, mm_toInt64 (mm_w64_r _)]
  rfl
theorem mm_mod32 {x y : Int} (hx : mm_r32 x) (hy : mm_r32 y) : Int32.ofInt x - Int32.ofInt x / Int32.ofInt y * Int32.ofInt y = Int32.ofInt (Int.tmod x y) := by
  rw [mm_div32 hx hy, mm_w32_of, ← Int32.ofInt_mul, ← Int32.ofInt_sub]
  congr 1
  have := Int.mul_tdiv_add_tmod x y
  rw [Int.mul_comm] at this
  omega
theorem mm_mod64 {x y : Int} (hx : mm_r64 x) (hy : mm_r64 y) : Int64.ofInt x - Int64.ofInt x / Int64.ofInt y * Int64.ofInt y = Int64.ofInt (Int.tmod x y) := by
  rw [mm_div64 hx hy, mm_w64_of, ← Int64.ofInt_mul, ← Int64.ofInt_sub]
  congr 1
  have := Int.mul_tdiv_add_tmod x y
  rw [Int.mul_comm] at this
  omega
theorem mm_i2l {x : Int} (h : mm_r32 x) : (Int32.ofInt x).toInt64 = Int64.ofInt x := by
  apply Int64.toInt_inj.mp
  rw [Int32.toInt_toInt64, mm_toInt32 h, mm_toInt64 ⟨by have := h.1; omega, by have := h.2; omega⟩]
theorem mm_l2i {x : Int} (h : mm_r64 x) : (Int64.ofInt x).toInt32 = Int32.ofInt (mm_w32 x) := by
  apply Int32.toInt_inj.mp
  rw [Int64.toInt_toInt32, mm_toInt64 h, mm_toInt32 (mm_w32_r _)]
  rfl
theorem mm_i2b {x : Int} (h : mm_r32 x) : (Int32.ofInt x).toInt8.toInt32 = Int32.ofInt (Int.bmod x 256) := by
  apply Int32.toInt_inj.mp
  rw [Int8.toInt_toInt32, Int32.toInt_toInt8, mm_toInt32 h, mm_toInt32 ⟨by rw [Int.bmod_def]; split <;> omega, by rw [Int.bmod_def]; split <;> omega⟩]
theorem mm_lcc {x y : Int} (hx : mm_r64 x) (hy : mm_r64 y) : lg_cmp (Int64.ofInt x) (Int64.ofInt y) = Int32.ofInt (if y < x then 1 else if x = y then 0 else -1) := by
  have e1 : Int64.ofInt x > Int64.ofInt y ↔ y < x := by rw [gt_iff_lt, Int64.lt_iff_toInt_lt, mm_toInt64 hx, mm_toInt64 hy]
  have e2 : Int64.ofInt x = Int64.ofInt y ↔ x = y := by rw [← Int64.toInt_inj, mm_toInt64 hx, mm_toInt64 hy]
  unfold lg_cmp
  by_cases h1 : y < x
  · rw [if_pos (e1.mpr h1), if_pos h1]; rfl
  · rw [if_neg (fun q => h1 (e1.mp q)), if_neg h1]
    by_cases h2 : x = y
    · rw [if_pos (e2.mpr h2), if_pos h2]; rfl
    · rw [if_neg (fun q => h2 (e2.mp q)), if_neg h2]; rfl
theorem mm_nn {i : Int} {n : Nat} (hi : mm_r32 i) (h0 : 0 ≤ i) (h1 : i < (n : Int)) : vp_in (Int32.ofInt i) n ∧ (Int32.ofInt i).toNatClampNeg = i.toNat := by
  have e : (Int32.ofInt i).toNatClampNeg = i.toNat := Int32.toNatClampNeg_ofInt_of_le (by have := hi.1; omega) (by have := hi.2; omega)
  refine ⟨?_, e⟩
  unfold vp_in
  rw [e]
  intro h
  rcases h with h | h
  · have h2 := (mm_lt32 hi mm_r32_0).mp h
    omega
  · omega

section OPS
variable {p : Program} {l : Launch} {e : Env} {R : Room} {s : State} {m : MethodId} {args : Array Value} {below : List Frame} {meth : Method} {c : Code} {H H0 : Heap} {locs : List Loc} {cells slots : Nat} {Q : State → Prop} {cc : ByteArray} {ls : Array Slot} {σ : Nat → Nat} {P : Nat → ClassId} {dC : Nat → ClassId} {dI : Nat → Nat → Nat} {B0 own : Nat}
abbrev mm_KK (p : Program) (l : Launch) (e : Env) (R : Room) (s : State) (m : MethodId) (args : Array Value) (below : List Frame) (meth : Method) (c : Code) (H0 : Heap) (cells slots : Nat) (Q : State → Prop) (ls : Array Slot) (σ : Nat → Nat) (P : Nat → ClassId) (dC : Nat → ClassId) (dI : Nat → Nat → Nat) (B0 : Nat) (pc' : Nat) (st' : List mm_V) (S' : mm_S) : Prop :=
  ∀ (H1 : Heap) (locs1 : List Loc), va_P (dC, dI) mm_cl (mm_ws σ P S') H1 → va_S (fun q => B0 ≤ q) H0 H1 locs1 → W p l e R s m args below meth c H1 locs1 cells slots Q (F0 m pc' ls (st'.map (mm_rl σ)))
theorem mm_s_aconst_null (C : mm_Cx p s m args own σ P dC dI B0) (hb : c.code = cc) {pc len r1 r2 : Nat} {r3 : Int} {st st' : List mm_V} {S S' : mm_S} {pc' fr lo : Nat} (hd : decode cc pc = .ok (.aconst_null, len)) (hlen : len = 1) (hok : mm_iok own fr lo (pc, .aconst_null, len, r1, r2, r3) = true) (ho : mm_op pc .aconst_null (pc + len) r1 r2 r3 st S = some (pc', st', S')) (hir : ∀ v ∈ st, mm_ir v) (hsok : mm_sok S) (hP : va_P (dC, dI) mm_cl (mm_ws σ P S) H) (hS : va_S (fun q => B0 ≤ q) H0 H locs) (kk : mm_KK p l e R s m args below meth c H0 cells slots Q ls σ P dC dI B0 pc' st' S') : W p l e R s m args below meth c H locs cells slots Q (F0 m pc ls (st.map (mm_rl σ))) := by
  obtain ⟨hx, hown, hts, hK, hN, hap⟩ := C
  cases ho; subst hlen
  exact lv_null hx hb hd (kk H locs hP hS)
theorem mm_s_iconst {n : Int} (C : mm_Cx p s m args own σ P dC dI B0) (hb : c.code = cc) {pc len r1 r2 : Nat} {r3 : Int} {st st' : List mm_V} {S S' : mm_S} {pc' fr lo : Nat} (hd : decode cc pc = .ok ((.iconst n), len)) (hlen : len = 1) (hok : mm_iok own fr lo (pc, (.iconst n), len, r1, r2, r3) = true) (ho : mm_op pc (.iconst n) (pc + len) r1 r2 r3 st S = some (pc', st', S')) (hir : ∀ v ∈ st, mm_ir v) (hsok : mm_sok S) (hP : va_P (dC, dI) mm_cl (mm_ws σ P S) H) (hS : va_S (fun q => B0 ≤ q) H0 H locs) (kk : mm_KK p l e R s m args below meth c H0 cells slots Q ls σ P dC dI B0 pc' st' S') : W p l e R s m args below meth c H locs cells slots Q (F0 m pc ls (st.map (mm_rl σ))) := by
  obtain ⟨hx, hown, hts, hK, hN, hap⟩ := C
  cases ho; subst hlen
  exact lv_iconst hx hb hd rfl (kk H locs hP hS)
theorem mm_s_bipush {n : Int} (C : mm_Cx p s m args own σ P dC dI B0) (hb : c.code = cc) {pc len r1 r2 : Nat} {r3 : Int} {st st' : List mm_V} {S S' : mm_S} {pc' fr lo : Nat} (hd : decode cc pc = .ok ((.bipush n), len)) (hlen : len = 2) (hok : mm_iok own fr lo (pc, (.bipush n), len, r1, r2, r3) = true) (ho : mm_op pc (.bipush n) (pc + len) r1 r2 r3 st S = some (pc', st', S')) (hir : ∀ v ∈ st, mm_ir v) (hsok : mm_sok S) (hP : va_P (dC, dI) mm_cl (mm_ws σ P S) H) (hS : va_S (fun q => B0 ≤ q) H0 H locs) (kk : mm_KK p l e R s m args below meth c H0 cells slots Q ls σ P dC dI B0 pc' st' S') : W p l e R s m args below meth c H locs cells slots Q (F0 m pc ls (st.map (mm_rl σ))) := by
  obtain ⟨hx, hown, hts, hK, hN, hap⟩ := C
  cases ho; subst hlen
  exact lv_bipush hx hb hd (mm_byte (of_decide_eq_true hok)) (kk H locs hP hS)
theorem mm_s_sipush {n : Int} (C : mm_Cx p s m args own σ P dC dI B0) (hb : c.code = cc) {pc len r1 r2 : Nat} {r3 : Int} {st st' : List mm_V} {S S' : mm_S} {pc' fr lo : Nat} (hd : decode cc pc = .ok ((.sipush n), len)) (hlen : len = 3) (hok : mm_iok own fr lo (pc, (.sipush n), len, r1, r2, r3) = true) (ho : mm_op pc (.sipush n) (pc + len) r1 r2 r3 st S = some (pc', st', S')) (hir : ∀ v ∈ st, mm_ir v) (hsok : mm_sok S) (hP : va_P (dC, dI) mm_cl (mm_ws σ P S) H) (hS : va_S (fun q => B0 ≤ q) H0 H locs) (kk : mm_KK p l e R s m args below meth c H0 cells slots Q ls σ P dC dI B0 pc' st' S') : W p l e R s m args below meth c H locs cells slots Q (F0 m pc ls (st.map (mm_rl σ))) := by
  obtain ⟨hx, hown, hts, hK, hN, hap⟩ := C
  cases ho; subst hlen
  exact lv_sipush hx hb hd (mm_short (of_decide_eq_true hok)) (kk H locs hP hS)
theorem mm_s_lconst {n : Fin 2} (C : mm_Cx p s m args own σ P dC dI B0) (hb : c.code = cc) {pc len r1 r2 : Nat} {r3 : Int} {st st' : List mm_V} {S S' : mm_S} {pc' fr lo : Nat} (hd : decode cc pc = .ok ((.lconst n), len)) (hlen : len = 1) (hok : mm_iok own fr lo (pc, (.lconst n), len, r1, r2, r3) = true) (ho : mm_op pc (.lconst n) (pc + len) r1 r2 r3 st S = some (pc', st', S')) (hir : ∀ v ∈ st, mm_ir v) (hsok : mm_sok S) (hP : va_P (dC, dI) mm_cl (mm_ws σ P S) H) (hS : va_S (fun q => B0 ≤ q) H0 H locs) (kk : mm_KK p l e R s m args below meth c H0 cells slots Q ls σ P dC dI B0 pc' st' S') : W p l e R s m args below meth c H locs cells slots Q (F0 m pc ls (st.map (mm_rl σ))) := by
  obtain ⟨hx, hown, hts, hK, hN, hap⟩ := C
  cases ho; subst hlen
  exact lv_lconst hx hb hd (Int64.ofInt_eq_ofNat (n := (n : Nat))).symm (kk H locs hP hS)
theorem mm_s_ldc {n : Nat} (C : mm_Cx p s m args own σ P dC dI B0) (hb : c.code = cc) {pc len r1 r2 : Nat} {r3 : Int} {st st' : List mm_V} {S S' : mm_S} {pc' fr lo : Nat} (hd : decode cc pc = .ok ((.ldc n), len)) (hlen : len = 2) (hok : mm_iok own fr lo (pc, (.ldc n), len, r1, r2, r3) = true) (ho : mm_op pc (.ldc n) (pc + len) r1 r2 r3 st S = some (pc', st', S')) (hir : ∀ v ∈ st, mm_ir v) (hsok : mm_sok S) (hP : va_P (dC, dI) mm_cl (mm_ws σ P S) H) (hS : va_S (fun q => B0 ≤ q) H0 H locs) (kk : mm_KK p l e R s m args below meth c H0 cells slots Q ls σ P dC dI B0 pc' st' S') : W p l e R s m args below meth c H locs cells slots Q (F0 m pc ls (st.map (mm_rl σ))) := by
  obtain ⟨hx, hown, hts, hK, hN, hap⟩ := C
  cases ho; subst hlen
  obtain ⟨q, hq, h⟩ := List.any_eq_true.mp hok
  have h := of_decide_eq_true h
  have hw := (mm_lc_ok q hq).1
  rw [h.1, h.2.1, h.2.2] at hw
  exact lv_ldc hx hb hown (hts _ hw) hd (kk H locs hP hS)
theorem mm_s_ldc_w {n : Nat} (C : mm_Cx p s m args own σ P dC dI B0) (hb : c.code = cc) {pc len r1 r2 : Nat} {r3 : Int} {st st' : List mm_V} {S S' : mm_S} {pc' fr lo : Nat} (hd : decode cc pc = .ok ((.ldc_w n), len)) (hlen : len = 3) (hok : mm_iok own fr lo (pc, (.ldc_w n), len, r1, r2, r3) = true) (ho : mm_op pc (.ldc_w n) (pc + len) r1 r2 r3 st S = some (pc', st', S')) (hir : ∀ v ∈ st, mm_ir v) (hsok : mm_sok S) (hP : va_P (dC, dI) mm_cl (mm_ws σ P S) H) (hS : va_S (fun q => B0 ≤ q) H0 H locs) (kk : mm_KK p l e R s m args below meth c H0 cells slots Q ls σ P dC dI B0 pc' st' S') : W p l e R s m args below meth c H locs cells slots Q (F0 m pc ls (st.map (mm_rl σ))) := by
  obtain ⟨hx, hown, hts, hK, hN, hap⟩ := C
  cases ho; subst hlen
  obtain ⟨q, hq, h⟩ := List.any_eq_true.mp hok
  have h := of_decide_eq_true h
  have hw := (mm_lc_ok q hq).1
  rw [h.1, h.2.1, h.2.2] at hw
  exact lv_ldcw hx hb hown (hts _ hw) hd (kk H locs hP hS)
theorem mm_s_ldc2_w {n : Nat} (C : mm_Cx p s m args own σ P dC dI B0) (hb : c.code = cc) {pc len r1 r2 : Nat} {r3 : Int} {st st' : List mm_V} {S S' : mm_S} {pc' fr lo : Nat} (hd : decode cc pc = .ok ((.ldc2_w n), len)) (hlen : len = 3) (hok : mm_iok own fr lo (pc, (.ldc2_w n), len, r1, r2, r3) = true) (ho : mm_op pc (.ldc2_w n) (pc + len) r1 r2 r3 st S = some (pc', st', S')) (hir : ∀ v ∈ st, mm_ir v) (hsok : mm_sok S) (hP : va_P (dC, dI) mm_cl (mm_ws σ P S) H) (hS : va_S (fun q => B0 ≤ q) H0 H locs) (kk : mm_KK p l e R s m args below meth c H0 cells slots Q ls σ P dC dI B0 pc' st' S') : W p l e R s m args below meth c H locs cells slots Q (F0 m pc ls (st.map (mm_rl σ))) := by
  obtain ⟨hx, hown, hts, hK, hN, hap⟩ := C
  cases ho; subst hlen
  obtain ⟨q, hq, h⟩ := List.any_eq_true.mp hok
  have h := of_decide_eq_true h
  have hw := (mm_ll_ok q hq).1
  rw [h.1, h.2.1, h.2.2] at hw
  exact lv_ldc2 hx hb hown (hts _ hw) hd (kk H locs hP hS)
theorem mm_s_dup (C : mm_Cx p s m args own σ P dC dI B0) (hb : c.code = cc) {pc len r1 r2 : Nat} {r3 : Int} {st st' : List mm_V} {S S' : mm_S} {pc' fr lo : Nat} (hd : decode cc pc = .ok (.dup, len)) (hlen : len = 1) (hok : mm_iok own fr lo (pc, .dup, len, r1, r2, r3) = true) (ho : mm_op pc .dup (pc + len) r1 r2 r3 st S = some (pc', st', S')) (hir : ∀ v ∈ st, mm_ir v) (hsok : mm_sok S) (hP : va_P (dC, dI) mm_cl (mm_ws σ P S) H) (hS : va_S (fun q => B0 ≤ q) H0 H locs) (kk : mm_KK p l e R s m args below meth c H0 cells slots Q ls σ P dC dI B0 pc' st' S') : W p l e R s m args below meth c H locs cells slots Q (F0 m pc ls (st.map (mm_rl σ))) := by
  obtain ⟨hx, hown, hts, hK, hN, hap⟩ := C
  subst hlen
  match st, ho with
  | v :: t, ho =>
    replace ho : (if v.1 = 1 then none else some (pc + 1, v :: v :: t, S)) = some (pc', st', S') := ho
    split at ho
    · cases ho
    · rename_i h
      cases ho
      exact lv_dup hx hb hd (mm_cat1 h) (kk H locs hP hS)
theorem mm_s_pop (C : mm_Cx p s m args own σ P dC dI B0) (hb : c.code = cc) {pc len r1 r2 : Nat} {r3 : Int} {st st' : List mm_V} {S S' : mm_S} {pc' fr lo : Nat} (hd : decode cc pc = .ok (.pop, len)) (hlen : len = 1) (hok : mm_iok own fr lo (pc, .pop, len, r1, r2, r3) = true) (ho : mm_op pc .pop (pc + len) r1 r2 r3 st S = some (pc', st', S')) (hir : ∀ v ∈ st, mm_ir v) (hsok : mm_sok S) (hP : va_P (dC, dI) mm_cl (mm_ws σ P S) H) (hS : va_S (fun q => B0 ≤ q) H0 H locs) (kk : mm_KK p l e R s m args below meth c H0 cells slots Q ls σ P dC dI B0 pc' st' S') : W p l e R s m args below meth c H locs cells slots Q (F0 m pc ls (st.map (mm_rl σ))) := by
  obtain ⟨hx, hown, hts, hK, hN, hap⟩ := C
  subst hlen
  match st, ho with
  | v :: t, ho =>
    replace ho : (if v.1 = 1 then none else some (pc + 1, t, S)) = some (pc', st', S') := ho
    split at ho
    · cases ho
    · rename_i h
      cases ho
      exact lv_pop hx hb hd (mm_cat1 h) (kk H locs hP hS)
theorem mm_s_dup2 (C : mm_Cx p s m args own σ P dC dI B0) (hb : c.code = cc) {pc len r1 r2 : Nat} {r3 : Int} {st st' : List mm_V} {S S' : mm_S} {pc' fr lo : Nat} (hd : decode cc pc = .ok (.dup2, len)) (hlen : len = 1) (hok : mm_iok own fr lo (pc, .dup2, len, r1, r2, r3) = true) (ho : mm_op pc .dup2 (pc + len) r1 r2 r3 st S = some (pc', st', S')) (hir : ∀ v ∈ st, mm_ir v) (hsok : mm_sok S) (hP : va_P (dC, dI) mm_cl (mm_ws σ P S) H) (hS : va_S (fun q => B0 ≤ q) H0 H locs) (kk : mm_KK p l e R s m args below meth c H0 cells slots Q ls σ P dC dI B0 pc' st' S') : W p l e R s m args below meth c H locs cells slots Q (F0 m pc ls (st.map (mm_rl σ))) := by
  obtain ⟨hx, hown, hts, hK, hN, hap⟩ := C
  subst hlen
  match st, ho with
  | v :: w :: t, ho =>
    replace ho : (if v.1 = 1 ∨ w.1 = 1 then none else some (pc + 1, v :: w :: v :: w :: t, S)) = some (pc', st', S') := ho
    split at ho
    · cases ho
    · rename_i h
      cases ho
      exact lv_dup2_11 hx hb hd (mm_cat1 (fun q => h (Or.inl q))) (mm_cat1 (fun q => h (Or.inr q))) (kk H locs hP hS)
theorem mm_s_iadd (C : mm_Cx p s m args own σ P dC dI B0) (hb : c.code = cc) {pc len r1 r2 : Nat} {r3 : Int} {st st' : List mm_V} {S S' : mm_S} {pc' fr lo : Nat} (hd : decode cc pc = .ok (.iadd, len)) (hlen : len = 1) (hok : mm_iok own fr lo (pc, .iadd, len, r1, r2, r3) = true) (ho : mm_op pc .iadd (pc + len) r1 r2 r3 st S = some (pc', st', S')) (hir : ∀ v ∈ st, mm_ir v) (hsok : mm_sok S) (hP : va_P (dC, dI) mm_cl (mm_ws σ P S) H) (hS : va_S (fun q => B0 ≤ q) H0 H locs) (kk : mm_KK p l e R s m args below meth c H0 cells slots Q ls σ P dC dI B0 pc' st' S') : W p l e R s m args below meth c H locs cells slots Q (F0 m pc ls (st.map (mm_rl σ))) := by
  obtain ⟨hx, hown, hts, hK, hN, hap⟩ := C
  subst hlen
  obtain ⟨x, y, r, rfl, rfl, rfl, rfl⟩ := mm_bin_inv ho
  refine lv_iadd (x := Int32.ofInt x) (y := Int32.ofInt y) hx hb hd ?_
  rw [show Int32.ofInt x + Int32.ofInt y = Int32.ofInt (mm_w32 (x + y)) by rw [mm_w32_of, Int32.ofInt_add]]
  exact kk H locs hP hS
theorem mm_s_isub (C : mm_Cx p s m args own σ P dC dI B0) (hb : c.code = cc) {pc len r1 r2 : Nat} {r3 : Int} {st st' : List mm_V} {S S' : mm_S} {pc' fr lo : Nat} (hd : decode cc pc = .ok (.isub, len)) (hlen : len = 1) (hok : mm_iok own fr lo (pc, .isub, len, r1, r2, r3) = true) (ho : mm_op pc .isub (pc + len) r1 r2 r3 st S = some (pc', st', S')) (hir : ∀ v ∈ st, mm_ir v) (hsok : mm_sok S) (hP : va_P (dC, dI) mm_cl (mm_ws σ P S) H) (hS : va_S (fun q => B0 ≤ q) H0 H locs) (kk : mm_KK p l e R s m args below meth c H0 cells slots Q ls σ P dC dI B0 pc' st' S') : W p l e R s m args below meth c H locs cells slots Q (F0 m pc ls (st.map (mm_rl σ))) := by
  obtain ⟨hx, hown, hts, hK, hN, hap⟩ := C
  subst hlen
  obtain ⟨x, y, r, rfl, rfl, rfl, rfl⟩ := mm_bin_inv ho
  refine lv_isub (x := Int32.ofInt x) (y := Int32.ofInt y) hx hb hd ?_
  rw [show Int32.ofInt x - Int32.ofInt y = Int32.ofInt (mm_w32 (x - y)) by rw [mm_w32_of, Int32.ofInt_sub]]
  exact kk H locs hP hS
theorem mm_s_imul (C : mm_Cx p s m args own σ P dC dI B0) (hb : c.code = cc) {pc len r1 r2 : Nat} {r3 : Int} {st st' : List mm_V} {S S' : mm_S} {pc' fr lo : Nat} (hd : decode cc pc = .ok (.imul, len)) (hlen : len = 1) (hok : mm_iok own fr lo (pc, .imul, len, r1, r2, r3) = true) (ho : mm_op pc .imul (pc + len) r1 r2 r3 st S = some (pc', st', S')) (hir : ∀ v ∈ st, mm_ir v) (hsok : mm_sok S) (hP : va_P (dC, dI) mm_cl (mm_ws σ P S) H) (hS : va_S (fun q => B0 ≤ q) H0 H locs) (kk : mm_KK p l e R s m args below meth c H0 cells slots Q ls σ P dC dI B0 pc' st' S') : W p l e R s m args below meth c H locs cells slots Q (F0 m pc ls (st.map (mm_rl σ))) := by
  obtain ⟨hx, hown, hts, hK, hN, hap⟩ := C
  subst hlen
  obtain ⟨x, y, r, rfl, rfl, rfl, rfl⟩ := mm_bin_inv ho
  refine lv_imul (x := Int32.ofInt x) (y := Int32.ofInt y) hx hb hd ?_
  rw [show Int32.ofInt x * Int32.ofInt y = Int32.ofInt (mm_w32 (x * y)) by rw [mm_w32_of, Int32.ofInt_mul]]
  exact kk H locs hP hS
theorem mm_s_ladd (C : mm_Cx p s m args own σ P dC dI B0) (hb : c.code = cc) {pc len r1 r2 : Nat} {r3 : Int} {st st' : List mm_V} {S S' : mm_S} {pc' fr lo : Nat} (hd : decode cc pc = .ok (.ladd, len)) (hlen : len = 1) (hok : mm_iok own fr lo (pc, .ladd, len, r1, r2, r3) = true) (ho : mm_op pc .ladd (pc + len) r1 r2 r3 st S = some (pc', st', S')) (hir : ∀ v ∈ st, mm_ir v) (hsok : mm_sok S) (hP : va_P (dC, dI) mm_cl (mm_ws σ P S) H) (hS : va_S (fun q => B0 ≤ q) H0 H locs) (kk : mm_KK p l e R s m args below meth c H0 cells slots Q ls σ P dC dI B0 pc' st' S') : W p l e R s m args below meth c H locs cells slots Q (F0 m pc ls (st.map (mm_rl σ))) := by
  obtain ⟨hx, hown, hts, hK, hN, hap⟩ := C
  subst hlen
  obtain ⟨x, y, r, rfl, rfl, rfl, rfl⟩ := mm_bin_inv ho
  refine lv_ladd (x := Int64.ofInt x) (y := Int64.ofInt y) hx hb hd ?_
  rw [show Int64.ofInt x + Int64.ofInt y = Int64.ofInt (mm_w64 (x + y)) by rw [mm_w64_of, Int64.ofInt_add]]
  exact kk H locs hP hS
theorem mm_s_lsub (C : mm_Cx p s m args own σ P dC dI B0) (hb : c.code = cc) {pc len r1 r2 : Nat} {r3 : Int} {st st' : List mm_V} {S S' : mm_S} {pc' fr lo : Nat} (hd : decode cc pc = .ok (.lsub, len)) (hlen : len = 1) (hok : mm_iok own fr lo (pc, .lsub, len, r1, r2, r3) = true) (ho : mm_op pc .lsub (pc + len) r1 r2 r3 st S = some (pc', st', S')) (hir : ∀ v ∈ st, mm_ir v) (hsok : mm_sok S) (hP : va_P (dC, dI) mm_cl (mm_ws σ P S) H) (hS : va_S (fun q => B0 ≤ q) H0 H locs) (kk : mm_KK p l e R s m args below meth c H0 cells slots Q ls σ P dC dI B0 pc' st' S') : W p l e R s m args below meth c H locs cells slots Q (F0 m pc ls (st.map (mm_rl σ))) := by
  obtain ⟨hx, hown, hts, hK, hN, hap⟩ := C
  subst hlen
  obtain ⟨x, y, r, rfl, rfl, rfl, rfl⟩ := mm_bin_inv ho
  refine lv_lsub (x := Int64.ofInt x) (y := Int64.ofInt y) hx hb hd ?_
  rw [show Int64.ofInt x - Int64.ofInt y = Int64.ofInt (mm_w64 (x - y)) by rw [mm_w64_of, Int64.ofInt_sub]]
  exact kk H locs hP hS
theorem mm_s_lmul (C : mm_Cx p s m args own σ P dC dI B0) (hb : c.code = cc) {pc len r1 r2 : Nat} {r3 : Int} {st st' : List mm_V} {S S' : mm_S} {pc' fr lo : Nat} (hd : decode cc pc = .ok (.lmul, len)) (hlen : len = 1) (hok : mm_iok own fr lo (pc, .lmul, len, r1, r2, r3) = true) (ho : mm_op pc .lmul (pc + len) r1 r2 r3 st S = some (pc', st', S')) (hir : ∀ v ∈ st, mm_ir v) (hsok : mm_sok S) (hP : va_P (dC, dI) mm_cl (mm_ws σ P S) H) (hS : va_S (fun q => B0 ≤ q) H0 H locs) (kk : mm_KK p l e R s m args below meth c H0 cells slots Q ls σ P dC dI B0 pc' st' S') : W p l e R s m args below meth c H locs cells slots Q (F0 m pc ls (st.map (mm_rl σ))) := by
  obtain ⟨hx, hown, hts, hK, hN, hap⟩ := C
  subst hlen
  obtain ⟨x, y, r, rfl, rfl, rfl, rfl⟩ := mm_bin_inv ho
  refine lv_lmul (x := Int64.ofInt x) (y := Int64.ofInt y) hx hb hd ?_
  rw [show Int64.ofInt x * Int64.ofInt y = Int64.ofInt (mm_w64 (x * y)) by rw [mm_w64_of, Int64.ofInt_mul]]
  exact kk H locs hP hS
theorem mm_s_iand (C : mm_Cx p s m args own σ P dC dI B0) (hb : c.code = cc) {pc len r1 r2 : Nat} {r3 : Int} {st st' : List mm_V} {S S' : mm_S} {pc' fr lo : Nat} (hd : decode cc pc = .ok (.iand, len)) (hlen : len = 1) (hok : mm_iok own fr lo (pc, .iand, len, r1, r2, r3) = true) (ho : mm_op pc .iand (pc + len) r1 r2 r3 st S = some (pc', st', S')) (hir : ∀ v ∈ st, mm_ir v) (hsok : mm_sok S) (hP : va_P (dC, dI) mm_cl (mm_ws σ P S) H) (hS : va_S (fun q => B0 ≤ q) H0 H locs) (kk : mm_KK p l e R s m args below meth c H0 cells slots Q ls σ P dC dI B0 pc' st' S') : W p l e R s m args below meth c H locs cells slots Q (F0 m pc ls (st.map (mm_rl σ))) := by
  obtain ⟨hx, hown, hts, hK, hN, hap⟩ := C
  subst hlen
  obtain ⟨x, y, r, rfl, rfl, rfl, rfl⟩ := mm_bin_inv ho
  refine lv_iand (x := Int32.ofInt x) (y := Int32.ofInt y) hx hb hd ?_
  rw [show Int32.ofInt x &&& Int32.ofInt y = Int32.ofInt (Int32.ofInt x &&& Int32.ofInt y).toInt from (Int32.ofInt_toInt _).symm]
  exact kk H locs hP hS
theorem mm_s_ior (C : mm_Cx p s m args own σ P dC dI B0) (hb : c.code = cc) {pc len r1 r2 : Nat} {r3 : Int} {st st' : List mm_V} {S S' : mm_S} {pc' fr lo : Nat} (hd : decode cc pc = .ok (.ior, len)) (hlen : len = 1) (hok : mm_iok own fr lo (pc, .ior, len, r1, r2, r3) = true) (ho : mm_op pc .ior (pc + len) r1 r2 r3 st S = some (pc', st', S')) (hir : ∀ v ∈ st, mm_ir v) (hsok : mm_sok S) (hP : va_P (dC, dI) mm_cl (mm_ws σ P S) H) (hS : va_S (fun q => B0 ≤ q) H0 H locs) (kk : mm_KK p l e R s m args below meth c H0 cells slots Q ls σ P dC dI B0 pc' st' S') : W p l e R s m args below meth c H locs cells slots Q (F0 m pc ls (st.map (mm_rl σ))) := by
  obtain ⟨hx, hown, hts, hK, hN, hap⟩ := C
  subst hlen
  obtain ⟨x, y, r, rfl, rfl, rfl, rfl⟩ := mm_bin_inv ho
  refine lv_ior (x := Int32.ofInt x) (y := Int32.ofInt y) hx hb hd ?_
  rw [show Int32.ofInt x ||| Int32.ofInt y = Int32.ofInt (Int32.ofInt x ||| Int32.ofInt y).toInt from (Int32.ofInt_toInt _).symm]
  exact kk H locs hP hS
theorem mm_s_ixor (C : mm_Cx p s m args own σ P dC dI B0) (hb : c.code = cc) {pc len r1 r2 : Nat} {r3 : Int} {st st' : List mm_V} {S S' : mm_S} {pc' fr lo : Nat} (hd : decode cc pc = .ok (.ixor, len)) (hlen : len = 1) (hok : mm_iok own fr lo (pc, .ixor, len, r1, r2, r3) = true) (ho : mm_op pc .ixor (pc + len) r1 r2 r3 st S = some (pc', st', S')) (hir : ∀ v ∈ st, mm_ir v) (hsok : mm_sok S) (hP : va_P (dC, dI) mm_cl (mm_ws σ P S) H) (hS : va_S (fun q => B0 ≤ q) H0 H locs) (kk : mm_KK p l e R s m args below meth c H0 cells slots Q ls σ P dC dI B0 pc' st' S') : W p l e R s m args below meth c H locs cells slots Q (F0 m pc ls (st.map (mm_rl σ))) := by
  obtain ⟨hx, hown, hts, hK, hN, hap⟩ := C
  subst hlen
  obtain ⟨x, y, r, rfl, rfl, rfl, rfl⟩ := mm_bin_inv ho
  refine lv_ixor (x := Int32.ofInt x) (y := Int32.ofInt y) hx hb hd ?_
  rw [show Int32.ofInt x ^^^ Int32.ofInt y = Int32.ofInt (Int32.ofInt x ^^^ Int32.ofInt y).toInt from (Int32.ofInt_toInt _).symm]
  exact kk H locs hP hS
theorem mm_s_land (C : mm_Cx p s m args own σ P dC dI B0) (hb : c.code = cc) {pc len r1 r2 : Nat} {r3 : Int} {st st' : List mm_V} {S S' : mm_S} {pc' fr lo : Nat} (hd : decode cc pc = .ok (.land, len)) (hlen : len = 1) (hok : mm_iok own fr lo (pc, .land, len, r1, r2, r3) = true) (ho : mm_op pc .land (pc + len) r1 r2 r3 st S = some (pc', st', S')) (hir : ∀ v ∈ st, mm_ir v) (hsok : mm_sok S) (hP : va_P (dC, dI) mm_cl (mm_ws σ P S) H) (hS : va_S (fun q => B0 ≤ q) H0 H locs) (kk : mm_KK p l e R s m args below meth c H0 cells slots Q ls σ P dC dI B0 pc' st' S') : W p l e R s m args below meth c H locs cells slots Q (F0 m pc ls (st.map (mm_rl σ))) := by
  obtain ⟨hx, hown, hts, hK, hN, hap⟩ := C
  subst hlen
  obtain ⟨x, y, r, rfl, rfl, rfl, rfl⟩ := mm_bin_inv ho
  refine lv_land (x := Int64.ofInt x) (y := Int64.ofInt y) hx hb hd ?_
  rw [show Int64.ofInt x &&& Int64.ofInt y = Int64.ofInt (Int64.ofInt x &&& Int64.ofInt y).toInt from (Int64.ofInt_toInt _).symm]
  exact kk H locs hP hS
theorem mm_s_lor (C : mm_Cx p s m args own σ P dC dI B0) (hb : c.code = cc) {pc len r1 r2 : Nat} {r3 : Int} {st st' : List mm_V} {S S' : mm_S} {pc' fr lo : Nat} (hd : decode cc pc = .ok (.lor, len)) (hlen : len = 1) (hok : mm_iok own fr lo (pc, .lor, len, r1, r2, r3) = true) (ho : mm_op pc .lor (pc + len) r1 r2 r3 st S = some (pc', st', S')) (hir : ∀ v ∈ st, mm_ir v) (hsok : mm_sok S) (hP : va_P (dC, dI) mm_cl (mm_ws σ P S) H) (hS : va_S (fun q => B0 ≤ q) H0 H locs) (kk : mm_KK p l e R s m args below meth c H0 cells slots Q ls σ P dC dI B0 pc' st' S') : W p l e R s m args below meth c H locs cells slots Q (F0 m pc ls (st.map (mm_rl σ))) := by
  obtain ⟨hx, hown, hts, hK, hN, hap⟩ := C
  subst hlen
  obtain ⟨x, y, r, rfl, rfl, rfl, rfl⟩ := mm_bin_inv ho
  refine lv_lor (x := Int64.ofInt x) (y := Int64.ofInt y) hx hb hd ?_
  rw [show Int64.ofInt x ||| Int64.ofInt y = Int64.ofInt (Int64.ofInt x ||| Int64.ofInt y).toInt from (Int64.ofInt_toInt _).symm]
  exact kk H locs hP hS
theorem mm_s_ishl (C : mm_Cx p s m args own σ P dC dI B0) (hb : c.code = cc) {pc len r1 r2 : Nat} {r3 : Int} {st st' : List mm_V} {S S' : mm_S} {pc' fr lo : Nat} (hd : decode cc pc = .ok (.ishl, len)) (hlen : len = 1) (hok : mm_iok own fr lo (pc, .ishl, len, r1, r2, r3) = true) (ho : mm_op pc .ishl (pc + len) r1 r2 r3 st S = some (pc', st', S')) (hir : ∀ v ∈ st, mm_ir v) (hsok : mm_sok S) (hP : va_P (dC, dI) mm_cl (mm_ws σ P S) H) (hS : va_S (fun q => B0 ≤ q) H0 H locs) (kk : mm_KK p l e R s m args below meth c H0 cells slots Q ls σ P dC dI B0 pc' st' S') : W p l e R s m args below meth c H locs cells slots Q (F0 m pc ls (st.map (mm_rl σ))) := by
  obtain ⟨hx, hown, hts, hK, hN, hap⟩ := C
  subst hlen
  obtain ⟨x, y, r, rfl, rfl, rfl, rfl⟩ := mm_bin_inv ho
  refine lv_ishl (x := Int32.ofInt x) (y := Int32.ofInt y) hx hb hd ?_
  rw [show Int32.ofInt x <<< (Int32.ofInt y &&& 31) = Int32.ofInt (Int32.ofInt x <<< (Int32.ofInt y &&& 31)).toInt from (Int32.ofInt_toInt _).symm]
  exact kk H locs hP hS
theorem mm_s_ishr (C : mm_Cx p s m args own σ P dC dI B0) (hb : c.code = cc) {pc len r1 r2 : Nat} {r3 : Int} {st st' : List mm_V} {S S' : mm_S} {pc' fr lo : Nat} (hd : decode cc pc = .ok (.ishr, len)) (hlen : len = 1) (hok : mm_iok own fr lo (pc, .ishr, len, r1, r2, r3) = true) (ho : mm_op pc .ishr (pc + len) r1 r2 r3 st S = some (pc', st', S')) (hir : ∀ v ∈ st, mm_ir v) (hsok : mm_sok S) (hP : va_P (dC, dI) mm_cl (mm_ws σ P S) H) (hS : va_S (fun q => B0 ≤ q) H0 H locs) (kk : mm_KK p l e R s m args below meth c H0 cells slots Q ls σ P dC dI B0 pc' st' S') : W p l e R s m args below meth c H locs cells slots Q (F0 m pc ls (st.map (mm_rl σ))) := by
  obtain ⟨hx, hown, hts, hK, hN, hap⟩ := C
  subst hlen
  obtain ⟨x, y, r, rfl, rfl, rfl, rfl⟩ := mm_bin_inv ho
  refine lv_ishr (x := Int32.ofInt x) (y := Int32.ofInt y) hx hb hd ?_
  rw [show Int32.ofInt x >>> (Int32.ofInt y &&& 31) = Int32.ofInt (Int32.ofInt x >>> (Int32.ofInt y &&& 31)).toInt from (Int32.ofInt_toInt _).symm]
  exact kk H locs hP hS
theorem mm_s_iushr (C : mm_Cx p s m args own σ P dC dI B0) (hb : c.code = cc) {pc len r1 r2 : Nat} {r3 : Int} {st st' : List mm_V} {S S' : mm_S} {pc' fr lo : Nat} (hd : decode cc pc = .ok (.iushr, len)) (hlen : len = 1) (hok : mm_iok own fr lo (pc, .iushr, len, r1, r2, r3) = true) (ho : mm_op pc .iushr (pc + len) r1 r2 r3 st S = some (pc', st', S')) (hir : ∀ v ∈ st, mm_ir v) (hsok : mm_sok S) (hP : va_P (dC, dI) mm_cl (mm_ws σ P S) H) (hS : va_S (fun q => B0 ≤ q) H0 H locs) (kk : mm_KK p l e R s m args below meth c H0 cells slots Q ls σ P dC dI B0 pc' st' S') : W p l e R s m args below meth c H locs cells slots Q (F0 m pc ls (st.map (mm_rl σ))) := by
  obtain ⟨hx, hown, hts, hK, hN, hap⟩ := C
  subst hlen
  obtain ⟨x, y, r, rfl, rfl, rfl, rfl⟩ := mm_bin_inv ho
  exact lv_iushr (x := Int32.ofInt x) (y := Int32.ofInt y) hx hb hd (Int32.ofInt_toInt _).symm (kk H locs hP hS)
theorem mm_s_lshl (C : mm_Cx p s m args own σ P dC dI B0) (hb : c.code = cc) {pc len r1 r2 : Nat} {r3 : Int} {st st' : List mm_V} {S S' : mm_S} {pc' fr lo : Nat} (hd : decode cc pc = .ok (.lshl, len)) (hlen : len = 1) (hok : mm_iok own fr lo (pc, .lshl, len, r1, r2, r3) = true) (ho : mm_op pc .lshl (pc + len) r1 r2 r3 st S = some (pc', st', S')) (hir : ∀ v ∈ st, mm_ir v) (hsok : mm_sok S) (hP : va_P (dC, dI) mm_cl (mm_ws σ P S) H) (hS : va_S (fun q => B0 ≤ q) H0 H locs) (kk : mm_KK p l e R s m args below meth c H0 cells slots Q ls σ P dC dI B0 pc' st' S') : W p l e R s m args below meth c H locs cells slots Q (F0 m pc ls (st.map (mm_rl σ))) := by
  obtain ⟨hx, hown, hts, hK, hN, hap⟩ := C
  subst hlen
  obtain ⟨x, y, r, rfl, rfl, rfl, rfl⟩ := mm_bin_inv ho
  exact lv_lshl (x := Int64.ofInt x) (y := Int32.ofInt y) hx hb hd (Int64.ofInt_toInt _).symm (kk H locs hP hS)
theorem mm_s_lshr (C : mm_Cx p s m args own σ P dC dI B0) (hb : c.code = cc) {pc len r1 r2 : Nat} {r3 : Int} {st st' : List mm_V} {S S' : mm_S} {pc' fr lo : Nat} (hd : decode cc pc = .ok (.lshr, len)) (hlen : len = 1) (hok : mm_iok own fr lo (pc, .lshr, len, r1, r2, r3) = true) (ho : mm_op pc .lshr (pc + len) r1 r2 r3 st S = some (pc', st', S')) (hir : ∀ v ∈ st, mm_ir v) (hsok : mm_sok S) (hP : va_P (dC, dI) mm_cl (mm_ws σ P S) H) (hS : va_S (fun q => B0 ≤ q) H0 H locs) (kk : mm_KK p l e R s m args below meth c H0 cells slots Q ls σ P dC dI B0 pc' st' S') : W p l e R s m args below meth c H locs cells slots Q (F0 m pc ls (st.map (mm_rl σ))) := by
  obtain ⟨hx, hown, hts, hK, hN, hap⟩ := C
  subst hlen
  obtain ⟨x, y, r, rfl, rfl, rfl, rfl⟩ := mm_bin_inv ho
  exact lv_lshr (x := Int64.ofInt x) (y := Int32.ofInt y) hx hb hd (Int64.ofInt_toInt _).symm (kk H locs hP hS)
theorem mm_s_ineg (C : mm_Cx p s m args own σ P dC dI B0) (hb : c.code = cc) {pc len r1 r2 : Nat} {r3 : Int} {st st' : List mm_V} {S S' : mm_S} {pc' fr lo : Nat} (hd : decode cc pc = .ok (.ineg, len)) (hlen : len = 1) (hok : mm_iok own fr lo (pc, .ineg, len, r1, r2, r3) = true) (ho : mm_op pc .ineg (pc + len) r1 r2 r3 st S = some (pc', st', S')) (hir : ∀ v ∈ st, mm_ir v) (hsok : mm_sok S) (hP : va_P (dC, dI) mm_cl (mm_ws σ P S) H) (hS : va_S (fun q => B0 ≤ q) H0 H locs) (kk : mm_KK p l e R s m args below meth c H0 cells slots Q ls σ P dC dI B0 pc' st' S') : W p l e R s m args below meth c H locs cells slots Q (F0 m pc ls (st.map (mm_rl σ))) := by
  obtain ⟨hx, hown, hts, hK, hN, hap⟩ := C
  subst hlen
  obtain ⟨x, r, rfl, rfl, rfl, rfl⟩ := mm_un_inv ho
  refine lv_ineg (x := Int32.ofInt x) hx hb hd ?_
  rw [show -Int32.ofInt x = Int32.ofInt (mm_w32 (-x)) by rw [mm_w32_of, Int32.ofInt_neg]]
  exact kk H locs hP hS
theorem mm_s_lneg (C : mm_Cx p s m args own σ P dC dI B0) (hb : c.code = cc) {pc len r1 r2 : Nat} {r3 : Int} {st st' : List mm_V} {S S' : mm_S} {pc' fr lo : Nat} (hd : decode cc pc = .ok (.lneg, len)) (hlen : len = 1) (hok : mm_iok own fr lo (pc, .lneg, len, r1, r2, r3) = true) (ho : mm_op pc .lneg (pc + len) r1 r2 r3 st S = some (pc', st', S')) (hir : ∀ v ∈ st, mm_ir v) (hsok : mm_sok S) (hP : va_P (dC, dI) mm_cl (mm_ws σ P S) H) (hS : va_S (fun q => B0 ≤ q) H0 H locs) (kk : mm_KK p l e R s m args below meth c H0 cells slots Q ls σ P dC dI B0 pc' st' S') : W p l e R s m args below meth c H locs cells slots Q (F0 m pc ls (st.map (mm_rl σ))) := by
  obtain ⟨hx, hown, hts, hK, hN, hap⟩ := C
  subst hlen
  obtain ⟨x, r, rfl, rfl, rfl, rfl⟩ := mm_un_inv ho
  refine lv_lneg (x := Int64.ofInt x) hx hb hd ?_
  rw [show -Int64.ofInt x = Int64.ofInt (mm_w64 (-x)) by rw [mm_w64_of, Int64.ofInt_neg]]
  exact kk H locs hP hS
theorem mm_s_idiv (C : mm_Cx p s m args own σ P dC dI B0) (hb : c.code = cc) {pc len r1 r2 : Nat} {r3 : Int} {st st' : List mm_V} {S S' : mm_S} {pc' fr lo : Nat} (hd : decode cc pc = .ok (.idiv, len)) (hlen : len = 1) (hok : mm_iok own fr lo (pc, .idiv, len, r1, r2, r3) = true) (ho : mm_op pc .idiv (pc + len) r1 r2 r3 st S = some (pc', st', S')) (hir : ∀ v ∈ st, mm_ir v) (hsok : mm_sok S) (hP : va_P (dC, dI) mm_cl (mm_ws σ P S) H) (hS : va_S (fun q => B0 ≤ q) H0 H locs) (kk : mm_KK p l e R s m args below meth c H0 cells slots Q ls σ P dC dI B0 pc' st' S') : W p l e R s m args below meth c H locs cells slots Q (F0 m pc ls (st.map (mm_rl σ))) := by
  obtain ⟨hx, hown, hts, hK, hN, hap⟩ := C
  subst hlen
  obtain ⟨x, y, r, rfl, hne, rfl, rfl, rfl⟩ := mm_dv_inv ho
  have hy := (hir _ List.mem_cons_self).1 rfl
  have hx' := (hir _ (List.mem_cons_of_mem _ List.mem_cons_self)).1 rfl
  refine lv_idiv (x := Int32.ofInt x) (y := Int32.ofInt y) hx hb hd (fun q => hne ?_) ?_
  · have q1 := congrArg Int32.toInt q
    rw [mm_toInt32 hy] at q1
    exact q1
  · rw [mm_div32 hx' hy]
    exact kk H locs hP hS
theorem mm_s_irem (C : mm_Cx p s m args own σ P dC dI B0) (hb : c.code = cc) {pc len r1 r2 : Nat} {r3 : Int} {st st' : List mm_V} {S S' : mm_S} {pc' fr lo : Nat} (hd : decode cc pc = .ok (.irem, len)) (hlen : len = 1) (hok : mm_iok own fr lo (pc, .irem, len, r1, r2, r3) = true) (ho : mm_op pc .irem (pc + len) r1 r2 r3 st S = some (pc', st', S')) (hir : ∀ v ∈ st, mm_ir v) (hsok : mm_sok S) (hP : va_P (dC, dI) mm_cl (mm_ws σ P S) H) (hS : va_S (fun q => B0 ≤ q) H0 H locs) (kk : mm_KK p l e R s m args below meth c H0 cells slots Q ls σ P dC dI B0 pc' st' S') : W p l e R s m args below meth c H locs cells slots Q (F0 m pc ls (st.map (mm_rl σ))) := by
  obtain ⟨hx, hown, hts, hK, hN, hap⟩ := C
  subst hlen
  obtain ⟨x, y, r, rfl, hne, rfl, rfl, rfl⟩ := mm_dv_inv ho
  have hy := (hir _ List.mem_cons_self).1 rfl
  have hx' := (hir _ (List.mem_cons_of_mem _ List.mem_cons_self)).1 rfl
  refine lv_irem (x := Int32.ofInt x) (y := Int32.ofInt y) hx hb hd (fun q => hne ?_) ?_
  · have q1 := congrArg Int32.toInt q
    rw [mm_toInt32 hy] at q1
    exact q1
  · rw [mm_mod32 hx' hy]
    exact kk H locs hP hS
theorem mm_s_ldiv (C : mm_Cx p s m args own σ P dC dI B0) (hb : c.code = cc) {pc len r1 r2 : Nat} {r3 : Int} {st st' : List mm_V} {S S' : mm_S} {pc' fr lo : Nat} (hd : decode cc pc = .ok (.ldiv, len)) (hlen : len = 1) (hok : mm_iok own fr lo (pc, .ldiv, len, r1, r2, r3) = true) (ho : mm_op pc .ldiv (pc + len) r1 r2 r3 st S = some (pc', st', S')) (hir : ∀ v ∈ st, mm_ir v) (hsok : mm_sok S) (hP : va_P (dC, dI) mm_cl (mm_ws σ P S) H) (hS : va_S (fun q => B0 ≤ q) H0 H locs) (kk : mm_KK p l e R s m args below meth c H0 cells slots Q ls σ P dC dI B0 pc' st' S') : W p l e R s m args below meth c H locs cells slots Q (F0 m pc ls (st.map (mm_rl σ))) := by
  obtain ⟨hx, hown, hts, hK, hN, hap⟩ := C
  subst hlen
  obtain ⟨x, y, r, rfl, hne, rfl, rfl, rfl⟩ := mm_dv_inv ho
  have hy := (hir _ List.mem_cons_self).2 rfl
  have hx' := (hir _ (List.mem_cons_of_mem _ List.mem_cons_self)).2 rfl
  refine lv_ldiv (x := Int64.ofInt x) (y := Int64.ofInt y) hx hb hd (fun q => hne ?_) ?_
  · have q1 := congrArg Int64.toInt q
    rw [mm_toInt64 hy] at q1
    exact q1
  · rw [mm_div64 hx' hy]
    exact kk H locs hP hS
theorem mm_s_lrem (C : mm_Cx p s m args own σ P dC dI B0) (hb : c.code = cc) {pc len r1 r2 : Nat} {r3 : Int} {st st' : List mm_V} {S S' : mm_S} {pc' fr lo : Nat} (hd : decode cc pc = .ok (.lrem, len)) (hlen : len = 1) (hok : mm_iok own fr lo (pc, .lrem, len, r1, r2, r3) = true) (ho : mm_op pc .lrem (pc + len) r1 r2 r3 st S = some (pc', st', S')) (hir : ∀ v ∈ st, mm_ir v) (hsok : mm_sok S) (hP : va_P (dC, dI) mm_cl (mm_ws σ P S) H) (hS : va_S (fun q => B0 ≤ q) H0 H locs) (kk : mm_KK p l e R s m args below meth c H0 cells slots Q ls σ P dC dI B0 pc' st' S') : W p l e R s m args below meth c H locs cells slots Q (F0 m pc ls (st.map (mm_rl σ))) := by
  obtain ⟨hx, hown, hts, hK, hN, hap⟩ := C
  subst hlen
  obtain ⟨x, y, r, rfl, hne, rfl, rfl, rfl⟩ := mm_dv_inv ho
  have hy := (hir _ List.mem_cons_self).2 rfl
  have hx' := (hir _ (List.mem_cons_of_mem _ List.mem_cons_self)).2 rfl
  refine lv_lrem (x := Int64.ofInt x) (y := Int64.ofInt y) hx hb hd (fun q => hne ?_) ?_
  · have q1 := congrArg Int64.toInt q
    rw [mm_toInt64 hy] at q1
    exact q1
  · rw [mm_mod64 hx' hy]
    exact kk H locs hP hS
theorem mm_s_lcmp (C : mm_Cx p s m args own σ P dC dI B0) (hb : c.code = cc) {pc len r1 r2 : Nat} {r3 : Int} {st st' : List mm_V} {S S' : mm_S} {pc' fr lo : Nat} (hd : decode cc pc = .ok (.lcmp, len)) (hlen : len = 1) (hok : mm_iok own fr lo (pc, .lcmp, len, r1, r2, r3) = true) (ho : mm_op pc .lcmp (pc + len) r1 r2 r3 st S = some (pc', st', S')) (hir : ∀ v ∈ st, mm_ir v) (hsok : mm_sok S) (hP : va_P (dC, dI) mm_cl (mm_ws σ P S) H) (hS : va_S (fun q => B0 ≤ q) H0 H locs) (kk : mm_KK p l e R s m args below meth c H0 cells slots Q ls σ P dC dI B0 pc' st' S') : W p l e R s m args below meth c H locs cells slots Q (F0 m pc ls (st.map (mm_rl σ))) := by
  obtain ⟨hx, hown, hts, hK, hN, hap⟩ := C
  subst hlen
  obtain ⟨x, y, r, rfl, rfl, rfl, rfl⟩ := mm_bin_inv ho
  have hy := (hir _ List.mem_cons_self).2 rfl
  have hx' := (hir _ (List.mem_cons_of_mem _ List.mem_cons_self)).2 rfl
  refine W.lcmp (x := Int64.ofInt x) (y := Int64.ofInt y) hx hb hd ?_
  rw [mm_lcc hx' hy]
  exact kk H locs hP hS
theorem mm_s_i2l (C : mm_Cx p s m args own σ P dC dI B0) (hb : c.code = cc) {pc len r1 r2 : Nat} {r3 : Int} {st st' : List mm_V} {S S' : mm_S} {pc' fr lo : Nat} (hd : decode cc pc = .ok (.i2l, len)) (hlen : len = 1) (hok : mm_iok own fr lo (pc, .i2l, len, r1, r2, r3) = true) (ho : mm_op pc .i2l (pc + len) r1 r2 r3 st S = some (pc', st', S')) (hir : ∀ v ∈ st, mm_ir v) (hsok : mm_sok S) (hP : va_P (dC, dI) mm_cl (mm_ws σ P S) H) (hS : va_S (fun q => B0 ≤ q) H0 H locs) (kk : mm_KK p l e R s m args below meth c H0 cells slots Q ls σ P dC dI B0 pc' st' S') : W p l e R s m args below meth c H locs cells slots Q (F0 m pc ls (st.map (mm_rl σ))) := by
  obtain ⟨hx, hown, hts, hK, hN, hap⟩ := C
  subst hlen
  obtain ⟨x, r, rfl, rfl, rfl, rfl⟩ := mm_un_inv ho
  exact lv_i2l (x := Int32.ofInt x) hx hb hd (mm_i2l ((hir _ List.mem_cons_self).1 rfl)) (kk H locs hP hS)
theorem mm_s_l2i (C : mm_Cx p s m args own σ P dC dI B0) (hb : c.code = cc) {pc len r1 r2 : Nat} {r3 : Int} {st st' : List mm_V} {S S' : mm_S} {pc' fr lo : Nat} (hd : decode cc pc = .ok (.l2i, len)) (hlen : len = 1) (hok : mm_iok own fr lo (pc, .l2i, len, r1, r2, r3) = true) (ho : mm_op pc .l2i (pc + len) r1 r2 r3 st S = some (pc', st', S')) (hir : ∀ v ∈ st, mm_ir v) (hsok : mm_sok S) (hP : va_P (dC, dI) mm_cl (mm_ws σ P S) H) (hS : va_S (fun q => B0 ≤ q) H0 H locs) (kk : mm_KK p l e R s m args below meth c H0 cells slots Q ls σ P dC dI B0 pc' st' S') : W p l e R s m args below meth c H locs cells slots Q (F0 m pc ls (st.map (mm_rl σ))) := by
  obtain ⟨hx, hown, hts, hK, hN, hap⟩ := C
  subst hlen
  obtain ⟨x, r, rfl, rfl, rfl, rfl⟩ := mm_un_inv ho
  exact lv_l2i (x := Int64.ofInt x) hx hb hd (mm_l2i ((hir _ List.mem_cons_self).2 rfl)) (kk H locs hP hS)
theorem mm_s_i2b (C : mm_Cx p s m args own σ P dC dI B0) (hb : c.code = cc) {pc len r1 r2 : Nat} {r3 : Int} {st st' : List mm_V} {S S' : mm_S} {pc' fr lo : Nat} (hd : decode cc pc = .ok (.i2b, len)) (hlen : len = 1) (hok : mm_iok own fr lo (pc, .i2b, len, r1, r2, r3) = true) (ho : mm_op pc .i2b (pc + len) r1 r2 r3 st S = some (pc', st', S')) (hir : ∀ v ∈ st, mm_ir v) (hsok : mm_sok S) (hP : va_P (dC, dI) mm_cl (mm_ws σ P S) H) (hS : va_S (fun q => B0 ≤ q) H0 H locs) (kk : mm_KK p l e R s m args below meth c H0 cells slots Q ls σ P dC dI B0 pc' st' S') : W p l e R s m args below meth c H locs cells slots Q (F0 m pc ls (st.map (mm_rl σ))) := by
  obtain ⟨hx, hown, hts, hK, hN, hap⟩ := C
  subst hlen
  obtain ⟨x, r, rfl, rfl, rfl, rfl⟩ := mm_un_inv ho
  exact lv_i2b (x := Int32.ofInt x) hx hb hd (mm_i2b ((hir _ List.mem_cons_self).1 rfl)) (kk H locs hP hS)
theorem mm_s_if_eq {off : Int} (C : mm_Cx p s m args own σ P dC dI B0) (hb : c.code = cc) {pc len r1 r2 : Nat} {r3 : Int} {st st' : List mm_V} {S S' : mm_S} {pc' fr lo : Nat} (hd : decode cc pc = .ok ((.ifCond .eq off), len)) (hlen : len = 3) (hok : mm_iok own fr lo (pc, (.ifCond .eq off), len, r1, r2, r3) = true) (ho : mm_op pc (.ifCond .eq off) (pc + len) r1 r2 r3 st S = some (pc', st', S')) (hir : ∀ v ∈ st, mm_ir v) (hsok : mm_sok S) (hP : va_P (dC, dI) mm_cl (mm_ws σ P S) H) (hS : va_S (fun q => B0 ≤ q) H0 H locs) (kk : mm_KK p l e R s m args below meth c H0 cells slots Q ls σ P dC dI B0 pc' st' S') : W p l e R s m args below meth c H locs cells slots Q (F0 m pc ls (st.map (mm_rl σ))) := by
  obtain ⟨hx, hown, hts, hK, hN, hap⟩ := C
  subst hlen
  obtain ⟨x, rfl, rfl, rfl⟩ := mm_br1_inv ho
  have hx1 := (hir _ List.mem_cons_self).1 rfl
  have hoff : 0 ≤ (pc : Int) + off := of_decide_eq_true hok
  refine lv_if_eq (x := Int32.ofInt x) (tgt := ((pc : Int) + off).toNat) hx hb hd (Int.toNat_of_nonneg hoff).symm (fun q => ?_) (fun q => ?_)
  · have h : mm_cnd .eq x 0 = true := decide_eq_true ((mm_eq32 hx1 mm_r32_0).mp q)
    have k1 := kk H locs hP hS
    rw [h] at k1
    exact k1
  · have h : mm_cnd .eq x 0 = false := decide_eq_false (fun z => q ((mm_eq32 hx1 mm_r32_0).mpr z))
    have k1 := kk H locs hP hS
    rw [h] at k1
    exact k1
theorem mm_s_if_ne {off : Int} (C : mm_Cx p s m args own σ P dC dI B0) (hb : c.code = cc) {pc len r1 r2 : Nat} {r3 : Int} {st st' : List mm_V} {S S' : mm_S} {pc' fr lo : Nat} (hd : decode cc pc = .ok ((.ifCond .ne off), len)) (hlen : len = 3) (hok : mm_iok own fr lo (pc, (.ifCond .ne off), len, r1, r2, r3) = true) (ho : mm_op pc (.ifCond .ne off) (pc + len) r1 r2 r3 st S = some (pc', st', S')) (hir : ∀ v ∈ st, mm_ir v) (hsok : mm_sok S) (hP : va_P (dC, dI) mm_cl (mm_ws σ P S) H) (hS : va_S (fun q => B0 ≤ q) H0 H locs) (kk : mm_KK p l e R s m args below meth c H0 cells slots Q ls σ P dC dI B0 pc' st' S') : W p l e R s m args below meth c H locs cells slots Q (F0 m pc ls (st.map (mm_rl σ))) := by
  obtain ⟨hx, hown, hts, hK, hN, hap⟩ := C
  subst hlen
  obtain ⟨x, rfl, rfl, rfl⟩ := mm_br1_inv ho
  have hx1 := (hir _ List.mem_cons_self).1 rfl
  have hoff : 0 ≤ (pc : Int) + off := of_decide_eq_true hok
  refine lv_if_ne (x := Int32.ofInt x) (tgt := ((pc : Int) + off).toNat) hx hb hd (Int.toNat_of_nonneg hoff).symm (fun q => ?_) (fun q => ?_)
  · have h : mm_cnd .ne x 0 = true := decide_eq_true ((not_congr (mm_eq32 hx1 mm_r32_0)).mp q)
    have k1 := kk H locs hP hS
    rw [h] at k1
    exact k1
  · have h : mm_cnd .ne x 0 = false := decide_eq_false (fun z => z ((mm_eq32 hx1 mm_r32_0).mp q))
    have k1 := kk H locs hP hS
    rw [h] at k1
    exact k1
theorem mm_s_if_lt {off : Int} (C : mm_Cx p s m args own σ P dC dI B0) (hb : c.code = cc) {pc len r1 r2 : Nat} {r3 : Int} {st st' : List mm_V} {S S' : mm_S} {pc' fr lo : Nat} (hd : decode cc pc = .ok ((.ifCond .lt off), len)) (hlen : len = 3) (hok : mm_iok own fr lo (pc, (.ifCond .lt off), len, r1, r2, r3) = true) (ho : mm_op pc (.ifCond .lt off) (pc + len) r1 r2 r3 st S = some (pc', st', S')) (hir : ∀ v ∈ st, mm_ir v) (hsok : mm_sok S) (hP : va_P (dC, dI) mm_cl (mm_ws σ P S) H) (hS : va_S (fun q => B0 ≤ q) H0 H locs) (kk : mm_KK p l e R s m args below meth c H0 cells slots Q ls σ P dC dI B0 pc' st' S') : W p l e R s m args below meth c H locs cells slots Q (F0 m pc ls (st.map (mm_rl σ))) := by
  obtain ⟨hx, hown, hts, hK, hN, hap⟩ := C
  subst hlen
  obtain ⟨x, rfl, rfl, rfl⟩ := mm_br1_inv ho
  have hx1 := (hir _ List.mem_cons_self).1 rfl
  have hoff : 0 ≤ (pc : Int) + off := of_decide_eq_true hok
  refine lv_if_lt (x := Int32.ofInt x) (tgt := ((pc : Int) + off).toNat) hx hb hd (Int.toNat_of_nonneg hoff).symm (fun q => ?_) (fun q => ?_)
  · have h : mm_cnd .lt x 0 = true := decide_eq_true ((mm_lt32 hx1 mm_r32_0).mp q)
    have k1 := kk H locs hP hS
    rw [h] at k1
    exact k1
  · have h : mm_cnd .lt x 0 = false := decide_eq_false (fun z => q ((mm_lt32 hx1 mm_r32_0).mpr z))
    have k1 := kk H locs hP hS
    rw [h] at k1
    exact k1
theorem mm_s_if_ge {off : Int} (C : mm_Cx p s m args own σ P dC dI B0) (hb : c.code = cc) {pc len r1 r2 : Nat} {r3 : Int} {st st' : List mm_V} {S S' : mm_S} {pc' fr lo : Nat} (hd : decode cc pc = .ok ((.ifCond .ge off), len)) (hlen : len = 3) (hok : mm_iok own fr lo (pc, (.ifCond .ge off), len, r1, r2, r3) = true) (ho : mm_op pc (.ifCond .ge off) (pc + len) r1 r2 r3 st S = some (pc', st', S')) (hir : ∀ v ∈ st, mm_ir v) (hsok : mm_sok S) (hP : va_P (dC, dI) mm_cl (mm_ws σ P S) H) (hS : va_S (fun q => B0 ≤ q) H0 H locs) (kk : mm_KK p l e R s m args below meth c H0 cells slots Q ls σ P dC dI B0 pc' st' S') : W p l e R s m args below meth c H locs cells slots Q (F0 m pc ls (st.map (mm_rl σ))) := by
  obtain ⟨hx, hown, hts, hK, hN, hap⟩ := C
  subst hlen
  obtain ⟨x, rfl, rfl, rfl⟩ := mm_br1_inv ho
  have hx1 := (hir _ List.mem_cons_self).1 rfl
  have hoff : 0 ≤ (pc : Int) + off := of_decide_eq_true hok
  refine lv_if_ge (x := Int32.ofInt x) (tgt := ((pc : Int) + off).toNat) hx hb hd (Int.toNat_of_nonneg hoff).symm (fun q => ?_) (fun q => ?_)
  · have h : mm_cnd .ge x 0 = true := decide_eq_true ((mm_le32 mm_r32_0 hx1).mp q)
    have k1 := kk H locs hP hS
    rw [h] at k1
    exact k1
  · have h : mm_cnd .ge x 0 = false := decide_eq_false (fun z => q ((mm_le32 mm_r32_0 hx1).mpr z))
    have k1 := kk H locs hP hS
    rw [h] at k1
    exact k1
theorem mm_s_if_gt {off : Int} (C : mm_Cx p s m args own σ P dC dI B0) (hb : c.code = cc) {pc len r1 r2 : Nat} {r3 : Int} {st st' : List mm_V} {S S' : mm_S} {pc' fr lo : Nat} (hd : decode cc pc = .ok ((.ifCond .gt off), len)) (hlen : len = 3) (hok : mm_iok own fr lo (pc, (.ifCond .gt off), len, r1, r2, r3) = true) (ho : mm_op pc (.ifCond .gt off) (pc + len) r1 r2 r3 st S = some (pc', st', S')) (hir : ∀ v ∈ st, mm_ir v) (hsok : mm_sok S) (hP : va_P (dC, dI) mm_cl (mm_ws σ P S) H) (hS : va_S (fun q => B0 ≤ q) H0 H locs) (kk : mm_KK p l e R s m args below meth c H0 cells slots Q ls σ P dC dI B0 pc' st' S') : W p l e R s m args below meth c H locs cells slots Q (F0 m pc ls (st.map (mm_rl σ))) := by
  obtain ⟨hx, hown, hts, hK, hN, hap⟩ := C
  subst hlen
  obtain ⟨x, rfl, rfl, rfl⟩ := mm_br1_inv ho
  have hx1 := (hir _ List.mem_cons_self).1 rfl
  have hoff : 0 ≤ (pc : Int) + off := of_decide_eq_true hok
  refine lv_if_gt (x := Int32.ofInt x) (tgt := ((pc : Int) + off).toNat) hx hb hd (Int.toNat_of_nonneg hoff).symm (fun q => ?_) (fun q => ?_)
  · have h : mm_cnd .gt x 0 = true := decide_eq_true ((mm_lt32 mm_r32_0 hx1).mp q)
    have k1 := kk H locs hP hS
    rw [h] at k1
    exact k1
  · have h : mm_cnd .gt x 0 = false := decide_eq_false (fun z => q ((mm_lt32 mm_r32_0 hx1).mpr z))
    have k1 := kk H locs hP hS
    rw [h] at k1
    exact k1
theorem mm_s_if_le {off : Int} (C : mm_Cx p s m args own σ P dC dI B0) (hb : c.code = cc) {pc len r1 r2 : Nat} {r3 : Int} {st st' : List mm_V} {S S' : mm_S} {pc' fr lo : Nat} (hd : decode cc pc = .ok ((.ifCond .le off), len)) (hlen : len = 3) (hok : mm_iok own fr lo (pc, (.ifCond .le off), len, r1, r2, r3) = true) (ho : mm_op pc (.ifCond .le off) (pc + len) r1 r2 r3 st S = some (pc', st', S')) (hir : ∀ v ∈ st, mm_ir v) (hsok : mm_sok S) (hP : va_P (dC, dI) mm_cl (mm_ws σ P S) H) (hS : va_S (fun q => B0 ≤ q) H0 H locs) (kk : mm_KK p l e R s m args below meth c H0 cells slots Q ls σ P dC dI B0 pc' st' S') : W p l e R s m args below meth c H locs cells slots Q (F0 m pc ls (st.map (mm_rl σ))) := by
  obtain ⟨hx, hown, hts, hK, hN, hap⟩ := C
  subst hlen
  obtain ⟨x, rfl, rfl, rfl⟩ := mm_br1_inv ho
  have hx1 := (hir _ List.mem_cons_self).1 rfl
  have hoff : 0 ≤ (pc : Int) + off := of_decide_eq_true hok
  refine lv_if_le (x := Int32.ofInt x) (tgt := ((pc : Int) + off).toNat) hx hb hd (Int.toNat_of_nonneg hoff).symm (fun q => ?_) (fun q => ?_)
  · have h : mm_cnd .le x 0 = true := decide_eq_true ((mm_le32 hx1 mm_r32_0).mp q)
    have k1 := kk H locs hP hS
    rw [h] at k1
    exact k1
  · have h : mm_cnd .le x 0 = false := decide_eq_false (fun z => q ((mm_le32 hx1 mm_r32_0).mpr z))
    have k1 := kk H locs hP hS
    rw [h] at k1
    exact k1
theorem mm_s_icmp_eq {off : Int} (C : mm_Cx p s m args own σ P dC dI B0) (hb : c.code = cc) {pc len r1 r2 : Nat} {r3 : Int} {st st' : List mm_V} {S S' : mm_S} {pc' fr lo : Nat} (hd : decode cc pc = .ok ((.if_icmp .eq off), len)) (hlen : len = 3) (hok : mm_iok own fr lo (pc, (.if_icmp .eq off), len, r1, r2, r3) = true) (ho : mm_op pc (.if_icmp .eq off) (pc + len) r1 r2 r3 st S = some (pc', st', S')) (hir : ∀ v ∈ st, mm_ir v) (hsok : mm_sok S) (hP : va_P (dC, dI) mm_cl (mm_ws σ P S) H) (hS : va_S (fun q => B0 ≤ q) H0 H locs) (kk : mm_KK p l e R s m args below meth c H0 cells slots Q ls σ P dC dI B0 pc' st' S') : W p l e R s m args below meth c H locs cells slots Q (F0 m pc ls (st.map (mm_rl σ))) := by
  obtain ⟨hx, hown, hts, hK, hN, hap⟩ := C
  subst hlen
  obtain ⟨x, y, rfl, rfl, rfl⟩ := mm_br2_inv ho
  have hy1 := (hir _ List.mem_cons_self).1 rfl
  have hx1 := (hir _ (List.mem_cons_of_mem _ List.mem_cons_self)).1 rfl
  have hoff : 0 ≤ (pc : Int) + off := of_decide_eq_true hok
  refine lv_icmp_eq (x := Int32.ofInt x) (y := Int32.ofInt y) (tgt := ((pc : Int) + off).toNat) hx hb hd (Int.toNat_of_nonneg hoff).symm (fun q => ?_) (fun q => ?_)
  · have h : mm_cnd .eq x y = true := decide_eq_true ((mm_eq32 hx1 hy1).mp q)
    have k1 := kk H locs hP hS
    rw [h] at k1
    exact k1
  · have h : mm_cnd .eq x y = false := decide_eq_false (fun z => q ((mm_eq32 hx1 hy1).mpr z))
    have k1 := kk H locs hP hS
    rw [h] at k1
    exact k1
theorem mm_s_icmp_ne {off : Int} (C : mm_Cx p s m args own σ P dC dI B0) (hb : c.code = cc) {pc len r1 r2 : Nat} {r3 : Int} {st st' : List mm_V} {S S' : mm_S} {pc' fr lo : Nat} (hd : decode cc pc = .ok ((.if_icmp .ne off), len)) (hlen : len = 3) (hok : mm_iok own fr lo (pc, (.if_icmp .ne off), len, r1, r2, r3) = true) (ho : mm_op pc (.if_icmp .ne off) (pc + len) r1 r2 r3 st S = some (pc', st', S')) (hir : ∀ v ∈ st, mm_ir v) (hsok : mm_sok S) (hP : va_P (dC, dI) mm_cl (mm_ws σ P S) H) (hS : va_S (fun q => B0 ≤ q) H0 H locs) (kk : mm_KK p l e R s m args below meth c H0 cells slots Q ls σ P dC dI B0 pc' st' S') : W p l e R s m args below meth c H locs cells slots Q (F0 m pc ls (st.map (mm_rl σ))) := by
  obtain ⟨hx, hown, hts, hK, hN, hap⟩ := C
  subst hlen
  obtain ⟨x, y, rfl, rfl, rfl⟩ := mm_br2_inv ho
  have hy1 := (hir _ List.mem_cons_self).1 rfl
  have hx1 := (hir _ (List.mem_cons_of_mem _ List.mem_cons_self)).1 rfl
  have hoff : 0 ≤ (pc : Int) + off := of_decide_eq_true hok
  refine lv_icmp_ne (x := Int32.ofInt x) (y := Int32.ofInt y) (tgt := ((pc : Int) + off).toNat) hx hb hd (Int.toNat_of_nonneg hoff).symm (fun q => ?_) (fun q => ?_)
  · have h : mm_cnd .ne x y = true := decide_eq_true ((not_congr (mm_eq32 hx1 hy1)).mp q)
    have k1 := kk H locs hP hS
    rw [h] at k1
    exact k1
  · have h : mm_cnd .ne x y = false := decide_eq_false (fun z => z ((mm_eq32 hx1 hy1).mp q))
    have k1 := kk H locs hP hS
    rw [h] at k1
    exact k1
theorem mm_s_icmp_lt {off : Int} (C : mm_Cx p s m args own σ P dC dI B0) (hb : c.code = cc) {pc len r1 r2 : Nat} {r3 : Int} {st st' : List mm_V} {S S' : mm_S} {pc' fr lo : Nat} (hd : decode cc pc = .ok ((.if_icmp .lt off), len)) (hlen : len = 3) (hok : mm_iok own fr lo (pc, (.if_icmp .lt off), len, r1, r2, r3) = true) (ho : mm_op pc (.if_icmp .lt off) (pc + len) r1 r2 r3 st S = some (pc', st', S')) (hir : ∀ v ∈ st, mm_ir v) (hsok : mm_sok S) (hP : va_P (dC, dI) mm_cl (mm_ws σ P S) H) (hS : va_S (fun q => B0 ≤ q) H0 H locs) (kk : mm_KK p l e R s m args below meth c H0 cells slots Q ls σ P dC dI B0 pc' st' S') : W p l e R s m args below meth c H locs cells slots Q (F0 m pc ls (st.map (mm_rl σ))) := by
  obtain ⟨hx, hown, hts, hK, hN, hap⟩ := C
  subst hlen
  obtain ⟨x, y, rfl, rfl, rfl⟩ := mm_br2_inv ho
  have hy1 := (hir _ List.mem_cons_self).1 rfl
  have hx1 := (hir _ (List.mem_cons_of_mem _ List.mem_cons_self)).1 rfl
  have hoff : 0 ≤ (pc : Int) + off := of_decide_eq_true hok
  refine lv_icmp_lt (x := Int32.ofInt x) (y := Int32.ofInt y) (tgt := ((pc : Int) + off).toNat) hx hb hd (Int.toNat_of_nonneg hoff).symm (fun q => ?_) (fun q => ?_)
  · have h : mm_cnd .lt x y = true := decide_eq_true ((mm_lt32 hx1 hy1).mp q)
    have k1 := kk H locs hP hS
    rw [h] at k1
    exact k1
  · have h : mm_cnd .lt x y = false := decide_eq_false (fun z => q ((mm_lt32 hx1 hy1).mpr z))
    have k1 := kk H locs hP hS
    rw [h] at k1
    exact k1
theorem mm_s_icmp_ge {off : Int} (C : mm_Cx p s m args own σ P dC dI B0) (hb : c.code = cc) {pc len r1 r2 : Nat} {r3 : Int} {st st' : List mm_V} {S S' : mm_S} {pc' fr lo : Nat} (hd : decode cc pc = .ok ((.if_icmp .ge off), len)) (hlen : len = 3) (hok : mm_iok own fr lo (pc, (.if_icmp .ge off), len, r1, r2, r3) = true) (ho : mm_op pc (.if_icmp .ge off) (pc + len) r1 r2 r3 st S = some (pc', st', S')) (hir : ∀ v ∈ st, mm_ir v) (hsok : mm_sok S) (hP : va_P (dC, dI) mm_cl (mm_ws σ P S) H) (hS : va_S (fun q => B0 ≤ q) H0 H locs) (kk : mm_KK p l e R s m args below meth c H0 cells slots Q ls σ P dC dI B0 pc' st' S') : W p l e R s m args below meth c H locs cells slots Q (F0 m pc ls (st.map (mm_rl σ))) := by
  obtain ⟨hx, hown, hts, hK, hN, hap⟩ := C
  subst hlen
  obtain ⟨x, y, rfl, rfl, rfl⟩ := mm_br2_inv ho
  have hy1 := (hir _ List.mem_cons_self).1 rfl
  have hx1 := (hir _ (List.mem_cons_of_mem _ List.mem_cons_self)).1 rfl
  have hoff : 0 ≤ (pc : Int) + off := of_decide_eq_true hok
  refine lv_icmp_ge (x := Int32.ofInt x) (y := Int32.ofInt y) (tgt := ((pc : Int) + off).toNat) hx hb hd (Int.toNat_of_nonneg hoff).symm (fun q => ?_) (fun q => ?_)
  · have h : mm_cnd .ge x y = true := decide_eq_true ((mm_le32 hy1 hx1).mp q)
    have k1 := kk H locs hP hS
    rw [h] at k1
    exact k1
  · have h : mm_cnd .ge x y = false := decide_eq_false (fun z => q ((mm_le32 hy1 hx1).mpr z))
    have k1 := kk H locs hP hS
    rw [h] at k1
    exact k1
theorem mm_s_icmp_gt {off : Int} (C : mm_Cx p s m args own σ P dC dI B0) (hb : c.code = cc) {pc len r1 r2 : Nat} {r3 : Int} {st st' : List mm_V} {S S' : mm_S} {pc' fr lo : Nat} (hd : decode cc pc = .ok ((.if_icmp .gt off), len)) (hlen : len = 3) (hok : mm_iok own fr lo (pc, (.if_icmp .gt off), len, r1, r2, r3) = true) (ho : mm_op pc (.if_icmp .gt off) (pc + len) r1 r2 r3 st S = some (pc', st', S')) (hir : ∀ v ∈ st, mm_ir v) (hsok : mm_sok S) (hP : va_P (dC, dI) mm_cl (mm_ws σ P S) H) (hS : va_S (fun q => B0 ≤ q) H0 H locs) (kk : mm_KK p l e R s m args below meth c H0 cells slots Q ls σ P dC dI B0 pc' st' S') : W p l e R s m args below meth c H locs cells slots Q (F0 m pc ls (st.map (mm_rl σ))) := by
  obtain ⟨hx, hown, hts, hK, hN, hap⟩ := C
  subst hlen
  obtain ⟨x, y, rfl, rfl, rfl⟩ := mm_br2_inv ho
  have hy1 := (hir _ List.mem_cons_self).1 rfl
  have hx1 := (hir _ (List.mem_cons_of_mem _ List.mem_cons_self)).1 rfl
  have hoff : 0 ≤ (pc : Int) + off := of_decide_eq_true hok
  refine lv_icmp_gt (x := Int32.ofInt x) (y := Int32.ofInt y) (tgt := ((pc : Int) + off).toNat) hx hb hd (Int.toNat_of_nonneg hoff).symm (fun q => ?_) (fun q => ?_)
  · have h : mm_cnd .gt x y = true := decide_eq_true ((mm_lt32 hy1 hx1).mp q)
    have k1 := kk H locs hP hS
    rw [h] at k1
    exact k1
  · have h : mm_cnd .gt x y = false := decide_eq_false (fun z => q ((mm_lt32 hy1 hx1).mpr z))
    have k1 := kk H locs hP hS
    rw [h] at k1
    exact k1
theorem mm_s_icmp_le {off : Int} (C : mm_Cx p s m args own σ P dC dI B0) (hb : c.code = cc) {pc len r1 r2 : Nat} {r3 : Int} {st st' : List mm_V} {S S' : mm_S} {pc' fr lo : Nat} (hd : decode cc pc = .ok ((.if_icmp .le off), len)) (hlen : len = 3) (hok : mm_iok own fr lo (pc, (.if_icmp .le off), len, r1, r2, r3) = true) (ho : mm_op pc (.if_icmp .le off) (pc + len) r1 r2 r3 st S = some (pc', st', S')) (hir : ∀ v ∈ st, mm_ir v) (hsok : mm_sok S) (hP : va_P (dC, dI) mm_cl (mm_ws σ P S) H) (hS : va_S (fun q => B0 ≤ q) H0 H locs) (kk : mm_KK p l e R s m args below meth c H0 cells slots Q ls σ P dC dI B0 pc' st' S') : W p l e R s m args below meth c H locs cells slots Q (F0 m pc ls (st.map (mm_rl σ))) := by
  obtain ⟨hx, hown, hts, hK, hN, hap⟩ := C
  subst hlen
  obtain ⟨x, y, rfl, rfl, rfl⟩ := mm_br2_inv ho
  have hy1 := (hir _ List.mem_cons_self).1 rfl
  have hx1 := (hir _ (List.mem_cons_of_mem _ List.mem_cons_self)).1 rfl
  have hoff : 0 ≤ (pc : Int) + off := of_decide_eq_true hok
  refine lv_icmp_le (x := Int32.ofInt x) (y := Int32.ofInt y) (tgt := ((pc : Int) + off).toNat) hx hb hd (Int.toNat_of_nonneg hoff).symm (fun q => ?_) (fun q => ?_)
  · have h : mm_cnd .le x y = true := decide_eq_true ((mm_le32 hx1 hy1).mp q)
    have k1 := kk H locs hP hS
    rw [h] at k1
    exact k1
  · have h : mm_cnd .le x y = false := decide_eq_false (fun z => q ((mm_le32 hx1 hy1).mpr z))
    have k1 := kk H locs hP hS
    rw [h] at k1
    exact k1
theorem mm_s_ifnull {off : Int} (C : mm_Cx p s m args own σ P dC dI B0) (hb : c.code = cc) {pc len r1 r2 : Nat} {r3 : Int} {st st' : List mm_V} {S S' : mm_S} {pc' fr lo : Nat} (hd : decode cc pc = .ok ((.ifnull off), len)) (hlen : len = 3) (hok : mm_iok own fr lo (pc, (.ifnull off), len, r1, r2, r3) = true) (ho : mm_op pc (.ifnull off) (pc + len) r1 r2 r3 st S = some (pc', st', S')) (hir : ∀ v ∈ st, mm_ir v) (hsok : mm_sok S) (hP : va_P (dC, dI) mm_cl (mm_ws σ P S) H) (hS : va_S (fun q => B0 ≤ q) H0 H locs) (kk : mm_KK p l e R s m args below meth c H0 cells slots Q ls σ P dC dI B0 pc' st' S') : W p l e R s m args below meth c H locs cells slots Q (F0 m pc ls (st.map (mm_rl σ))) := by
  obtain ⟨hx, hown, hts, hK, hN, hap⟩ := C
  subst hlen
  obtain ⟨x, rfl, rfl, rfl⟩ := mm_br1_inv ho
  have hoff : 0 ≤ (pc : Int) + off := of_decide_eq_true hok
  have k1 := kk H locs hP hS
  rw [List.map_cons]
  by_cases h : x < 0
  · rw [show mm_rl σ (2, x) = .null from by unfold mm_rl; rw [if_neg (show ¬ (2 : Nat) = 0 by decide), if_neg (show ¬ (2 : Nat) = 1 by decide), if_pos h]]
    rw [show decide (x < 0) = true from decide_eq_true h] at k1
    exact lv_ifnullN (tgt := ((pc : Int) + off).toNat) hx hb hd (Int.toNat_of_nonneg hoff).symm k1
  · rw [show mm_rl σ (2, x) = .ref (σ x.toNat) from by unfold mm_rl; rw [if_neg (show ¬ (2 : Nat) = 0 by decide), if_neg (show ¬ (2 : Nat) = 1 by decide), if_neg h]]
    rw [show decide (x < 0) = false from decide_eq_false h] at k1
    exact lv_ifnull hx hb hd k1
theorem mm_s_ifnonnull {off : Int} (C : mm_Cx p s m args own σ P dC dI B0) (hb : c.code = cc) {pc len r1 r2 : Nat} {r3 : Int} {st st' : List mm_V} {S S' : mm_S} {pc' fr lo : Nat} (hd : decode cc pc = .ok ((.ifnonnull off), len)) (hlen : len = 3) (hok : mm_iok own fr lo (pc, (.ifnonnull off), len, r1, r2, r3) = true) (ho : mm_op pc (.ifnonnull off) (pc + len) r1 r2 r3 st S = some (pc', st', S')) (hir : ∀ v ∈ st, mm_ir v) (hsok : mm_sok S) (hP : va_P (dC, dI) mm_cl (mm_ws σ P S) H) (hS : va_S (fun q => B0 ≤ q) H0 H locs) (kk : mm_KK p l e R s m args below meth c H0 cells slots Q ls σ P dC dI B0 pc' st' S') : W p l e R s m args below meth c H locs cells slots Q (F0 m pc ls (st.map (mm_rl σ))) := by
  obtain ⟨hx, hown, hts, hK, hN, hap⟩ := C
  subst hlen
  obtain ⟨x, rfl, rfl, rfl⟩ := mm_br1_inv ho
  have hoff : 0 ≤ (pc : Int) + off := of_decide_eq_true hok
  have k1 := kk H locs hP hS
  rw [List.map_cons]
  by_cases h : x < 0
  · rw [show mm_rl σ (2, x) = .null from by unfold mm_rl; rw [if_neg (show ¬ (2 : Nat) = 0 by decide), if_neg (show ¬ (2 : Nat) = 1 by decide), if_pos h]]
    rw [show decide (0 ≤ x) = false from decide_eq_false (by omega)] at k1
    exact lv_ifnonnullN hx hb hd k1
  · rw [show mm_rl σ (2, x) = .ref (σ x.toNat) from by unfold mm_rl; rw [if_neg (show ¬ (2 : Nat) = 0 by decide), if_neg (show ¬ (2 : Nat) = 1 by decide), if_neg h]]
    rw [show decide (0 ≤ x) = true from decide_eq_true (by omega)] at k1
    exact lv_ifnonnull (tgt := ((pc : Int) + off).toNat) hx hb hd (Int.toNat_of_nonneg hoff).symm k1
theorem mm_s_goto {off : Int} (C : mm_Cx p s m args own σ P dC dI B0) (hb : c.code = cc) {pc len r1 r2 : Nat} {r3 : Int} {st st' : List mm_V} {S S' : mm_S} {pc' fr lo : Nat} (hd : decode cc pc = .ok ((.goto off), len)) (hlen : len = 3) (hok : mm_iok own fr lo (pc, (.goto off), len, r1, r2, r3) = true) (ho : mm_op pc (.goto off) (pc + len) r1 r2 r3 st S = some (pc', st', S')) (hir : ∀ v ∈ st, mm_ir v) (hsok : mm_sok S) (hP : va_P (dC, dI) mm_cl (mm_ws σ P S) H) (hS : va_S (fun q => B0 ≤ q) H0 H locs) (kk : mm_KK p l e R s m args below meth c H0 cells slots Q ls σ P dC dI B0 pc' st' S') : W p l e R s m args below meth c H locs cells slots Q (F0 m pc ls (st.map (mm_rl σ))) := by
  obtain ⟨hx, hown, hts, hK, hN, hap⟩ := C
  cases ho; subst hlen
  exact lv_goto hx hb hd (Int.toNat_of_nonneg (of_decide_eq_true hok)).symm (kk H locs hP hS)
end OPS
end
section
theorem mm_rl_ref {σ : Nat → Nat} {x : Int} (h : 0 ≤ x) : mm_rl σ (2, x) = .ref (σ x.toNat) := by
  unfold mm_rl
  rw [if_neg (show ¬ (2 : Nat) = 0 by decide), if_neg (show ¬ (2 : Nat) = 1 by decide), if_neg (show ¬ x < 0 by omega)]
theorem mm_cell0 {σ : Nat → Nat} {P : Nat → ClassId} {a : Nat} {ci : Nat} (h : mm_kd a = (0, ci)) (R : Int → Int) : mm_cellR σ P a R = .inr (ci, (List.range (mm_nf ci)).map fun (k : Nat) => mm_rl σ (mm_gw ci k a (R k) (mm_fk ci k))) := by
  unfold mm_cellR
  rw [h]
  rfl
theorem mm_cell2 {σ : Nat → Nat} {P : Nat → ClassId} {a : Nat} (h : (mm_kd a).1 = 2) (R : Int → Int) : mm_cellR σ P a R = .inl (P 2, (mm_kd a).2, .inr (.inl fun (j : Nat) => Int64.ofInt (R j))) := by
  unfold mm_cellR
  rw [if_neg (by rw [h]; decide), if_pos h]
theorem mm_cell5 {σ : Nat → Nat} {P : Nat → ClassId} {a : Nat} (h : (mm_kd a).1 = 5 ∨ (mm_kd a).1 = 6) (R : Int → Int) : mm_cellR σ P a R = .inl (P (mm_kd a).1, (mm_kd a).2, .inr (.inr (.inr (.inr fun (j : Nat) => some (σ (mm_ra a j).toNat))))) := by
  unfold mm_cellR
  rw [if_neg (by rcases h with h | h <;> rw [h] <;> decide), if_neg (by rcases h with h | h <;> rw [h] <;> decide), if_pos h]
theorem mm_cell1 {σ : Nat → Nat} {P : Nat → ClassId} {a : Nat} (h : (mm_kd a).1 = 1 ∨ (mm_kd a).1 = 3 ∨ (mm_kd a).1 = 4) (R : Int → Int) : mm_cellR σ P a R = .inl (P (mm_kd a).1, (mm_kd a).2, .inl fun (j : Nat) => Int32.ofInt (R j)) := by
  unfold mm_cellR
  rw [if_neg (by rcases h with h | h | h <;> rw [h] <;> decide), if_neg (by rcases h with h | h | h <;> rw [h] <;> decide), if_neg (by rcases h with h | h | h <;> rw [h] <;> decide)]
theorem mm_kd99 {a : Nat} (h : (mm_kd a).1 < 99) : mm_kd a ∈ mm_lay := by
  have hl := mm_kd_lt h
  have hm : a < mm_lay.length := by show a < 91; exact hl
  unfold mm_kd
  rw [List.getD_eq_getElem?_getD, List.getElem?_eq_getElem hm]
  exact List.getElem_mem hm
theorem mm_lay_len : ∀ q ∈ mm_lay, q.2 < 5000 ∧ (q.1 = 0 → q.2 < 9) := by decide +kernel
theorem mm_up_ge {S : mm_S} {a : Nat} {k x : Int} {b : Nat} (h : b ≠ a) : mm_up S a k x b = S b := mm_up_ne (fun q => h (by omega))
theorem mm_tys_at {P : Nat → ClassId} : (mm_tys P)[0]? = some (P 1, .int) ∧ (mm_tys P)[1]? = some (P 2, .long) ∧ (mm_tys P)[2]? = some (P 3, .byte) ∧ (mm_tys P)[3]? = some (P 4, .boolean) ∧ (mm_tys P)[4]? = some (P 5, .object "PagesByLevels$Complex") ∧ (mm_tys P)[5]? = some (P 6, .object "PagesByLevels$Sheet") := ⟨rfl, rfl, rfl, rfl, rfl, rfl⟩
theorem mm_fit_nar3 {x : Int} (h : -128 ≤ x ∧ x ≤ 127) : vp_nar .byte (Int32.ofInt x) = Int32.ofInt x := by
  show (Int32.ofInt x).toInt8.toInt32 = _
  rw [mm_i2b ⟨by omega, by omega⟩]
  congr 1
  rw [Int.bmod_def]; split <;> omega
theorem mm_fit_nar4 {x : Int} (h : x = 0 ∨ x = 1) : vp_nar .boolean (Int32.ofInt x) = Int32.ofInt x := by
  rcases h with rfl | rfl <;> decide

theorem mm_putf_inv {nx r1 r2 : Nat} {st : List mm_V} {S : mm_S} {pc' : Nat} {st' : List mm_V} {S' : mm_S} (ho : mm_putf nx r1 r2 st S = some (pc', st', S')) : ∃ (u : Nat) (x a : Int), st = (u, x) :: (2, a) :: st' ∧ mm_ob a r1 = true ∧ mm_pg (mm_fk r1 r2) u x = true ∧ pc' = nx ∧ S' = mm_up S a r2 x := by
  unfold mm_putf at ho
  split at ho
  · rename_i u x a t
    split at ho
    · rename_i h2
      cases ho
      rw [Bool.and_eq_true] at h2
      exact ⟨u, x, a, rfl, h2.1, h2.2, rfl, rfl⟩
    · cases ho
  · cases ho
theorem mm_ra_ok {a i : Int} (ha : 0 ≤ a) (h : (mm_kd a.toNat).1 ∈ [5, 6]) (hi : 0 ≤ i) : 0 ≤ mm_ra a i := by
  have hl : a.toNat < 91 := mm_kd_lt (by rcases (show (mm_kd a.toNat).1 = 5 ∨ (mm_kd a.toNat).1 = 6 by simpa using h) with hk | hk <;> rw [hk] <;> decide)
  have key : ∀ n, n < 91 → (mm_kd n).1 ∈ [5, 6] → n = 1 ∨ n = 2 ∨ n = 22 := by decide +kernel
  rcases key _ hl h with z | z | z
  · rw [show a = 1 by omega]; show 0 ≤ 23 + 10 * i; omega
  · rw [show a = 2 by omega]; show 0 ≤ 28 + 10 * i; omega
  · rw [show a = 22 by omega]; show 0 ≤ 63 + 2 * i; omega
theorem mm_updq {R : Int → Int} {i x : Int} (hi : 0 ≤ i) : (fun (j : Nat) => Int32.ofInt (if (j : Int) = i then x else R j)) = upd (fun (j : Nat) => Int32.ofInt (R j)) i.toNat (Int32.ofInt x) := by
  funext j
  unfold upd
  by_cases h : j = i.toNat
  · rw [if_pos h, if_pos (by omega)]
  · rw [if_neg h, if_neg (by omega)]
theorem mm_updl {R : Int → Int} {i x : Int} (hi : 0 ≤ i) : (fun (j : Nat) => Int64.ofInt (if (j : Int) = i then x else R j)) = vp_updL (fun (j : Nat) => Int64.ofInt (R j)) i.toNat (Int64.ofInt x) := by
  funext j
  unfold vp_updL
  by_cases h : j = i.toNat
  · rw [if_pos h, if_pos (by omega)]
  · rw [if_neg h, if_neg (by omega)]
section OPS3
variable {p : Program} {l : Launch} {e : Env} {R : Room} {s : State} {m : MethodId} {args : Array Value} {below : List Frame} {meth : Method} {c : Code} {H H0 : Heap} {locs : List Loc} {cells slots : Nat} {Q : State → Prop} {cc : ByteArray} {ls : Array Slot} {σ : Nat → Nat} {P : Nat → ClassId} {dC : Nat → ClassId} {dI : Nat → Nat → Nat} {B0 own : Nat}
theorem mm_s_getfield {n : Nat} (C : mm_Cx p s m args own σ P dC dI B0) (hb : c.code = cc) {pc len r1 r2 : Nat} {r3 : Int} {st st' : List mm_V} {S S' : mm_S} {pc' fr lo : Nat} (hd : decode cc pc = .ok ((.getfield n), len)) (hlen : len = 3) (hok : mm_iok own fr lo (pc, (.getfield n), len, r1, r2, r3) = true) (ho : mm_op pc (.getfield n) (pc + len) r1 r2 r3 st S = some (pc', st', S')) (hir : ∀ v ∈ st, mm_ir v) (hsok : mm_sok S) (hP : va_P (dC, dI) mm_cl (mm_ws σ P S) H) (hS : va_S (fun q => B0 ≤ q) H0 H locs) (kk : mm_KK p l e R s m args below meth c H0 cells slots Q ls σ P dC dI B0 pc' st' S') : W p l e R s m args below meth c H locs cells slots Q (F0 m pc ls (st.map (mm_rl σ))) := by
  obtain ⟨hx, hown, hts, hK, hN, hap⟩ := C
  subst hlen
  have hsplit : ∃ a t, st = (2, a) :: t ∧ mm_ob a r1 = true ∧ pc' = pc + 3 ∧ st' = mm_gv S r1 r2 a (mm_fk r1 r2) :: t ∧ S' = S := by
    replace ho : (match mm_b1 st 2 with
      | some (a, t) => if mm_ob a r1 then some (pc + 3, mm_gv S r1 r2 a (mm_fk r1 r2) :: t, S) else none
      | none => none) = some (pc', st', S') := ho
    split at ho
    · rename_i a t h1
      split at ho
      · rename_i h2
        cases ho
        exact ⟨a, t, mm_b1_inv h1, h2, rfl, rfl, rfl⟩
      · cases ho
    · cases ho
  obtain ⟨a, t, rfl, hob, rfl, rfl, rfl⟩ := hsplit
  obtain ⟨ha0, hkd⟩ := of_decide_eq_true hob
  obtain ⟨q, hq, h⟩ := List.any_eq_true.mp hok
  have h := of_decide_eq_true h
  dsimp only at h
  obtain ⟨hw, hci, hk⟩ := mm_lf_ok q hq
  unfold mm_lfw at hw
  rw [h.1, h.2.1, h.2.2.1, h.2.2.2] at hw
  rw [h.2.2.1] at hci
  rw [h.2.2.1, h.2.2.2] at hk
  have hal : a.toNat < 91 := mm_kd_lt (by rw [hkd]; exact (by decide : (0 : Nat) < 99))
  have he := mm_ws_get (σ := σ) (P := P) (S := S') hal
  rw [mm_cell0 hkd] at he
  rw [List.map_cons, mm_rl_ref ha0]
  refine va_get (ref := (mm_F r1 r2).1) hx hb hts (mm_Fw r1 hci) hown hK hP a.toNat he (mm_Fcl r1 hci) r2 hk (hts _ hw) (fun _ z => z) (v := mm_rl σ (mm_gv S' r1 r2 a (mm_fk r1 r2))) ?_ hd (kk H locs hP hS)
  rw [List.getElem?_map, List.getElem?_range hk]
  show some (mm_rl σ (mm_gw r1 r2 (a.toNat : Int) (S' (a.toNat : Int) r2) (mm_fk r1 r2))) = _
  rw [Int.toNat_of_nonneg ha0]
  rfl
theorem mm_s_putfield {n : Nat} (C : mm_Cx p s m args own σ P dC dI B0) (hb : c.code = cc) {pc len r1 r2 : Nat} {r3 : Int} {st st' : List mm_V} {S S' : mm_S} {pc' fr lo : Nat} (hd : decode cc pc = .ok ((.putfield n), len)) (hlen : len = 3) (hok : mm_iok own fr lo (pc, (.putfield n), len, r1, r2, r3) = true) (ho : mm_op pc (.putfield n) (pc + len) r1 r2 r3 st S = some (pc', st', S')) (hir : ∀ v ∈ st, mm_ir v) (hsok : mm_sok S) (hP : va_P (dC, dI) mm_cl (mm_ws σ P S) H) (hS : va_S (fun q => B0 ≤ q) H0 H locs) (kk : mm_KK p l e R s m args below meth c H0 cells slots Q ls σ P dC dI B0 pc' st' S') : W p l e R s m args below meth c H locs cells slots Q (F0 m pc ls (st.map (mm_rl σ))) := by
  obtain ⟨hx, hown, hts, hK, hN, hap⟩ := C
  subst hlen
  have hsplit := mm_putf_inv ho
  obtain ⟨u, x, a, rfl, hob, hpg, rfl, rfl⟩ := hsplit
  obtain ⟨ha0, hkd⟩ := of_decide_eq_true hob
  obtain ⟨q, hq, h⟩ := List.any_eq_true.mp hok
  have h := of_decide_eq_true h
  dsimp only at h
  obtain ⟨hw, hci, hk⟩ := mm_lf_ok q hq
  unfold mm_lfw at hw
  rw [h.1, h.2.1, h.2.2.1, h.2.2.2] at hw
  rw [h.2.2.1] at hci
  rw [h.2.2.1, h.2.2.2] at hk
  have hal : a.toNat < 91 := mm_kd_lt (by rw [hkd]; exact (by decide : (0 : Nat) < 99))
  have he := mm_ws_get (σ := σ) (P := P) (S := S) hal
  rw [mm_cell0 hkd] at he
  obtain ⟨hk0, hk3, hk2, hk4⟩ := mm_Fki r1 hci r2 hk
  have hx1 := hir (u, x) List.mem_cons_self
  have hcase : mm_fk r1 r2 ≠ 1 ∧ narrow (mm_ty r1 r2) (mm_rl σ (u, x)) = mm_rl σ (u, x) ∧ fits (mm_ty r1 r2) (mm_rl σ (u, x)) = true ∧ mm_rl σ (u, x) = mm_rl σ (mm_gw r1 r2 a x (mm_fk r1 r2)) := by
    have hfk : mm_fk r1 r2 = 0 ∨ mm_fk r1 r2 = 2 ∨ mm_fk r1 r2 = 3 := by
      rcases (show mm_fk r1 r2 = 0 ∨ mm_fk r1 r2 = 1 ∨ mm_fk r1 r2 = 2 ∨ mm_fk r1 r2 = 3 by omega) with z | z | z | z
      · exact Or.inl z
      · rw [z] at hpg; cases hpg
      · exact Or.inr (Or.inl z)
      · exact Or.inr (Or.inr z)
    rcases hfk with z | z | z
    · rw [z] at hpg
      have hu : u = 0 := of_decide_eq_true hpg
      subst hu
      rw [hk0 z, z]
      exact ⟨by decide, rfl, rfl, rfl⟩
    · rw [z] at hpg
      have hu : u = 2 := (of_decide_eq_true hpg).1
      subst hu
      rw [hk2 z, z]
      refine ⟨by decide, ?_, ?_, rfl⟩
      · by_cases hn : x < 0
        · rw [show mm_rl σ (2, x) = .null from by unfold mm_rl; rw [if_neg (show ¬ (2 : Nat) = 0 by decide), if_neg (show ¬ (2 : Nat) = 1 by decide), if_pos hn]]; rfl
        · rw [mm_rl_ref (by omega)]; rfl
      · by_cases hn : x < 0
        · rw [show mm_rl σ (2, x) = .null from by unfold mm_rl; rw [if_neg (show ¬ (2 : Nat) = 0 by decide), if_neg (show ¬ (2 : Nat) = 1 by decide), if_pos hn]]; rfl
        · rw [mm_rl_ref (by omega)]; rfl
    · rw [z] at hpg
      obtain ⟨hu, hx01⟩ : u = 0 ∧ (x = 0 ∨ x = 1) := of_decide_eq_true hpg
      subst hu
      rw [hk3 z, z]
      refine ⟨by decide, ?_, ?_, rfl⟩
      · rcases hx01 with rfl | rfl <;> rfl
      · rcases hx01 with rfl | rfl <;> rfl
  obtain ⟨c1, c2, c3, c4⟩ := hcase
  rw [List.map_cons, List.map_cons, mm_rl_ref ha0]
  refine va_put (ref := (mm_F r1 r2).1) hx hb hts (mm_Fw r1 hci) (mm_ty r1) (mm_Fty r1 hci) (mm_Fnm r1 hci) hown hK hP (mm_ws_D hap) hS a.toNat he (mm_Fcl r1 hci) r2 hk (hts _ hw) (fun _ z => z) (mm_Ffi r1 hci r2 hk c1) (mm_Fty r1 hci r2 hk) c2 c3 (by rw [List.length_map, List.length_range]; exact hk) hd (fun H1 locs1 hP1 _ hS1 => ?_)
  refine kk H1 locs1 ?_ hS1
  rw [mm_ws_set hal (S' := mm_up S a r2 x) ?_ ?_] at hP1
  · exact hP1
  · rw [mm_cell0 hkd]
    congr 2
    apply List.ext_getElem?
    intro j
    by_cases hj : j = r2
    · subst hj
      rw [List.getElem?_set_self (by rw [List.length_map, List.length_range]; exact hk), List.getElem?_map, List.getElem?_range hk]
      simp only [Option.map_some]
      rw [c4, Int.toNat_of_nonneg ha0, mm_up_at, if_pos rfl]
    · rw [List.getElem?_set_ne (Ne.symm hj), List.getElem?_map, List.getElem?_map]
      by_cases hl : j < mm_nf r1
      · rw [List.getElem?_range hl]
        simp only [Option.map_some]
        rw [Int.toNat_of_nonneg ha0, mm_up_at, if_neg (by omega)]
      · rw [List.getElem?_eq_none (by rw [List.length_range]; omega)]
        rfl
  · intro b hbne
    have hba : (b : Int) ≠ a := by omega
    rw [mm_up_ne hba]
theorem mm_s_iaload (C : mm_Cx p s m args own σ P dC dI B0) (hb : c.code = cc) {pc len r1 r2 : Nat} {r3 : Int} {st st' : List mm_V} {S S' : mm_S} {pc' fr lo : Nat} (h7 : r1 ≠ 7) (hd : decode cc pc = .ok (.iaload, len)) (hlen : len = 1) (hok : mm_iok own fr lo (pc, .iaload, len, r1, r2, r3) = true) (ho : mm_op pc .iaload (pc + len) r1 r2 r3 st S = some (pc', st', S')) (hir : ∀ v ∈ st, mm_ir v) (hsok : mm_sok S) (hP : va_P (dC, dI) mm_cl (mm_ws σ P S) H) (hS : va_S (fun q => B0 ≤ q) H0 H locs) (kk : mm_KK p l e R s m args below meth c H0 cells slots Q ls σ P dC dI B0 pc' st' S') : W p l e R s m args below meth c H locs cells slots Q (F0 m pc ls (st.map (mm_rl σ))) := by
  obtain ⟨hx, hown, hts, hK, hN, hap⟩ := C
  subst hlen
  have ho : mm_ald (pc + 1) st S [1] (fun a j => (0, S a j)) = some (pc', st', S') := by
    have h2 : (if r1 = 7 then _ else mm_ald (pc + 1) st S [1] (fun a j => (0, S a j))) = some (pc', st', S') := ho
    rwa [if_neg h7] at h2
  obtain ⟨a, i, r, rfl, ⟨ha0, hks, hi0, hi1⟩, rfl, rfl, rfl⟩ := mm_ald_inv ho
  have hk : (mm_kd a.toNat).1 = 1 := by simpa using hks
  have hi32 := (hir _ List.mem_cons_self).1 rfl
  obtain ⟨hin, hnn⟩ := mm_nn hi32 hi0 hi1
  rw [List.map_cons, List.map_cons, mm_rl_ref ha0]
  have hal : a.toNat < 91 := mm_kd_lt (by rw [hk]; decide)
  have he := mm_ws_get (σ := σ) (P := P) (S := S') hal
  rw [mm_cell1 (Or.inl hk)] at he
  refine va_iald hx hb hK hP a.toNat 0 he (by rw [hk]; exact mm_tys_at.1) hin hd ?_
  rw [hnn]
  have k1 := kk H locs hP hS
  dsimp only
  rw [Int.toNat_of_nonneg ha0, Int.toNat_of_nonneg hi0]
  exact k1
theorem mm_s_laload (C : mm_Cx p s m args own σ P dC dI B0) (hb : c.code = cc) {pc len r1 r2 : Nat} {r3 : Int} {st st' : List mm_V} {S S' : mm_S} {pc' fr lo : Nat} (hd : decode cc pc = .ok (.laload, len)) (hlen : len = 1) (hok : mm_iok own fr lo (pc, .laload, len, r1, r2, r3) = true) (ho : mm_op pc .laload (pc + len) r1 r2 r3 st S = some (pc', st', S')) (hir : ∀ v ∈ st, mm_ir v) (hsok : mm_sok S) (hP : va_P (dC, dI) mm_cl (mm_ws σ P S) H) (hS : va_S (fun q => B0 ≤ q) H0 H locs) (kk : mm_KK p l e R s m args below meth c H0 cells slots Q ls σ P dC dI B0 pc' st' S') : W p l e R s m args below meth c H locs cells slots Q (F0 m pc ls (st.map (mm_rl σ))) := by
  obtain ⟨hx, hown, hts, hK, hN, hap⟩ := C
  subst hlen
  obtain ⟨a, i, r, rfl, ⟨ha0, hks, hi0, hi1⟩, rfl, rfl, rfl⟩ := mm_ald_inv ho
  have hk : (mm_kd a.toNat).1 = 2 := by simpa using hks
  have hi32 := (hir _ List.mem_cons_self).1 rfl
  obtain ⟨hin, hnn⟩ := mm_nn hi32 hi0 hi1
  rw [List.map_cons, List.map_cons, mm_rl_ref ha0]
  have hal : a.toNat < 91 := mm_kd_lt (by rw [hk]; decide)
  have he := mm_ws_get (σ := σ) (P := P) (S := S') hal
  rw [mm_cell2 hk] at he
  refine va_lald hx hb hK hP a.toNat 1 he mm_tys_at.2.1 hin hd ?_
  rw [hnn]
  have k1 := kk H locs hP hS
  dsimp only
  rw [Int.toNat_of_nonneg ha0, Int.toNat_of_nonneg hi0]
  exact k1
theorem mm_s_baload (C : mm_Cx p s m args own σ P dC dI B0) (hb : c.code = cc) {pc len r1 r2 : Nat} {r3 : Int} {st st' : List mm_V} {S S' : mm_S} {pc' fr lo : Nat} (hd : decode cc pc = .ok (.baload, len)) (hlen : len = 1) (hok : mm_iok own fr lo (pc, .baload, len, r1, r2, r3) = true) (ho : mm_op pc .baload (pc + len) r1 r2 r3 st S = some (pc', st', S')) (hir : ∀ v ∈ st, mm_ir v) (hsok : mm_sok S) (hP : va_P (dC, dI) mm_cl (mm_ws σ P S) H) (hS : va_S (fun q => B0 ≤ q) H0 H locs) (kk : mm_KK p l e R s m args below meth c H0 cells slots Q ls σ P dC dI B0 pc' st' S') : W p l e R s m args below meth c H locs cells slots Q (F0 m pc ls (st.map (mm_rl σ))) := by
  obtain ⟨hx, hown, hts, hK, hN, hap⟩ := C
  subst hlen
  obtain ⟨a, i, r, rfl, ⟨ha0, hks, hi0, hi1⟩, rfl, rfl, rfl⟩ := mm_ald_inv ho
  have hi32 := (hir _ List.mem_cons_self).1 rfl
  obtain ⟨hin, hnn⟩ := mm_nn hi32 hi0 hi1
  rw [List.map_cons, List.map_cons, mm_rl_ref ha0]
  have k1 := kk H locs hP hS
  rcases (show (mm_kd a.toNat).1 = 3 ∨ (mm_kd a.toNat).1 = 4 by simpa using hks) with hk | hk
  · have hal : a.toNat < 91 := mm_kd_lt (by rw [hk]; decide)
    have he := mm_ws_get (σ := σ) (P := P) (S := S') hal
    rw [mm_cell1 (Or.inr (Or.inl hk))] at he
    refine va_bald hx hb hK hP a.toNat 2 he (by rw [hk]; exact mm_tys_at.2.2.1) hin hd ?_
    rw [hnn]
    dsimp only
    rw [Int.toNat_of_nonneg ha0, Int.toNat_of_nonneg hi0]
    exact k1
  · have hal : a.toNat < 91 := mm_kd_lt (by rw [hk]; decide)
    have he := mm_ws_get (σ := σ) (P := P) (S := S') hal
    rw [mm_cell1 (Or.inr (Or.inr hk))] at he
    refine va_zald hx hb hK hP a.toNat 3 he (by rw [hk]; exact mm_tys_at.2.2.2.1) hin hd ?_
    rw [hnn]
    dsimp only
    rw [Int.toNat_of_nonneg ha0, Int.toNat_of_nonneg hi0]
    exact k1
theorem mm_s_aaload (C : mm_Cx p s m args own σ P dC dI B0) (hb : c.code = cc) {pc len r1 r2 : Nat} {r3 : Int} {st st' : List mm_V} {S S' : mm_S} {pc' fr lo : Nat} (hd : decode cc pc = .ok (.aaload, len)) (hlen : len = 1) (hok : mm_iok own fr lo (pc, .aaload, len, r1, r2, r3) = true) (ho : mm_op pc .aaload (pc + len) r1 r2 r3 st S = some (pc', st', S')) (hir : ∀ v ∈ st, mm_ir v) (hsok : mm_sok S) (hP : va_P (dC, dI) mm_cl (mm_ws σ P S) H) (hS : va_S (fun q => B0 ≤ q) H0 H locs) (kk : mm_KK p l e R s m args below meth c H0 cells slots Q ls σ P dC dI B0 pc' st' S') : W p l e R s m args below meth c H locs cells slots Q (F0 m pc ls (st.map (mm_rl σ))) := by
  obtain ⟨hx, hown, hts, hK, hN, hap⟩ := C
  subst hlen
  obtain ⟨a, i, r, rfl, ⟨ha0, hks, hi0, hi1⟩, rfl, rfl, rfl⟩ := mm_ald_inv ho
  have hi32 := (hir _ List.mem_cons_self).1 rfl
  obtain ⟨hin, hnn⟩ := mm_nn hi32 hi0 hi1
  rw [List.map_cons, List.map_cons, mm_rl_ref ha0]
  have k1 := kk H locs hP hS
  have hra : 0 ≤ mm_ra a i := mm_ra_ok ha0 hks hi0
  have hal : a.toNat < 91 := mm_kd_lt (by rcases (show (mm_kd a.toNat).1 = 5 ∨ (mm_kd a.toNat).1 = 6 by simpa using hks) with hk | hk <;> rw [hk] <;> decide)
  have he := mm_ws_get (σ := σ) (P := P) (S := S') hal
  rcases (show (mm_kd a.toNat).1 = 5 ∨ (mm_kd a.toNat).1 = 6 by simpa using hks) with hk | hk
  · rw [mm_cell5 (Or.inl hk)] at he
    refine va_aldq (C := "PagesByLevels$Complex") hx hb hK hP a.toNat 4 he (by rw [hk]; exact mm_tys_at.2.2.2.2.1) hin hd ?_
    rw [hnn]
    dsimp only
    rw [Int.toNat_of_nonneg ha0, Int.toNat_of_nonneg hi0]
    rw [List.map_cons, mm_rl_ref hra] at k1
    exact k1
  · rw [mm_cell5 (Or.inr hk)] at he
    refine va_aldq (C := "PagesByLevels$Sheet") hx hb hK hP a.toNat 5 he (by rw [hk]; exact mm_tys_at.2.2.2.2.2) hin hd ?_
    rw [hnn]
    dsimp only
    rw [Int.toNat_of_nonneg ha0, Int.toNat_of_nonneg hi0]
    rw [List.map_cons, mm_rl_ref hra] at k1
    exact k1
theorem mm_s_iastore (C : mm_Cx p s m args own σ P dC dI B0) (hb : c.code = cc) {pc len r1 r2 : Nat} {r3 : Int} {st st' : List mm_V} {S S' : mm_S} {pc' fr lo : Nat} (hd : decode cc pc = .ok (.iastore, len)) (hlen : len = 1) (hok : mm_iok own fr lo (pc, .iastore, len, r1, r2, r3) = true) (ho : mm_op pc .iastore (pc + len) r1 r2 r3 st S = some (pc', st', S')) (hir : ∀ v ∈ st, mm_ir v) (hsok : mm_sok S) (hP : va_P (dC, dI) mm_cl (mm_ws σ P S) H) (hS : va_S (fun q => B0 ≤ q) H0 H locs) (kk : mm_KK p l e R s m args below meth c H0 cells slots Q ls σ P dC dI B0 pc' st' S') : W p l e R s m args below meth c H locs cells slots Q (F0 m pc ls (st.map (mm_rl σ))) := by
  obtain ⟨hx, hown, hts, hK, hN, hap⟩ := C
  subst hlen
  obtain ⟨a, i, x, rfl, ⟨ha0, hks, hi0, hi1⟩, hg, rfl, rfl⟩ := mm_ast_inv (pc := pc + 1) (st := st) (S := S) (ks := [1]) (t := 0) (g := fun _ _ => true) ho
  have hk : (mm_kd a.toNat).1 = 1 := by simpa using hks
  have hi32 := (hir _ (List.mem_cons_of_mem _ List.mem_cons_self)).1 rfl
  obtain ⟨hin, hnn⟩ := mm_nn hi32 hi0 hi1
  rw [List.map_cons, List.map_cons, List.map_cons, mm_rl_ref ha0]
  have hal : a.toNat < 91 := mm_kd_lt (by rw [hk]; decide)
  have he := mm_ws_get (σ := σ) (P := P) (S := S) hal
  rw [mm_cell1 (Or.inl hk)] at he
  refine va_iast (x := Int32.ofInt x) hx hb hK hP (mm_ws_D hap) hS a.toNat 0 he (by rw [hk]; exact mm_tys_at.1) hin hd (fun H1 locs1 hP1 _ hS1 => kk H1 locs1 ?_ hS1)
  rw [mm_ws_set hal (S' := mm_up S a i x) ?_ ?_] at hP1
  · exact hP1
  · rw [mm_cell1 (Or.inl hk), hnn, ← mm_updq hi0]
    congr 4
    funext j
    rw [Int.toNat_of_nonneg ha0, mm_up_at]
  · intro b hbne
    have hba : (b : Int) ≠ a := by omega
    rw [mm_up_ne hba]
theorem mm_s_lastore (C : mm_Cx p s m args own σ P dC dI B0) (hb : c.code = cc) {pc len r1 r2 : Nat} {r3 : Int} {st st' : List mm_V} {S S' : mm_S} {pc' fr lo : Nat} (hd : decode cc pc = .ok (.lastore, len)) (hlen : len = 1) (hok : mm_iok own fr lo (pc, .lastore, len, r1, r2, r3) = true) (ho : mm_op pc .lastore (pc + len) r1 r2 r3 st S = some (pc', st', S')) (hir : ∀ v ∈ st, mm_ir v) (hsok : mm_sok S) (hP : va_P (dC, dI) mm_cl (mm_ws σ P S) H) (hS : va_S (fun q => B0 ≤ q) H0 H locs) (kk : mm_KK p l e R s m args below meth c H0 cells slots Q ls σ P dC dI B0 pc' st' S') : W p l e R s m args below meth c H locs cells slots Q (F0 m pc ls (st.map (mm_rl σ))) := by
  obtain ⟨hx, hown, hts, hK, hN, hap⟩ := C
  subst hlen
  obtain ⟨a, i, x, rfl, ⟨ha0, hks, hi0, hi1⟩, hg, rfl, rfl⟩ := mm_ast_inv (pc := pc + 1) (st := st) (S := S) (ks := [2]) (t := 1) (g := fun _ _ => true) ho
  have hk : (mm_kd a.toNat).1 = 2 := by simpa using hks
  have hi32 := (hir _ (List.mem_cons_of_mem _ List.mem_cons_self)).1 rfl
  obtain ⟨hin, hnn⟩ := mm_nn hi32 hi0 hi1
  rw [List.map_cons, List.map_cons, List.map_cons, mm_rl_ref ha0]
  have hal : a.toNat < 91 := mm_kd_lt (by rw [hk]; decide)
  have he := mm_ws_get (σ := σ) (P := P) (S := S) hal
  rw [mm_cell2 hk] at he
  refine va_last (x := Int64.ofInt x) hx hb hK hP (mm_ws_D hap) hS a.toNat 1 he (by exact mm_tys_at.2.1) hin hd (fun H1 locs1 hP1 _ hS1 => kk H1 locs1 ?_ hS1)
  rw [mm_ws_set hal (S' := mm_up S a i x) ?_ ?_] at hP1
  · exact hP1
  · rw [mm_cell2 hk, hnn, ← mm_updl hi0]
    congr 5
    funext j
    rw [Int.toNat_of_nonneg ha0, mm_up_at]
  · intro b hbne
    have hba : (b : Int) ≠ a := by omega
    rw [mm_up_ne hba]
theorem mm_s_bastore (C : mm_Cx p s m args own σ P dC dI B0) (hb : c.code = cc) {pc len r1 r2 : Nat} {r3 : Int} {st st' : List mm_V} {S S' : mm_S} {pc' fr lo : Nat} (hd : decode cc pc = .ok (.bastore, len)) (hlen : len = 1) (hok : mm_iok own fr lo (pc, .bastore, len, r1, r2, r3) = true) (ho : mm_op pc .bastore (pc + len) r1 r2 r3 st S = some (pc', st', S')) (hir : ∀ v ∈ st, mm_ir v) (hsok : mm_sok S) (hP : va_P (dC, dI) mm_cl (mm_ws σ P S) H) (hS : va_S (fun q => B0 ≤ q) H0 H locs) (kk : mm_KK p l e R s m args below meth c H0 cells slots Q ls σ P dC dI B0 pc' st' S') : W p l e R s m args below meth c H locs cells slots Q (F0 m pc ls (st.map (mm_rl σ))) := by
  obtain ⟨hx, hown, hts, hK, hN, hap⟩ := C
  subst hlen
  obtain ⟨a, i, x, rfl, ⟨ha0, hks, hi0, hi1⟩, hg, rfl, rfl⟩ := mm_ast_inv (pc := pc + 1) (st := st) (S := S) (ks := [3, 4]) (t := 0) (g := mm_fit) ho
  have hi32 := (hir _ (List.mem_cons_of_mem _ List.mem_cons_self)).1 rfl
  obtain ⟨hin, hnn⟩ := mm_nn hi32 hi0 hi1
  rw [List.map_cons, List.map_cons, List.map_cons, mm_rl_ref ha0]
  rcases (show (mm_kd a.toNat).1 = 3 ∨ (mm_kd a.toNat).1 = 4 by simpa using hks) with hk | hk
  · rw [hk] at hg
    have hf := mm_fit_nar3 (of_decide_eq_true hg)
    have hal : a.toNat < 91 := mm_kd_lt (by rw [hk]; decide)
    have he := mm_ws_get (σ := σ) (P := P) (S := S) hal
    rw [mm_cell1 (Or.inr (Or.inl hk))] at he
    refine va_bast (x := Int32.ofInt x) hx hb hK hP (mm_ws_D hap) hS a.toNat 2 he (by rw [hk]; exact mm_tys_at.2.2.1) hin hd (fun H1 locs1 hP1 _ hS1 => kk H1 locs1 ?_ hS1)
    rw [mm_ws_set hal (S' := mm_up S a i x) ?_ ?_] at hP1
    · exact hP1
    · rw [mm_cell1 (Or.inr (Or.inl hk)), hnn, hf, ← mm_updq hi0]
      congr 4
      funext j
      rw [Int.toNat_of_nonneg ha0, mm_up_at]
    · intro b hbne
      have hba : (b : Int) ≠ a := by omega
      rw [mm_up_ne hba]
  · rw [hk] at hg
    have hf := mm_fit_nar4 (of_decide_eq_true hg)
    have hal : a.toNat < 91 := mm_kd_lt (by rw [hk]; decide)
    have he := mm_ws_get (σ := σ) (P := P) (S := S) hal
    rw [mm_cell1 (Or.inr (Or.inr hk))] at he
    refine va_zast (x := Int32.ofInt x) hx hb hK hP (mm_ws_D hap) hS a.toNat 3 he (by rw [hk]; exact mm_tys_at.2.2.2.1) hin hd (fun H1 locs1 hP1 _ hS1 => kk H1 locs1 ?_ hS1)
    rw [mm_ws_set hal (S' := mm_up S a i x) ?_ ?_] at hP1
    · exact hP1
    · rw [mm_cell1 (Or.inr (Or.inr hk)), hnn, hf, ← mm_updq hi0]
      congr 4
      funext j
      rw [Int.toNat_of_nonneg ha0, mm_up_at]
    · intro b hbne
      have hba : (b : Int) ≠ a := by omega
      rw [mm_up_ne hba]
theorem mm_s_arraylength (C : mm_Cx p s m args own σ P dC dI B0) (hb : c.code = cc) {pc len r1 r2 : Nat} {r3 : Int} {st st' : List mm_V} {S S' : mm_S} {pc' fr lo : Nat} (h7 : r1 ≠ 7) (hd : decode cc pc = .ok (.arraylength, len)) (hlen : len = 1) (hok : mm_iok own fr lo (pc, .arraylength, len, r1, r2, r3) = true) (ho : mm_op pc .arraylength (pc + len) r1 r2 r3 st S = some (pc', st', S')) (hir : ∀ v ∈ st, mm_ir v) (hsok : mm_sok S) (hP : va_P (dC, dI) mm_cl (mm_ws σ P S) H) (hS : va_S (fun q => B0 ≤ q) H0 H locs) (kk : mm_KK p l e R s m args below meth c H0 cells slots Q ls σ P dC dI B0 pc' st' S') : W p l e R s m args below meth c H locs cells slots Q (F0 m pc ls (st.map (mm_rl σ))) := by
  obtain ⟨hx, hown, hts, hK, hN, hap⟩ := C
  subst hlen
  have hsplit : ∃ a t, st = (2, a) :: t ∧ (0 ≤ a ∧ 0 < (mm_kd a.toNat).1 ∧ (mm_kd a.toNat).1 < 7) ∧ pc' = pc + 1 ∧ st' = (0, ((mm_kd a.toNat).2 : Int)) :: t ∧ S' = S := by
    replace ho : (match mm_b1 st 2 with
      | some (a, t) => if r1 = 7 then (if a = 1000 then some (pc + 1, (0, S 1000 (-1)) :: t, S) else none) else
        if 0 ≤ a ∧ 0 < (mm_kd a.toNat).1 ∧ (mm_kd a.toNat).1 < 7 then some (pc + 1, (0, ((mm_kd a.toNat).2 : Int)) :: t, S) else none
      | none => none) = some (pc', st', S') := ho
    split at ho
    · rename_i a t h1
      rw [if_neg h7] at ho
      split at ho
      · rename_i h2
        cases ho
        exact ⟨a, t, mm_b1_inv h1, h2, rfl, rfl, rfl⟩
      · cases ho
    · cases ho
  obtain ⟨a, t, rfl, ⟨ha0, hk0, hk7⟩, rfl, rfl, rfl⟩ := hsplit
  have hal : a.toNat < 91 := mm_kd_lt (by omega)
  have he := mm_ws_get (σ := σ) (P := P) (S := S') hal
  rw [List.map_cons, mm_rl_ref ha0]
  have k1 := kk H locs hP hS
  have hv : Int32.ofNat (mm_kd a.toNat).2 = Int32.ofInt ((mm_kd a.toNat).2 : Int) := Int32.ofInt_eq_ofNat.symm
  rcases (show (mm_kd a.toNat).1 = 1 ∨ (mm_kd a.toNat).1 = 2 ∨ (mm_kd a.toNat).1 = 3 ∨ (mm_kd a.toNat).1 = 4 ∨ (mm_kd a.toNat).1 = 5 ∨ (mm_kd a.toNat).1 = 6 by omega) with hk | hk | hk | hk | hk | hk
  · rw [mm_cell1 (Or.inl hk)] at he
    exact va_alen hx hb hK hP a.toNat 0 he (by rw [hk]; exact mm_tys_at.1) hv hd k1
  · rw [mm_cell2 hk] at he
    exact va_alen hx hb hK hP a.toNat 1 he mm_tys_at.2.1 hv hd k1
  · rw [mm_cell1 (Or.inr (Or.inl hk))] at he
    exact va_alen hx hb hK hP a.toNat 2 he (by rw [hk]; exact mm_tys_at.2.2.1) hv hd k1
  · rw [mm_cell1 (Or.inr (Or.inr hk))] at he
    exact va_alen hx hb hK hP a.toNat 3 he (by rw [hk]; exact mm_tys_at.2.2.2.1) hv hd k1
  · rw [mm_cell5 (Or.inl hk)] at he
    exact va_alen hx hb hK hP a.toNat 4 he (by rw [hk]; exact mm_tys_at.2.2.2.2.1) hv hd k1
  · rw [mm_cell5 (Or.inr hk)] at he
    exact va_alen hx hb hK hP a.toNat 5 he (by rw [hk]; exact mm_tys_at.2.2.2.2.2) hv hd k1
theorem mm_s_tableswitch {d lw hi : Int} {offs : Array Int} (C : mm_Cx p s m args own σ P dC dI B0) (hb : c.code = cc) {pc len r1 r2 : Nat} {r3 : Int} {st st' : List mm_V} {S S' : mm_S} {pc' fr lo : Nat} (hd : decode cc pc = .ok ((.tableswitch d lw hi offs), len)) (hok : mm_iok own fr lo (pc, (.tableswitch d lw hi offs), len, r1, r2, r3) = true) (ho : mm_op pc (.tableswitch d lw hi offs) (pc + len) r1 r2 r3 st S = some (pc', st', S')) (hir : ∀ v ∈ st, mm_ir v) (hsok : mm_sok S) (hP : va_P (dC, dI) mm_cl (mm_ws σ P S) H) (hS : va_S (fun q => B0 ≤ q) H0 H locs) (kk : mm_KK p l e R s m args below meth c H0 cells slots Q ls σ P dC dI B0 pc' st' S') : W p l e R s m args below meth c H locs cells slots Q (F0 m pc ls (st.map (mm_rl σ))) := by
  obtain ⟨hx, hown, hts, hK, hN, hap⟩ := C
  have hok2 : (decide (0 ≤ (pc : Int) + d ∧ -1000000 < lw ∧ hi < 1000000 ∧ (offs.size : Int) = hi - lw + 1) && offs.toList.all fun o => decide (0 ≤ (pc : Int) + o)) = true := hok
  rw [Bool.and_eq_true] at hok2
  obtain ⟨hd0, -, -, hsz⟩ := of_decide_eq_true hok2.1
  have hall := List.all_eq_true.mp hok2.2
  replace ho : (match mm_b1 st 0 with
    | some (x, r) => if lw ≤ x ∧ x ≤ hi then some (((pc : Int) + (offs[(x - lw).toNat]?).getD 0).toNat, r, S) else some (((pc : Int) + d).toNat, r, S)
    | none => none) = some (pc', st', S') := ho
  split at ho
  · rename_i x r h1
    have hst := mm_b1_inv h1
    subst hst
    have hx1 := (hir _ List.mem_cons_self).1 rfl
    split at ho
    · rename_i h2
      cases ho
      have hl : (x - lw).toNat < offs.size := by omega
      have hg : offs[(x - lw).toNat]? = some offs[(x - lw).toNat] := Array.getElem?_eq_getElem hl
      have k1 := kk H locs hP hS
      rw [hg] at k1
      have hoff : 0 ≤ (pc : Int) + offs[(x - lw).toNat] := of_decide_eq_true (hall _ (by rw [Array.mem_toList_iff]; exact Array.getElem_mem hl))
      exact lv_tableIn (x := Int32.ofInt x) hx hb hd (by rw [mm_toInt32 hx1]; omega) (by rw [mm_toInt32 hx1]; omega) (by rw [mm_toInt32 hx1]; exact hg) (Int.toNat_of_nonneg hoff).symm k1
    · rename_i h2
      cases ho
      exact lv_tableOut (x := Int32.ofInt x) hx hb hd (by rw [mm_toInt32 hx1]; omega) (Int.toNat_of_nonneg hd0).symm (kk H locs hP hS)
  · cases ho
theorem mm_s_arraycopy {n0 : Nat} (C : mm_Cx p s m args own σ P dC dI B0) (hb : c.code = cc) (hml : c.maxLocals = ls.size) {pc len r2 : Nat} {r3 : Int} {st st' : List mm_V} {S S' : mm_S} {pc' fr lo : Nat} (hR : fr ≤ R.frames ∧ lo ≤ R.locals) (hd : decode cc pc = .ok ((.invokestatic n0), len)) (hlen : len = 3) (hok : mm_iok own fr lo (pc, (.invokestatic n0), len, 999, r2, r3) = true) (ho : mm_op pc (.invokestatic n0) (pc + len) 999 r2 r3 st S = some (pc', st', S')) (hir : ∀ v ∈ st, mm_ir v) (hsok : mm_sok S) (hP : va_P (dC, dI) mm_cl (mm_ws σ P S) H) (hS : va_S (fun q => B0 ≤ q) H0 H locs) (kk : mm_KK p l e R s m args below meth c H0 cells slots Q ls σ P dC dI B0 pc' st' S') : W p l e R s m args below meth c H locs cells slots Q (F0 m pc ls (st.map (mm_rl σ))) := by
  obtain ⟨hx, hown, hts, hK, hN, hap⟩ := C
  subst hlen
  have hok2 : (mm_la.any (fun q => decide (q.1 = own ∧ q.2.1 = n0)) && decide (1 ≤ fr ∧ 26 ≤ lo)) = true := hok
  rw [Bool.and_eq_true] at hok2
  obtain ⟨q, hq, h⟩ := List.any_eq_true.mp hok2.1
  have h := of_decide_eq_true h
  have hw := mm_la_ok q hq
  rw [h.1, h.2] at hw
  have hroom := of_decide_eq_true hok2.2
  have hfr : 1 ≤ R.frames := by omega
  replace ho : mm_acp (pc + 3) st S = some (pc', st', S') := ho
  unfold mm_acp at ho
  split at ho
  · rename_i n dp b sp a r
    split at ho
    · rename_i hg
      cases ho
      obtain ⟨ha0, hb0, hsp, hdp, hn, hl0, hl1, hkk, hk, hcs⟩ := hg
      have hn32 := (hir (0, n) List.mem_cons_self).1 rfl
      have hdp32 := (hir (0, dp) (by simp)).1 rfl
      have hsp32 := (hir (0, sp) (by simp)).1 rfl
      have en : (Int32.ofInt n).toNatClampNeg = n.toNat := Int32.toNatClampNeg_ofInt_of_le (by have := hn32.1; omega) (by have := hn32.2; omega)
      have edp : (Int32.ofInt dp).toNatClampNeg = dp.toNat := Int32.toNatClampNeg_ofInt_of_le (by have := hdp32.1; omega) (by have := hdp32.2; omega)
      have esp : (Int32.ofInt sp).toNatClampNeg = sp.toNat := Int32.toNatClampNeg_ofInt_of_le (by have := hsp32.1; omega) (by have := hsp32.2; omega)
      have h0 : ∀ {z : Int}, mm_r32 z → 0 ≤ z → ¬ Int32.ofInt z < 0 := fun hz h0 q => by
        have := (mm_lt32 hz mm_r32_0).mp q
        omega
      have hal : a.toNat < 91 := mm_kd_lt (by rcases hk with hk | hk <;> rw [hk] <;> decide)
      have hal1 : b.toNat < 91 := mm_kd_lt (by rw [← hkk]; rcases hk with hk | hk <;> rw [hk] <;> decide)
      have he0 := mm_ws_get (σ := σ) (P := P) (S := S) hal
      rw [List.map_cons, List.map_cons, List.map_cons, List.map_cons, List.map_cons, mm_rl_ref ha0, mm_rl_ref hb0]
      rcases hk with hka | hka
      · have hkb : (mm_kd b.toNat).1 = 1 := by rw [← hkk]; exact hka
        rw [mm_cell1 (Or.inl hka)] at he0
        have he1 := mm_ws_get (σ := σ) (P := P) (S := S) hal1
        rw [mm_cell1 (Or.inl hkb)] at he1
        refine va_copyi hx hb hml hown (hts _ hw) (hts _ mm_acw.1) (hts _ mm_acw.2.1) (hts _ mm_acw.2.2) hK hP (mm_ws_D hap) hS a.toNat b.toNat 0 0 he0 he1 (by rw [hka]; exact mm_tys_at.1) (by rw [hkb]; exact mm_tys_at.1) rfl (sp := Int32.ofInt sp) (dp := Int32.ofInt dp) (n := Int32.ofInt n) (h0 hsp32 hsp) (h0 hdp32 hdp) (h0 hn32 hn) (by rw [esp, en]; omega) (by rw [edp, en]; omega) (fun _ _ => rfl) hfr (by
          have := mm_cat_sum σ st'
          have hfw : nativeFrameWords "java/lang/System" "arraycopy" 5 ≤ 7 := by decide +kernel
          omega) hd (fun H1 locs1 hP1 _ hS1 => kk H1 locs1 ?_ hS1)
        rw [mm_ws_set hal1 (S' := mm_cpy S a sp b dp n) ?_ ?_] at hP1
        · exact hP1
        · rw [mm_cell1 (Or.inl hkb), esp, edp, en]
          congr 4
          funext j
          unfold va_cpy mm_cpy
          rw [Int.toNat_of_nonneg hb0]
          by_cases hj : dp ≤ (j : Int) ∧ (j : Int) < dp + n
          · rw [if_pos ⟨rfl, hj.1, hj.2⟩, if_pos (by omega), Int.toNat_of_nonneg ha0]
            congr 2
            omega
          · rw [if_neg (fun q => hj q.2), if_neg (by omega)]
        · intro z hz
          congr 1
          funext j
          unfold mm_cpy
          rw [if_neg (fun q => hz (by omega))]
      · have hkb : (mm_kd b.toNat).1 = 2 := by rw [← hkk]; exact hka
        rw [mm_cell2 hka] at he0
        have he1 := mm_ws_get (σ := σ) (P := P) (S := S) hal1
        rw [mm_cell2 hkb] at he1
        refine va_copyl hx hb hml hown (hts _ hw) (hts _ mm_acw.1) (hts _ mm_acw.2.1) (hts _ mm_acw.2.2) hK hP (mm_ws_D hap) hS a.toNat b.toNat 1 1 he0 he1 mm_tys_at.2.1 mm_tys_at.2.1 rfl (sp := Int32.ofInt sp) (dp := Int32.ofInt dp) (n := Int32.ofInt n) (h0 hsp32 hsp) (h0 hdp32 hdp) (h0 hn32 hn) (by rw [esp, en]; omega) (by rw [edp, en]; omega) (fun _ _ => rfl) hfr (by
          have := mm_cat_sum σ st'
          have hfw : nativeFrameWords "java/lang/System" "arraycopy" 5 ≤ 7 := by decide +kernel
          omega) hd (fun H1 locs1 hP1 _ hS1 => kk H1 locs1 ?_ hS1)
        rw [mm_ws_set hal1 (S' := mm_cpy S a sp b dp n) ?_ ?_] at hP1
        · exact hP1
        · rw [mm_cell2 hkb, esp, edp, en]
          congr 5
          funext j
          unfold va_cpy mm_cpy
          rw [Int.toNat_of_nonneg hb0]
          by_cases hj : dp ≤ (j : Int) ∧ (j : Int) < dp + n
          · rw [if_pos ⟨rfl, hj.1, hj.2⟩, if_pos (by omega), Int.toNat_of_nonneg ha0]
            congr 2
            omega
          · rw [if_neg (fun q => hj q.2), if_neg (by omega)]
        · intro z hz
          congr 1
          funext j
          unfold mm_cpy
          rw [if_neg (fun q => hz (by omega))]
    · cases ho
  · cases ho
end OPS3
end
section
/-! Every instruction of the small machine, over the real one. -/
theorem mm_op_ir {pc nx r1 r2 : Nat} {i : Instr} {r3 : Int} {own fr lo len : Nat} {st st' : List mm_V} {S S' : mm_S} {pc' : Nat} (hok : mm_iok own fr lo (pc, i, len, r1, r2, r3) = true) (ho : mm_op pc i nx r1 r2 r3 st S = some (pc', st', S')) (hir : ∀ v ∈ st, mm_ir v) (hsok : mm_sok S) : (∀ v ∈ st', mm_ir v) ∧ mm_sok S' := by
  have c0 : ∀ {x : Int} {r : List mm_V}, mm_r32 x → (∀ v ∈ r, mm_ir v) → ∀ v ∈ (0, x) :: r, mm_ir v := fun hx hr v hv => by
    rcases List.mem_cons.mp hv with rfl | hv
    · exact ⟨fun _ => hx, fun q => by cases q⟩
    · exact hr v hv
  have c1 : ∀ {x : Int} {r : List mm_V}, mm_r64 x → (∀ v ∈ r, mm_ir v) → ∀ v ∈ (1, x) :: r, mm_ir v := fun hx hr v hv => by
    rcases List.mem_cons.mp hv with rfl | hv
    · exact ⟨fun q => (by cases q), fun _ => hx⟩
    · exact hr v hv
  have c2 : ∀ {x : Int} {r : List mm_V}, (∀ v ∈ r, mm_ir v) → ∀ v ∈ (2, x) :: r, mm_ir v := fun hr v hv => by
    rcases List.mem_cons.mp hv with rfl | hv
    · exact ⟨fun q => (by cases q), fun q => by cases q⟩
    · exact hr v hv
  have tl : ∀ {w : mm_V} {r : List mm_V}, (∀ v ∈ w :: r, mm_ir v) → ∀ v ∈ r, mm_ir v := fun h v hv => h v (List.mem_cons_of_mem _ hv)
  have b0 : ∀ {t1 t2 : Nat} {f : Int → Int → Int}, mm_bin nx st S t1 t2 0 f = some (pc', st', S') → (∀ x y, mm_r32 (f x y)) → (∀ v ∈ st', mm_ir v) ∧ mm_sok S' := fun h hf => by
    obtain ⟨x, y, r, rfl, rfl, rfl, rfl⟩ := mm_bin_inv h
    exact ⟨c0 (hf x y) (tl (tl hir)), hsok⟩
  have b1 : ∀ {t1 t2 : Nat} {f : Int → Int → Int}, mm_bin nx st S t1 t2 1 f = some (pc', st', S') → (∀ x y, mm_r64 (f x y)) → (∀ v ∈ st', mm_ir v) ∧ mm_sok S' := fun h hf => by
    obtain ⟨x, y, r, rfl, rfl, rfl, rfl⟩ := mm_bin_inv h
    exact ⟨c1 (hf x y) (tl (tl hir)), hsok⟩
  have hmod : ∀ (x y : Int), y ≠ 0 → (mm_r32 x → mm_r32 y → mm_r32 (Int.tmod x y)) ∧ (mm_r64 x → mm_r64 y → mm_r64 (Int.tmod x y)) := fun x y hy => by
    have key : (Int.tmod x y).natAbs ≤ x.natAbs := by
      rw [Int.natAbs_tmod]
      exact Nat.mod_le _ _
    have hs : (0 ≤ x → 0 ≤ Int.tmod x y) := fun h => Int.tmod_nonneg y h
    refine ⟨fun h1 h2 => ?_, fun h1 h2 => ?_⟩
    · have e := mm_i32_r (Int32.ofInt x % Int32.ofInt y)
      rw [Int32.toInt_mod, mm_toInt32 h1, mm_toInt32 h2] at e
      exact e
    · have e := mm_i64_r (Int64.ofInt x % Int64.ofInt y)
      rw [Int64.toInt_mod, mm_toInt64 h1, mm_toInt64 h2] at e
      exact e
  cases i
  case aconst_null => cases ho; exact ⟨c2 hir, hsok⟩
  case iconst n => cases ho; exact ⟨c0 (by have h := of_decide_eq_true hok; exact ⟨by omega, by omega⟩) hir, hsok⟩
  case bipush n => cases ho; exact ⟨c0 (by have h := of_decide_eq_true hok; exact ⟨by omega, by omega⟩) hir, hsok⟩
  case sipush n => cases ho; exact ⟨c0 (by have h := of_decide_eq_true hok; exact ⟨by omega, by omega⟩) hir, hsok⟩
  case lconst n => cases ho; exact ⟨c1 ⟨by omega, by omega⟩ hir, hsok⟩
  case ldc n =>
    cases ho
    obtain ⟨q, hq, h⟩ := List.any_eq_true.mp hok
    have h := of_decide_eq_true h
    dsimp only at h
    have hw := (mm_lc_ok q hq).2
    rw [h.2.2] at hw
    exact ⟨c0 hw hir, hsok⟩
  case ldc_w n =>
    cases ho
    obtain ⟨q, hq, h⟩ := List.any_eq_true.mp hok
    have h := of_decide_eq_true h
    dsimp only at h
    have hw := (mm_lc_ok q hq).2
    rw [h.2.2] at hw
    exact ⟨c0 hw hir, hsok⟩
  case ldc2_w n =>
    cases ho
    obtain ⟨q, hq, h⟩ := List.any_eq_true.mp hok
    have h := of_decide_eq_true h
    dsimp only at h
    have hw := (mm_ll_ok q hq).2
    rw [h.2.2] at hw
    exact ⟨c1 hw hir, hsok⟩
  case dup =>
    match st, hir, ho with
    | v :: t, hir, ho =>
      replace ho : (if v.1 = 1 then none else some (nx, v :: v :: t, S)) = some (pc', st', S') := ho
      split at ho
      · cases ho
      · cases ho
        exact ⟨fun w hw => by rcases List.mem_cons.mp hw with rfl | hw; exact hir _ List.mem_cons_self; exact hir w hw, hsok⟩
  case pop =>
    match st, hir, ho with
    | v :: t, hir, ho =>
      replace ho : (if v.1 = 1 then none else some (nx, t, S)) = some (pc', st', S') := ho
      split at ho
      · cases ho
      · cases ho
        exact ⟨tl hir, hsok⟩
  case dup2 =>
    match st, hir, ho with
    | v :: w :: t, hir, ho =>
      replace ho : (if v.1 = 1 ∨ w.1 = 1 then none else some (nx, v :: w :: v :: w :: t, S)) = some (pc', st', S') := ho
      split at ho
      · cases ho
      · cases ho
        refine ⟨fun z hz => ?_, hsok⟩
        rcases List.mem_cons.mp hz with rfl | hz
        · exact hir _ List.mem_cons_self
        · rcases List.mem_cons.mp hz with rfl | hz
          · exact hir _ (List.mem_cons_of_mem _ List.mem_cons_self)
          · exact hir z hz
  case iadd => exact b0 ho (fun _ _ => mm_w32_r _)
  case isub => exact b0 ho (fun _ _ => mm_w32_r _)
  case imul => exact b0 ho (fun _ _ => mm_w32_r _)
  case iand => exact b0 ho (fun _ _ => mm_i32_r _)
  case ior => exact b0 ho (fun _ _ => mm_i32_r _)
  case ixor => exact b0 ho (fun _ _ => mm_i32_r _)
  case ishl => exact b0 ho (fun _ _ => mm_i32_r _)
  case ishr => exact b0 ho (fun _ _ => mm_i32_r _)
  case iushr => exact b0 ho (fun _ _ => mm_i32_r _)
  case ladd => exact b1 ho (fun _ _ => mm_w64_r _)
  case lsub => exact b1 ho (fun _ _ => mm_w64_r _)
  case lmul => exact b1 ho (fun _ _ => mm_w64_r _)
  case land => exact b1 ho (fun _ _ => mm_i64_r _)
  case lor => exact b1 ho (fun _ _ => mm_i64_r _)
  case lshl => exact b1 ho (fun _ _ => mm_i64_r _)
  case lshr => exact b1 ho (fun _ _ => mm_i64_r _)
  case lcmp => exact b0 ho (fun x y => by split <;> (try split) <;> (constructor <;> decide))
  case ineg =>
    obtain ⟨x, r, rfl, rfl, rfl, rfl⟩ := mm_un_inv ho
    exact ⟨c0 (mm_w32_r _) (tl hir), hsok⟩
  case lneg =>
    obtain ⟨x, r, rfl, rfl, rfl, rfl⟩ := mm_un_inv ho
    exact ⟨c1 (mm_w64_r _) (tl hir), hsok⟩
  case i2l =>
    obtain ⟨x, r, rfl, rfl, rfl, rfl⟩ := mm_un_inv ho
    have := (hir _ List.mem_cons_self).1 rfl
    exact ⟨c1 ⟨by have := this.1; omega, by have := this.2; omega⟩ (tl hir), hsok⟩
  case l2i =>
    obtain ⟨x, r, rfl, rfl, rfl, rfl⟩ := mm_un_inv ho
    exact ⟨c0 (mm_w32_r _) (tl hir), hsok⟩
  case i2b =>
    obtain ⟨x, r, rfl, rfl, rfl, rfl⟩ := mm_un_inv ho
    exact ⟨c0 ⟨by rw [Int.bmod_def]; split <;> omega, by rw [Int.bmod_def]; split <;> omega⟩ (tl hir), hsok⟩
  case idiv =>
    obtain ⟨x, y, r, rfl, hne, rfl, rfl, rfl⟩ := mm_dv_inv ho
    exact ⟨c0 (mm_w32_r _) (tl (tl hir)), hsok⟩
  case ldiv =>
    obtain ⟨x, y, r, rfl, hne, rfl, rfl, rfl⟩ := mm_dv_inv ho
    exact ⟨c1 (mm_w64_r _) (tl (tl hir)), hsok⟩
  case irem =>
    obtain ⟨x, y, r, rfl, hne, rfl, rfl, rfl⟩ := mm_dv_inv ho
    exact ⟨c0 ((hmod x y hne).1 ((hir _ (List.mem_cons_of_mem _ List.mem_cons_self)).1 rfl) ((hir _ List.mem_cons_self).1 rfl)) (tl (tl hir)), hsok⟩
  case lrem =>
    obtain ⟨x, y, r, rfl, hne, rfl, rfl, rfl⟩ := mm_dv_inv ho
    exact ⟨c1 ((hmod x y hne).2 ((hir _ (List.mem_cons_of_mem _ List.mem_cons_self)).2 rfl) ((hir _ List.mem_cons_self).2 rfl)) (tl (tl hir)), hsok⟩
  case if_icmp cnd off =>
    obtain ⟨x, y, rfl, -, rfl⟩ := mm_br2_inv ho
    exact ⟨tl (tl hir), hsok⟩
  case ifCond cnd off =>
    obtain ⟨x, rfl, -, rfl⟩ := mm_br1_inv ho
    exact ⟨tl hir, hsok⟩
  case ifnull off =>
    obtain ⟨x, rfl, -, rfl⟩ := mm_br1_inv ho
    exact ⟨tl hir, hsok⟩
  case ifnonnull off =>
    obtain ⟨x, rfl, -, rfl⟩ := mm_br1_inv ho
    exact ⟨tl hir, hsok⟩
  case goto off => cases ho; exact ⟨hir, hsok⟩
  case tableswitch d lw hi offs =>
    replace ho : (match mm_b1 st 0 with
      | some (x, r) => if lw ≤ x ∧ x ≤ hi then some (((pc : Int) + (offs[(x - lw).toNat]?).getD 0).toNat, r, S) else some (((pc : Int) + d).toNat, r, S)
      | none => none) = some (pc', st', S') := ho
    split at ho
    · rename_i x r h1
      have hst := mm_b1_inv h1
      subst hst
      split at ho <;> (cases ho; exact ⟨tl hir, hsok⟩)
    · cases ho
  case getfield n =>
    replace ho : (match mm_b1 st 2 with
      | some (a, t) => if mm_ob a r1 then some (nx, mm_gv S r1 r2 a (mm_fk r1 r2) :: t, S) else none
      | none => none) = some (pc', st', S') := ho
    split at ho
    · rename_i a t h1
      have hst := mm_b1_inv h1
      subst hst
      split at ho
      · rename_i h2
        cases ho
        obtain ⟨ha0, hkd⟩ := of_decide_eq_true h2
        refine ⟨fun v hv => ?_, hsok⟩
        rcases List.mem_cons.mp hv with rfl | hv
        · have h32 := (hsok a r2).2 (by rw [hkd]; exact (by decide : (0 : Nat) ≠ 2))
          unfold mm_gv mm_gw
          split
          · exact ⟨fun q => (by cases q), fun q => by cases q⟩
          · exact ⟨fun q => (by cases q), fun q => by cases q⟩
          · exact ⟨fun _ => h32, fun q => by cases q⟩
        · exact tl hir v hv
      · cases ho
    · cases ho
  case putfield n =>
    obtain ⟨u, x, a, rfl, hob, hpg, rfl, rfl⟩ := mm_putf_inv ho
    obtain ⟨ha0, hkd⟩ := of_decide_eq_true hob
    refine ⟨tl (tl hir), ?_⟩
    refine mm_sok_up hsok ⟨fun q => ?_, fun _ => ?_⟩
    · rw [hkd] at q; cases q
    · have h0 := (hir (u, x) List.mem_cons_self).1
      unfold mm_pg at hpg
      split at hpg
      · exact h0 (of_decide_eq_true hpg)
      · have h2 := of_decide_eq_true hpg
        exact ⟨by omega, by omega⟩
      · exact h0 (of_decide_eq_true hpg).1
      · cases hpg
  case iaload =>
    replace ho : (if r1 = 7 then (match mm_b2 st 2 0 with
      | some (a, j, r) => if a = 1000 ∧ 0 ≤ j ∧ j < S 1000 (-1) then some (nx, (0, S 1000 j) :: r, S) else none
      | none => none) else mm_ald nx st S [1] fun a j => (0, S a j)) = some (pc', st', S') := ho
    split at ho
    · split at ho
      · rename_i a j r h1
        have hst := mm_b2_inv h1
        subst hst
        split at ho
        · cases ho
          exact ⟨c0 ((hsok 1000 j).2 (by decide)) (tl (tl hir)), hsok⟩
        · cases ho
      · cases ho
    · obtain ⟨a, j, r, rfl, ⟨ha0, hks, -, -⟩, rfl, rfl, rfl⟩ := mm_ald_inv ho
      exact ⟨c0 ((hsok a j).2 (by rw [show (mm_kd a.toNat).1 = 1 by simpa using hks]; decide)) (tl (tl hir)), hsok⟩
  case baload =>
    obtain ⟨a, j, r, rfl, ⟨ha0, hks, -, -⟩, rfl, rfl, rfl⟩ := mm_ald_inv ho
    exact ⟨c0 ((hsok a j).2 (by rcases (show (mm_kd a.toNat).1 = 3 ∨ (mm_kd a.toNat).1 = 4 by simpa using hks) with h | h <;> rw [h] <;> decide)) (tl (tl hir)), hsok⟩
  case laload =>
    obtain ⟨a, j, r, rfl, ⟨ha0, hks, -, -⟩, rfl, rfl, rfl⟩ := mm_ald_inv ho
    exact ⟨c1 ((hsok a j).1 (show (mm_kd a.toNat).1 = 2 by simpa using hks)) (tl (tl hir)), hsok⟩
  case aaload =>
    obtain ⟨a, j, r, rfl, -, rfl, rfl, rfl⟩ := mm_ald_inv ho
    exact ⟨c2 (tl (tl hir)), hsok⟩
  case iastore =>
    obtain ⟨a, j, x, rfl, ⟨ha0, hks, -, -⟩, -, rfl, rfl⟩ := mm_ast_inv (pc := nx) (st := st) (S := S) (ks := [1]) (t := 0) (g := fun _ _ => true) ho
    have hx := (hir _ List.mem_cons_self).1 rfl
    exact ⟨tl (tl (tl hir)), mm_sok_up hsok ⟨fun _ => ⟨by have := hx.1; omega, by have := hx.2; omega⟩, fun _ => hx⟩⟩
  case bastore =>
    obtain ⟨a, j, x, rfl, ⟨ha0, hks, -, -⟩, -, rfl, rfl⟩ := mm_ast_inv (pc := nx) (st := st) (S := S) (ks := [3, 4]) (t := 0) (g := mm_fit) ho
    have hx := (hir _ List.mem_cons_self).1 rfl
    exact ⟨tl (tl (tl hir)), mm_sok_up hsok ⟨fun _ => ⟨by have := hx.1; omega, by have := hx.2; omega⟩, fun _ => hx⟩⟩
  case lastore =>
    obtain ⟨a, j, x, rfl, ⟨ha0, hks, -, -⟩, -, rfl, rfl⟩ := mm_ast_inv (pc := nx) (st := st) (S := S) (ks := [2]) (t := 1) (g := fun _ _ => true) ho
    have hx := (hir _ List.mem_cons_self).2 rfl
    exact ⟨tl (tl (tl hir)), mm_sok_up hsok ⟨fun _ => hx, fun q => absurd (show (mm_kd a.toNat).1 = 2 by simpa using hks) q⟩⟩
  case arraylength =>
    replace ho : (match mm_b1 st 2 with
      | some (a, t) => if r1 = 7 then (if a = 1000 then some (nx, (0, S 1000 (-1)) :: t, S) else none) else
        if 0 ≤ a ∧ 0 < (mm_kd a.toNat).1 ∧ (mm_kd a.toNat).1 < 7 then some (nx, (0, ((mm_kd a.toNat).2 : Int)) :: t, S) else none
      | none => none) = some (pc', st', S') := ho
    split at ho
    · rename_i a t h1
      have hst := mm_b1_inv h1
      subst hst
      split at ho
      · split at ho
        · cases ho
          exact ⟨c0 ((hsok 1000 (-1)).2 (by decide)) (tl hir), hsok⟩
        · cases ho
      · split at ho
        · rename_i h2
          cases ho
          have := (mm_lay_len _ (mm_kd99 (a := a.toNat) (by omega))).1
          exact ⟨c0 ⟨by omega, by omega⟩ (tl hir), hsok⟩
        · cases ho
    · cases ho
  case invokestatic n =>
    replace ho : (if r1 = 999 then mm_acp nx st S else none) = some (pc', st', S') := ho
    split at ho
    · unfold mm_acp at ho
      split at ho
      · rename_i n dp b sp a r
        split at ho
        · rename_i hg
          cases ho
          obtain ⟨ha0, hb0, -, -, -, -, -, hkk, -, -⟩ := hg
          refine ⟨tl (tl (tl (tl (tl hir)))), fun z k => ?_⟩
          unfold mm_cpy
          by_cases h : z = b ∧ dp ≤ k ∧ k < dp + n
          · rw [if_pos h, h.1, ← hkk]
            exact hsok a _
          · rw [if_neg h]
            exact hsok z k
        · cases ho
      · cases ho
    · cases ho
  all_goals (exact absurd ho (by intro q; cases q))
end
section
/-! Locals, ends, calls: a run of the small machine is one of the real machine. -/
def mm_lr (σ : Nat → Nat) (ls : List mm_V) (lsr : Array Slot) (nL : Nat) : Prop := lsr.size = nL ∧ lv_wf lsr ∧ ls.length = nL ∧ ∀ (i : Nat) (v : mm_V), ls[i]? = some v → v.1 < 3 → lsr[i]? = some (.val (mm_rl σ v))
def mm_lvl (σ : Nat → Nat) (ls : List mm_V) : List (Nat × Value) := (List.range ls.length).filterMap fun i => match ls[i]? with
  | some v => if v.1 < 3 then some (i, mm_rl σ v) else none
  | none => none
theorem mm_lvl_mem {σ : Nat → Nat} {ls : List mm_V} {q : Nat × Value} : q ∈ mm_lvl σ ls ↔ ∃ v, ls[q.1]? = some v ∧ v.1 < 3 ∧ q.2 = mm_rl σ v := by
  unfold mm_lvl
  rw [List.mem_filterMap]
  constructor
  · rintro ⟨i, hi, h⟩
    split at h
    · rename_i v hv
      split at h
      · rename_i h3
        cases h
        exact ⟨v, hv, h3, rfl⟩
      · cases h
    · cases h
  · rintro ⟨v, hv, h3, h4⟩
    refine ⟨q.1, List.mem_range.mpr (List.getElem?_eq_some_iff.mp hv).1, ?_⟩
    rw [hv]
    dsimp only
    rw [if_pos h3, ← h4]
theorem mm_lr_has {σ : Nat → Nat} {ls : List mm_V} {lsr : Array Slot} {nL : Nat} (h : mm_lr σ ls lsr nL) : lv_has lsr nL (mm_lvl σ ls) := by
  refine ⟨h.1, h.2.1, fun q hq => ?_⟩
  obtain ⟨v, h1, h2, h3⟩ := mm_lvl_mem.mp hq
  rw [h3]
  exact h.2.2.2 q.1 v h1 h2
theorem mm_lr_get {σ : Nat → Nat} {ls : List mm_V} {lsr : Array Slot} {nL i : Nat} {v : mm_V} (h : mm_lr σ ls lsr nL) (hv : ls[i]? = some v) (h3 : v.1 < 3) : lsr[i]? = some (.val (mm_rl σ v)) := h.2.2.2 i v hv h3
theorem mm_kill_len (ls : List mm_V) (i : Nat) : (mm_kill ls i).length = ls.length := by
  unfold mm_kill
  split
  · rfl
  · split
    · split
      · rw [List.length_set]
      · rfl
    · rfl
theorem mm_kill_get {ls : List mm_V} {i j : Nat} {w : mm_V} (h : (mm_kill ls i)[j]? = some w) (h3 : w.1 < 3) : ls[j]? = some w ∧ ¬ (j + 1 = i ∧ w.1 = 1) := by
  unfold mm_kill at h
  split at h
  · exact ⟨h, fun q => by omega⟩
  · rename_i k
    split at h
    · rename_i v hv
      split at h
      · rename_i h1
        by_cases hj : j = k
        · subst hj
          rw [List.getElem?_set_self (List.getElem?_eq_some_iff.mp hv).1] at h
          cases h
          exact absurd h3 (by decide)
        · rw [List.getElem?_set_ne (Ne.symm hj)] at h
          exact ⟨h, fun q => hj (by omega)⟩
      · rename_i h1
        refine ⟨h, fun q => ?_⟩
        have : j = k := by omega
        subst this
        rw [hv] at h
        cases h
        exact h1 q.2
    · rename_i hv
      refine ⟨h, fun q => ?_⟩
      have : j = k := by omega
      subst this
      rw [hv] at h
      cases h
theorem mm_lr_set1 {σ : Nat → Nat} {ls : List mm_V} {lsr : Array Slot} {nL i : Nat} {v : mm_V} {w0 : Value} (hl : ls.length = nL) (hw0 : w0 = mm_rl σ v) (hi : i < ls.length) (h : lv_has lsr nL ((i, w0) :: (mm_lvl σ ls).filter (fun q => !(q.1 == i) && !(q.1 + 1 == i && q.2.category == 2)))) : mm_lr σ (mm_set1 ls i v) lsr nL := by
  refine ⟨h.1, h.2.1, by unfold mm_set1; rw [List.length_set, mm_kill_len]; exact hl, fun j w hj h3 => ?_⟩
  unfold mm_set1 at hj
  by_cases e : j = i
  · subst e
    rw [List.getElem?_set_self (by rw [mm_kill_len]; exact hi)] at hj
    cases hj
    rw [← hw0]
    exact h.2.2 (j, w0) List.mem_cons_self
  · rw [List.getElem?_set_ne (Ne.symm e)] at hj
    obtain ⟨h1, h2⟩ := mm_kill_get hj h3
    refine h.2.2 (j, mm_rl σ w) (List.mem_cons_of_mem _ (List.mem_filter.mpr ⟨mm_lvl_mem.mpr ⟨w, h1, h3, rfl⟩, ?_⟩))
    have a1 : (j == i) = false := by simpa using e
    rw [Bool.and_eq_true]
    refine ⟨by show (!(j == i)) = true; rw [a1]; rfl, ?_⟩
    show (!(j + 1 == i && (mm_rl σ w).category == 2)) = true
    by_cases e2 : j + 1 = i
    · have hc : ¬ w.1 = 1 := fun q => h2 ⟨e2, q⟩
      rw [mm_cat1 hc]
      simp
    · have : (j + 1 == i) = false := by simpa using e2
      rw [this]; rfl
theorem mm_lr_set2 {σ : Nat → Nat} {ls : List mm_V} {lsr : Array Slot} {nL i : Nat} {v : mm_V} {w0 : Value} (hl : ls.length = nL) (hw0 : w0 = mm_rl σ v) (hi : i < ls.length) (h : lv_has lsr nL ((i, w0) :: (mm_lvl σ ls).filter (fun q => !(q.1 == i) && (!(q.1 == i + 1) && !(q.1 + 1 == i && q.2.category == 2))))) : mm_lr σ (mm_set2 ls i v) lsr nL := by
  refine ⟨h.1, h.2.1, by unfold mm_set2; rw [List.length_set, List.length_set, mm_kill_len]; exact hl, fun j w hj h3 => ?_⟩
  unfold mm_set2 at hj
  by_cases e : j = i
  · subst e
    rw [List.getElem?_set_self (by rw [List.length_set, mm_kill_len]; exact hi)] at hj
    cases hj
    rw [← hw0]
    exact h.2.2 (j, w0) List.mem_cons_self
  · rw [List.getElem?_set_ne (Ne.symm e)] at hj
    by_cases e1 : j = i + 1
    · subst e1
      by_cases hb : i + 1 < ls.length
      · rw [List.getElem?_set_self (by rw [mm_kill_len]; exact hb)] at hj
        cases hj
        exact absurd h3 (by decide)
      · rw [List.getElem?_eq_none (by rw [List.length_set, mm_kill_len]; omega)] at hj
        cases hj
    · rw [List.getElem?_set_ne (Ne.symm e1)] at hj
      obtain ⟨h1, h2⟩ := mm_kill_get hj h3
      refine h.2.2 (j, mm_rl σ w) (List.mem_cons_of_mem _ (List.mem_filter.mpr ⟨mm_lvl_mem.mpr ⟨w, h1, h3, rfl⟩, ?_⟩))
      have a1 : (j == i) = false := by simpa using e
      have a2 : (j == i + 1) = false := by simpa using e1
      rw [Bool.and_eq_true, Bool.and_eq_true]
      refine ⟨by show (!(j == i)) = true; rw [a1]; rfl, by show (!(j == i + 1)) = true; rw [a2]; rfl, ?_⟩
      show (!(j + 1 == i && (mm_rl σ w).category == 2)) = true
      by_cases e2 : j + 1 = i
      · have hc : ¬ w.1 = 1 := fun q => h2 ⟨e2, q⟩
        rw [mm_cat1 hc]
        simp
      · have : (j + 1 == i) = false := by simpa using e2
        rw [this]; rfl
theorem mm_rl_ref_cases (σ : Nat → Nat) (x : Int) : mm_rl σ (2, x) = .null ∨ ∃ a, mm_rl σ (2, x) = .ref a := by
  by_cases h : x < 0
  · left
    unfold mm_rl
    rw [if_neg (show ¬ (2 : Nat) = 0 by decide), if_neg (show ¬ (2 : Nat) = 1 by decide), if_pos h]
  · exact Or.inr ⟨_, mm_rl_ref (by omega)⟩
section LOC
variable {p : Program} {l : Launch} {e : Env} {R : Room} {s : State} {m : MethodId} {args : Array Value} {below : List Frame} {meth : Method} {c : Code} {H : Heap} {locs : List Loc} {cells slots : Nat} {Q : State → Prop} {cc : ByteArray} {lsr : Array Slot} {σ : Nat → Nat} {nL : Nat}
theorem mm_ld_inv {nx : Nat} {ls st : List mm_V} {i t : Nat} {pc' : Nat} {ls' st' : List mm_V} (h : mm_ld nx ls st i t = some (pc', ls', st')) : ∃ x, ls[i]? = some (t, x) ∧ pc' = nx ∧ ls' = ls ∧ st' = (t, x) :: st := by
  unfold mm_ld at h
  split at h
  · rename_i v hv
    split at h
    · rename_i ht
      cases h
      obtain ⟨a, b⟩ := v
      cases ht
      exact ⟨b, hv, rfl, rfl, rfl⟩
    · cases h
  · cases h
theorem mm_sto_inv {nx : Nat} {ls st : List mm_V} {i t : Nat} {pc' : Nat} {ls' st' : List mm_V} (h : mm_sto nx ls st i t = some (pc', ls', st')) : ∃ x, st = (t, x) :: st' ∧ pc' = nx ∧ ((t = 1 ∧ i + 1 < ls.length ∧ ls' = mm_set2 ls i (t, x)) ∨ (¬ t = 1 ∧ i < ls.length ∧ ls' = mm_set1 ls i (t, x))) := by
  unfold mm_sto at h
  split at h
  · rename_i v r
    split at h
    · rename_i ht
      obtain ⟨a, b⟩ := v
      cases ht
      split at h
      · rename_i h1
        split at h
        · rename_i h2
          cases h
          exact ⟨b, rfl, rfl, Or.inl ⟨h1, h2, rfl⟩⟩
        · cases h
      · rename_i h1
        split at h
        · rename_i h2
          cases h
          exact ⟨b, rfl, rfl, Or.inr ⟨h1, h2, rfl⟩⟩
        · cases h
    · cases h
  · cases h
theorem mm_lo_sound (hx : p.tables.exec = Jvm.exec) (hb : c.code = cc) {pc len : Nat} {i : Instr} {ls st ls' st' : List mm_V} {pc' : Nat} (hd : decode cc pc = .ok (i, len)) (hlen : mm_il i = 0 ∨ len = mm_il i) (ho : mm_lo i (pc + len) ls st = some (pc', ls', st')) (hl : mm_lr σ ls lsr nL) (kk : ∀ lsr' : Array Slot, mm_lr σ ls' lsr' nL → W p l e R s m args below meth c H locs cells slots Q (F0 m pc' lsr' (st'.map (mm_rl σ)))) : W p l e R s m args below meth c H locs cells slots Q (F0 m pc lsr (st.map (mm_rl σ))) := by
  have len1 : mm_il i ≠ 0 → len = mm_il i := fun h => hlen.resolve_left h
  have ref0 : ∀ (j : Nat) (x : Int), ls[j]? = some (2, x) → ¬ x < 0 → lsr[j]? = some (.val (.ref (σ x.toNat))) := fun j x h1 h2 => by rw [← mm_rl_ref (σ := σ) (by omega)]; exact mm_lr_get hl h1 (by simp)
  have nul0 : ∀ x : Int, x < 0 → mm_rl σ (2, x) = .null := fun x hn => by unfold mm_rl; rw [if_neg (show ¬ (2 : Nat) = 0 by decide), if_neg (show ¬ (2 : Nat) = 1 by decide), if_pos hn]
  cases i
  case iload j =>
    obtain rfl := len1 (by intro q; cases q)
    obtain ⟨x, h1, rfl, rfl, rfl⟩ := mm_ld_inv ho
    exact lv_iload hx hb hd (mm_lr_get hl h1 (by simp)) (kk lsr hl)
  case iload_n j =>
    obtain rfl := len1 (by intro q; cases q)
    obtain ⟨x, h1, rfl, rfl, rfl⟩ := mm_ld_inv ho
    exact lv_iload_n hx hb hd rfl (mm_lr_get hl h1 (by simp)) (kk lsr hl)
  case lload j =>
    obtain rfl := len1 (by intro q; cases q)
    obtain ⟨x, h1, rfl, rfl, rfl⟩ := mm_ld_inv ho
    exact lv_lload hx hb hd (mm_lr_get hl h1 (by simp)) (kk lsr hl)
  case lload_n j =>
    obtain rfl := len1 (by intro q; cases q)
    obtain ⟨x, h1, rfl, rfl, rfl⟩ := mm_ld_inv ho
    exact lv_lload_n hx hb hd rfl (mm_lr_get hl h1 (by simp)) (kk lsr hl)
  case aload j =>
    obtain rfl := len1 (by intro q; cases q)
    obtain ⟨x, h1, rfl, rfl, rfl⟩ := mm_ld_inv ho
    have k1 := kk lsr hl
    by_cases hn : x < 0
    · rw [List.map_cons, nul0 x hn] at k1
      exact lv_aloadN hx hb hd (by rw [← nul0 x hn]; exact mm_lr_get hl h1 (by simp)) k1
    · rw [List.map_cons, mm_rl_ref (by omega)] at k1
      exact lv_aload hx hb hd (ref0 j x h1 hn) k1
  case aload_n j =>
    obtain rfl := len1 (by intro q; cases q)
    obtain ⟨x, h1, rfl, rfl, rfl⟩ := mm_ld_inv ho
    have k1 := kk lsr hl
    by_cases hn : x < 0
    · rw [List.map_cons, nul0 x hn] at k1
      exact lv_aload_nN hx hb hd rfl (by rw [← nul0 x hn]; exact mm_lr_get hl h1 (by simp)) k1
    · rw [List.map_cons, mm_rl_ref (by omega)] at k1
      exact lv_aload_n hx hb hd rfl (ref0 j x h1 hn) k1
  case istore j =>
    obtain rfl := len1 (by intro q; cases q)
    obtain ⟨x, rfl, rfl, h | ⟨-, h1, rfl⟩⟩ := mm_sto_inv ho
    · exact absurd h.1 (by decide)
    · exact lv_istore (x := Int32.ofInt x) hx hb hd (mm_lr_has hl) (by rw [← hl.2.2.1]; exact h1) rfl (fun ls2 h2 => kk ls2 (mm_lr_set1 hl.2.2.1 rfl h1 h2))
  case istore_n j =>
    obtain rfl := len1 (by intro q; cases q)
    obtain ⟨x, rfl, rfl, h | ⟨-, h1, rfl⟩⟩ := mm_sto_inv ho
    · exact absurd h.1 (by decide)
    · exact lv_istore_n (x := Int32.ofInt x) hx hb hd rfl (mm_lr_has hl) (by rw [← hl.2.2.1]; exact h1) rfl (fun ls2 h2 => kk ls2 (mm_lr_set1 hl.2.2.1 rfl h1 h2))
  case lstore j =>
    obtain rfl := len1 (by intro q; cases q)
    obtain ⟨x, rfl, rfl, ⟨-, h1, rfl⟩ | h⟩ := mm_sto_inv ho
    · exact lv_lstore (x := Int64.ofInt x) hx hb hd (mm_lr_has hl) (by rw [← hl.2.2.1]; exact h1) rfl (fun ls2 h2 => kk ls2 (mm_lr_set2 hl.2.2.1 rfl (by omega) h2))
    · exact absurd rfl h.1
  case lstore_n j =>
    obtain rfl := len1 (by intro q; cases q)
    obtain ⟨x, rfl, rfl, ⟨-, h1, rfl⟩ | h⟩ := mm_sto_inv ho
    · exact lv_lstore_n (x := Int64.ofInt x) hx hb hd rfl (mm_lr_has hl) (by rw [← hl.2.2.1]; exact h1) rfl (fun ls2 h2 => kk ls2 (mm_lr_set2 hl.2.2.1 rfl (by omega) h2))
    · exact absurd rfl h.1
  case astore j =>
    obtain rfl := len1 (by intro q; cases q)
    obtain ⟨x, rfl, rfl, h | ⟨-, h1, rfl⟩⟩ := mm_sto_inv ho
    · exact absurd h.1 (by decide)
    · rw [List.map_cons]
      by_cases hn : x < 0
      · rw [nul0 x hn]
        exact lv_astoreN hx hb hd (mm_lr_has hl) (by rw [← hl.2.2.1]; exact h1) rfl (fun ls2 h2 => kk ls2 (mm_lr_set1 hl.2.2.1 (nul0 x hn).symm h1 h2))
      · rw [mm_rl_ref (by omega)]
        exact lv_astore hx hb hd (mm_lr_has hl) (by rw [← hl.2.2.1]; exact h1) rfl (fun ls2 h2 => kk ls2 (mm_lr_set1 hl.2.2.1 (mm_rl_ref (by omega)).symm h1 h2))
  case astore_n j =>
    obtain rfl := len1 (by intro q; cases q)
    obtain ⟨x, rfl, rfl, h | ⟨-, h1, rfl⟩⟩ := mm_sto_inv ho
    · exact absurd h.1 (by decide)
    · rw [List.map_cons]
      by_cases hn : x < 0
      · rw [nul0 x hn]
        exact lv_astore_nN hx hb hd rfl (mm_lr_has hl) (by rw [← hl.2.2.1]; exact h1) rfl (fun ls2 h2 => kk ls2 (mm_lr_set1 hl.2.2.1 (nul0 x hn).symm h1 h2))
      · rw [mm_rl_ref (by omega)]
        exact lv_astore_n hx hb hd rfl (mm_lr_has hl) (by rw [← hl.2.2.1]; exact h1) rfl (fun ls2 h2 => kk ls2 (mm_lr_set1 hl.2.2.1 (mm_rl_ref (by omega)).symm h1 h2))
  case iinc j n =>
    obtain rfl := len1 (by intro q; cases q)
    replace ho : (match ls[j]? with
      | some (0, x) => some (pc + 3, mm_set1 ls j (0, mm_w32 (x + n)), st)
      | _ => none) = some (pc', ls', st') := ho
    split at ho
    · rename_i x h1
      cases ho
      have hi : j < ls.length := (List.getElem?_eq_some_iff.mp h1).1
      obtain ⟨k, hk⟩ := List.getElem?_of_mem (mm_lvl_mem (σ := σ) (ls := ls) (q := (j, mm_rl σ (0, x))).mpr ⟨_, h1, by simp, rfl⟩)
      exact lv_iinc (x := Int32.ofInt x) (v := Int32.ofInt (mm_w32 (x + n))) hx hb hd (mm_lr_has hl) hk (by rw [mm_w32_of, Int32.ofInt_add]) (by rw [← hl.2.2.1]; exact hi) rfl (fun ls2 h2 => kk ls2 (mm_lr_set1 hl.2.2.1 rfl hi h2))
    · cases ho
  all_goals (exact absurd ho (by intro q; cases q))
end LOC
theorem mm_lo_ir {i : Instr} {nx : Nat} {ls st ls' st' : List mm_V} {pc' : Nat} (ho : mm_lo i nx ls st = some (pc', ls', st')) (hls : ∀ v ∈ ls, mm_ir v) (hst : ∀ v ∈ st, mm_ir v) : (∀ v ∈ ls', mm_ir v) ∧ ∀ v ∈ st', mm_ir v := by
  have h9 : mm_ir (9, 0) := ⟨fun q => (by cases q), fun q => (by cases q)⟩
  have hset : ∀ (l : List mm_V) (k : Nat) (w : mm_V), (∀ v ∈ l, mm_ir v) → mm_ir w → ∀ v ∈ l.set k w, mm_ir v := fun l k w h1 h2 v hv => by
    rcases List.mem_or_eq_of_mem_set hv with h | h
    · exact h1 v h
    · rw [h]; exact h2
  have hkill : ∀ (l : List mm_V) (k : Nat), (∀ v ∈ l, mm_ir v) → ∀ v ∈ mm_kill l k, mm_ir v := fun l k h1 => by
    unfold mm_kill
    split
    · exact h1
    · split
      · split
        · exact hset _ _ _ h1 h9
        · exact h1
      · exact h1
  have hs1 : ∀ (k : Nat) (w : mm_V), mm_ir w → ∀ v ∈ mm_set1 ls k w, mm_ir v := fun k w hw => hset _ _ _ (hkill _ _ hls) hw
  have hs2 : ∀ (k : Nat) (w : mm_V), mm_ir w → ∀ v ∈ mm_set2 ls k w, mm_ir v := fun k w hw => hset _ _ _ (hset _ _ _ (hkill _ _ hls) h9) hw
  have hl : ∀ {j t : Nat}, mm_ld nx ls st j t = some (pc', ls', st') → (∀ v ∈ ls', mm_ir v) ∧ ∀ v ∈ st', mm_ir v := fun h => by
    obtain ⟨x, h1, -, rfl, rfl⟩ := mm_ld_inv h
    exact ⟨hls, fun v hv => by rcases List.mem_cons.mp hv with rfl | hv; exact hls _ (List.mem_of_getElem? h1); exact hst v hv⟩
  have hs : ∀ {j t : Nat}, mm_sto nx ls st j t = some (pc', ls', st') → (∀ v ∈ ls', mm_ir v) ∧ ∀ v ∈ st', mm_ir v := fun h => by
    obtain ⟨x, rfl, -, ⟨-, -, rfl⟩ | ⟨-, -, rfl⟩⟩ := mm_sto_inv h
    · exact ⟨hs2 _ _ (hst _ List.mem_cons_self), fun v hv => hst v (List.mem_cons_of_mem _ hv)⟩
    · exact ⟨hs1 _ _ (hst _ List.mem_cons_self), fun v hv => hst v (List.mem_cons_of_mem _ hv)⟩
  cases i
  case iload j => exact hl ho
  case iload_n j => exact hl ho
  case lload j => exact hl ho
  case lload_n j => exact hl ho
  case aload j => exact hl ho
  case aload_n j => exact hl ho
  case istore j => exact hs ho
  case istore_n j => exact hs ho
  case lstore j => exact hs ho
  case lstore_n j => exact hs ho
  case astore j => exact hs ho
  case astore_n j => exact hs ho
  case iinc j n =>
    replace ho : (match ls[j]? with
      | some (0, x) => some (nx, mm_set1 ls j (0, mm_w32 (x + n)), st)
      | _ => none) = some (pc', ls', st') := ho
    split at ho
    · cases ho
      exact ⟨hs1 _ _ ⟨fun _ => mm_w32_r _, fun q => (by cases q)⟩, hst⟩
    · cases ho
  all_goals (exact absurd ho (by intro q; cases q))
end
section
/-! Frames and calls. -/
theorem mm_op_1000 {pc nx r1 r2 : Nat} {i : Instr} {r3 : Int} {st st' : List mm_V} {S S' : mm_S} {pc' : Nat} (ho : mm_op pc i nx r1 r2 r3 st S = some (pc', st', S')) : S' 1000 = S 1000 := by
  have hu : ∀ {a k x : Int}, (mm_kd a.toNat).1 < 99 → mm_up S a k x 1000 = S 1000 := fun h => mm_up_ne (fun q => by rw [← q] at h; exact absurd h (by decide))
  cases i
  case iadd => obtain ⟨_, _, _, _, _, _, h⟩ := mm_bin_inv ho; rw [h]
  case isub => obtain ⟨_, _, _, _, _, _, h⟩ := mm_bin_inv ho; rw [h]
  case imul => obtain ⟨_, _, _, _, _, _, h⟩ := mm_bin_inv ho; rw [h]
  case iand => obtain ⟨_, _, _, _, _, _, h⟩ := mm_bin_inv ho; rw [h]
  case ior => obtain ⟨_, _, _, _, _, _, h⟩ := mm_bin_inv ho; rw [h]
  case ixor => obtain ⟨_, _, _, _, _, _, h⟩ := mm_bin_inv ho; rw [h]
  case ishl => obtain ⟨_, _, _, _, _, _, h⟩ := mm_bin_inv ho; rw [h]
  case ishr => obtain ⟨_, _, _, _, _, _, h⟩ := mm_bin_inv ho; rw [h]
  case iushr => obtain ⟨_, _, _, _, _, _, h⟩ := mm_bin_inv ho; rw [h]
  case ladd => obtain ⟨_, _, _, _, _, _, h⟩ := mm_bin_inv ho; rw [h]
  case lsub => obtain ⟨_, _, _, _, _, _, h⟩ := mm_bin_inv ho; rw [h]
  case lmul => obtain ⟨_, _, _, _, _, _, h⟩ := mm_bin_inv ho; rw [h]
  case land => obtain ⟨_, _, _, _, _, _, h⟩ := mm_bin_inv ho; rw [h]
  case lor => obtain ⟨_, _, _, _, _, _, h⟩ := mm_bin_inv ho; rw [h]
  case lshl => obtain ⟨_, _, _, _, _, _, h⟩ := mm_bin_inv ho; rw [h]
  case lshr => obtain ⟨_, _, _, _, _, _, h⟩ := mm_bin_inv ho; rw [h]
  case lcmp => obtain ⟨_, _, _, _, _, _, h⟩ := mm_bin_inv ho; rw [h]
  case ineg => obtain ⟨_, _, _, _, _, h⟩ := mm_un_inv ho; rw [h]
  case lneg => obtain ⟨_, _, _, _, _, h⟩ := mm_un_inv ho; rw [h]
  case i2l => obtain ⟨_, _, _, _, _, h⟩ := mm_un_inv ho; rw [h]
  case l2i => obtain ⟨_, _, _, _, _, h⟩ := mm_un_inv ho; rw [h]
  case i2b => obtain ⟨_, _, _, _, _, h⟩ := mm_un_inv ho; rw [h]
  case idiv => obtain ⟨_, _, _, _, _, _, _, h⟩ := mm_dv_inv ho; rw [h]
  case ldiv => obtain ⟨_, _, _, _, _, _, _, h⟩ := mm_dv_inv ho; rw [h]
  case irem => obtain ⟨_, _, _, _, _, _, _, h⟩ := mm_dv_inv ho; rw [h]
  case lrem => obtain ⟨_, _, _, _, _, _, _, h⟩ := mm_dv_inv ho; rw [h]
  case aconst_null => cases ho; rfl
  case iconst n => cases ho; rfl
  case bipush n => cases ho; rfl
  case sipush n => cases ho; rfl
  case lconst n => cases ho; rfl
  case ldc n => cases ho; rfl
  case ldc_w n => cases ho; rfl
  case ldc2_w n => cases ho; rfl
  case goto off => cases ho; rfl
  case if_icmp cnd off => obtain ⟨_, _, _, _, h⟩ := mm_br2_inv ho; rw [h]
  case ifCond cnd off => obtain ⟨_, _, _, h⟩ := mm_br1_inv ho; rw [h]
  case ifnull off => obtain ⟨_, _, _, h⟩ := mm_br1_inv ho; rw [h]
  case ifnonnull off => obtain ⟨_, _, _, h⟩ := mm_br1_inv ho; rw [h]
  case laload => obtain ⟨_, _, _, _, _, _, _, h⟩ := mm_ald_inv ho; rw [h]
  case baload => obtain ⟨_, _, _, _, _, _, _, h⟩ := mm_ald_inv ho; rw [h]
  case aaload => obtain ⟨_, _, _, _, _, _, _, h⟩ := mm_ald_inv ho; rw [h]
  case dup =>
    match st, ho with
    | v :: t, ho =>
      replace ho : (if v.1 = 1 then none else some (nx, v :: v :: t, S)) = some (pc', st', S') := ho
      split at ho <;> cases ho; rfl
  case pop =>
    match st, ho with
    | v :: t, ho =>
      replace ho : (if v.1 = 1 then none else some (nx, t, S)) = some (pc', st', S') := ho
      split at ho <;> cases ho; rfl
  case dup2 =>
    match st, ho with
    | v :: w :: t, ho =>
      replace ho : (if v.1 = 1 ∨ w.1 = 1 then none else some (nx, v :: w :: v :: w :: t, S)) = some (pc', st', S') := ho
      split at ho <;> cases ho; rfl
  case tableswitch d lw hi offs =>
    replace ho : (match mm_b1 st 0 with
      | some (x, r) => if lw ≤ x ∧ x ≤ hi then some (((pc : Int) + (offs[(x - lw).toNat]?).getD 0).toNat, r, S) else some (((pc : Int) + d).toNat, r, S)
      | none => none) = some (pc', st', S') := ho
    split at ho
    · split at ho <;> cases ho <;> rfl
    · cases ho
  case getfield n =>
    replace ho : (match mm_b1 st 2 with
      | some (a, t) => if mm_ob a r1 then some (nx, mm_gv S r1 r2 a (mm_fk r1 r2) :: t, S) else none
      | none => none) = some (pc', st', S') := ho
    split at ho
    · split at ho <;> cases ho; rfl
    · cases ho
  case putfield n =>
    obtain ⟨u, x, a, -, hob, -, -, rfl⟩ := mm_putf_inv ho
    exact hu (by rw [(of_decide_eq_true hob).2]; exact (by decide : (0 : Nat) < 99))
  case iaload =>
    replace ho : (if r1 = 7 then (match mm_b2 st 2 0 with
      | some (a, j, r) => if a = 1000 ∧ 0 ≤ j ∧ j < S 1000 (-1) then some (nx, (0, S 1000 j) :: r, S) else none
      | none => none) else mm_ald nx st S [1] fun a j => (0, S a j)) = some (pc', st', S') := ho
    split at ho
    · split at ho
      · split at ho <;> cases ho; rfl
      · cases ho
    · obtain ⟨_, _, _, _, _, _, _, h⟩ := mm_ald_inv ho
      rw [h]
  case iastore =>
    obtain ⟨a, j, x, -, ⟨-, hks, -, -⟩, -, -, rfl⟩ := mm_ast_inv (pc := nx) (st := st) (S := S) (ks := [1]) (t := 0) (g := fun _ _ => true) ho
    exact hu (by rw [show (mm_kd a.toNat).1 = 1 by simpa using hks]; decide)
  case lastore =>
    obtain ⟨a, j, x, -, ⟨-, hks, -, -⟩, -, -, rfl⟩ := mm_ast_inv (pc := nx) (st := st) (S := S) (ks := [2]) (t := 1) (g := fun _ _ => true) ho
    exact hu (by rw [show (mm_kd a.toNat).1 = 2 by simpa using hks]; decide)
  case bastore =>
    obtain ⟨a, j, x, -, ⟨-, hks, -, -⟩, -, -, rfl⟩ := mm_ast_inv (pc := nx) (st := st) (S := S) (ks := [3, 4]) (t := 0) (g := mm_fit) ho
    exact hu (by rcases (show (mm_kd a.toNat).1 = 3 ∨ (mm_kd a.toNat).1 = 4 by simpa using hks) with h | h <;> rw [h] <;> decide)
  case arraylength =>
    replace ho : (match mm_b1 st 2 with
      | some (a, t) => if r1 = 7 then (if a = 1000 then some (nx, (0, S 1000 (-1)) :: t, S) else none) else
        if 0 ≤ a ∧ 0 < (mm_kd a.toNat).1 ∧ (mm_kd a.toNat).1 < 7 then some (nx, (0, ((mm_kd a.toNat).2 : Int)) :: t, S) else none
      | none => none) = some (pc', st', S') := ho
    split at ho
    · split at ho
      · split at ho <;> cases ho; rfl
      · split at ho <;> cases ho; rfl
    · cases ho
  case invokestatic n =>
    replace ho : (if r1 = 999 then mm_acp nx st S else none) = some (pc', st', S') := ho
    split at ho
    · unfold mm_acp at ho
      split at ho
      · rename_i n dp b sp a r
        split at ho
        · rename_i hg
          cases ho
          obtain ⟨-, -, -, -, -, -, -, hkk, hk, -⟩ := hg
          funext j
          unfold mm_cpy
          rw [if_neg (fun q => ?_)]
          have h1 := q.1
          rw [hkk, ← h1] at hk
          exact absurd hk (by decide)
        · cases ho
      · cases ho
    · cases ho
  all_goals (exact absurd ho (by intro q; cases q))
def mm_MetOK_code (k : Nat) : Prop := ∀ e ∈ (mm_T k).1, mm_eok (mm_hd k).2.2.2.2.1 (mm_hd k).2.2.2.2.2.1 (mm_hd k).2.2.2.2.2.2.1 (mm_hd k).2.1 e = true
theorem mm_code_ok {k : Nat} (hk : k < 190) : mm_MetOK_code k := fun e he => List.all_eq_true.mp (mm_mok_all k hk).1 e he
theorem mm_find_mem : ∀ {cd : List mm_E} {pc : Nat} {e : mm_E}, mm_find cd pc = some e → e ∈ cd ∧ e.1 = pc
  | [], _, _, h => by cases h
  | x :: r, pc, e, h => by
    unfold mm_find at h
    split at h
    · rename_i h1
      cases h
      exact ⟨List.mem_cons_self, h1⟩
    · obtain ⟨a, b⟩ := mm_find_mem h
      exact ⟨List.mem_cons_of_mem _ a, b⟩
theorem mm_eok_inv {own fr lo : Nat} {bytes : ByteArray} {e : mm_E} (h : mm_eok own fr lo bytes e = true) : decode bytes e.1 = .ok (e.2.1, e.2.2.1) ∧ (mm_il e.2.1 = 0 ∨ e.2.2.1 = mm_il e.2.1) ∧ mm_iok own fr lo e = true := by
  unfold mm_eok at h
  rw [Bool.and_eq_true, Bool.and_eq_true] at h
  exact ⟨of_decide_eq_true h.1, of_decide_eq_true h.2.1, h.2.2⟩
theorem mm_ret_inv {r1 : Nat} {i : Instr} {st : List mm_V} {v : Option mm_V} (h : mm_ret r1 i st = some v) : (i = .ireturn ∧ ∃ x, st = [(0, x)] ∧ v = some (0, x) ∧ (r1 = 1 → x = 0 ∨ x = 1)) ∨ (i = .lreturn ∧ ∃ x, st = [(1, x)] ∧ v = some (1, x)) ∨ (i = .areturn ∧ ∃ x, st = [(2, x)] ∧ v = some (2, x)) ∨ (i = .return_ ∧ st = [] ∧ v = none) := by
  unfold mm_ret at h
  split at h
  · split at h
    · rename_i x
      split at h
      · cases h
      · rename_i hc
        cases h
        exact Or.inl ⟨rfl, x, rfl, rfl, fun h1 => Classical.byContradiction fun h2 => hc ⟨h1, h2⟩⟩
    · cases h
  · split at h
    · rename_i x
      cases h
      exact Or.inr (Or.inl ⟨rfl, x, rfl, rfl⟩)
    · cases h
  · split at h
    · rename_i x
      cases h
      exact Or.inr (Or.inr (Or.inl ⟨rfl, x, rfl, rfl⟩))
    · cases h
  · split at h
    · cases h
      exact Or.inr (Or.inr (Or.inr ⟨rfl, rfl, rfl⟩))
    · cases h
  · cases h
theorem mm_ret_ir {r1 : Nat} {i : Instr} {st : List mm_V} {v : Option mm_V} (h : mm_ret r1 i st = some v) (hst : ∀ w ∈ st, mm_ir w) : ∀ w ∈ v, mm_ir w := by
  rcases mm_ret_inv h with ⟨-, x, rfl, rfl, -⟩ | ⟨-, x, rfl, rfl⟩ | ⟨-, x, rfl, rfl⟩ | ⟨-, rfl, rfl⟩
  · intro w hw; cases hw; exact hst _ List.mem_cons_self
  · intro w hw; cases hw; exact hst _ List.mem_cons_self
  · intro w hw; cases hw; exact hst _ List.mem_cons_self
  · intro w hw; cases hw
theorem mm_cok_inv {own fr lo idx r1 r2 : Nat} {r3 : Int} {b : Bool} (h : mm_cok own fr lo idx r1 r2 r3 b = true) : r1 < 190 ∧ ((∃ q ∈ mm_lm, q.1 = own ∧ q.2.1 = idx ∧ q.2.2.1 = r1) ∨ (b = false ∧ ∃ q ∈ mm_ln, q.1 = own ∧ q.2.1 = idx ∧ q.2.2.1 = r1)) ∧ ((mm_hd r1).2.2.2.2.2.2.2.2 = !b ∧ r2 = (mm_hd r1).2.2.2.2.2.2.2.1 + (if b then 1 else 0) ∧ r3 = (if b then ((mm_hd r1).2.2.2.2.1 : Int) + 1 else 0) ∧ (mm_hd r1).2.2.2.2.2.1 + 1 ≤ fr ∧ 8 + ((mm_hd r1).2.2.1 + 11) + (mm_hd r1).2.2.2.2.2.2.1 ≤ lo) := by
  unfold mm_cok at h
  rw [Bool.and_eq_true, Bool.and_eq_true, Bool.or_eq_true, Bool.and_eq_true] at h
  refine ⟨of_decide_eq_true h.1, ?_, of_decide_eq_true h.2.2⟩
  rcases h.2.1 with h1 | h1
  · obtain ⟨q, hq, hh⟩ := List.any_eq_true.mp h1
    exact Or.inl ⟨q, hq, of_decide_eq_true hh⟩
  · obtain ⟨q, hq, hh⟩ := List.any_eq_true.mp h1.2
    exact Or.inr ⟨by simpa using h1.1, q, hq, of_decide_eq_true hh⟩
/-- what an instruction of a call says -/
theorem mm_isv_iok {own fr lo : Nat} {e : mm_E} {b : Bool} {st : List mm_V} {S : mm_S} (hv : mm_isv e.2.1 = some b) (hok : mm_iok own fr lo e = true) : (∃ idx, e.2.1 = (if b then Instr.invokevirtual idx else Instr.invokestatic idx) ∧ (b = false ∧ e.2.2.2.1 = 999 ∨ mm_cok own fr lo idx e.2.2.2.1 e.2.2.2.2.1 e.2.2.2.2.2 b = true)) := by
  obtain ⟨pc, i, len, r1, r2, r3⟩ := e
  cases i
  case invokevirtual idx => cases hv; exact ⟨idx, rfl, Or.inr hok⟩
  case invokestatic idx =>
    cases hv
    refine ⟨idx, rfl, ?_⟩
    by_cases h : r1 = 999
    · exact Or.inl ⟨rfl, h⟩
    · replace hok : (if r1 = 999 then _ else mm_cok own fr lo idx r1 r2 r3 false) = true := hok
      rw [if_neg h] at hok
      exact Or.inr hok
  all_goals (exact absurd hv (by intro q; cases q))
theorem mm_ent_ir {n : Nat} {as : List mm_V} (h : ∀ v ∈ as, mm_ir v) : ∀ v ∈ mm_ent n as, mm_ir v := by
  have h9 : mm_ir (9, 0) := ⟨fun q => (by cases q), fun q => (by cases q)⟩
  have key : ∀ as : List mm_V, (∀ v ∈ as, mm_ir v) → ∀ v ∈ mm_args as, mm_ir v := by
    intro as
    induction as with
    | nil => intro _ v hv; cases hv
    | cons a r ih =>
      intro h v hv
      unfold mm_args at hv
      split at hv
      · rcases List.mem_cons.mp hv with rfl | hv
        · exact h _ List.mem_cons_self
        · rcases List.mem_cons.mp hv with rfl | hv
          · exact h9
          · exact ih (fun w hw => h w (List.mem_cons_of_mem _ hw)) v hv
      · rcases List.mem_cons.mp hv with rfl | hv
        · exact h _ List.mem_cons_self
        · exact ih (fun w hw => h w (List.mem_cons_of_mem _ hw)) v hv
  intro v hv
  unfold mm_ent at hv
  rcases List.mem_append.mp hv with hv | hv
  · exact key as h v hv
  · rw [(List.mem_replicate.mp hv).2]; exact h9
/-- numbers stay in their ranges; the script stays -/
theorem mm_ex_keep : ∀ (n : Nat) {own fr lo : Nat} {bytes : ByteArray} (cd : List mm_E) (pc : Nat) (ls st : List mm_V) (S : mm_S) (v : Option mm_V) (S' : mm_S), (∀ x ∈ cd, mm_eok own fr lo bytes x = true) → mm_ex mm_T n cd pc ls st S = some (v, S') → (∀ w ∈ ls, mm_ir w) → (∀ w ∈ st, mm_ir w) → mm_sok S → (∀ w ∈ v, mm_ir w) ∧ mm_sok S' ∧ S' 1000 = S 1000
  | 0, _, _, _, _, _, _, _, _, _, _, _, _, h, _, _, _ => by cases h
  | n + 1, own, fr, lo, bytes, cd, pc, ls, st, S, v, S', hcd, h, hls, hst, hS => by
    unfold mm_ex at h
    cases hf : mm_find cd pc with
    | none => rw [hf] at h; cases h
    | some e =>
      rw [hf] at h
      obtain ⟨hm, hpc⟩ := mm_find_mem hf
      obtain ⟨hd, hlen, hok⟩ := mm_eok_inv (hcd e hm)
      replace h : mm_j _ _ e ls st S = some (v, S') := h
      unfold mm_j at h
      cases h1 : mm_op e.1 e.2.1 (e.1 + e.2.2.1) e.2.2.2.1 e.2.2.2.2.1 e.2.2.2.2.2 st S with
      | some q =>
        rw [h1] at h
        obtain ⟨pc1, st1, S1⟩ := q
        obtain ⟨a1, a2⟩ := mm_op_ir hok h1 hst hS
        obtain ⟨b1, b2, b3⟩ := mm_ex_keep n cd pc1 ls st1 S1 v S' hcd h hls a1 a2
        exact ⟨b1, b2, b3.trans (mm_op_1000 h1)⟩
      | none =>
        rw [h1] at h
        dsimp only at h
        cases h2 : mm_lo e.2.1 (e.1 + e.2.2.1) ls st with
        | some q =>
          rw [h2] at h
          obtain ⟨pc1, ls1, st1⟩ := q
          obtain ⟨a1, a2⟩ := mm_lo_ir h2 hls hst
          exact mm_ex_keep n cd pc1 ls1 st1 S v S' hcd h a1 a2 hS
        | none =>
          rw [h2] at h
          dsimp only at h
          cases h3 : mm_ret e.2.2.2.1 e.2.1 st with
          | some q =>
            rw [h3] at h
            cases h
            exact ⟨mm_ret_ir h3 hst, hS, rfl⟩
          | none =>
            rw [h3] at h
            dsimp only at h
            cases h4 : mm_isv e.2.1 with
            | none => rw [h4] at h; cases h
            | some b =>
              rw [h4] at h
              dsimp only at h
              split at h
              · split at h
                · rename_i v1 S1 h6
                  have hgas : ∀ w ∈ (st.take e.2.2.2.2.1).reverse, mm_ir w := fun w hw => hst w (List.mem_of_mem_take (List.mem_reverse.mp hw))
                  split at h6
                  · obtain ⟨idx, he, hc⟩ := mm_isv_iok (st := st) (S := S) h4 hok
                    have hr1 : e.2.2.2.1 < 190 := by
                      rcases hc with ⟨hb, h9⟩ | hc
                      · exfalso
                        rw [h9] at h6
                        have : (mm_T 999).1 = [] := by decide +kernel
                        rw [this] at h6
                        cases n with
                        | zero => cases h6
                        | succ n => cases h6
                      · exact (mm_cok_inv hc).1
                    obtain ⟨b1, b2, b3⟩ := mm_ex_keep n (mm_T e.2.2.2.1).1 0 _ [] S v1 S1 (mm_code_ok hr1) h6 (mm_ent_ir hgas) (fun w hw => by cases hw) hS
                    obtain ⟨c1, c2, c3⟩ := mm_ex_keep n cd _ ls _ S1 v S' hcd h hls (fun w hw => by
                      rcases List.mem_append.mp hw with hw | hw
                      · exact b1 w (by simpa using hw)
                      · exact hst w (List.mem_of_mem_drop hw)) b2
                    exact ⟨c1, c2, c3.trans b3⟩
                  · cases h6
                · cases h
              · cases h
end
section
/-! A frame of the real machine does what the small one does. -/
theorem mm_args_len (σ : Nat → Nat) : ∀ as : List mm_V, (lg_sl (as.map (mm_rl σ))).length = (mm_args as).length
  | [] => rfl
  | v :: r => by
    have ih := mm_args_len σ r
    unfold lg_sl at ih ⊢
    rw [List.map_cons, List.flatMap_cons, List.length_append, ih, mm_cat]
    show _ = (if v.1 = 1 then v :: (9, 0) :: mm_args r else v :: mm_args r).length
    by_cases h : v.1 = 1
    · rw [if_pos h, if_pos h, if_pos rfl, List.length_cons, List.length_cons, List.length_cons, List.length_cons, List.length_nil]
      omega
    · rw [if_neg h, if_neg h, if_neg (by decide), List.length_cons, List.length_cons, List.length_nil]
      omega
theorem mm_args_at (σ : Nat → Nat) : ∀ (as : List mm_V) (k i : Nat) (v : mm_V), (mm_args as)[i]? = some v → v.1 < 3 → (k + i, mm_rl σ v) ∈ lv_args k (as.map (mm_rl σ))
  | [], _, _, _, h, _ => by cases h
  | w :: r, k, i, v, h, h3 => by
    unfold mm_args at h
    rw [List.map_cons]
    unfold lv_args
    rw [mm_cat]
    by_cases hw : w.1 = 1
    · rw [if_pos hw] at h
      rw [if_pos hw, if_pos rfl]
      match i, h with
      | 0, h => cases h; exact List.mem_cons_self
      | 1, h => cases h; exact absurd h3 (by decide)
      | i + 2, h =>
        have := mm_args_at σ r (k + 2) i v h h3
        rw [show k + (i + 2) = k + 2 + i by omega]
        exact List.mem_cons_of_mem _ this
    · rw [if_neg hw] at h
      rw [if_neg hw, if_neg (by decide)]
      match i, h with
      | 0, h => cases h; exact List.mem_cons_self
      | i + 1, h =>
        have := mm_args_at σ r (k + 1) i v h h3
        rw [show k + (i + 1) = k + 1 + i by omega]
        exact List.mem_cons_of_mem _ this
theorem mm_lr_ent {σ : Nat → Nat} {as : List mm_V} {n : Nat} (h : (mm_args as).length ≤ n) : mm_lr σ (mm_ent n as) ((lg_sl (as.map (mm_rl σ)) ++ List.replicate (n - (lg_sl (as.map (mm_rl σ))).length) Slot.unset).toArray) n := by
  have hl := lv_entry (as.map (mm_rl σ)) (n := n) (by rw [mm_args_len]; exact h)
  refine ⟨hl.1, hl.2.1, by unfold mm_ent; rw [List.length_append, List.length_replicate]; omega, fun i v hv h3 => ?_⟩
  unfold mm_ent at hv
  by_cases hi : i < (mm_args as).length
  · rw [List.getElem?_append_left hi] at hv
    have := hl.2.2 _ (mm_args_at σ as 0 i v hv h3)
    rw [Nat.zero_add] at this
    exact this
  · rw [List.getElem?_append_right (by omega)] at hv
    rw [List.getElem?_replicate] at hv
    split at hv
    · cases hv
      exact absurd h3 (by decide)
    · cases hv
def mm_wso (k : Nat) : List Cond := mm_cw (mm_hd k) :: wA
def mm_rm (k : Nat) : Room := { frames := (mm_hd k).2.2.2.2.2.1, cells := 0, slots := 0, locals := (mm_hd k).2.2.2.2.2.2.1 }
def mm_Wd (σ : Nat → Nat) (P : Nat → ClassId) (dC : Nat → ClassId) (dI : Nat → Nat → Nat) (S : mm_S) (U : State) : Prop := va_P (dC, dI) mm_cl (mm_ws σ P S) U.heap ∧ va_K (dC, dI) mm_cl (mm_tys P) U ∧ ∀ q ∈ mm_ln, va_Nw (mm_nw q) U
def mm_Qc (σ : Nat → Nat) (P : Nat → ClassId) (dC : Nat → ClassId) (dI : Nat → Nat → Nat) (B0 : Nat) (S' : mm_S) (v : Option mm_V) : Array Value → State → Outcome → State → Prop := fun _ st oc t => (oc = .returned (v.map (mm_rl σ)) ∧ va_P (dC, dI) mm_cl (mm_ws σ P S') t.heap) ∧ va_F (fun q => B0 ≤ q) st t
def mm_Mt (l : Launch) (σ : Nat → Nat) (P : Nat → ClassId) (dC : Nat → ClassId) (dI : Nat → Nat → Nat) (B0 n : Nat) : Prop := ∀ (k : Nat) (as : List mm_V) (S : mm_S) (v : Option mm_V) (S' : mm_S), k < 190 → mm_ex mm_T n (mm_T k).1 0 (mm_ent (mm_T k).2 as) [] S = some (v, S') → (mm_args as).length ≤ (mm_T k).2 → (∀ w ∈ as, mm_ir w) → mm_sok S →
  Met l (mm_hd k).1 (mm_wso k) (mm_rm k) (va_Pc (as.map (mm_rl σ)) (mm_Wd σ P dC dI S)) (mm_Qc σ P dC dI B0 S' v) 0 0 (fun q => B0 ≤ q)
def mm_scr (s : State) (H0 : Heap) (σ : Nat → Nat) (B0 : Nat) (S : mm_S) : Prop := ∃ (b L : Nat) (xs : Nat → Int32), va_X b L xs s H0 ∧ b < H0.size ∧ b < B0 ∧ σ 1000 = b ∧ S 1000 (-1) = (L : Int) ∧ L < 2147483648 ∧ ∀ j : Nat, j < L → Int32.ofInt (S 1000 j) = xs j
section FRM
variable {p : Program} {l : Launch} {e : Env} {R : Room} {s : State} {m : MethodId} {args : Array Value} {below : List Frame} {meth : Method} {c : Code} {H H0 : Heap} {locs : List Loc} {cells slots : Nat} {Q : State → Prop} {cc : ByteArray} {lsr : Array Slot} {σ : Nat → Nat} {P : Nat → ClassId} {dC : Nat → ClassId} {dI : Nat → Nat → Nat} {B0 own : Nat}
/-- one of them all -/
theorem mm_op_sound (C : mm_Cx p s m args own σ P dC dI B0) (hb : c.code = cc) (hml : c.maxLocals = lsr.size) {pc len r1 r2 : Nat} {i : Instr} {r3 : Int} {st st' : List mm_V} {S S' : mm_S} {pc' fr lo : Nat} (hR : fr ≤ R.frames ∧ lo ≤ R.locals) (hd : decode cc pc = .ok (i, len)) (hlen : mm_il i = 0 ∨ len = mm_il i) (hok : mm_iok own fr lo (pc, i, len, r1, r2, r3) = true) (hscr : own = 13 → mm_scr s H0 σ B0 S) (ho : mm_op pc i (pc + len) r1 r2 r3 st S = some (pc', st', S')) (hir : ∀ v ∈ st, mm_ir v) (hsok : mm_sok S) (hP : va_P (dC, dI) mm_cl (mm_ws σ P S) H) (hS : va_S (fun q => B0 ≤ q) H0 H locs) (kk : mm_KK p l e R s m args below meth c H0 cells slots Q lsr σ P dC dI B0 pc' st' S') : W p l e R s m args below meth c H locs cells slots Q (F0 m pc lsr (st.map (mm_rl σ))) := by
  have len1 : mm_il i ≠ 0 → len = mm_il i := fun h => hlen.resolve_left h
  cases i
  case aconst_null => exact mm_s_aconst_null C hb hd (len1 (by intro q; cases q)) hok ho hir hsok hP hS kk
  case iconst n => exact mm_s_iconst C hb hd (len1 (by intro q; cases q)) hok ho hir hsok hP hS kk
  case bipush n => exact mm_s_bipush C hb hd (len1 (by intro q; cases q)) hok ho hir hsok hP hS kk
  case sipush n => exact mm_s_sipush C hb hd (len1 (by intro q; cases q)) hok ho hir hsok hP hS kk
  case lconst n => exact mm_s_lconst C hb hd (len1 (by intro q; cases q)) hok ho hir hsok hP hS kk
  case ldc n => exact mm_s_ldc C hb hd (len1 (by intro q; cases q)) hok ho hir hsok hP hS kk
  case ldc_w n => exact mm_s_ldc_w C hb hd (len1 (by intro q; cases q)) hok ho hir hsok hP hS kk
  case ldc2_w n => exact mm_s_ldc2_w C hb hd (len1 (by intro q; cases q)) hok ho hir hsok hP hS kk
  case dup => exact mm_s_dup C hb hd (len1 (by intro q; cases q)) hok ho hir hsok hP hS kk
  case dup2 => exact mm_s_dup2 C hb hd (len1 (by intro q; cases q)) hok ho hir hsok hP hS kk
  case pop => exact mm_s_pop C hb hd (len1 (by intro q; cases q)) hok ho hir hsok hP hS kk
  case iadd => exact mm_s_iadd C hb hd (len1 (by intro q; cases q)) hok ho hir hsok hP hS kk
  case isub => exact mm_s_isub C hb hd (len1 (by intro q; cases q)) hok ho hir hsok hP hS kk
  case imul => exact mm_s_imul C hb hd (len1 (by intro q; cases q)) hok ho hir hsok hP hS kk
  case iand => exact mm_s_iand C hb hd (len1 (by intro q; cases q)) hok ho hir hsok hP hS kk
  case ior => exact mm_s_ior C hb hd (len1 (by intro q; cases q)) hok ho hir hsok hP hS kk
  case ixor => exact mm_s_ixor C hb hd (len1 (by intro q; cases q)) hok ho hir hsok hP hS kk
  case ishl => exact mm_s_ishl C hb hd (len1 (by intro q; cases q)) hok ho hir hsok hP hS kk
  case ishr => exact mm_s_ishr C hb hd (len1 (by intro q; cases q)) hok ho hir hsok hP hS kk
  case iushr => exact mm_s_iushr C hb hd (len1 (by intro q; cases q)) hok ho hir hsok hP hS kk
  case ineg => exact mm_s_ineg C hb hd (len1 (by intro q; cases q)) hok ho hir hsok hP hS kk
  case idiv => exact mm_s_idiv C hb hd (len1 (by intro q; cases q)) hok ho hir hsok hP hS kk
  case irem => exact mm_s_irem C hb hd (len1 (by intro q; cases q)) hok ho hir hsok hP hS kk
  case ladd => exact mm_s_ladd C hb hd (len1 (by intro q; cases q)) hok ho hir hsok hP hS kk
  case lsub => exact mm_s_lsub C hb hd (len1 (by intro q; cases q)) hok ho hir hsok hP hS kk
  case lmul => exact mm_s_lmul C hb hd (len1 (by intro q; cases q)) hok ho hir hsok hP hS kk
  case land => exact mm_s_land C hb hd (len1 (by intro q; cases q)) hok ho hir hsok hP hS kk
  case lor => exact mm_s_lor C hb hd (len1 (by intro q; cases q)) hok ho hir hsok hP hS kk
  case lshl => exact mm_s_lshl C hb hd (len1 (by intro q; cases q)) hok ho hir hsok hP hS kk
  case lshr => exact mm_s_lshr C hb hd (len1 (by intro q; cases q)) hok ho hir hsok hP hS kk
  case lneg => exact mm_s_lneg C hb hd (len1 (by intro q; cases q)) hok ho hir hsok hP hS kk
  case ldiv => exact mm_s_ldiv C hb hd (len1 (by intro q; cases q)) hok ho hir hsok hP hS kk
  case lrem => exact mm_s_lrem C hb hd (len1 (by intro q; cases q)) hok ho hir hsok hP hS kk
  case lcmp => exact mm_s_lcmp C hb hd (len1 (by intro q; cases q)) hok ho hir hsok hP hS kk
  case i2l => exact mm_s_i2l C hb hd (len1 (by intro q; cases q)) hok ho hir hsok hP hS kk
  case l2i => exact mm_s_l2i C hb hd (len1 (by intro q; cases q)) hok ho hir hsok hP hS kk
  case i2b => exact mm_s_i2b C hb hd (len1 (by intro q; cases q)) hok ho hir hsok hP hS kk
  case if_icmp cnd off =>
    cases cnd
    case eq => exact mm_s_icmp_eq C hb hd (len1 (by intro q; cases q)) hok ho hir hsok hP hS kk
    case ne => exact mm_s_icmp_ne C hb hd (len1 (by intro q; cases q)) hok ho hir hsok hP hS kk
    case lt => exact mm_s_icmp_lt C hb hd (len1 (by intro q; cases q)) hok ho hir hsok hP hS kk
    case ge => exact mm_s_icmp_ge C hb hd (len1 (by intro q; cases q)) hok ho hir hsok hP hS kk
    case gt => exact mm_s_icmp_gt C hb hd (len1 (by intro q; cases q)) hok ho hir hsok hP hS kk
    case le => exact mm_s_icmp_le C hb hd (len1 (by intro q; cases q)) hok ho hir hsok hP hS kk
  case ifCond cnd off =>
    cases cnd
    case eq => exact mm_s_if_eq C hb hd (len1 (by intro q; cases q)) hok ho hir hsok hP hS kk
    case ne => exact mm_s_if_ne C hb hd (len1 (by intro q; cases q)) hok ho hir hsok hP hS kk
    case lt => exact mm_s_if_lt C hb hd (len1 (by intro q; cases q)) hok ho hir hsok hP hS kk
    case ge => exact mm_s_if_ge C hb hd (len1 (by intro q; cases q)) hok ho hir hsok hP hS kk
    case gt => exact mm_s_if_gt C hb hd (len1 (by intro q; cases q)) hok ho hir hsok hP hS kk
    case le => exact mm_s_if_le C hb hd (len1 (by intro q; cases q)) hok ho hir hsok hP hS kk
  case ifnull off => exact mm_s_ifnull C hb hd (len1 (by intro q; cases q)) hok ho hir hsok hP hS kk
  case ifnonnull off => exact mm_s_ifnonnull C hb hd (len1 (by intro q; cases q)) hok ho hir hsok hP hS kk
  case goto off => exact mm_s_goto C hb hd (len1 (by intro q; cases q)) hok ho hir hsok hP hS kk
  case tableswitch d lw hi offs => exact mm_s_tableswitch C hb hd hok ho hir hsok hP hS kk
  case getfield n => exact mm_s_getfield C hb hd (len1 (by intro q; cases q)) hok ho hir hsok hP hS kk
  case putfield n => exact mm_s_putfield C hb hd (len1 (by intro q; cases q)) hok ho hir hsok hP hS kk
  case iaload =>
    by_cases h7 : r1 = 7
    · have h13 : own = 13 := (of_decide_eq_true hok : r1 = 7 → own = 13) h7
      obtain ⟨b, L, xs, hX, hbl, hbB, hσ, hL, hL2, hxs⟩ := hscr h13
      obtain ⟨hx, -, -, -, -, -⟩ := C
      obtain rfl := len1 (by intro q; cases q)
      replace ho : (if r1 = 7 then (match mm_b2 st 2 0 with
        | some (a, j, r) => if a = 1000 ∧ 0 ≤ j ∧ j < S 1000 (-1) then some (pc + 1, (0, S 1000 j) :: r, S) else none
        | none => none) else mm_ald (pc + 1) st S [1] fun a j => (0, S a j)) = some (pc', st', S') := ho
      rw [if_pos h7] at ho
      split at ho
      · rename_i a j r h1
        have hst := mm_b2_inv h1
        subst hst
        split at ho
        · rename_i hg
          cases ho
          obtain ⟨rfl, hj0, hj1⟩ := hg
          rw [hL] at hj1
          obtain ⟨hin, hnn⟩ := mm_nn ((hir _ List.mem_cons_self).1 rfl) hj0 hj1
          rw [List.map_cons, List.map_cons, mm_rl_ref (by omega), show ((1000 : Int)).toNat = 1000 from rfl, hσ]
          refine va_sld (A := fun q => B0 ≤ q) hx hb hX hbl (by omega) hS hin hd ?_
          rw [hnn]
          have k1 := kk H locs hP hS
          have h2 := hxs j.toNat (by omega)
          rw [Int.toNat_of_nonneg hj0] at h2
          rw [← h2]
          exact k1
        · cases ho
      · cases ho
    · exact mm_s_iaload C hb h7 hd (len1 (by intro q; cases q)) hok ho hir hsok hP hS kk
  case arraylength =>
    by_cases h7 : r1 = 7
    · have h13 : own = 13 := (of_decide_eq_true hok : r1 = 7 → own = 13) h7
      obtain ⟨b, L, xs, hX, hbl, hbB, hσ, hL, hL2, hxs⟩ := hscr h13
      obtain ⟨hx, -, -, -, -, -⟩ := C
      obtain rfl := len1 (by intro q; cases q)
      replace ho : (match mm_b1 st 2 with
        | some (a, t) => if r1 = 7 then (if a = 1000 then some (pc + 1, (0, S 1000 (-1)) :: t, S) else none) else
          if 0 ≤ a ∧ 0 < (mm_kd a.toNat).1 ∧ (mm_kd a.toNat).1 < 7 then some (pc + 1, (0, ((mm_kd a.toNat).2 : Int)) :: t, S) else none
        | none => none) = some (pc', st', S') := ho
      split at ho
      · rename_i a t h1
        have hst := mm_b1_inv h1
        subst hst
        rw [if_pos h7] at ho
        split at ho
        · rename_i hg
          cases ho
          subst hg
          rw [List.map_cons, mm_rl_ref (by omega), show ((1000 : Int)).toNat = 1000 from rfl, hσ]
          refine va_slen (A := fun q => B0 ≤ q) hx hb hX hbl (by omega) hS hd ?_
          have k1 := kk H locs hP hS
          rw [hL] at k1
          rw [show Int32.ofNat L = Int32.ofInt (L : Int) from Int32.ofInt_eq_ofNat.symm]
          exact k1
        · cases ho
      · cases ho
    · exact mm_s_arraylength C hb h7 hd (len1 (by intro q; cases q)) hok ho hir hsok hP hS kk
  case baload => exact mm_s_baload C hb hd (len1 (by intro q; cases q)) hok ho hir hsok hP hS kk
  case laload => exact mm_s_laload C hb hd (len1 (by intro q; cases q)) hok ho hir hsok hP hS kk
  case aaload => exact mm_s_aaload C hb hd (len1 (by intro q; cases q)) hok ho hir hsok hP hS kk
  case iastore => exact mm_s_iastore C hb hd (len1 (by intro q; cases q)) hok ho hir hsok hP hS kk
  case bastore => exact mm_s_bastore C hb hd (len1 (by intro q; cases q)) hok ho hir hsok hP hS kk
  case lastore => exact mm_s_lastore C hb hd (len1 (by intro q; cases q)) hok ho hir hsok hP hS kk
  case invokestatic n =>
    by_cases h9 : r1 = 999
    · subst h9
      exact mm_s_arraycopy C hb hml hR hd (len1 (by intro q; cases q)) hok ho hir hsok hP hS kk
    · exfalso
      replace ho : (if r1 = 999 then mm_acp (pc + len) st S else none) = some (pc', st', S') := ho
      rw [if_neg h9] at ho
      cases ho
  all_goals (exact absurd ho (by intro q; cases q))
/-- behind a call -/
theorem mm_callx {v : Option mm_V} {S' : mm_S} {pc : Nat} {rest st0 : List Value} {a : Array Value} (hr : va_Run p l e R s m args below meth c H locs cells slots 0 0 (F0 m pc lsr st0) rest (mm_Qc σ P dC dI B0 S' v a) (fun q => B0 ≤ q)) (hS : va_S (fun q => B0 ≤ q) H0 H locs)
    (kk : ∀ (H1 : Heap) (locs1 : List Loc), va_P (dC, dI) mm_cl (mm_ws σ P S') H1 → va_S (fun q => B0 ≤ q) H0 H1 locs1 → W p l e R s m args below meth c H1 locs1 cells slots Q (F0 m (pc + 3) lsr ((v.map (mm_rl σ)).toList ++ rest))) : W p l e R s m args below meth c H locs cells slots Q (F0 m pc lsr st0) := by
  intro T hT X
  obtain ⟨w, st₀, t, T', L, h0, X', hL, e1, e2, ⟨⟨hv, hb⟩, hz, hk⟩, st⟩ := hr T hT X
  cases hv
  rw [h0] at hz hk
  obtain ⟨t2, a1, b1⟩ := kk T'.heap (locs ++ L) (by rw [e1]; exact hb)
    ⟨Nat.le_trans hS.1 (by rw [e1]; exact hz), fun q h1 h2 => by rw [e1, hk q (Nat.lt_of_lt_of_le h1 hS.1) h2]; exact hS.2.1 q h1 h2, fun q hq => by
      rcases List.mem_append.mp hq with h | h
      · exact hS.2.2 q h
      · exact hL q h⟩ T' rfl X'
  exact ⟨t2, st t2 a1, b1⟩
end FRM
end
section
theorem mm_hd_facts {k : Nat} (hk : k < 190) : mm_cw (mm_hd k) ∈ wA ∧ Cond.initialized (mm_hd k).1.cls ∈ wA ∧ ((mm_hd k).2.2.2.2.2.2.2.2 = true → Cond.static (mm_hd k).1 ∈ wA) ∧ ((mm_hd k).2.2.2.2.2.2.2.2 = false → Cond.instanceMethod (mm_hd k).1 ∈ wA ∧ Cond.selects (mm_hd k).1.cls (mm_hd k).1 (mm_hd k).1 ∈ wA) ∧ (mm_hd k).1.cls = mm_cn (mm_hd k).2.2.2.2.1 ∧ ((mm_hd k).1.cls ≠ "java/lang/invoke/MethodHandle" ∧ (mm_hd k).1.cls ≠ "java/lang/invoke/VarHandle" ∧ (parseMethodDescriptor (mm_hd k).1.desc).map (fun d => d.parameters.length) = some (mm_hd k).2.2.2.2.2.2.2.1) ∧ plainFor (mm_hd k).1 = true := by
  have h := mm_hds_ok k hk
  unfold mm_hok at h
  rw [Bool.and_eq_true, Bool.and_eq_true] at h
  obtain ⟨⟨h1, h2⟩, h3⟩ := h
  have h3 := of_decide_eq_true h3
  refine ⟨mm_cw_ok k hk, mm_wat_ok h1, fun hs => ?_, fun hs => ?_, h3.1, ⟨h3.2.1, h3.2.2.1, h3.2.2.2.1⟩, h3.2.2.2.2⟩
  · rw [if_pos hs] at h2
    exact mm_wat_ok h2
  · rw [if_neg (by rw [hs]; decide), Bool.and_eq_true] at h2
    exact ⟨mm_wat_ok h2.1, mm_wat_ok h2.2⟩
theorem mm_wso_good {k : Nat} (hk : k < 190) : GoodIn wA (mm_wso k) := by
  intro w hw
  have hm : w ∈ wA := by
    rcases List.mem_cons.mp hw with rfl | h
    · exact (mm_hd_facts hk).1
    · exact h
  exact ⟨hm, good_of_word (wA_good w hm)⟩
section FRM2
variable {p : Program} {l : Launch} {e : Env} {R : Room} {s : State} {m : MethodId} {args : Array Value} {below : List Frame} {meth : Method} {c : Code} {H H0 : Heap} {locs : List Loc} {cells slots : Nat} {Q : State → Prop} {cc : ByteArray} {lsr : Array Slot} {σ : Nat → Nat} {P : Nat → ClassId} {dC : Nat → ClassId} {dI : Nat → Nat → Nat} {B0 own : Nat}
theorem mm_Wd_blind {as : List mm_V} {S : mm_S} : FrameBlind (va_Pc (as.map (mm_rl σ)) (mm_Wd σ P dC dI S)) := by
  intro a U g mk h
  obtain ⟨h1, h2, h3, h4⟩ := h
  exact ⟨h1, h2, va_K.moved (u := U) (U := U.calling g mk a) (Vm.Alike.refl U.vm) h3, fun q hq => va_Nw.same rfl rfl (h4 q hq)⟩
/-- the call itself -/
theorem mm_call_sound {nL : Nat} (C : mm_Cx p s m args own σ P dC dI B0) (hb : c.code = cc) (hml : c.maxLocals = nL) (hsz : lsr.size = nL) {x : mm_E} {fr lo n : Nat} {b : Bool} {st : List mm_V} {S S' S1 : mm_S} {v1 : Option mm_V} (hR : fr ≤ R.frames ∧ lo ≤ R.locals) (hcs : cells ≤ R.cells ∧ slots ≤ R.slots) (hM : mm_Mt l σ P dC dI B0 n) (hd : decode cc x.1 = .ok (x.2.1, x.2.2.1)) (hlen : mm_il x.2.1 = 0 ∨ x.2.2.1 = mm_il x.2.1) (hok : mm_iok own fr lo x = true) (hv : mm_isv x.2.1 = some b) (hg : mm_cg x.2.2.2.2.1 x.2.2.2.2.2 st = true)
    (hex : (if (mm_args (st.take x.2.2.2.2.1).reverse).length ≤ (mm_T x.2.2.2.1).2 then mm_ex mm_T n (mm_T x.2.2.2.1).1 0 (mm_ent (mm_T x.2.2.2.1).2 (st.take x.2.2.2.2.1).reverse) [] S else none) = some (v1, S1)) (hir : ∀ w ∈ st, mm_ir w) (hsok : mm_sok S) (hP : va_P (dC, dI) mm_cl (mm_ws σ P S) H) (hS : va_S (fun q => B0 ≤ q) H0 H locs)
    (kk : ∀ (H1 : Heap) (locs1 : List Loc), va_P (dC, dI) mm_cl (mm_ws σ P S1) H1 → va_S (fun q => B0 ≤ q) H0 H1 locs1 → W p l e R s m args below meth c H1 locs1 cells slots Q (F0 m (x.1 + x.2.2.1) lsr ((v1.toList ++ st.drop x.2.2.2.2.1).map (mm_rl σ)))) : W p l e R s m args below meth c H locs cells slots Q (F0 m x.1 lsr (st.map (mm_rl σ))) := by
  obtain ⟨hx, hown, hts, hK, hN, hap⟩ := C
  obtain ⟨pc, i, len, r1, r2, r3⟩ := x
  dsimp only at hd hlen hok hv hg hex kk ⊢
  split at hex
  · rename_i hal
    obtain ⟨idx, hi, hc⟩ := mm_isv_iok (e := (pc, i, len, r1, r2, r3)) (st := st) (S := S) hv hok
    dsimp only at hi hc
    have hcok : mm_cok own fr lo idx r1 r2 r3 b = true := by
      rcases hc with ⟨-, h9⟩ | hc
      · exfalso
        rw [h9] at hex
        have : (mm_T 999).1 = [] := by decide +kernel
        rw [this] at hex
        cases n with
        | zero => cases hex
        | succ n => cases hex
      · exact hc
    obtain ⟨hr1, hlk, hst0, hr2, hr3, hfr, hlo⟩ := mm_cok_inv hcok
    obtain ⟨f1, f2, f3, f4, f5, f6, f7⟩ := mm_hd_facts hr1
    unfold mm_cg at hg
    rw [Bool.and_eq_true, Bool.and_eq_true] at hg
    have g1 : r2 ≤ st.length := of_decide_eq_true hg.1
    have g2 := hg.2.1
    have g3 : mm_cs (st.drop r2) ≤ 8 := of_decide_eq_true hg.2.2
    have hMet := hM r1 (st.take r2).reverse S v1 S1 hr1 hex hal (fun w hw => hir w (List.mem_of_mem_take (List.mem_reverse.mp hw))) hsok
    have hroom : (mm_rm r1).frames + 1 ≤ R.frames ∧ 8 + ((mm_hd r1).2.2.1 + 11) + (mm_rm r1).locals ≤ R.locals := ⟨Nat.le_trans hfr hR.1, Nat.le_trans hlo hR.2⟩
    have hblind : FrameBlind (va_Pc ((st.take r2).reverse.map (mm_rl σ)) (mm_Wd σ P dC dI S)) := mm_Wd_blind
    have hpre : ∀ U : State, U.heap = H → s.WarmedH U.vm → va_Pc ((st.take r2).reverse.map (mm_rl σ)) (mm_Wd σ P dC dI S) ((st.take r2).reverse.map (mm_rl σ)).toArray U := fun U hU hW =>
      ⟨rfl, by rw [hU]; exact hP, va_K.moved hW.alike hK, fun q hq => va_Nw.warmM hW (hN q hq)⟩
    have hcat : 2 * (F0 m pc lsr (st.map (mm_rl σ))).monitorRoom + (((st.drop r2).map (mm_rl σ)).map fun v => v.category).sum ≤ 8 := by
      show 2 * 0 + _ ≤ 8
      have := mm_cat_sum σ (st.drop r2)
      omega
    have hkk : ∀ (H1 : Heap) (locs1 : List Loc), len = 3 → va_P (dC, dI) mm_cl (mm_ws σ P S1) H1 → va_S (fun q => B0 ≤ q) H0 H1 locs1 → W p l e R s m args below meth c H1 locs1 cells slots Q (F0 m (pc + 3) lsr ((v1.map (mm_rl σ)).toList ++ (st.drop r2).map (mm_rl σ))) := fun H1 locs1 hl a1 a2 => by
      have := kk H1 locs1 a1 a2
      rw [hl] at this
      rw [List.map_append] at this
      cases v1 with
      | none => exact this
      | some w => exact this
    have hwso : mm_wso r1 = Cond.code (mm_hd r1).1 (mm_hd r1).2.1 (mm_hd r1).2.2.1 (mm_hd r1).2.2.2.1 :: wA := rfl
    have hsplit : st.map (mm_rl σ) = ((st.take r2).reverse.map (mm_rl σ)).reverse ++ (st.drop r2).map (mm_rl σ) := by
      rw [List.map_reverse, List.reverse_reverse, ← List.map_append, List.take_append_drop]
    have hlenA : ((st.take r2).reverse.map (mm_rl σ)).length = r2 := by
      rw [List.length_map, List.length_reverse, List.length_take]; omega
    cases b with
    | false =>
      rw [if_neg (by decide)] at hi
      subst hi
      have hl3 : len = 3 := hlen.resolve_left (by intro q; cases q)
      subst hl3
      have hstat := hts _ (f3 hst0)
      have hn : ((st.take r2).reverse.map (mm_rl σ)).length = (mm_hd r1).2.2.2.2.2.2.2.1 := by rw [hlenA, hr2, if_neg (by decide)]; rfl
      rcases hlk with ⟨q, hq, q1, q2, q3⟩ | ⟨-, q, hq, q1, q2, q3⟩
      · have hlw := hts _ (mm_lm_ok q hq)
        rw [q1, q2, q3] at hlw
        have cb := callB_of (R := R) (own := mm_cn own) (index := idx) (mc := 0) (ms := 0) (mm_hd r1).2.2.2.2.2.2.2.1 hts (mm_wso_good hr1) hwso (rm := mm_rm r1) rfl rfl (hts _ f2) hlw f6 hroom
        exact mm_callx (va_runS (g := F0 m pc lsr (st.map (mm_rl σ))) (rest := (st.drop r2).map (mm_rl σ)) ⟨hx, hb, hml, hown, hts⟩ hMet ⟨cb, hstat⟩ ⟨hblind, hpre⟩ rfl hn hsz hsplit hcat hd ⟨by omega, by omega⟩) hS (fun H1 locs1 a1 a2 => hkk H1 locs1 rfl a1 a2)
      · have hlw := hN q hq
        unfold mm_nw at hlw
        rw [q1, q2, q3] at hlw
        have cb := va_cnB (R := R) (own := mm_cn own) (host := "PagesByLevels") (index := idx) (mc := 0) (ms := 0) (mm_hd r1).2.2.2.2.2.2.2.1 hts (mm_wso_good hr1) hwso (rm := mm_rm r1) rfl rfl hlw (hts _ f2) f6 hroom
        exact mm_callx (va_runSN (g := F0 m pc lsr (st.map (mm_rl σ))) (rest := (st.drop r2).map (mm_rl σ)) ⟨hx, hb, hml, hown, hts⟩ hMet ⟨cb, hstat, trivial⟩ ⟨hblind, hpre⟩ rfl hn hsz hsplit hcat hd ⟨by omega, by omega⟩) hS (fun H1 locs1 a1 a2 => hkk H1 locs1 rfl a1 a2)
    | true =>
      rw [if_pos rfl] at hi
      subst hi
      have hl3 : len = 3 := hlen.resolve_left (by intro q; cases q)
      subst hl3
      obtain ⟨hin, hsel⟩ := f4 hst0
      rw [if_pos rfl] at hr3 hr2
      rcases hlk with ⟨q, hq, q1, q2, q3⟩ | ⟨h, -⟩
      · have hlw := hts _ (mm_lm_ok q hq)
        rw [q1, q2, q3] at hlw
        have cb := callB_of (R := R) (own := mm_cn own) (index := idx) (mc := 0) (ms := 0) (mm_hd r1).2.2.2.2.2.2.2.1 hts (mm_wso_good hr1) hwso (rm := mm_rm r1) rfl rfl (hts _ f2) hlw f6 hroom
        generalize hA : (st.take r2).reverse = as at *
        unfold mm_rcv at g2
        split at g2
        · rename_i a tl
          rw [Bool.or_eq_true] at g2
          have hob : mm_ob a (r3 - 1).toNat = true := by
            rcases g2 with g2 | g2
            · have := of_decide_eq_true g2
              omega
            · exact g2
          have hcn : (r3 - 1).toNat = (mm_hd r1).2.2.2.2.1 := by omega
          rw [hcn] at hob
          obtain ⟨ha0, hkd⟩ := of_decide_eq_true hob
          have hal2 : a.toNat < 91 := mm_kd_lt (by rw [hkd]; exact (by decide : (0 : Nat) < 99))
          have hci := (mm_lay_len _ (mm_kd99 (a := a.toNat) (by rw [hkd]; exact (by decide : (0 : Nat) < 99)))).2 (by rw [hkd])
          rw [hkd] at hci
          have he := mm_ws_get (σ := σ) (P := P) (S := S) hal2
          rw [mm_cell0 hkd] at he
          have hrecv := va_recv hK hP (mm_Fcl _ hci) he
          rw [List.map_cons, mm_rl_ref ha0] at hsplit hblind hpre hMet hlenA
          rw [List.length_cons] at hlenA
          refine mm_callx (va_runV (g := F0 m pc lsr (st.map (mm_rl σ))) (b := σ a.toNat) (As := tl.map (mm_rl σ)) (rest := (st.drop r2).map (mm_rl σ)) (C := (mm_hd r1).1.cls) ⟨hx, hb, hml, hown, hts⟩ hMet ⟨cb, hts _ hin, hts _ hsel⟩ ⟨hblind, ?_, hpre⟩ rfl (by omega) hsz ?_ hcat hd ⟨by omega, by omega⟩) hS (fun H1 locs1 a1 a2 => hkk H1 locs1 rfl a1 a2)
          · rw [f5]; exact hrecv
          · show st.map (mm_rl σ) = _
            rw [hsplit, List.reverse_cons, List.append_assoc]
            rfl
        · have := of_decide_eq_true g2
          omega
      · cases h
  · cases hex
/-- a frame, from here to its end -/
theorem mm_frame {nL fr lo : Nat} {cd : List mm_E} (C : mm_Cx p s m args own σ P dC dI B0) (hb : c.code = cc) (hml : c.maxLocals = nL) (hcd : ∀ x ∈ cd, mm_eok own fr lo cc x = true) (hR : fr ≤ R.frames ∧ lo ≤ R.locals) (hcs : cells ≤ R.cells ∧ slots ≤ R.slots) (v : Option mm_V) (S' : mm_S)
    (HR : ∀ (x : mm_E) (pc : Nat) (st : List mm_V) (lsr : Array Slot) (H1 : Heap) (locs1 : List Loc), x ∈ cd → x.1 = pc → mm_ret x.2.2.2.1 x.2.1 st = some v → va_P (dC, dI) mm_cl (mm_ws σ P S') H1 → va_S (fun q => B0 ≤ q) H0 H1 locs1 → W p l e R s m args below meth c H1 locs1 cells slots Q (F0 m pc lsr (st.map (mm_rl σ)))) :
    ∀ (n : Nat), (∀ k, k < n → mm_Mt l σ P dC dI B0 k) → ∀ (pc : Nat) (ls st : List mm_V) (S : mm_S) (lsr : Array Slot) (H : Heap) (locs : List Loc), mm_ex mm_T n cd pc ls st S = some (v, S') → mm_lr σ ls lsr nL → (∀ w ∈ ls, mm_ir w) → (∀ w ∈ st, mm_ir w) → mm_sok S → (own = 13 → mm_scr s H0 σ B0 S) → va_P (dC, dI) mm_cl (mm_ws σ P S) H → va_S (fun q => B0 ≤ q) H0 H locs → W p l e R s m args below meth c H locs cells slots Q (F0 m pc lsr (st.map (mm_rl σ))) := by
  intro n
  induction n with
  | zero => intro _ pc ls st S lsr H locs h; cases h
  | succ n ih =>
    intro hM pc ls st S lsr H locs h hl hls hst hsok hscr hP hS
    unfold mm_ex at h
    cases hf : mm_find cd pc with
    | none => rw [hf] at h; cases h
    | some x =>
      rw [hf] at h
      obtain ⟨hm, hpc⟩ := mm_find_mem hf
      obtain ⟨hd, hlen, hok⟩ := mm_eok_inv (hcd x hm)
      replace h : mm_j _ _ x ls st S = some (v, S') := h
      unfold mm_j at h
      have ih' := ih (fun k hk => hM k (by omega))
      subst hpc
      cases h1 : mm_op x.1 x.2.1 (x.1 + x.2.2.1) x.2.2.2.1 x.2.2.2.2.1 x.2.2.2.2.2 st S with
      | some q =>
        rw [h1] at h
        obtain ⟨pc1, st1, S1⟩ := q
        obtain ⟨a1, a2⟩ := mm_op_ir hok h1 hst hsok
        refine mm_op_sound C hb (by rw [hml, hl.1]) hR hd hlen hok hscr h1 hst hsok hP hS (fun H1 locs1 b1 b2 => ?_)
        refine ih' pc1 ls st1 S1 lsr H1 locs1 h hl hls a1 a2 (fun h13 => ?_) b1 b2
        have e1000 := mm_op_1000 h1
        obtain ⟨b, L, xs, c1, c2, c3, c4, c5, c6, c7⟩ := hscr h13
        exact ⟨b, L, xs, c1, c2, c3, c4, by rw [e1000]; exact c5, c6, by rw [e1000]; exact c7⟩
      | none =>
        rw [h1] at h
        dsimp only at h
        cases h2 : mm_lo x.2.1 (x.1 + x.2.2.1) ls st with
        | some q =>
          rw [h2] at h
          obtain ⟨pc1, ls1, st1⟩ := q
          obtain ⟨a1, a2⟩ := mm_lo_ir h2 hls hst
          exact mm_lo_sound C.1 hb hd hlen h2 hl (fun lsr' hl' => ih' pc1 ls1 st1 S lsr' H locs h hl' a1 a2 hsok hscr hP hS)
        | none =>
          rw [h2] at h
          dsimp only at h
          cases h3 : mm_ret x.2.2.2.1 x.2.1 st with
          | some q =>
            rw [h3] at h
            cases h
            exact HR x x.1 st lsr H locs hm rfl h3 hP hS
          | none =>
            rw [h3] at h
            dsimp only at h
            cases h4 : mm_isv x.2.1 with
            | none => rw [h4] at h; cases h
            | some b =>
              rw [h4] at h
              dsimp only at h
              split at h
              · rename_i hg
                split at h
                · rename_i v1 S1 h6
                  refine mm_call_sound C hb hml hl.1 hR hcs (hM n (by omega)) hd hlen hok h4 hg h6 hst hsok hP hS (S' := S') (fun H1 locs1 b1 b2 => ?_)
                  have hkeep : (∀ w ∈ v1, mm_ir w) ∧ mm_sok S1 ∧ S1 1000 = S 1000 := by
                    obtain ⟨idx, he, hc⟩ := mm_isv_iok (st := st) (S := S) h4 hok
                    split at h6
                    · have hr1 : x.2.2.2.1 < 190 := by
                        rcases hc with ⟨hb, h9⟩ | hc
                        · exfalso
                          rw [h9] at h6
                          have : (mm_T 999).1 = [] := by decide +kernel
                          rw [this] at h6
                          cases n with
                          | zero => cases h6
                          | succ n => cases h6
                        · exact (mm_cok_inv hc).1
                      exact mm_ex_keep n _ 0 _ [] S v1 S1 (mm_code_ok hr1) h6 (mm_ent_ir (fun w hw => hst w (List.mem_of_mem_take (List.mem_reverse.mp hw)))) (fun w hw => by cases hw) hsok
                    · cases h6
                  obtain ⟨k1, k2, k3⟩ := hkeep
                  refine ih' _ ls _ S1 lsr H1 locs1 h hl hls (fun w hw => ?_) k2 (fun h13 => ?_) b1 b2
                  · rcases List.mem_append.mp hw with hw | hw
                    · exact k1 w (by simpa using hw)
                    · exact hst w (List.mem_of_mem_drop hw)
                  · obtain ⟨b, L, xs, c1, c2, c3, c4, c5, c6, c7⟩ := hscr h13
                    exact ⟨b, L, xs, c1, c2, c3, c4, by rw [k3]; exact c5, c6, by rw [k3]; exact c7⟩
                · cases h
              · cases h
end FRM2
theorem mm_own_lt : ∀ k, k < 190 → (mm_hd k).2.2.2.2.1 ≠ 13 := by
  have h : (List.range 190).all (fun k => decide ((mm_hd k).2.2.2.2.1 ≠ 13)) = true := by decide +kernel
  intro k hk
  exact of_decide_eq_true (List.all_eq_true.mp h k (List.mem_range.mpr hk))
/-- every method, by its run in the small machine -/
theorem mm_met (l : Launch) {σ : Nat → Nat} {P : Nat → ClassId} {dC : Nat → ClassId} {dI : Nat → Nat → Nat} {B0 : Nat} (hap : mm_ap B0 σ) : ∀ n, mm_Mt l σ P dC dI B0 n := by
  intro n
  induction n using Nat.strongRecOn with
  | ind n ih =>
    intro k as S v S' hk hex hal hir hsok
    obtain ⟨f1, f2, f3, f4, f5, f6, f7⟩ := mm_hd_facts hk
    obtain ⟨hT1, hT2, hT3⟩ := mm_mok_all k hk
    refine Met.ofWF (cc := (mm_hd k).2.1) (maxL := (mm_hd k).2.2.1) (ret := (mm_hd k).2.2.2.1) f7 rfl ?_
    intro p e s m args below meth c s₁ B hml hv
    obtain ⟨rfl, hP, hK, hN⟩ := hv
    have hts : ∀ w ∈ wA, w.before ((as.map (mm_rl σ)).toArray) s = true := fun w hw => atoms_spec (ws := mm_wso k) B.pre w (List.mem_cons_of_mem _ hw)
    have hown : s.vm.findClass (mm_cn (mm_hd k).2.2.2.2.1) = some m.cls := by rw [← f5]; exact findClass_of_methodNamed B.named
    have hlocks := B.notSynchronized
    have hb := B.bytes
    have hr := B.returns
    have hx := B.exec
    rw [lg_entry_eq]
    rw [hT2] at hex hal
    have hl := mm_lr_ent (σ := σ) hal
    have hS : va_S (fun q => B0 ≤ q) s.heap s.heap [] := va_S.rf
    refine mm_frame (st := []) (cd := (mm_T k).1) (fr := (mm_hd k).2.2.2.2.2.1) (lo := (mm_hd k).2.2.2.2.2.2.1) (own := (mm_hd k).2.2.2.2.1) (H0 := s.heap) ⟨hx, hown, hts, hK, hN, hap⟩ hb hml (fun x hx => List.all_eq_true.mp hT1 x hx) ⟨Nat.le_refl _, Nat.le_refl _⟩ ⟨Nat.zero_le _, Nat.zero_le _⟩ v S' ?_ n ih 0 _ S _ s.heap [] hex hl (mm_ent_ir hir) (fun w hw => by cases hw) hsok (fun h => absurd h (mm_own_lt k hk)) hP hS
    intro x pc st lsr H1 locs1 hm hpc hret hP1 hS1
    obtain ⟨hd, hlen, hok⟩ := mm_eok_inv (mm_code_ok hk x hm)
    have hrok := List.all_eq_true.mp hT3 x hm
    rw [hpc] at hd
    have hF : ∀ t : State, t.heap = H1 → va_F (fun q => B0 ≤ q) s t := fun t ht => hS1.F ht
    rcases mm_ret_inv hret with ⟨hi, y, rfl, rfl, h01⟩ | ⟨hi, y, rfl, rfl⟩ | ⟨hi, y, rfl, rfl⟩ | ⟨hi, rfl, rfl⟩
    · rw [hi] at hd
      have hl1 : x.2.2.1 = 1 := by
        rcases hlen with h | h
        · rw [hi] at h; cases h
        · rw [hi] at h; exact h
      rw [hl1] at hd
      unfold mm_rok at hrok
      rw [hi] at hrok
      have hrt := of_decide_eq_true hrok
      rcases hrt with hrt | ⟨hrt, hb1⟩
      · exact W.iret (v := Int32.ofInt y) hx hb (by rw [hr, hrt]) (fun t ht _ => ⟨⟨rfl, by rw [ht]; exact hP1⟩, hF t ht⟩) hS1.2.2 hd hlocks
      · refine W.zret (v := Int32.ofInt y) hx hb (by rw [hr, hrt]) ?_ (fun t ht _ => ⟨⟨rfl, by rw [ht]; exact hP1⟩, hF t ht⟩) hS1.2.2 hd hlocks
        rcases h01 hb1 with rfl | rfl <;> rfl
    · rw [hi] at hd
      have hl1 : x.2.2.1 = 1 := by
        rcases hlen with h | h
        · rw [hi] at h; cases h
        · rw [hi] at h; exact h
      rw [hl1] at hd
      unfold mm_rok at hrok
      rw [hi] at hrok
      have hrt := of_decide_eq_true hrok
      exact W.lret (v := Int64.ofInt y) hx hb (by rw [hr, hrt]) (fun t ht _ => ⟨⟨rfl, by rw [ht]; exact hP1⟩, hF t ht⟩) hS1.2.2 hd hlocks
    · rw [hi] at hd
      have hl1 : x.2.2.1 = 1 := by
        rcases hlen with h | h
        · rw [hi] at h; cases h
        · rw [hi] at h; exact h
      rw [hl1] at hd
      unfold mm_rok at hrok
      rw [hi] at hrok
      have hrt : ∃ nm, (mm_hd k).2.2.2.1 = some (.object nm) := by
        dsimp only at hrok
        split at hrok
        · rename_i nm hh; exact ⟨nm, hh⟩
        · cases hrok
      obtain ⟨nm, hrt⟩ := hrt
      exact W.aret (v := mm_rl σ (2, y)) hx hb (by rw [hr, hrt]) (Or.inl ⟨nm, rfl⟩) (mm_rl_ref_cases σ y) (fun t ht _ => ⟨⟨rfl, by rw [ht]; exact hP1⟩, hF t ht⟩) hS1.2.2 hd hlocks
    · rw [hi] at hd
      have hl1 : x.2.2.1 = 1 := by
        rcases hlen with h | h
        · rw [hi] at h; cases h
        · rw [hi] at h; exact h
      rw [hl1] at hd
      unfold mm_rok at hrok
      rw [hi] at hrok
      have hrt := of_decide_eq_true hrok
      exact W.vret hx hb (by rw [hr, hrt]) (fun t ht _ => ⟨⟨rfl, by rw [ht]; exact hP1⟩, hF t ht⟩) hS1.2.2 hd hlocks
end
section
/-! Rules of runs, one a kind of instruction; fewer locals known; the world's objects. -/
def mm_le : List mm_V → List mm_V → Prop
  | [], [] => True
  | v' :: r', v :: r => (v' = v ∨ v'.1 = 9) ∧ mm_le r' r
  | _, _ => False
theorem mm_le_len : ∀ {a b : List mm_V}, mm_le a b → a.length = b.length
  | [], [], _ => rfl
  | _ :: _, _ :: _, h => by rw [List.length_cons, List.length_cons, mm_le_len h.2]
  | [], _ :: _, h => h.elim
  | _ :: _, [], h => h.elim
theorem mm_le_get : ∀ {a b : List mm_V}, mm_le a b → ∀ (i : Nat) (v : mm_V), a[i]? = some v → ∃ w, b[i]? = some w ∧ (v = w ∨ v.1 = 9)
  | [], [], _, _, _, h => by cases h
  | _ :: _, _ :: _, h, 0, v, hv => by cases hv; exact ⟨_, rfl, h.1⟩
  | _ :: _, _ :: _, h, i + 1, v, hv => mm_le_get h.2 i v hv
  | [], _ :: _, h, _, _, _ => h.elim
  | _ :: _, [], h, _, _, _ => h.elim
theorem mm_le_set : ∀ {a b : List mm_V}, mm_le a b → ∀ (i : Nat) (v w : mm_V), (v = w ∨ v.1 = 9) → mm_le (a.set i v) (b.set i w)
  | [], [], _, _, _, _, _ => trivial
  | _ :: _, _ :: _, h, 0, _, _, hv => ⟨hv, h.2⟩
  | _ :: _, _ :: _, h, i + 1, v, w, hv => ⟨h.1, mm_le_set h.2 i v w hv⟩
  | [], _ :: _, h, _, _, _, _ => h.elim
  | _ :: _, [], h, _, _, _, _ => h.elim
theorem mm_le_set9 : ∀ {a b : List mm_V}, mm_le a b → ∀ (i : Nat) (v w : mm_V), a[i]? = some v → v.1 = 9 → mm_le a (b.set i w)
  | [], [], _, _, _, _, hv, _ => by cases hv
  | _ :: _, _ :: _, h, 0, v, w, hv, h9 => by cases hv; exact ⟨Or.inr h9, h.2⟩
  | _ :: _, _ :: _, h, i + 1, v, w, hv, h9 => ⟨h.1, mm_le_set9 h.2 i v w hv h9⟩
  | [], _ :: _, h, _, _, _, _, _ => h.elim
  | _ :: _, [], h, _, _, _, _, _ => h.elim
theorem mm_le_kill {a b : List mm_V} (h : mm_le a b) (i : Nat) : mm_le (mm_kill a i) (mm_kill b i) := by
  unfold mm_kill
  match i with
  | 0 => exact h
  | j + 1 =>
    dsimp only
    cases ha : a[j]? with
    | none =>
      have hb : b[j]? = none := by
        rw [List.getElem?_eq_none_iff] at ha ⊢
        rw [← mm_le_len h]; exact ha
      rw [hb]
      exact h
    | some v =>
      obtain ⟨w, hw, hvw⟩ := mm_le_get h j v ha
      rw [hw]
      dsimp only
      rcases hvw with rfl | h9
      · by_cases h1 : v.1 = 1
        · rw [if_pos h1, if_pos h1]
          exact mm_le_set h j _ _ (Or.inl rfl)
        · rw [if_neg h1, if_neg h1]; exact h
      · rw [if_neg (by omega)]
        by_cases h1 : w.1 = 1
        · rw [if_pos h1]
          exact mm_le_set9 h j v _ ha h9
        · rw [if_neg h1]; exact h
theorem mm_lo_le {i : Instr} {nx : Nat} {a b st : List mm_V} (h : mm_le a b) {pc1 : Nat} {a1 st1 : List mm_V} (ho : mm_lo i nx a st = some (pc1, a1, st1)) : ∃ b1, mm_lo i nx b st = some (pc1, b1, st1) ∧ mm_le a1 b1 := by
  have ld : ∀ {j t : Nat}, t < 3 → mm_ld nx a st j t = some (pc1, a1, st1) → ∃ b1, mm_ld nx b st j t = some (pc1, b1, st1) ∧ mm_le a1 b1 := fun {j t} ht hh => by
    obtain ⟨x, h1, rfl, rfl, rfl⟩ := mm_ld_inv hh
    obtain ⟨w, hw, hvw⟩ := mm_le_get h j _ h1
    rcases hvw with rfl | h9
    · refine ⟨b, ?_, h⟩
      unfold mm_ld
      rw [hw]
      dsimp only
      rw [if_pos rfl]
    · dsimp only at h9; omega
  have sto : ∀ {j t : Nat}, mm_sto nx a st j t = some (pc1, a1, st1) → ∃ b1, mm_sto nx b st j t = some (pc1, b1, st1) ∧ mm_le a1 b1 := fun {j t} hh => by
    obtain ⟨x, rfl, rfl, ⟨h1, h2, rfl⟩ | ⟨h1, h2, rfl⟩⟩ := mm_sto_inv hh
    · refine ⟨mm_set2 b j (t, x), ?_, mm_le_set (mm_le_set (mm_le_kill h j) _ _ _ (Or.inl rfl)) _ _ _ (Or.inl rfl)⟩
      unfold mm_sto
      dsimp only
      rw [if_pos rfl, if_pos h1, if_pos (by rw [← mm_le_len h]; exact h2)]
    · refine ⟨mm_set1 b j (t, x), ?_, mm_le_set (mm_le_kill h j) _ _ _ (Or.inl rfl)⟩
      unfold mm_sto
      dsimp only
      rw [if_pos rfl, if_neg h1, if_pos (by rw [← mm_le_len h]; exact h2)]
  cases i
  case iload j => exact ld (by decide) ho
  case iload_n j => exact ld (by decide) ho
  case lload j => exact ld (by decide) ho
  case lload_n j => exact ld (by decide) ho
  case aload j => exact ld (by decide) ho
  case aload_n j => exact ld (by decide) ho
  case istore j => exact sto ho
  case istore_n j => exact sto ho
  case lstore j => exact sto ho
  case lstore_n j => exact sto ho
  case astore j => exact sto ho
  case astore_n j => exact sto ho
  case iinc j n =>
    replace ho : (match a[j]? with
      | some (0, x) => some (nx, mm_set1 a j (0, mm_w32 (x + n)), st)
      | _ => none) = some (pc1, a1, st1) := ho
    split at ho
    · rename_i x h1
      cases ho
      obtain ⟨w, hw, hvw⟩ := mm_le_get h j _ h1
      rcases hvw with rfl | h9
      · refine ⟨mm_set1 b j (0, mm_w32 (x + n)), ?_, mm_le_set (mm_le_kill h j) _ _ _ (Or.inl rfl)⟩
        show (match b[j]? with
          | some (0, x) => some (nx, mm_set1 b j (0, mm_w32 (x + n)), st)
          | _ => none) = _
        rw [hw]
        rfl
      · dsimp only at h9; omega
    · cases ho
  all_goals (exact absurd ho (by intro q; cases q))
theorem mm_lo_some_ret {i : Instr} {nx : Nat} {b st : List mm_V} {q : Nat × List mm_V × List mm_V} (h : mm_lo i nx b st = some q) (r1 : Nat) (st2 : List mm_V) : mm_ret r1 i st2 = none ∧ mm_isv i = none := by
  cases i <;> first | exact ⟨rfl, rfl⟩ | exact absurd h (by intro q; cases q)
theorem mm_ex_le2 {T : Nat → List mm_E × Nat} : ∀ (n : Nat) (cd : List mm_E) (pc : Nat) (a b st : List mm_V) (S : mm_S) (r : Option mm_V × mm_S), mm_le a b → mm_ex T n cd pc a st S = some r → mm_ex T n cd pc b st S = some r
  | 0, _, _, _, _, _, _, _, _, h => by cases h
  | n + 1, cd, pc, a, b, st, S, r, hab, h => by
    unfold mm_ex at h ⊢
    cases hf : mm_find cd pc with
    | none => rw [hf] at h; cases h
    | some e =>
      rw [hf] at h
      dsimp only at h ⊢
      unfold mm_j at h ⊢
      cases h1 : mm_op e.1 e.2.1 (e.1 + e.2.2.1) e.2.2.2.1 e.2.2.2.2.1 e.2.2.2.2.2 st S with
      | some q =>
        rw [h1] at h
        exact mm_ex_le2 n cd _ a b _ _ r hab h
      | none =>
        rw [h1] at h
        dsimp only at h ⊢
        cases h2 : mm_lo e.2.1 (e.1 + e.2.2.1) a st with
        | some q =>
          rw [h2] at h
          obtain ⟨pc1, a1, st1⟩ := q
          obtain ⟨b1, e1, hle⟩ := mm_lo_le hab h2
          rw [e1]
          exact mm_ex_le2 n cd _ a1 b1 _ _ r hle h
        | none =>
          rw [h2] at h
          dsimp only at h
          cases h2b : mm_lo e.2.1 (e.1 + e.2.2.1) b st with
          | some q =>
            exfalso
            obtain ⟨z1, z2⟩ := mm_lo_some_ret h2b e.2.2.2.1 st
            rw [z1] at h
            dsimp only at h
            rw [z2] at h
            cases h
          | none =>
            dsimp only
            cases h3 : mm_ret e.2.2.2.1 e.2.1 st with
            | some q => rw [h3] at h; exact h
            | none =>
              rw [h3] at h
              dsimp only at h ⊢
              cases h4 : mm_isv e.2.1 with
              | none => rw [h4] at h; cases h
              | some b4 =>
                rw [h4] at h
                dsimp only at h ⊢
                split at h
                · rename_i hg
                  rw [if_pos hg]
                  split at h
                  · rename_i v1 S1 h6
                    exact mm_ex_le2 n cd _ a b _ _ r hab h
                  · cases h
                · cases h
section RULES2
variable {cd : List mm_E} {pc len r1 r2 : Nat} {r3 : Int} {ls st : List mm_V} {S : mm_S} {Q : Option mm_V → mm_S → Prop}
theorem Rn.weak {ls' : List mm_V} (h : mm_le ls' ls) (k : Rn cd pc ls' st S Q) : Rn cd pc ls st S Q := by
  obtain ⟨n, v, S', h1, h2⟩ := k
  exact ⟨n, v, S', mm_ex_le2 n cd pc ls' ls st S _ h h1, h2⟩
/-- one on the stack alone, of any kind: its outcome given -/
theorem R_op {i : Instr} (hf : mm_find cd pc = some (pc, i, len, r1, r2, r3)) {nx pc' : Nat} {st' : List mm_V} {S' : mm_S} (hn : pc + len = nx) (ho : mm_op pc i nx r1 r2 r3 st S = some (pc', st', S')) (k : Rn cd pc' ls st' S' Q) : Rn cd pc ls st S Q := by
  subst hn
  exact Rn.op _ hf ho k
theorem R_lo {i : Instr} (hf : mm_find cd pc = some (pc, i, len, r1, r2, r3)) {nx pc' : Nat} {ls' st' : List mm_V} (hn : pc + len = nx) (ho : mm_op pc i nx r1 r2 r3 st S = none) (hl : mm_lo i nx ls st = some (pc', ls', st')) (k : Rn cd pc' ls' st' S Q) : Rn cd pc ls st S Q := by
  subst hn
  exact Rn.lo _ hf ho hl k
theorem R_iinc {j : Nat} {n x z : Int} {nx : Nat} {ls' : List mm_V} (hf : mm_find cd pc = some (pc, .iinc j n, len, r1, r2, r3)) (hn : pc + len = nx) (hl : ls[j]? = some (0, x)) (hz : x + n = z) (hr : mm_r32 z) (hs : mm_set1 ls j (0, z) = ls') (k : Rn cd nx ls' st S Q) : Rn cd pc ls st S Q := by
  subst hn
  refine Rn.lo _ hf rfl ?_ k
  show (match ls[j]? with
    | some (0, x) => some (pc + len, mm_set1 ls j (0, mm_w32 (x + n)), st)
    | _ => none) = _
  rw [hl]
  show some (pc + len, mm_set1 ls j (0, mm_w32 (x + n)), st) = _
  rw [hz, mm_w32_id hr, hs]
theorem R_iadd {x y z : Int} {nx : Nat} (hf : mm_find cd pc = some (pc, .iadd, len, r1, r2, r3)) (hn : pc + len = nx) (hz : x + y = z) (hr : mm_r32 z) (k : Rn cd nx ls ((0, z) :: st) S Q) : Rn cd pc ls ((0, y) :: (0, x) :: st) S Q := by
  subst hn; subst hz
  exact Rn.op _ hf (show some (pc + len, (0, mm_w32 (x + y)) :: st, S) = _ by rw [mm_w32_id hr]) k
theorem R_isub {x y z : Int} {nx : Nat} (hf : mm_find cd pc = some (pc, .isub, len, r1, r2, r3)) (hn : pc + len = nx) (hz : x - y = z) (hr : mm_r32 z) (k : Rn cd nx ls ((0, z) :: st) S Q) : Rn cd pc ls ((0, y) :: (0, x) :: st) S Q := by
  subst hn; subst hz
  exact Rn.op _ hf (show some (pc + len, (0, mm_w32 (x - y)) :: st, S) = _ by rw [mm_w32_id hr]) k
theorem R_imul {x y z : Int} {nx : Nat} (hf : mm_find cd pc = some (pc, .imul, len, r1, r2, r3)) (hn : pc + len = nx) (hz : x * y = z) (hr : mm_r32 z) (k : Rn cd nx ls ((0, z) :: st) S Q) : Rn cd pc ls ((0, y) :: (0, x) :: st) S Q := by
  subst hn; subst hz
  exact Rn.op _ hf (show some (pc + len, (0, mm_w32 (x * y)) :: st, S) = _ by rw [mm_w32_id hr]) k
theorem R_ineg {x z : Int} {nx : Nat} (hf : mm_find cd pc = some (pc, .ineg, len, r1, r2, r3)) (hn : pc + len = nx) (hz : -x = z) (hr : mm_r32 z) (k : Rn cd nx ls ((0, z) :: st) S Q) : Rn cd pc ls ((0, x) :: st) S Q := by
  subst hn; subst hz
  exact Rn.op _ hf (show some (pc + len, (0, mm_w32 (-x)) :: st, S) = _ by rw [mm_w32_id hr]) k
theorem R_idiv {x y z : Int} {nx : Nat} (hf : mm_find cd pc = some (pc, .idiv, len, r1, r2, r3)) (hn : pc + len = nx) (hy : y ≠ 0) (hz : Int.tdiv x y = z) (hr : mm_r32 z) (k : Rn cd nx ls ((0, z) :: st) S Q) : Rn cd pc ls ((0, y) :: (0, x) :: st) S Q := by
  subst hn; subst hz
  exact Rn.op _ hf (show (if y = 0 then none else some (pc + len, (0, mm_w32 (Int.tdiv x y)) :: st, S)) = _ by rw [if_neg hy, mm_w32_id hr]) k
theorem R_irem {x y z : Int} {nx : Nat} (hf : mm_find cd pc = some (pc, .irem, len, r1, r2, r3)) (hn : pc + len = nx) (hy : y ≠ 0) (hz : Int.tmod x y = z) (k : Rn cd nx ls ((0, z) :: st) S Q) : Rn cd pc ls ((0, y) :: (0, x) :: st) S Q := by
  subst hn; subst hz
  exact Rn.op _ hf (show (if y = 0 then none else some (pc + len, (0, Int.tmod x y) :: st, S)) = _ by rw [if_neg hy]) k
theorem R_ldiv {x y : Int} {nx : Nat} (hf : mm_find cd pc = some (pc, .ldiv, len, r1, r2, r3)) (hn : pc + len = nx) (hy : y ≠ 0) (k : Rn cd nx ls ((1, mm_w64 (Int.tdiv x y)) :: st) S Q) : Rn cd pc ls ((1, y) :: (1, x) :: st) S Q := by
  subst hn
  exact Rn.op _ hf (show (if y = 0 then none else some (pc + len, (1, mm_w64 (Int.tdiv x y)) :: st, S)) = _ by rw [if_neg hy]) k
theorem R_lrem {x y : Int} {nx : Nat} (hf : mm_find cd pc = some (pc, .lrem, len, r1, r2, r3)) (hn : pc + len = nx) (hy : y ≠ 0) (k : Rn cd nx ls ((1, Int.tmod x y) :: st) S Q) : Rn cd pc ls ((1, y) :: (1, x) :: st) S Q := by
  subst hn
  exact Rn.op _ hf (show (if y = 0 then none else some (pc + len, (1, Int.tmod x y) :: st, S)) = _ by rw [if_neg hy]) k
theorem R_l2i {x z : Int} {nx : Nat} (hf : mm_find cd pc = some (pc, .l2i, len, r1, r2, r3)) (hn : pc + len = nx) (hz : mm_w32 x = z) (k : Rn cd nx ls ((0, z) :: st) S Q) : Rn cd pc ls ((1, x) :: st) S Q := by
  subst hn; subst hz
  exact Rn.op _ hf rfl k
/-- the two ways of a branch on two ints -/
theorem R_icmp {c : ClassFile.Cond} {off x y : Int} {nx tg : Nat} {B : Prop} (hf : mm_find cd pc = some (pc, .if_icmp c off, len, r1, r2, r3)) (hn : pc + len = nx) (ht : ((pc : Int) + off).toNat = tg) (hc : mm_cnd c x y = true ↔ B) (kt : B → Rn cd tg ls st S Q) (kf : ¬ B → Rn cd nx ls st S Q) : Rn cd pc ls ((0, y) :: (0, x) :: st) S Q := by
  subst hn; subst ht
  exact Rn.br _ hf (b := mm_cnd c x y) rfl hc kt kf
theorem R_if {c : ClassFile.Cond} {off x : Int} {nx tg : Nat} {B : Prop} (hf : mm_find cd pc = some (pc, .ifCond c off, len, r1, r2, r3)) (hn : pc + len = nx) (ht : ((pc : Int) + off).toNat = tg) (hc : mm_cnd c x 0 = true ↔ B) (kt : B → Rn cd tg ls st S Q) (kf : ¬ B → Rn cd nx ls st S Q) : Rn cd pc ls ((0, x) :: st) S Q := by
  subst hn; subst ht
  exact Rn.br _ hf (b := mm_cnd c x 0) rfl hc kt kf
theorem mm_cnd_eq (x y : Int) : mm_cnd .eq x y = true ↔ x = y := decide_eq_true_iff
theorem mm_cnd_ne (x y : Int) : mm_cnd .ne x y = true ↔ ¬ x = y := decide_eq_true_iff
theorem mm_cnd_lt (x y : Int) : mm_cnd .lt x y = true ↔ x < y := decide_eq_true_iff
theorem mm_cnd_ge (x y : Int) : mm_cnd .ge x y = true ↔ y ≤ x := decide_eq_true_iff
theorem mm_cnd_gt (x y : Int) : mm_cnd .gt x y = true ↔ y < x := decide_eq_true_iff
theorem mm_cnd_le (x y : Int) : mm_cnd .le x y = true ↔ x ≤ y := decide_eq_true_iff
/-- branches whose way is known -/
theorem R_icmpT {c : ClassFile.Cond} {off x y : Int} {tg : Nat} (hf : mm_find cd pc = some (pc, .if_icmp c off, len, r1, r2, r3)) (ht : ((pc : Int) + off).toNat = tg) (hc : mm_cnd c x y = true) (k : Rn cd tg ls st S Q) : Rn cd pc ls ((0, y) :: (0, x) :: st) S Q := by
  subst ht
  exact Rn.op _ hf (show some (if mm_cnd c x y then ((pc : Int) + off).toNat else pc + len, st, S) = _ by rw [hc]; rfl) k
theorem R_icmpF {c : ClassFile.Cond} {off x y : Int} {nx : Nat} (hf : mm_find cd pc = some (pc, .if_icmp c off, len, r1, r2, r3)) (hn : pc + len = nx) (hc : mm_cnd c x y = false) (k : Rn cd nx ls st S Q) : Rn cd pc ls ((0, y) :: (0, x) :: st) S Q := by
  subst hn
  exact Rn.op _ hf (show some (if mm_cnd c x y then ((pc : Int) + off).toNat else pc + len, st, S) = _ by rw [hc]; rfl) k
theorem R_ifT {c : ClassFile.Cond} {off x : Int} {tg : Nat} (hf : mm_find cd pc = some (pc, .ifCond c off, len, r1, r2, r3)) (ht : ((pc : Int) + off).toNat = tg) (hc : mm_cnd c x 0 = true) (k : Rn cd tg ls st S Q) : Rn cd pc ls ((0, x) :: st) S Q := by
  subst ht
  exact Rn.op _ hf (show some (if mm_cnd c x 0 then ((pc : Int) + off).toNat else pc + len, st, S) = _ by rw [hc]; rfl) k
theorem R_ifF {c : ClassFile.Cond} {off x : Int} {nx : Nat} (hf : mm_find cd pc = some (pc, .ifCond c off, len, r1, r2, r3)) (hn : pc + len = nx) (hc : mm_cnd c x 0 = false) (k : Rn cd nx ls st S Q) : Rn cd pc ls ((0, x) :: st) S Q := by
  subst hn
  exact Rn.op _ hf (show some (if mm_cnd c x 0 then ((pc : Int) + off).toNat else pc + len, st, S) = _ by rw [hc]; rfl) k
theorem R_ifnull {off x : Int} {nx tg : Nat} (hf : mm_find cd pc = some (pc, .ifnull off, len, r1, r2, r3)) (hn : pc + len = nx) (ht : ((pc : Int) + off).toNat = tg) (kt : x < 0 → Rn cd tg ls st S Q) (kf : ¬ x < 0 → Rn cd nx ls st S Q) : Rn cd pc ls ((2, x) :: st) S Q := by
  subst hn; subst ht
  exact Rn.br _ hf (b := decide (x < 0)) rfl decide_eq_true_iff kt kf
theorem R_ifnonnull {off x : Int} {nx tg : Nat} (hf : mm_find cd pc = some (pc, .ifnonnull off, len, r1, r2, r3)) (hn : pc + len = nx) (ht : ((pc : Int) + off).toNat = tg) (kt : 0 ≤ x → Rn cd tg ls st S Q) (kf : ¬ 0 ≤ x → Rn cd nx ls st S Q) : Rn cd pc ls ((2, x) :: st) S Q := by
  subst hn; subst ht
  exact Rn.br _ hf (b := decide (0 ≤ x)) rfl decide_eq_true_iff kt kf
/-- fields -/
theorem R_get {idx : Nat} {a : Int} {w : mm_V} {nx : Nat} (hf : mm_find cd pc = some (pc, .getfield idx, len, r1, r2, r3)) (hn : pc + len = nx) (ho : mm_ob a r1 = true) (hw : mm_gv S r1 r2 a (mm_fk r1 r2) = w) (k : Rn cd nx ls (w :: st) S Q) : Rn cd pc ls ((2, a) :: st) S Q := by
  subst hn; subst hw
  exact Rn.op _ hf (show (if mm_ob a r1 then some (pc + len, mm_gv S r1 r2 a (mm_fk r1 r2) :: st, S) else none) = _ by rw [if_pos ho]) k
theorem R_put {idx u : Nat} {a x : Int} {kk : Int} {nx : Nat} (hf : mm_find cd pc = some (pc, .putfield idx, len, r1, r2, r3)) (hn : pc + len = nx) (ho : mm_ob a r1 = true) (hg : mm_pg (mm_fk r1 r2) u x = true) (hk : (r2 : Int) = kk) (k : Rn cd nx ls st (mm_up S a kk x) Q) : Rn cd pc ls ((u, x) :: (2, a) :: st) S Q := by
  subst hn; subst hk
  exact Rn.op _ hf (show (if mm_ob a r1 && mm_pg (mm_fk r1 r2) u x then some (pc + len, st, mm_up S a r2 x) else none) = _ by rw [ho, hg]; rfl) k
/-- rows -/
theorem R_iald {a i : Int} {nx : Nat} (hf : mm_find cd pc = some (pc, .iaload, len, 0, r2, r3)) (hn : pc + len = nx) (he : mm_el a i [1] = true) (k : Rn cd nx ls ((0, S a i) :: st) S Q) : Rn cd pc ls ((0, i) :: (2, a) :: st) S Q := by
  subst hn
  exact Rn.op _ hf (show (if mm_el a i [1] then some (pc + len, (0, S a i) :: st, S) else none) = _ by rw [if_pos he]) k
theorem R_lald {a i : Int} {nx : Nat} (hf : mm_find cd pc = some (pc, .laload, len, r1, r2, r3)) (hn : pc + len = nx) (he : mm_el a i [2] = true) (k : Rn cd nx ls ((1, S a i) :: st) S Q) : Rn cd pc ls ((0, i) :: (2, a) :: st) S Q := by
  subst hn
  exact Rn.op _ hf (show (if mm_el a i [2] then some (pc + len, (1, S a i) :: st, S) else none) = _ by rw [if_pos he]) k
theorem R_bald {a i : Int} {nx : Nat} (hf : mm_find cd pc = some (pc, .baload, len, r1, r2, r3)) (hn : pc + len = nx) (he : mm_el a i [3, 4] = true) (k : Rn cd nx ls ((0, S a i) :: st) S Q) : Rn cd pc ls ((0, i) :: (2, a) :: st) S Q := by
  subst hn
  exact Rn.op _ hf (show (if mm_el a i [3, 4] then some (pc + len, (0, S a i) :: st, S) else none) = _ by rw [if_pos he]) k
theorem R_aald {a i z : Int} {nx : Nat} (hf : mm_find cd pc = some (pc, .aaload, len, r1, r2, r3)) (hn : pc + len = nx) (he : mm_el a i [5, 6] = true) (hz : mm_ra a i = z) (k : Rn cd nx ls ((2, z) :: st) S Q) : Rn cd pc ls ((0, i) :: (2, a) :: st) S Q := by
  subst hn; subst hz
  exact Rn.op _ hf (show (if mm_el a i [5, 6] then some (pc + len, (2, mm_ra a i) :: st, S) else none) = _ by rw [if_pos he]) k
theorem R_iast {a i x : Int} {nx : Nat} (hf : mm_find cd pc = some (pc, .iastore, len, r1, r2, r3)) (hn : pc + len = nx) (he : mm_el a i [1] = true) (k : Rn cd nx ls st (mm_up S a i x) Q) : Rn cd pc ls ((0, x) :: (0, i) :: (2, a) :: st) S Q := by
  subst hn
  exact Rn.op _ hf (show (if mm_el a i [1] && true then some (pc + len, st, mm_up S a i x) else none) = _ by rw [he]; rfl) k
theorem R_last {a i x : Int} {nx : Nat} (hf : mm_find cd pc = some (pc, .lastore, len, r1, r2, r3)) (hn : pc + len = nx) (he : mm_el a i [2] = true) (k : Rn cd nx ls st (mm_up S a i x) Q) : Rn cd pc ls ((1, x) :: (0, i) :: (2, a) :: st) S Q := by
  subst hn
  exact Rn.op _ hf (show (if mm_el a i [2] && true then some (pc + len, st, mm_up S a i x) else none) = _ by rw [he]; rfl) k
theorem R_bast {a i x : Int} {nx : Nat} (hf : mm_find cd pc = some (pc, .bastore, len, r1, r2, r3)) (hn : pc + len = nx) (he : mm_el a i [3, 4] = true) (hg : mm_fit (mm_kd a.toNat).1 x = true) (k : Rn cd nx ls st (mm_up S a i x) Q) : Rn cd pc ls ((0, x) :: (0, i) :: (2, a) :: st) S Q := by
  subst hn
  exact Rn.op _ hf (show (if mm_el a i [3, 4] && mm_fit (mm_kd a.toNat).1 x then some (pc + len, st, mm_up S a i x) else none) = _ by rw [he, hg]; rfl) k
theorem R_acp {idx : Nat} {a b sp dp n : Int} {nx : Nat} (hf : mm_find cd pc = some (pc, .invokestatic idx, len, 999, r2, r3)) (hn : pc + len = nx) (hg : 0 ≤ a ∧ 0 ≤ b ∧ 0 ≤ sp ∧ 0 ≤ dp ∧ 0 ≤ n ∧ sp + n ≤ ((mm_kd a.toNat).2 : Int) ∧ dp + n ≤ ((mm_kd b.toNat).2 : Int) ∧ (mm_kd a.toNat).1 = (mm_kd b.toNat).1 ∧ ((mm_kd a.toNat).1 = 1 ∨ (mm_kd a.toNat).1 = 2) ∧ mm_cs st ≤ 8) (k : Rn cd nx ls st (mm_cpy S a sp b dp n) Q) : Rn cd pc ls ((0, n) :: (0, dp) :: (2, b) :: (0, sp) :: (2, a) :: st) S Q := by
  subst hn
  refine Rn.op _ hf ?_ k
  show mm_acp (pc + len) ((0, n) :: (0, dp) :: (2, b) :: (0, sp) :: (2, a) :: st) S = _
  exact if_pos hg
theorem R_swK {d lw hi x : Int} {offs : Array Int} {tg : Nat} (hf : mm_find cd pc = some (pc, .tableswitch d lw hi offs, len, r1, r2, r3)) (h : lw ≤ x ∧ x ≤ hi) (ht : ((pc : Int) + (offs[(x - lw).toNat]?).getD 0).toNat = tg) (k : Rn cd tg ls st S Q) : Rn cd pc ls ((0, x) :: st) S Q := by
  subst ht
  exact Rn.op _ hf (show (if lw ≤ x ∧ x ≤ hi then some (((pc : Int) + (offs[(x - lw).toNat]?).getD 0).toNat, st, S) else some (((pc : Int) + d).toNat, st, S)) = _ by rw [if_pos h]) k
theorem R_swD {d lw hi x : Int} {offs : Array Int} {tg : Nat} (hf : mm_find cd pc = some (pc, .tableswitch d lw hi offs, len, r1, r2, r3)) (h : ¬ (lw ≤ x ∧ x ≤ hi)) (ht : ((pc : Int) + d).toNat = tg) (k : Rn cd tg ls st S Q) : Rn cd pc ls ((0, x) :: st) S Q := by
  subst ht
  exact Rn.op _ hf (show (if lw ≤ x ∧ x ≤ hi then some (((pc : Int) + (offs[(x - lw).toNat]?).getD 0).toNat, st, S) else some (((pc : Int) + d).toNat, st, S)) = _ by rw [if_neg h]) k
/-- calls -/
theorem R_call1 {i : Instr} {b : Bool} {as rest : List mm_V} {nx : Nat} (hf : mm_find cd pc = some (pc, i, len, r1, r2, r3)) (hn : pc + len = nx) (ho : ∀ st S, mm_op pc i (pc + len) r1 r2 r3 st S = none) (hl : mm_lo i (pc + len) ls st = none) (hr : mm_ret r1 i st = none) (hv : mm_isv i = some b) (has : (st.take r2).reverse = as) (hrest : st.drop r2 = rest) (hlen : decide (r2 ≤ st.length) = true) (hrc : mm_rcv r3 as = true) (hcs : decide (mm_cs rest ≤ 8) = true)
    (k : Cl r1 as S (fun v S' => ∃ w, v = some w ∧ Rn cd nx ls (w :: rest) S' Q)) : Rn cd pc ls st S Q := by
  subst hn
  refine Rn.call _ hf as rest (ho _ _) hl hr hv has hrest hlen hrc hcs (k.mono fun v S' h => ?_)
  obtain ⟨w, rfl, h⟩ := h
  exact h
theorem R_call0 {i : Instr} {b : Bool} {as rest : List mm_V} {nx : Nat} (hf : mm_find cd pc = some (pc, i, len, r1, r2, r3)) (hn : pc + len = nx) (ho : ∀ st S, mm_op pc i (pc + len) r1 r2 r3 st S = none) (hl : mm_lo i (pc + len) ls st = none) (hr : mm_ret r1 i st = none) (hv : mm_isv i = some b) (has : (st.take r2).reverse = as) (hrest : st.drop r2 = rest) (hlen : decide (r2 ≤ st.length) = true) (hrc : mm_rcv r3 as = true) (hcs : decide (mm_cs rest ≤ 8) = true)
    (k : Cl r1 as S (fun v S' => v = none ∧ Rn cd nx ls rest S' Q)) : Rn cd pc ls st S Q := by
  subst hn
  refine Rn.call _ hf as rest (ho _ _) hl hr hv has hrest hlen hrc hcs (k.mono fun v S' h => ?_)
  obtain ⟨rfl, h⟩ := h
  exact h
theorem R_ret {i : Instr} {v : Option mm_V} (hf : mm_find cd pc = some (pc, i, len, r1, r2, r3)) (ho : ∀ st S, mm_op pc i (pc + len) r1 r2 r3 st S = none) (hl : mm_lo i (pc + len) ls st = none) (hr : mm_ret r1 i st = some v) (k : Q v S) : Rn cd pc ls st S Q := Rn.ret _ hf (ho _ _) hl hr k
end RULES2
theorem mm_el_ok {a i : Int} {ks : List Nat} (t : Nat) (n : Nat) (ha : 0 ≤ a) (hk : mm_kd a.toNat = (t, n)) (ht : t ∈ ks) (h0 : 0 ≤ i) (h1 : i < (n : Int)) : mm_el a i ks = true := decide_eq_true ⟨ha, by rw [hk]; exact ht, h0, by rw [hk]; exact h1⟩
/-- a complex of the class: what is made, the four, the four kept -/
def mm_isC (a : Int) : Prop := a = 3 ∨ a = 23 ∨ a = 28 ∨ a = 33 ∨ a = 38 ∨ a = 43 ∨ a = 48 ∨ a = 53 ∨ a = 58
theorem isC_ob {a : Int} (h : mm_isC a) : mm_ob a 1 = true := by
  rcases h with rfl | rfl | rfl | rfl | rfl | rfl | rfl | rfl | rfl <;> rfl
theorem isC_rc {a : Int} (h : mm_isC a) (r : List mm_V) : mm_rcv 2 ((2, a) :: r) = true := by
  show (decide ((2 : Int) = 0) || mm_ob a 1) = true
  rw [isC_ob h]; rfl
theorem isC_kd {a : Int} (h : mm_isC a) : 0 ≤ a ∧ a < 59 ∧ mm_kd (a + 1).toNat = (1, 12) ∧ mm_kd (a + 2).toNat = (1, 12) ∧ mm_kd (a + 3).toNat = (1, 12) ∧ mm_kd (a + 4).toNat = (1, 144) := by
  rcases h with rfl | rfl | rfl | rfl | rfl | rfl | rfl | rfl | rfl <;> exact ⟨by decide, by decide, rfl, rfl, rfl, rfl⟩
theorem isC_el1 {a i : Int} (h : mm_isC a) (h0 : 0 ≤ i) (h1 : i < 12) : mm_el (a + 1) i [1] = true := mm_el_ok 1 12 (by have := (isC_kd h).1; omega) (isC_kd h).2.2.1 List.mem_cons_self h0 h1
theorem isC_el2 {a i : Int} (h : mm_isC a) (h0 : 0 ≤ i) (h1 : i < 12) : mm_el (a + 2) i [1] = true := mm_el_ok 1 12 (by have := (isC_kd h).1; omega) (isC_kd h).2.2.2.1 List.mem_cons_self h0 h1
theorem isC_el3 {a i : Int} (h : mm_isC a) (h0 : 0 ≤ i) (h1 : i < 12) : mm_el (a + 3) i [1] = true := mm_el_ok 1 12 (by have := (isC_kd h).1; omega) (isC_kd h).2.2.2.2.1 List.mem_cons_self h0 h1
theorem isC_el4 {a i : Int} (h : mm_isC a) (h0 : 0 ≤ i) (h1 : i < 144) : mm_el (a + 4) i [1] = true := mm_el_ok 1 144 (by have := (isC_kd h).1; omega) (isC_kd h).2.2.2.2.2 List.mem_cons_self h0 h1
theorem isC_c {i : Int} (h0 : 0 ≤ i) (h1 : i < 4) : mm_isC (23 + 10 * i) := by unfold mm_isC; omega
theorem isC_k {i : Int} (h0 : 0 ≤ i) (h1 : i < 4) : mm_isC (28 + 10 * i) := by unfold mm_isC; omega
theorem isC_3 : mm_isC 3 := Or.inl rfl
/-- a sheet -/
def mm_isS (a : Int) : Prop := a = 63 ∨ a = 65 ∨ a = 67 ∨ a = 69
theorem isS_ob {a : Int} (h : mm_isS a) : mm_ob a 7 = true := by
  rcases h with rfl | rfl | rfl | rfl <;> rfl
theorem isS_rc {a : Int} (h : mm_isS a) (r : List mm_V) : mm_rcv 8 ((2, a) :: r) = true := by
  show (decide ((8 : Int) = 0) || mm_ob a 7) = true
  rw [isS_ob h]; rfl
theorem isS_kd {a : Int} (h : mm_isS a) : 0 ≤ a ∧ a < 70 ∧ mm_kd (a + 1).toNat = (2, 40) := by
  rcases h with rfl | rfl | rfl | rfl <;> exact ⟨by decide, by decide, rfl⟩
theorem isS_el {a i : Int} (h : mm_isS a) (h0 : 0 ≤ i) (h1 : i < 40) : mm_el (a + 1) i [2] = true := mm_el_ok 2 40 (by have := (isS_kd h).1; omega) (isS_kd h).2.2 List.mem_cons_self h0 h1
theorem isS_c {i : Int} (h0 : 0 ≤ i) (h1 : i < 4) : mm_isS (63 + 2 * i) := by unfold mm_isS; omega
end
section
/-! The constructors: a second small machine that makes cells; all it works on is known numbers. -/
abbrev cc_C : Type := Nat × Nat × List Int
def cc_isR (ci k : Nat) : Bool := mm_fk ci k = 1 || mm_fk ci k = 2
def cc_cell (σ : Nat → Nat) (P : Nat → ClassId) (c : cc_C) : va_E :=
  if c.1 = 0 then .inr (c.2.1, (List.range c.2.2.length).map fun k => mm_rl σ (if cc_isR c.2.1 k then 2 else 0, c.2.2.getD k 0))
  else if c.1 = 2 then .inl (P 2, c.2.2.length, .inr (.inl fun j => Int64.ofInt (c.2.2.getD j 0)))
  else if c.1 = 5 ∨ c.1 = 6 then .inl (P c.1, c.2.2.length, .inr (.inr (.inr (.inr fun j => if c.2.2.getD j (-1) < 0 then none else some (σ (c.2.2.getD j (-1)).toNat)))))
  else .inl (P c.1, c.2.2.length, .inl fun j => Int32.ofInt (c.2.2.getD j 0))
def cc_w (σ : Nat → Nat) (P : Nat → ClassId) (cs : List cc_C) : va_W := cs.zipIdx.map fun q => (σ q.2, cc_cell σ P q.1)
def cc_new (ci : Nat) : cc_C := (0, ci, (List.range (mm_nf ci)).map fun k => if cc_isR ci k then -1 else 0)
def cc_rn (x : Int) (n : Nat) : Bool := decide (-1 ≤ x ∧ x < (n : Int))
def cc_put (nx r1 r2 : Nat) (st : List mm_V) (cs : List cc_C) : Option (Nat × List mm_V × List cc_C) := match st with
  | (u, x) :: (2, a) :: t => match cs[a.toNat]? with
    | some (0, ci, fs) => if 0 ≤ a ∧ ci = r1 ∧ fs.length = mm_nf ci ∧ ((cc_isR r1 r2 = true ∧ u = 2 ∧ cc_rn x cs.length = true) ∨ (cc_isR r1 r2 = false ∧ u = 0 ∧ (mm_fk r1 r2 = 0 ∨ (mm_fk r1 r2 = 3 ∧ (x = 0 ∨ x = 1))))) then some (nx, t, cs.set a.toNat (0, ci, fs.set r2 x)) else none
    | _ => none
  | _ => none
def cc_get (nx r1 r2 : Nat) (st : List mm_V) (cs : List cc_C) : Option (Nat × List mm_V × List cc_C) := match st with
  | (2, a) :: t => match cs[a.toNat]? with
    | some (0, ci, fs) => if 0 ≤ a ∧ ci = r1 ∧ fs.length = mm_nf ci then some (nx, (if cc_isR r1 r2 then 2 else 0, fs.getD r2 0) :: t, cs) else none
    | _ => none
  | _ => none
def cc_ist (nx : Nat) (st : List mm_V) (cs : List cc_C) : Option (Nat × List mm_V × List cc_C) := match st with
  | (0, x) :: (0, i) :: (2, a) :: t => match cs[a.toNat]? with
    | some (1, q, l) => if 0 ≤ a ∧ 0 ≤ i ∧ i < (l.length : Int) ∧ i < 100000 then some (nx, t, cs.set a.toNat (1, q, l.set i.toNat x)) else none
    | _ => none
  | _ => none
def cc_ast (nx : Nat) (st : List mm_V) (cs : List cc_C) : Option (Nat × List mm_V × List cc_C) := match st with
  | (2, x) :: (0, i) :: (2, a) :: t => match cs[a.toNat]?, cs[x.toNat]? with
    | some (k, q, l), some (0, ci, fs) => if 0 ≤ a ∧ 0 ≤ i ∧ i < (l.length : Int) ∧ i < 100000 ∧ 0 ≤ x ∧ ((k = 5 ∧ ci = 1) ∨ (k = 6 ∧ ci = 7)) then some (nx, t, cs.set a.toNat (k, q, l.set i.toNat x)) else none
    | _, _ => none
  | _ => none
def cc_op (pc : Nat) (i : Instr) (nx r1 r2 : Nat) (st : List mm_V) (cs : List cc_C) : Option (Nat × List mm_V × List cc_C) := match i with
  | .aconst_null => some (nx, (2, -1) :: st, cs)
  | .iconst n => some (nx, (0, n) :: st, cs)
  | .bipush n => some (nx, (0, n) :: st, cs)
  | .sipush n => some (nx, (0, n) :: st, cs)
  | .dup => match st with
    | v :: t => if v.1 = 1 then none else some (nx, v :: v :: t, cs)
    | _ => none
  | .goto off => some (((pc : Int) + off).toNat, st, cs)
  | .if_icmp .ge off => match mm_b2 st 0 0 with
    | some (x, y, r) => if (-2147483648 ≤ x ∧ x < 2147483648) ∧ (-2147483648 ≤ y ∧ y < 2147483648) then some (if y ≤ x then ((pc : Int) + off).toNat else nx, r, cs) else none
    | none => none
  | .new _ => if r1 < 9 ∧ cs.length < 1000 then some (nx, (2, cs.length) :: st, cs ++ [cc_new r1]) else none
  | .newarray _ => match mm_b1 st 0 with
    | some (n, r) => if 0 ≤ n ∧ n < 100000 ∧ r1 ∈ [1, 2, 3, 4] ∧ cs.length < 1000 then some (nx, (2, cs.length) :: r, cs ++ [(r1, 0, List.replicate n.toNat 0)]) else none
    | none => none
  | .anewarray _ => match mm_b1 st 0 with
    | some (n, r) => if 0 ≤ n ∧ n < 100000 ∧ r1 ∈ [5, 6] ∧ cs.length < 1000 then some (nx, (2, cs.length) :: r, cs ++ [(r1, 0, List.replicate n.toNat (-1))]) else none
    | none => none
  | .putfield _ => cc_put nx r1 r2 st cs
  | .getfield _ => cc_get nx r1 r2 st cs
  | .iastore => cc_ist nx st cs
  | .aastore => cc_ast nx st cs
  | .invokespecial _ => if r1 = 998 then (match st with
    | (2, a) :: t => if 0 ≤ a ∧ a < (cs.length : Int) ∧ mm_cs t ≤ 8 then some (nx, t, cs) else none
    | _ => none) else none
  | _ => none
def cc_j (k : Nat → List mm_V → List mm_V → List cc_C → Option (List mm_V × List cc_C)) (ck : Nat → List mm_V → List cc_C → Option (List mm_V × List cc_C)) (e : mm_E) (ls st : List mm_V) (cs : List cc_C) : Option (List mm_V × List cc_C) :=
  match cc_op e.1 e.2.1 (e.1 + e.2.2.1) e.2.2.2.1 e.2.2.2.2.1 st cs with
  | some (pc, st', cs') => k pc ls st' cs'
  | none => match mm_lo e.2.1 (e.1 + e.2.2.1) ls st with
    | some (pc, ls', st') => k pc ls' st' cs
    | none => match e.2.1 with
      | .return_ => match st with
        | [] => some (ls, cs)
        | _ => none
      | .invokespecial _ => if e.2.2.2.1 = 997 ∧ e.2.2.2.2.2.toNat < st.length ∧ mm_cs (st.drop (e.2.2.2.2.2.toNat + 1)) ≤ 8 then
          (match st[e.2.2.2.2.2.toNat]? with
          | some (2, a) => if 0 ≤ a ∧ a < (cs.length : Int) then
              match ck e.2.2.2.2.1 (st.take (e.2.2.2.2.2.toNat + 1)).reverse cs with
              | some (_, cs') => k (e.1 + e.2.2.1) ls (st.drop (e.2.2.2.2.2.toNat + 1)) cs'
              | none => none
            else none
          | _ => none) else none
      | _ => none
def cc_ex (T : Nat → List mm_E × Nat) (stop : Nat) : Nat → List mm_E → Nat → List mm_V → List mm_V → List cc_C → Option (List mm_V × List cc_C)
  | 0, _, _, _, _, _ => none
  | n + 1, cd, pc, ls, st, cs => if pc = stop ∧ stop < 9999 then (match st with
      | [] => some (ls, cs)
      | _ => none) else match mm_find cd pc with
    | some e => cc_j (fun pc ls st cs => cc_ex T stop n cd pc ls st cs) (fun m as cs => if (mm_args as).length ≤ (T m).2 then cc_ex T 9999 n (T m).1 0 (mm_ent (T m).2 as) [] cs else none) e ls st cs
    | none => none
def cc_sz (cs : List cc_C) : Nat := match cs with
  | [] => 0
  | c :: r => c.2.2.length + cc_sz r

def cc_k0 : List mm_E := [(0, .aload_n 0, 1, 0, 0, 0), (1, .invokespecial 1, 3, 998, 0, 0), (4, .aload_n 0, 1, 0, 0, 0), (5, .iconst 4, 1, 0, 0, 0), (6, .anewarray 9, 3, 5, 0, 0), (9, .putfield 11, 3, 0, 0, 0), (12, .aload_n 0, 1, 0, 0, 0), (13, .iconst 4, 1, 0, 0, 0), (14, .anewarray 9, 3, 5, 0, 0), (17, .putfield 15, 3, 0, 1, 0), (20, .aload_n 0, 1, 0, 0, 0), (21, .new 9, 3, 1, 0, 0), (24, .dup, 1, 0, 0, 0), (25, .invokespecial 18, 3, 997, 1, 0), (28, .putfield 19, 3, 0, 2, 0), (31, .aload_n 0, 1, 0, 0, 0), (32, .new 23, 3, 2, 0, 0), (35, .dup, 1, 0, 0, 0), (36, .aload_n 0, 1, 0, 0, 0), (37, .getfield 19, 3, 0, 2, 0), (40, .invokespecial 25, 3, 997, 2, 1), (43, .putfield 28, 3, 0, 3, 0), (46, .aload_n 0, 1, 0, 0, 0), (47, .new 32, 3, 3, 0, 0), (50, .dup, 1, 0, 0, 0), (51, .aload_n 0, 1, 0, 0, 0), (52, .getfield 19, 3, 0, 2, 0), (55, .invokespecial 34, 3, 997, 3, 1), (58, .putfield 35, 3, 0, 4, 0), (61, .aload_n 0, 1, 0, 0, 0), (62, .new 39, 3, 4, 0, 0), (65, .dup, 1, 0, 0, 0), (66, .invokespecial 41, 3, 997, 4, 0), (69, .putfield 42, 3, 0, 5, 0), (72, .aload_n 0, 1, 0, 0, 0), (73, .new 46, 3, 5, 0, 0), (76, .dup, 1, 0, 0, 0), (77, .invokespecial 48, 3, 997, 5, 0), (80, .putfield 49, 3, 0, 6, 0), (83, .aload_n 0, 1, 0, 0, 0), (84, .new 53, 3, 6, 0, 0), (87, .dup, 1, 0, 0, 0), (88, .aload_n 0, 1, 0, 0, 0), (89, .getfield 49, 3, 0, 6, 0), (92, .aload_n 0, 1, 0, 0, 0), (93, .getfield 19, 3, 0, 2, 0), (96, .invokespecial 55, 3, 997, 6, 2), (99, .putfield 58, 3, 0, 7, 0), (102, .aload_n 0, 1, 0, 0, 0), (103, .iconst 4, 1, 0, 0, 0), (104, .anewarray 62, 3, 6, 0, 0), (107, .putfield 64, 3, 0, 8, 0), (110, .aload_n 0, 1, 0, 0, 0), (111, .iconst 0, 1, 0, 0, 0), (112, .putfield 68, 3, 0, 9, 0), (115, .iconst 0, 1, 0, 0, 0), (116, .istore_n 1, 1, 0, 0, 0), (117, .iload_n 1, 1, 0, 0, 0), (118, .iconst 4, 1, 0, 0, 0), (119, .if_icmp .ge (35), 3, 0, 0, 0), (122, .aload_n 0, 1, 0, 0, 0), (123, .getfield 11, 3, 0, 0, 0), (126, .iload_n 1, 1, 0, 0, 0), (127, .new 9, 3, 1, 0, 0), (130, .dup, 1, 0, 0, 0), (131, .invokespecial 18, 3, 997, 1, 0), (134, .aastore, 1, 0, 0, 0), (135, .aload_n 0, 1, 0, 0, 0), (136, .getfield 15, 3, 0, 1, 0), (139, .iload_n 1, 1, 0, 0, 0), (140, .new 9, 3, 1, 0, 0), (143, .dup, 1, 0, 0, 0), (144, .invokespecial 18, 3, 997, 1, 0), (147, .aastore, 1, 0, 0, 0), (148, .iinc 1 (1), 3, 0, 0, 0), (151, .goto (-34), 3, 0, 0, 0), (154, .iconst 0, 1, 0, 0, 0), (155, .istore_n 1, 1, 0, 0, 0), (156, .iload_n 1, 1, 0, 0, 0), (157, .iconst 4, 1, 0, 0, 0), (158, .if_icmp .ge (22), 3, 0, 0, 0), (161, .aload_n 0, 1, 0, 0, 0), (162, .getfield 64, 3, 0, 8, 0), (165, .iload_n 1, 1, 0, 0, 0), (166, .new 62, 3, 7, 0, 0), (169, .dup, 1, 0, 0, 0), (170, .invokespecial 72, 3, 997, 7, 0), (173, .aastore, 1, 0, 0, 0), (174, .iinc 1 (1), 3, 0, 0, 0), (177, .goto (-21), 3, 0, 0, 0), (180, .return_, 1, 0, 0, 0)]
def cc_k1 : List mm_E := [(0, .aload_n 0, 1, 0, 0, 0), (1, .invokespecial 3, 3, 998, 0, 0), (4, .aload_n 0, 1, 0, 0, 0), (5, .iconst 0, 1, 0, 0, 0), (6, .putfield 9, 3, 1, 0, 0), (9, .aload_n 0, 1, 0, 0, 0), (10, .bipush (12), 2, 0, 0, 0), (12, .newarray .int, 2, 1, 0, 0), (14, .putfield 15, 3, 1, 1, 0), (17, .aload_n 0, 1, 0, 0, 0), (18, .bipush (12), 2, 0, 0, 0), (20, .newarray .int, 2, 1, 0, 0), (22, .putfield 19, 3, 1, 2, 0), (25, .aload_n 0, 1, 0, 0, 0), (26, .bipush (12), 2, 0, 0, 0), (28, .newarray .int, 2, 1, 0, 0), (30, .putfield 22, 3, 1, 3, 0), (33, .aload_n 0, 1, 0, 0, 0), (34, .sipush (144), 3, 0, 0, 0), (37, .newarray .int, 2, 1, 0, 0), (39, .putfield 25, 3, 1, 4, 0), (42, .return_, 1, 0, 0, 0)]
def cc_k2 : List mm_E := [(0, .aload_n 0, 1, 0, 0, 0), (1, .invokespecial 3, 3, 998, 0, 0), (4, .aload_n 0, 1, 0, 0, 0), (5, .iconst 0, 1, 0, 0, 0), (6, .putfield 9, 3, 2, 1, 0), (9, .aload_n 0, 1, 0, 0, 0), (10, .iconst 2, 1, 0, 0, 0), (11, .putfield 15, 3, 2, 2, 0), (14, .aload_n 0, 1, 0, 0, 0), (15, .bipush (12), 2, 0, 0, 0), (17, .newarray .int, 2, 1, 0, 0), (19, .putfield 18, 3, 2, 3, 0), (22, .aload_n 0, 1, 0, 0, 0), (23, .sipush (144), 3, 0, 0, 0), (26, .newarray .int, 2, 1, 0, 0), (28, .putfield 22, 3, 2, 4, 0), (31, .aload_n 0, 1, 0, 0, 0), (32, .bipush (12), 2, 0, 0, 0), (34, .newarray .int, 2, 1, 0, 0), (36, .putfield 25, 3, 2, 5, 0), (39, .aload_n 0, 1, 0, 0, 0), (40, .bipush (12), 2, 0, 0, 0), (42, .newarray .int, 2, 1, 0, 0), (44, .putfield 28, 3, 2, 6, 0), (47, .aload_n 0, 1, 0, 0, 0), (48, .aload_n 1, 1, 0, 0, 0), (49, .putfield 31, 3, 2, 0, 0), (52, .return_, 1, 0, 0, 0)]
def cc_k3 : List mm_E := [(0, .aload_n 0, 1, 0, 0, 0), (1, .invokespecial 3, 3, 998, 0, 0), (4, .aload_n 0, 1, 0, 0, 0), (5, .iconst 0, 1, 0, 0, 0), (6, .putfield 9, 3, 3, 1, 0), (9, .aload_n 0, 1, 0, 0, 0), (10, .iconst (-1), 1, 0, 0, 0), (11, .putfield 15, 3, 3, 2, 0), (14, .aload_n 0, 1, 0, 0, 0), (15, .bipush (12), 2, 0, 0, 0), (17, .newarray .int, 2, 1, 0, 0), (19, .putfield 18, 3, 3, 3, 0), (22, .aload_n 0, 1, 0, 0, 0), (23, .bipush (12), 2, 0, 0, 0), (25, .newarray .int, 2, 1, 0, 0), (27, .putfield 22, 3, 3, 4, 0), (30, .aload_n 0, 1, 0, 0, 0), (31, .iconst 0, 1, 0, 0, 0), (32, .putfield 25, 3, 3, 5, 0), (35, .aload_n 0, 1, 0, 0, 0), (36, .iconst 0, 1, 0, 0, 0), (37, .putfield 28, 3, 3, 6, 0), (40, .aload_n 0, 1, 0, 0, 0), (41, .sipush (4096), 3, 0, 0, 0), (44, .newarray .int, 2, 1, 0, 0), (46, .putfield 31, 3, 3, 7, 0), (49, .aload_n 0, 1, 0, 0, 0), (50, .bipush (13), 2, 0, 0, 0), (52, .newarray .int, 2, 1, 0, 0), (54, .putfield 34, 3, 3, 8, 0), (57, .aload_n 0, 1, 0, 0, 0), (58, .iconst 0, 1, 0, 0, 0), (59, .putfield 37, 3, 3, 9, 0), (62, .aload_n 0, 1, 0, 0, 0), (63, .aload_n 1, 1, 0, 0, 0), (64, .putfield 40, 3, 3, 0, 0), (67, .return_, 1, 0, 0, 0)]
def cc_k4 : List mm_E := [(0, .aload_n 0, 1, 0, 0, 0), (1, .invokespecial 1, 3, 998, 0, 0), (4, .aload_n 0, 1, 0, 0, 0), (5, .iconst 0, 1, 0, 0, 0), (6, .putfield 7, 3, 4, 0, 0), (9, .aload_n 0, 1, 0, 0, 0), (10, .iconst 0, 1, 0, 0, 0), (11, .putfield 13, 3, 4, 1, 0), (14, .aload_n 0, 1, 0, 0, 0), (15, .iconst 0, 1, 0, 0, 0), (16, .putfield 16, 3, 4, 2, 0), (19, .aload_n 0, 1, 0, 0, 0), (20, .aconst_null, 1, 0, 0, 0), (21, .putfield 19, 3, 4, 3, 0), (24, .aload_n 0, 1, 0, 0, 0), (25, .iconst 0, 1, 0, 0, 0), (26, .putfield 23, 3, 4, 4, 0), (29, .aload_n 0, 1, 0, 0, 0), (30, .iconst 0, 1, 0, 0, 0), (31, .putfield 26, 3, 4, 5, 0), (34, .aload_n 0, 1, 0, 0, 0), (35, .iconst 0, 1, 0, 0, 0), (36, .putfield 29, 3, 4, 6, 0), (39, .return_, 1, 0, 0, 0)]
def cc_k5 : List mm_E := [(0, .aload_n 0, 1, 0, 0, 0), (1, .invokespecial 3, 3, 998, 0, 0), (4, .aload_n 0, 1, 0, 0, 0), (5, .iconst 0, 1, 0, 0, 0), (6, .putfield 9, 3, 5, 0, 0), (9, .aload_n 0, 1, 0, 0, 0), (10, .sipush (200), 3, 0, 0, 0), (13, .newarray .byte, 2, 3, 0, 0), (15, .putfield 15, 3, 5, 1, 0), (18, .return_, 1, 0, 0, 0)]
def cc_k6 : List mm_E := [(0, .aload_n 0, 1, 0, 0, 0), (1, .invokespecial 3, 3, 998, 0, 0), (4, .aload_n 0, 1, 0, 0, 0), (5, .iconst 0, 1, 0, 0, 0), (6, .putfield 9, 3, 6, 2, 0), (9, .aload_n 0, 1, 0, 0, 0), (10, .iconst (-1), 1, 0, 0, 0), (11, .putfield 15, 3, 6, 3, 0), (14, .aload_n 0, 1, 0, 0, 0), (15, .iconst 0, 1, 0, 0, 0), (16, .putfield 18, 3, 6, 4, 0), (19, .aload_n 0, 1, 0, 0, 0), (20, .iconst 0, 1, 0, 0, 0), (21, .putfield 21, 3, 6, 5, 0), (24, .aload_n 0, 1, 0, 0, 0), (25, .iconst 0, 1, 0, 0, 0), (26, .putfield 24, 3, 6, 6, 0), (29, .aload_n 0, 1, 0, 0, 0), (30, .aload_n 1, 1, 0, 0, 0), (31, .putfield 27, 3, 6, 0, 0), (34, .aload_n 0, 1, 0, 0, 0), (35, .aload_n 2, 1, 0, 0, 0), (36, .putfield 31, 3, 6, 1, 0), (39, .return_, 1, 0, 0, 0)]
def cc_k7 : List mm_E := [(0, .aload_n 0, 1, 0, 0, 0), (1, .invokespecial 3, 3, 998, 0, 0), (4, .aload_n 0, 1, 0, 0, 0), (5, .iconst (-1), 1, 0, 0, 0), (6, .putfield 9, 3, 7, 0, 0), (9, .aload_n 0, 1, 0, 0, 0), (10, .iconst 0, 1, 0, 0, 0), (11, .putfield 15, 3, 7, 1, 0), (14, .aload_n 0, 1, 0, 0, 0), (15, .bipush (40), 2, 0, 0, 0), (17, .newarray .long, 2, 2, 0, 0), (19, .putfield 18, 3, 7, 2, 0), (22, .return_, 1, 0, 0, 0)]
def cc_k8 : List mm_E := [(0, .aload_n 0, 1, 0, 0, 0), (1, .invokespecial 1, 3, 998, 0, 0), (4, .aload_n 0, 1, 0, 0, 0), (5, .iconst 5, 1, 0, 0, 0), (6, .newarray .int, 2, 1, 0, 0), (8, .putfield 7, 3, 8, 0, 0), (11, .aload_n 0, 1, 0, 0, 0), (12, .bipush (60), 2, 0, 0, 0), (14, .newarray .int, 2, 1, 0, 0), (16, .putfield 13, 3, 8, 1, 0), (19, .aload_n 0, 1, 0, 0, 0), (20, .bipush (120), 2, 0, 0, 0), (22, .newarray .int, 2, 1, 0, 0), (24, .putfield 16, 3, 8, 2, 0), (27, .aload_n 0, 1, 0, 0, 0), (28, .sipush (720), 3, 0, 0, 0), (31, .newarray .int, 2, 1, 0, 0), (33, .putfield 19, 3, 8, 3, 0), (36, .aload_n 0, 1, 0, 0, 0), (37, .iconst 4, 1, 0, 0, 0), (38, .newarray .int, 2, 1, 0, 0), (40, .putfield 22, 3, 8, 4, 0), (43, .aload_n 0, 1, 0, 0, 0), (44, .bipush (48), 2, 0, 0, 0), (46, .newarray .int, 2, 1, 0, 0), (48, .putfield 25, 3, 8, 5, 0), (51, .aload_n 0, 1, 0, 0, 0), (52, .bipush (96), 2, 0, 0, 0), (54, .newarray .int, 2, 1, 0, 0), (56, .putfield 28, 3, 8, 6, 0), (59, .aload_n 0, 1, 0, 0, 0), (60, .sipush (576), 3, 0, 0, 0), (63, .newarray .int, 2, 1, 0, 0), (65, .putfield 31, 3, 8, 7, 0), (68, .aload_n 0, 1, 0, 0, 0), (69, .sipush (144), 3, 0, 0, 0), (72, .newarray .int, 2, 1, 0, 0), (74, .putfield 34, 3, 8, 12, 0), (77, .aload_n 0, 1, 0, 0, 0), (78, .bipush (12), 2, 0, 0, 0), (80, .newarray .int, 2, 1, 0, 0), (82, .putfield 37, 3, 8, 13, 0), (85, .aload_n 0, 1, 0, 0, 0), (86, .bipush (12), 2, 0, 0, 0), (88, .newarray .int, 2, 1, 0, 0), (90, .putfield 40, 3, 8, 14, 0), (93, .aload_n 0, 1, 0, 0, 0), (94, .sipush (144), 3, 0, 0, 0), (97, .newarray .long, 2, 2, 0, 0), (99, .putfield 43, 3, 8, 15, 0), (102, .aload_n 0, 1, 0, 0, 0), (103, .bipush (12), 2, 0, 0, 0), (105, .newarray .long, 2, 2, 0, 0), (107, .putfield 47, 3, 8, 16, 0), (110, .aload_n 0, 1, 0, 0, 0), (111, .sipush (200), 3, 0, 0, 0), (114, .newarray .int, 2, 1, 0, 0), (116, .putfield 50, 3, 8, 20, 0), (119, .aload_n 0, 1, 0, 0, 0), (120, .bipush (12), 2, 0, 0, 0), (122, .newarray .boolean, 2, 4, 0, 0), (124, .putfield 53, 3, 8, 25, 0), (127, .aload_n 0, 1, 0, 0, 0), (128, .iconst 4, 1, 0, 0, 0), (129, .newarray .int, 2, 1, 0, 0), (131, .dup, 1, 0, 0, 0), (132, .iconst 0, 1, 0, 0, 0), (133, .iconst (-1), 1, 0, 0, 0), (134, .iastore, 1, 0, 0, 0), (135, .dup, 1, 0, 0, 0), (136, .iconst 1, 1, 0, 0, 0), (137, .iconst (-1), 1, 0, 0, 0), (138, .iastore, 1, 0, 0, 0), (139, .dup, 1, 0, 0, 0), (140, .iconst 2, 1, 0, 0, 0), (141, .iconst (-1), 1, 0, 0, 0), (142, .iastore, 1, 0, 0, 0), (143, .dup, 1, 0, 0, 0), (144, .iconst 3, 1, 0, 0, 0), (145, .iconst (-1), 1, 0, 0, 0), (146, .iastore, 1, 0, 0, 0), (147, .putfield 57, 3, 8, 26, 0), (150, .aload_n 0, 1, 0, 0, 0), (151, .iconst 4, 1, 0, 0, 0), (152, .newarray .int, 2, 1, 0, 0), (154, .putfield 60, 3, 8, 27, 0), (157, .aload_n 0, 1, 0, 0, 0), (158, .sipush (160), 3, 0, 0, 0), (161, .newarray .long, 2, 2, 0, 0), (163, .putfield 63, 3, 8, 28, 0), (166, .aload_n 0, 1, 0, 0, 0), (167, .bipush (40), 2, 0, 0, 0), (169, .newarray .long, 2, 2, 0, 0), (171, .putfield 66, 3, 8, 29, 0), (174, .return_, 1, 0, 0, 0)]
def cc_kL : List mm_E := [(0, .new 7, 3, 0, 0, 0), (3, .dup, 1, 0, 0, 0), (4, .invokespecial 9, 3, 997, 0, 0), (7, .astore_n 1, 1, 0, 0, 0), (8, .new 10, 3, 8, 0, 0), (11, .dup, 1, 0, 0, 0), (12, .invokespecial 12, 3, 997, 8, 0), (15, .astore_n 2, 1, 0, 0, 0)]
def cc_T (n : Nat) : List mm_E × Nat := ([(cc_k0, 2), (cc_k1, 1), (cc_k2, 2), (cc_k3, 2), (cc_k4, 1), (cc_k5, 1), (cc_k6, 3), (cc_k7, 1), (cc_k8, 1)] : List (List mm_E × Nat)).getD n ([], 0)
abbrev cc_Hd : Type := MethodName × ByteArray × Nat × Nat × Nat × Nat
def cc_hds : List cc_Hd := [(⟨"PagesByLevels", "<init>", "()V"⟩, prog_1_method_1_code, 2, 2, 43, 0), (⟨"PagesByLevels$Complex", "<init>", "()V"⟩, prog_2_method_1_code, 1, 1, 21, 0), (⟨"PagesByLevels$Reduction", "<init>", "(LPagesByLevels$Complex;)V"⟩, prog_4_method_1_code, 2, 1, 21, 1), (⟨"PagesByLevels$WholeNumbers", "<init>", "(LPagesByLevels$Complex;)V"⟩, prog_8_method_1_code, 2, 1, 21, 1), (⟨"PagesByLevels$Trials", "<init>", "()V"⟩, prog_7_method_1_code, 1, 1, 21, 0), (⟨"PagesByLevels$Tape", "<init>", "()V"⟩, prog_6_method_1_code, 1, 1, 21, 0), (⟨"PagesByLevels$Reader", "<init>", "(LPagesByLevels$Tape;LPagesByLevels$Complex;)V"⟩, prog_3_method_1_code, 3, 1, 21, 2), (⟨"PagesByLevels$Sheet", "<init>", "()V"⟩, prog_5_method_1_code, 1, 1, 21, 0), (⟨"PagesByLevelsModel", "<init>", "()V"⟩, prog_10_method_1_code, 1, 1, 21, 0)]
def cc_hd (n : Nat) : cc_Hd := cc_hds.getD n (⟨"", "", ""⟩, ⟨#[]⟩, 0, 0, 0, 0)
def cc_hps : List (Nat × Nat × Nat) := [(60, 43, 59), (69, 44, 68), (96, 45, 95), (124, 46, 123), (161, 47, 160), (192, 48, 191), (208, 49, 207), (237, 50, 236), (771, 51, 770)]
def cc_ln : List (Nat × Nat × Nat × Nat × Nat × Nat) := [(0, 9, 1, 64, 66, 44), (0, 23, 2, 92, 93, 45), (0, 32, 3, 120, 121, 46), (0, 39, 4, 157, 158, 47), (0, 46, 5, 188, 189, 48), (0, 53, 6, 204, 205, 49), (0, 62, 7, 232, 234, 50), (13, 7, 0, 56, 57, 43), (13, 10, 8, 767, 768, 51)]
def cc_la : List (Nat × Nat × Nat × Nat) := [(0, 9, 5, 64), (0, 9, 5, 64), (0, 62, 6, 232)]
def cc_lf : List (Nat × Nat × Nat × Nat × Nat) := [(0, 11, 0, 0, 251), (0, 15, 0, 1, 252), (0, 19, 0, 2, 253), (0, 28, 0, 3, 254), (0, 35, 0, 4, 255), (0, 42, 0, 5, 256), (0, 49, 0, 6, 257), (0, 58, 0, 7, 258), (0, 64, 0, 8, 259), (0, 68, 0, 9, 260), (1, 9, 1, 0, 71), (1, 15, 1, 1, 76), (1, 19, 1, 2, 77), (1, 22, 1, 3, 78), (1, 25, 1, 4, 79), (2, 9, 2, 1, 99), (2, 15, 2, 2, 100), (2, 18, 2, 3, 101), (2, 22, 2, 4, 102), (2, 25, 2, 5, 103), (2, 28, 2, 6, 104), (2, 31, 2, 0, 98), (3, 9, 3, 1, 127), (3, 15, 3, 2, 128), (3, 18, 3, 3, 129), (3, 22, 3, 4, 130), (3, 25, 3, 5, 131), (3, 28, 3, 6, 132), (3, 31, 3, 7, 133), (3, 34, 3, 8, 134), (3, 37, 3, 9, 135), (3, 40, 3, 0, 126), (4, 7, 4, 0, 163), (4, 13, 4, 1, 165), (4, 16, 4, 2, 167), (4, 19, 4, 3, 169), (4, 23, 4, 4, 170), (4, 26, 4, 5, 171), (4, 29, 4, 6, 172), (5, 9, 5, 0, 194), (5, 15, 5, 1, 197), (6, 9, 6, 2, 212), (6, 15, 6, 3, 213), (6, 18, 6, 4, 214), (6, 21, 6, 5, 215), (6, 24, 6, 6, 216), (6, 27, 6, 0, 210), (6, 31, 6, 1, 211), (7, 9, 7, 0, 239), (7, 15, 7, 1, 241), (7, 18, 7, 2, 242), (8, 7, 8, 0, 773), (8, 13, 8, 1, 774), (8, 16, 8, 2, 775), (8, 19, 8, 3, 776), (8, 22, 8, 4, 777), (8, 25, 8, 5, 778), (8, 28, 8, 6, 779), (8, 31, 8, 7, 780), (8, 34, 8, 12, 785), (8, 37, 8, 13, 786), (8, 40, 8, 14, 787), (8, 43, 8, 15, 788), (8, 47, 8, 16, 789), (8, 50, 8, 20, 793), (8, 53, 8, 25, 798), (8, 57, 8, 26, 799), (8, 60, 8, 27, 800), (8, 63, 8, 28, 801), (8, 66, 8, 29, 802)]
def cc_lo : List (Nat × Nat × Nat) := [(0, 1, 61), (1, 3, 70), (2, 3, 97), (3, 3, 125), (4, 1, 162), (5, 3, 193), (6, 3, 209), (7, 3, 238), (8, 1, 772)]
def cc_lk : List (Nat × Nat × Nat × Nat) := [(0, 18, 1, 67), (0, 25, 2, 94), (0, 34, 3, 122), (0, 41, 4, 159), (0, 48, 5, 190), (0, 55, 6, 206), (0, 72, 7, 235), (13, 9, 0, 58), (13, 12, 8, 769)]
theorem cc_ln_ok : ∀ q ∈ cc_ln, Cond.classLink (mm_cn q.1) q.2.1 (mm_cn q.2.2.1) ∈ wA ∧ Cond.instantiable (mm_cn q.2.2.1) (mm_nf q.2.2.1) ∈ wA ∧ Cond.initialized (mm_cn q.2.2.1) ∈ wA := by
  have h : cc_ln.all (fun q => mm_wat q.2.2.2.1 (.classLink (mm_cn q.1) q.2.1 (mm_cn q.2.2.1)) && (mm_wat q.2.2.2.2.1 (.instantiable (mm_cn q.2.2.1) (mm_nf q.2.2.1)) && mm_wat q.2.2.2.2.2 (.initialized (mm_cn q.2.2.1)))) = true := by decide +kernel
  intro q hq
  have h1 := List.all_eq_true.mp h q hq
  rw [Bool.and_eq_true, Bool.and_eq_true] at h1
  exact ⟨mm_wat_ok h1.1, mm_wat_ok h1.2.1, mm_wat_ok h1.2.2⟩
def cc_oc (r1 : Nat) : String := if r1 = 5 then "PagesByLevels$Complex" else "PagesByLevels$Sheet"
theorem cc_la_ok : ∀ q ∈ cc_la, Cond.classLink (mm_cn q.1) q.2.1 (cc_oc q.2.2.1) ∈ wA := by
  have h : cc_la.all (fun q => mm_wat q.2.2.2 (.classLink (mm_cn q.1) q.2.1 (cc_oc q.2.2.1))) = true := by decide +kernel
  exact fun q hq => mm_wat_ok (List.all_eq_true.mp h q hq)
theorem cc_lf_ok : ∀ q ∈ cc_lf, mm_lfw q ∈ wA ∧ q.2.2.1 < 9 ∧ q.2.2.2.1 < mm_nf q.2.2.1 := by
  have h : cc_lf.all (fun q => mm_wat q.2.2.2.2 (mm_lfw q) && (decide (q.2.2.1 < 9) && decide (q.2.2.2.1 < mm_nf q.2.2.1))) = true := by decide +kernel
  intro q hq
  have h1 := List.all_eq_true.mp h q hq
  rw [Bool.and_eq_true, Bool.and_eq_true, decide_eq_true_eq, decide_eq_true_eq] at h1
  exact ⟨mm_wat_ok h1.1, h1.2⟩
theorem cc_lo_ok : ∀ q ∈ cc_lo, Cond.methodLink (mm_cn q.1) q.2.1 Lib.objectInit ∈ wA := by
  have h : cc_lo.all (fun q => mm_wat q.2.2 (.methodLink (mm_cn q.1) q.2.1 Lib.objectInit)) = true := by decide +kernel
  exact fun q hq => mm_wat_ok (List.all_eq_true.mp h q hq)
theorem cc_obj : Cond.instanceMethod Lib.objectInit ∈ wA ∧ Cond.code Lib.objectInit ⟨#[0xb1]⟩ 1 none ∈ wA := ⟨mm_wat_ok (i := 62) (by decide +kernel), wA_of (i := 63) rfl rfl⟩
theorem cc_arr : Cond.arrayClass .int ∈ wA ∧ Cond.arrayClass .byte ∈ wA ∧ Cond.arrayClass .long ∈ wA ∧ Cond.arrayClass .boolean ∈ wA := ⟨mm_wat_ok (i := 91) (by decide +kernel), mm_wat_ok (i := 203) (by decide +kernel), mm_wat_ok (i := 250) (by decide +kernel), mm_wat_ok (i := 864) (by decide +kernel)⟩
theorem cc_lk_ok : ∀ q ∈ cc_lk, Cond.methodLink (mm_cn q.1) q.2.1 (cc_hd q.2.2.1).1 ∈ wA ∧ q.2.2.1 < 9 := by
  have h : cc_lk.all (fun q => mm_wat q.2.2.2 (.methodLink (mm_cn q.1) q.2.1 (cc_hd q.2.2.1).1) && decide (q.2.2.1 < 9)) = true := by decide +kernel
  intro q hq
  have h1 := List.all_eq_true.mp h q hq
  rw [Bool.and_eq_true, decide_eq_true_eq] at h1
  exact ⟨mm_wat_ok h1.1, h1.2⟩
def cc_cw (q : cc_Hd) : Cond := .code q.1 q.2.1 q.2.2.1 none
set_option maxRecDepth 200000 in
theorem cc_cw0 : cc_cw (cc_hd 0) ∈ wA := wA_of (i := 60) rfl rfl
set_option maxRecDepth 200000 in
theorem cc_cw1 : cc_cw (cc_hd 1) ∈ wA := wA_of (i := 69) rfl rfl
set_option maxRecDepth 200000 in
theorem cc_cw2 : cc_cw (cc_hd 2) ∈ wA := wA_of (i := 96) rfl rfl
set_option maxRecDepth 200000 in
theorem cc_cw3 : cc_cw (cc_hd 3) ∈ wA := wA_of (i := 124) rfl rfl
set_option maxRecDepth 200000 in
theorem cc_cw4 : cc_cw (cc_hd 4) ∈ wA := wA_of (i := 161) rfl rfl
set_option maxRecDepth 200000 in
theorem cc_cw5 : cc_cw (cc_hd 5) ∈ wA := wA_of (i := 192) rfl rfl
set_option maxRecDepth 200000 in
theorem cc_cw6 : cc_cw (cc_hd 6) ∈ wA := wA_of (i := 208) rfl rfl
set_option maxRecDepth 200000 in
theorem cc_cw7 : cc_cw (cc_hd 7) ∈ wA := wA_of (i := 237) rfl rfl
set_option maxRecDepth 200000 in
theorem cc_cw8 : cc_cw (cc_hd 8) ∈ wA := wA_of (i := 771) rfl rfl
theorem cc_cw_ok : ∀ ci, ci < 9 → cc_cw (cc_hd ci) ∈ wA := by
  intro ci h
  match ci, h with
  | 0, _ => exact cc_cw0
  | 1, _ => exact cc_cw1
  | 2, _ => exact cc_cw2
  | 3, _ => exact cc_cw3
  | 4, _ => exact cc_cw4
  | 5, _ => exact cc_cw5
  | 6, _ => exact cc_cw6
  | 7, _ => exact cc_cw7
  | 8, _ => exact cc_cw8
  | n + 9, h => exact absurd h (by omega)
theorem cc_hd_ok : ∀ ci, ci < 9 → Cond.initialized (cc_hd ci).1.cls ∈ wA ∧ Cond.instanceMethod (cc_hd ci).1 ∈ wA ∧ (cc_hd ci).1.cls = mm_cn ci ∧ (cc_hd ci).1.name = "<init>" ∧ ((cc_hd ci).1.cls ≠ "java/lang/invoke/MethodHandle" ∧ (cc_hd ci).1.cls ≠ "java/lang/invoke/VarHandle" ∧ (parseMethodDescriptor (cc_hd ci).1.desc).map (fun d => d.parameters.length) = some (cc_hd ci).2.2.2.2.2) ∧ plainFor (cc_hd ci).1 = true ∧ (cc_T ci).2 = (cc_hd ci).2.2.1 := by
  have h : (List.range 9).all (fun ci => mm_wat (cc_hps.getD ci (0, 0, 0)).2.1 (.initialized (cc_hd ci).1.cls) && (mm_wat (cc_hps.getD ci (0, 0, 0)).2.2 (.instanceMethod (cc_hd ci).1) && decide ((cc_hd ci).1.cls = mm_cn ci ∧ (cc_hd ci).1.name = "<init>" ∧ ((cc_hd ci).1.cls ≠ "java/lang/invoke/MethodHandle" ∧ (cc_hd ci).1.cls ≠ "java/lang/invoke/VarHandle" ∧ (parseMethodDescriptor (cc_hd ci).1.desc).map (fun d => d.parameters.length) = some (cc_hd ci).2.2.2.2.2) ∧ plainFor (cc_hd ci).1 = true ∧ (cc_T ci).2 = (cc_hd ci).2.2.1))) = true := by decide +kernel
  intro ci hci
  have h1 := List.all_eq_true.mp h ci (List.mem_range.mpr hci)
  rw [Bool.and_eq_true, Bool.and_eq_true, decide_eq_true_eq] at h1
  exact ⟨mm_wat_ok h1.1, mm_wat_ok h1.2.1, h1.2.2⟩
def cc_tc (t : ArrayType) : Nat := match t with
  | .int => 1
  | .long => 2
  | .byte => 3
  | .boolean => 4
  | _ => 0
/-- an instruction's words and room: own its class, fr and lo its room -/
def cc_iok (own fr lo : Nat) (e : mm_E) : Bool := match e.2.1 with
  | .iconst n => decide (-1 ≤ n ∧ n ≤ 5)
  | .bipush n => decide (-128 ≤ n ∧ n < 128)
  | .sipush n => decide (-32768 ≤ n ∧ n < 32768)
  | .goto off => decide (0 ≤ (e.1 : Int) + off)
  | .if_icmp _ off => decide (0 ≤ (e.1 : Int) + off)
  | .new idx => cc_ln.any fun q => decide (q.1 = own ∧ q.2.1 = idx ∧ q.2.2.1 = e.2.2.2.1)
  | .newarray t => decide (cc_tc t = e.2.2.2.1)
  | .anewarray idx => cc_la.any fun q => decide (q.1 = own ∧ q.2.1 = idx ∧ q.2.2.1 = e.2.2.2.1)
  | .getfield idx => cc_lf.any fun q => decide (q.1 = own ∧ q.2.1 = idx ∧ q.2.2.1 = e.2.2.2.1 ∧ q.2.2.2.1 = e.2.2.2.2.1)
  | .putfield idx => decide (own = e.2.2.2.1) && cc_lf.any fun q => decide (q.1 = own ∧ q.2.1 = idx ∧ q.2.2.1 = e.2.2.2.1 ∧ q.2.2.2.1 = e.2.2.2.2.1)
  | .invokespecial idx => if e.2.2.2.1 = 998 then cc_lo.any (fun q => decide (q.1 = own ∧ q.2.1 = idx)) && decide (1 ≤ fr ∧ 20 ≤ lo) else
      cc_lk.any (fun q => decide (q.1 = own ∧ q.2.1 = idx ∧ q.2.2.1 = e.2.2.2.2.1)) && decide (e.2.2.2.2.2 = ((cc_hd e.2.2.2.2.1).2.2.2.2.2 : Int) ∧ (cc_hd e.2.2.2.2.1).2.2.2.1 + 1 ≤ fr ∧ 8 + ((cc_hd e.2.2.2.2.1).2.2.1 + 11) + (cc_hd e.2.2.2.2.1).2.2.2.2.1 ≤ lo)
  | _ => true
def cc_il : Instr → Nat
  | .new _ | .anewarray _ | .invokespecial _ => 3
  | .newarray _ => 2
  | i => mm_il i
def cc_eok (own fr lo : Nat) (bytes : ByteArray) (e : mm_E) : Bool := decide (decode bytes e.1 = .ok (e.2.1, e.2.2.1)) && (decide (e.2.2.1 = cc_il e.2.1) && cc_iok own fr lo e)
theorem cc_ek0 : cc_k0.all (cc_eok 0 2 43 prog_1_method_1_code) = true := by decide +kernel
theorem cc_ek1 : cc_k1.all (cc_eok 1 1 21 prog_2_method_1_code) = true := by decide +kernel
theorem cc_ek2 : cc_k2.all (cc_eok 2 1 21 prog_4_method_1_code) = true := by decide +kernel
theorem cc_ek3 : cc_k3.all (cc_eok 3 1 21 prog_8_method_1_code) = true := by decide +kernel
theorem cc_ek4 : cc_k4.all (cc_eok 4 1 21 prog_7_method_1_code) = true := by decide +kernel
theorem cc_ek5 : cc_k5.all (cc_eok 5 1 21 prog_6_method_1_code) = true := by decide +kernel
theorem cc_ek6 : cc_k6.all (cc_eok 6 1 21 prog_3_method_1_code) = true := by decide +kernel
theorem cc_ek7 : cc_k7.all (cc_eok 7 1 21 prog_5_method_1_code) = true := by decide +kernel
theorem cc_ek8 : cc_k8.all (cc_eok 8 1 21 prog_10_method_1_code) = true := by decide +kernel
theorem cc_ek_all : ∀ ci, ci < 9 → (cc_T ci).1.all (cc_eok ci (cc_hd ci).2.2.2.1 (cc_hd ci).2.2.2.2.1 (cc_hd ci).2.1) = true := by
  intro ci h
  match ci, h with
  | 0, _ => exact cc_ek0
  | 1, _ => exact cc_ek1
  | 2, _ => exact cc_ek2
  | 3, _ => exact cc_ek3
  | 4, _ => exact cc_ek4
  | 5, _ => exact cc_ek5
  | 6, _ => exact cc_ek6
  | 7, _ => exact cc_ek7
  | 8, _ => exact cc_ek8
  | n + 9, h => exact absurd h (by omega)
theorem cc_ekL : cc_kL.all (cc_eok 13 9 348 code) = true := by decide +kernel
/-- the whole making, by calculation -/
def cc_end : Option (List mm_V × List cc_C) := cc_ex cc_T 16 400 cc_kL 0 [(2, 1000), (9, 0), (9, 0), (9, 0)] [] []
def cc_fin : List cc_C := [(0, 0, [1, 2, 3, 8, 13, 18, 19, 21, 22, 0]), (5, 0, [23, 33, 43, 53]), (5, 0, [28, 38, 48, 58]), (0, 1, [0, 4, 5, 6, 7]), (1, 0, List.replicate 12 0), (1, 0, List.replicate 12 0), (1, 0, List.replicate 12 0), (1, 0, List.replicate 144 0), (0, 2, [3, 0, 2, 9, 10, 11, 12]), (1, 0, List.replicate 12 0), (1, 0, List.replicate 144 0), (1, 0, List.replicate 12 0), (1, 0, List.replicate 12 0), (0, 3, [3, 0, (-1), 14, 15, 0, 0, 16, 17, 0]), (1, 0, List.replicate 12 0), (1, 0, List.replicate 12 0), (1, 0, List.replicate 4096 0), (1, 0, List.replicate 13 0), (0, 4, [0, 0, 0, (-1), 0, 0, 0]), (0, 5, [0, 20]), (3, 0, List.replicate 200 0), (0, 6, [19, 3, 0, (-1), 0, 0, 0]), (6, 0, [63, 65, 67, 69]), (0, 1, [0, 24, 25, 26, 27]), (1, 0, List.replicate 12 0), (1, 0, List.replicate 12 0), (1, 0, List.replicate 12 0), (1, 0, List.replicate 144 0), (0, 1, [0, 29, 30, 31, 32]), (1, 0, List.replicate 12 0), (1, 0, List.replicate 12 0), (1, 0, List.replicate 12 0), (1, 0, List.replicate 144 0), (0, 1, [0, 34, 35, 36, 37]), (1, 0, List.replicate 12 0), (1, 0, List.replicate 12 0), (1, 0, List.replicate 12 0), (1, 0, List.replicate 144 0), (0, 1, [0, 39, 40, 41, 42]), (1, 0, List.replicate 12 0), (1, 0, List.replicate 12 0), (1, 0, List.replicate 12 0), (1, 0, List.replicate 144 0), (0, 1, [0, 44, 45, 46, 47]), (1, 0, List.replicate 12 0), (1, 0, List.replicate 12 0), (1, 0, List.replicate 12 0), (1, 0, List.replicate 144 0), (0, 1, [0, 49, 50, 51, 52]), (1, 0, List.replicate 12 0), (1, 0, List.replicate 12 0), (1, 0, List.replicate 12 0), (1, 0, List.replicate 144 0), (0, 1, [0, 54, 55, 56, 57]), (1, 0, List.replicate 12 0), (1, 0, List.replicate 12 0), (1, 0, List.replicate 12 0), (1, 0, List.replicate 144 0), (0, 1, [0, 59, 60, 61, 62]), (1, 0, List.replicate 12 0), (1, 0, List.replicate 12 0), (1, 0, List.replicate 12 0), (1, 0, List.replicate 144 0), (0, 7, [(-1), 0, 64]), (2, 0, List.replicate 40 0), (0, 7, [(-1), 0, 66]), (2, 0, List.replicate 40 0), (0, 7, [(-1), 0, 68]), (2, 0, List.replicate 40 0), (0, 7, [(-1), 0, 70]), (2, 0, List.replicate 40 0), (0, 8, [72, 73, 74, 75, 76, 77, 78, 79, 0, 0, 0, 0, 80, 81, 82, 83, 84, 0, 0, 0, 85, 0, 0, 0, 0, 86, 87, 88, 89, 90]), (1, 0, [0, 0, 0, 0, 0]), (1, 0, List.replicate 60 0), (1, 0, List.replicate 120 0), (1, 0, List.replicate 720 0), (1, 0, [0, 0, 0, 0]), (1, 0, List.replicate 48 0), (1, 0, List.replicate 96 0), (1, 0, List.replicate 576 0), (1, 0, List.replicate 144 0), (1, 0, List.replicate 12 0), (1, 0, List.replicate 12 0), (2, 0, List.replicate 144 0), (2, 0, List.replicate 12 0), (1, 0, List.replicate 200 0), (4, 0, List.replicate 12 0), (1, 0, [(-1), (-1), (-1), (-1)]), (1, 0, [0, 0, 0, 0]), (2, 0, List.replicate 160 0), (2, 0, List.replicate 40 0)]
theorem cc_end_ok : cc_end = some ([(2, 1000), (2, 0), (2, 71), (9, 0)], cc_fin) := by decide +kernel
end
section
/-! The second small machine's words in the real one's: cells, what they refer to. -/
def cc_lt (N : Nat) (v : mm_V) : Prop := 2 ≤ v.1 → v.2 < (N : Int) ∨ v.2 = 1000
def cc_ok (N : Nat) (c : cc_C) : Prop := (c.1 = 0 → ∀ k, cc_isR c.2.1 k = true → c.2.2.getD k 0 < (N : Int) ∨ c.2.2.getD k 0 = 0) ∧ (c.1 = 5 ∨ c.1 = 6 → ∀ j, c.2.2.getD j (-1) < (N : Int))
def cc_oks (cs : List cc_C) : Prop := ∀ c ∈ cs, cc_ok cs.length c
theorem cc_sz_set : ∀ (cs : List cc_C) (i : Nat) (c c' : cc_C), cs[i]? = some c → c'.2.2.length = c.2.2.length → cc_sz (cs.set i c') = cc_sz cs
  | [], _, _, _, h, _ => by cases h
  | x :: r, 0, c, c', h, hl => by cases h; show c'.2.2.length + cc_sz r = _; rw [hl]; rfl
  | x :: r, i + 1, c, c', h, hl => by show x.2.2.length + cc_sz (r.set i c') = _; rw [cc_sz_set r i c c' h hl]; rfl
theorem cc_sz_app : ∀ (cs : List cc_C) (c : cc_C), cc_sz (cs ++ [c]) = cc_sz cs + c.2.2.length
  | [], c => by show c.2.2.length + 0 = 0 + _; omega
  | x :: r, c => by show x.2.2.length + cc_sz (r ++ [c]) = x.2.2.length + cc_sz r + _; rw [cc_sz_app r c]; omega
theorem cc_lt_mono {N M : Nat} (h : N ≤ M) {v : mm_V} (hv : cc_lt N v) : cc_lt M v := fun q => by
  rcases hv q with h1 | h1
  · exact Or.inl (by omega)
  · exact Or.inr h1
theorem cc_ok_mono {N M : Nat} (h : N ≤ M) {c : cc_C} (hc : cc_ok N c) : cc_ok M c := ⟨fun q k hk => by
  rcases hc.1 q k hk with h1 | h1
  · exact Or.inl (by omega)
  · exact Or.inr h1, fun q j => by have := hc.2 q j; omega⟩
theorem cc_put_inv {nx r1 r2 : Nat} {st : List mm_V} {cs : List cc_C} {pc' : Nat} {st' : List mm_V} {cs' : List cc_C} (h : cc_put nx r1 r2 st cs = some (pc', st', cs')) : ∃ u x a fs, st = (u, x) :: (2, a) :: st' ∧ cs[a.toNat]? = some (0, r1, fs) ∧ 0 ≤ a ∧ fs.length = mm_nf r1 ∧ ((cc_isR r1 r2 = true ∧ u = 2 ∧ -1 ≤ x ∧ x < (cs.length : Int)) ∨ (cc_isR r1 r2 = false ∧ u = 0 ∧ (mm_fk r1 r2 = 0 ∨ (mm_fk r1 r2 = 3 ∧ (x = 0 ∨ x = 1))))) ∧ pc' = nx ∧ cs' = cs.set a.toNat (0, r1, fs.set r2 x) := by
  unfold cc_put at h
  split at h
  · rename_i u x a t
    split at h
    · rename_i ci fs hc
      split at h
      · rename_i hg
        cases h
        obtain ⟨h0, rfl, hl, hk⟩ := hg
        refine ⟨u, x, a, fs, rfl, hc, h0, hl, ?_, rfl, rfl⟩
        rcases hk with ⟨hr, hu, h2⟩ | hk
        · have h2 := of_decide_eq_true h2
          exact Or.inl ⟨hr, hu, h2.1, h2.2⟩
        · exact Or.inr hk
      · cases h
    · cases h
  · cases h
theorem cc_get_inv {nx r1 r2 : Nat} {st : List mm_V} {cs : List cc_C} {pc' : Nat} {st' : List mm_V} {cs' : List cc_C} (h : cc_get nx r1 r2 st cs = some (pc', st', cs')) : ∃ a t fs, st = (2, a) :: t ∧ cs[a.toNat]? = some (0, r1, fs) ∧ 0 ≤ a ∧ fs.length = mm_nf r1 ∧ pc' = nx ∧ st' = (if cc_isR r1 r2 then 2 else 0, fs.getD r2 0) :: t ∧ cs' = cs := by
  unfold cc_get at h
  split at h
  · rename_i a t
    split at h
    · rename_i ci fs hc
      split at h
      · rename_i hg
        cases h
        obtain ⟨h0, rfl, hl⟩ := hg
        exact ⟨a, t, fs, rfl, hc, h0, hl, rfl, rfl, rfl⟩
      · cases h
    · cases h
  · cases h
theorem cc_ist_inv {nx : Nat} {st : List mm_V} {cs : List cc_C} {pc' : Nat} {st' : List mm_V} {cs' : List cc_C} (h : cc_ist nx st cs = some (pc', st', cs')) : ∃ x i a q l, st = (0, x) :: (0, i) :: (2, a) :: st' ∧ cs[a.toNat]? = some (1, q, l) ∧ 0 ≤ a ∧ 0 ≤ i ∧ i < (l.length : Int) ∧ i < 100000 ∧ pc' = nx ∧ cs' = cs.set a.toNat (1, q, l.set i.toNat x) := by
  unfold cc_ist at h
  split at h
  · rename_i x i a t
    split at h
    · rename_i q l hc
      split at h
      · rename_i hg
        cases h
        exact ⟨x, i, a, q, l, rfl, hc, hg.1, hg.2.1, hg.2.2.1, hg.2.2.2, rfl, rfl⟩
      · cases h
    · cases h
  · cases h
theorem cc_ast_inv {nx : Nat} {st : List mm_V} {cs : List cc_C} {pc' : Nat} {st' : List mm_V} {cs' : List cc_C} (h : cc_ast nx st cs = some (pc', st', cs')) : ∃ x i a k q l ci fs, st = (2, x) :: (0, i) :: (2, a) :: st' ∧ cs[a.toNat]? = some (k, q, l) ∧ cs[x.toNat]? = some (0, ci, fs) ∧ 0 ≤ a ∧ 0 ≤ i ∧ i < (l.length : Int) ∧ i < 100000 ∧ 0 ≤ x ∧ ((k = 5 ∧ ci = 1) ∨ (k = 6 ∧ ci = 7)) ∧ pc' = nx ∧ cs' = cs.set a.toNat (k, q, l.set i.toNat x) := by
  unfold cc_ast at h
  split at h
  · rename_i x i a t
    split at h
    · rename_i k q l ci fs hc1 hc2
      split at h
      · rename_i hg
        cases h
        exact ⟨x, i, a, k, q, l, ci, fs, rfl, hc1, hc2, hg.1, hg.2.1, hg.2.2.1, hg.2.2.2.1, hg.2.2.2.2.1, hg.2.2.2.2.2, rfl, rfl⟩
      · cases h
    · cases h
  · cases h
theorem cc_oks_set {cs : List cc_C} (h : cc_oks cs) {i : Nat} {c : cc_C} (hc : cc_ok cs.length c) : cc_oks (cs.set i c) := by
  intro x hx
  rw [List.length_set]
  rcases List.mem_or_eq_of_mem_set hx with h1 | rfl
  · exact h x h1
  · exact hc
theorem cc_oks_app {cs : List cc_C} (h : cc_oks cs) {c : cc_C} (hc : cc_ok (cs.length + 1) c) : cc_oks (cs ++ [c]) := by
  intro x hx
  rw [List.length_append, List.length_singleton]
  rcases List.mem_append.mp hx with h1 | h1
  · exact cc_ok_mono (Nat.le_succ _) (h x h1)
  · rw [List.mem_singleton] at h1; rw [h1]; exact hc
theorem cc_getD_set {l : List Int} {i j : Nat} {x d : Int} (hi : i < l.length) : (l.set i x).getD j d = if j = i then x else l.getD j d := by
  rw [List.getD_eq_getElem?_getD, List.getD_eq_getElem?_getD]
  by_cases h : j = i
  · subst h
    rw [if_pos rfl, List.getElem?_set_self hi]; rfl
  · rw [if_neg h, List.getElem?_set_ne (Ne.symm h)]
theorem cc_op_keep {pc nx r1 r2 : Nat} {i : Instr} {st st' : List mm_V} {cs cs' : List cc_C} {pc' : Nat} (ho : cc_op pc i nx r1 r2 st cs = some (pc', st', cs')) (hst : ∀ v ∈ st, cc_lt cs.length v) (hcs : cc_oks cs) : cs.length ≤ cs'.length ∧ cc_sz cs ≤ cc_sz cs' ∧ cc_oks cs' ∧ ∀ v ∈ st', cc_lt cs'.length v := by
  have tl : ∀ {w : mm_V} {r : List mm_V}, (∀ v ∈ w :: r, cc_lt cs.length v) → ∀ v ∈ r, cc_lt cs.length v := fun h v hv => h v (List.mem_cons_of_mem _ hv)
  have c0 : ∀ {t : Nat} {x : Int} {r : List mm_V} {N : Nat}, t < 2 → (∀ v ∈ r, cc_lt N v) → ∀ v ∈ (t, x) :: r, cc_lt N v := fun ht hr v hv => by
    rcases List.mem_cons.mp hv with rfl | hv
    · exact fun q => absurd ht (by dsimp only at q; omega)
    · exact hr v hv
  have c2 : ∀ {x : Int} {r : List mm_V} {N : Nat}, x < (N : Int) → (∀ v ∈ r, cc_lt N v) → ∀ v ∈ (2, x) :: r, cc_lt N v := fun hx hr v hv => by
    rcases List.mem_cons.mp hv with rfl | hv
    · exact fun _ => Or.inl hx
    · exact hr v hv
  have same : ∀ {s2 : List mm_V}, (∀ v ∈ s2, cc_lt cs.length v) → cs.length ≤ cs.length ∧ cc_sz cs ≤ cc_sz cs ∧ cc_oks cs ∧ ∀ v ∈ s2, cc_lt cs.length v := fun h => ⟨Nat.le_refl _, Nat.le_refl _, hcs, h⟩
  have appd : ∀ {s2 : List mm_V} {c : cc_C}, cc_ok (cs.length + 1) c → (∀ v ∈ s2, cc_lt cs.length v) → cs.length ≤ (cs ++ [c]).length ∧ cc_sz cs ≤ cc_sz (cs ++ [c]) ∧ cc_oks (cs ++ [c]) ∧ ∀ v ∈ (2, (cs.length : Int)) :: s2, cc_lt (cs ++ [c]).length v := fun {s2 c} hc h => by
    have hl : (cs ++ [c]).length = cs.length + 1 := List.length_append.trans rfl
    refine ⟨by rw [hl]; omega, by rw [cc_sz_app]; omega, cc_oks_app hcs hc, ?_⟩
    rw [hl]
    exact c2 (by omega) (fun v hv => cc_lt_mono (Nat.le_succ _) (h v hv))
  have setd : ∀ {s2 : List mm_V} {k : Nat} {c c' : cc_C}, cs[k]? = some c → c'.2.2.length = c.2.2.length → cc_ok cs.length c' → (∀ v ∈ s2, cc_lt cs.length v) → cs.length ≤ (cs.set k c').length ∧ cc_sz cs ≤ cc_sz (cs.set k c') ∧ cc_oks (cs.set k c') ∧ ∀ v ∈ s2, cc_lt (cs.set k c').length v := fun h1 h2 h3 h4 => by
    rw [List.length_set, cc_sz_set cs _ _ _ h1 h2]
    exact ⟨Nat.le_refl _, Nat.le_refl _, cc_oks_set hcs h3, h4⟩
  cases i
  case aconst_null => cases ho; exact same (c2 (by omega) hst)
  case iconst n => cases ho; exact same (c0 (by decide) hst)
  case bipush n => cases ho; exact same (c0 (by decide) hst)
  case sipush n => cases ho; exact same (c0 (by decide) hst)
  case dup =>
    match st, hst, ho with
    | v :: t, hst, ho =>
      replace ho : (if v.1 = 1 then none else some (nx, v :: v :: t, cs)) = some (pc', st', cs') := ho
      split at ho
      · cases ho
      · cases ho
        exact same (fun w hw => by rcases List.mem_cons.mp hw with rfl | hw; exact hst _ List.mem_cons_self; exact hst w hw)
  case goto off => cases ho; exact same hst
  case if_icmp cnd off =>
    cases cnd
    case ge =>
      replace ho : (match mm_b2 st 0 0 with
        | some (x, y, r) => if (-2147483648 ≤ x ∧ x < 2147483648) ∧ (-2147483648 ≤ y ∧ y < 2147483648) then some (if y ≤ x then ((pc : Int) + off).toNat else nx, r, cs) else none
        | none => none) = some (pc', st', cs') := ho
      split at ho
      · rename_i x y r h1
        split at ho
        · cases ho
          rw [mm_b2_inv h1] at hst
          exact same (tl (tl hst))
        · cases ho
      · cases ho
    all_goals (exact absurd ho (by intro q; cases q))
  case new idx =>
    replace ho : (if r1 < 9 ∧ cs.length < 1000 then some (nx, (2, (cs.length : Int)) :: st, cs ++ [cc_new r1]) else none) = some (pc', st', cs') := ho
    split at ho
    · cases ho
      refine appd ⟨fun _ k hk => ?_, fun h => ?_⟩ hst
      · unfold cc_new
        dsimp only
        rw [List.getD_eq_getElem?_getD, List.getElem?_map]
        by_cases hl : k < mm_nf r1
        · rw [List.getElem?_range hl]
          have hk' : cc_isR r1 k = true := hk
          left
          simp only [Option.map_some, Option.getD_some, hk', if_true]
          omega
        · rw [List.getElem?_eq_none (by rw [List.length_range]; omega)]
          right; rfl
      · rcases h with h | h <;> cases h
    · cases ho
  case newarray t =>
    replace ho : (match mm_b1 st 0 with
      | some (n, r) => if 0 ≤ n ∧ n < 100000 ∧ r1 ∈ [1, 2, 3, 4] ∧ cs.length < 1000 then some (nx, (2, (cs.length : Int)) :: r, cs ++ [(r1, 0, List.replicate n.toNat 0)]) else none
      | none => none) = some (pc', st', cs') := ho
    split at ho
    · rename_i n r h1
      split at ho
      · rename_i hg
        cases ho
        rw [mm_b1_inv h1] at hst
        have h14 := hg.2.2.1
        simp only [List.mem_cons, List.not_mem_nil, or_false] at h14
        refine appd ⟨fun h => ?_, fun h => ?_⟩ (tl hst)
        · dsimp only at h; omega
        · dsimp only at h; omega
      · cases ho
    · cases ho
  case anewarray idx =>
    replace ho : (match mm_b1 st 0 with
      | some (n, r) => if 0 ≤ n ∧ n < 100000 ∧ r1 ∈ [5, 6] ∧ cs.length < 1000 then some (nx, (2, (cs.length : Int)) :: r, cs ++ [(r1, 0, List.replicate n.toNat (-1))]) else none
      | none => none) = some (pc', st', cs') := ho
    split at ho
    · rename_i n r h1
      split at ho
      · rename_i hg
        cases ho
        rw [mm_b1_inv h1] at hst
        have h14 := hg.2.2.1
        simp only [List.mem_cons, List.not_mem_nil, or_false] at h14
        refine appd ⟨fun h => ?_, fun h j => ?_⟩ (tl hst)
        · dsimp only at h; omega
        · dsimp only
          rw [List.getD_eq_getElem?_getD, List.getElem?_replicate]
          split
          · show (-1 : Int) < _; omega
          · show (-1 : Int) < _; omega
      · cases ho
    · cases ho
  case putfield idx =>
    obtain ⟨u, x, a, fs, rfl, hc, h0, hl, hk, rfl, rfl⟩ := cc_put_inv ho
    refine setd hc (List.length_set ..) ⟨fun _ k hkk => ?_, fun h => ?_⟩ (tl (tl hst))
    · have hold := (hcs _ (List.mem_of_getElem? hc)).1 rfl k hkk
      dsimp only at hkk hold ⊢
      by_cases hr2 : r2 < fs.length
      · rw [cc_getD_set hr2]
        by_cases e : k = r2
        · rw [if_pos e]
          rcases hk with ⟨hr, hu, hx1, hx2⟩ | ⟨hr, -⟩
          · exact Or.inl hx2
          · rw [e, hr] at hkk; cases hkk
        · rw [if_neg e]; exact hold
      · rw [List.set_eq_of_length_le (by omega)]; exact hold
    · dsimp only at h; omega
  case getfield idx =>
    obtain ⟨a, t, fs, rfl, hc, h0, hl, rfl, rfl, rfl⟩ := cc_get_inv ho
    refine same (fun v hv => ?_)
    rcases List.mem_cons.mp hv with rfl | hv
    · intro q
      dsimp only at q ⊢
      by_cases hr : cc_isR r1 r2 = true
      · have hold := (hcs _ (List.mem_of_getElem? hc)).1 rfl r2 hr
        dsimp only at hold
        have hpos : 0 < cs'.length := by
          have := (List.getElem?_eq_some_iff.mp hc).1
          omega
        rcases hold with h1 | h1
        · exact Or.inl h1
        · exact Or.inl (by omega)
      · rw [if_neg hr] at q; omega
    · exact tl hst v hv
  case iastore =>
    obtain ⟨x, i, a, q, l, rfl, hc, h0, hi0, hi1, hi2, rfl, rfl⟩ := cc_ist_inv ho
    refine setd hc (List.length_set ..) ⟨fun h => ?_, fun h => ?_⟩ (tl (tl (tl hst)))
    · dsimp only at h; omega
    · dsimp only at h; omega
  case aastore =>
    obtain ⟨x, i, a, k, q, l, ci, fs, rfl, hc, hcx, h0, hi0, hi1, hi2, hx0, hk, rfl, rfl⟩ := cc_ast_inv ho
    refine setd hc (List.length_set ..) ⟨fun h => ?_, fun h j => ?_⟩ (tl (tl (tl hst)))
    · dsimp only at h; omega
    · have hold := (hcs _ (List.mem_of_getElem? hc)).2 h j
      dsimp only at hold ⊢
      rw [cc_getD_set (by omega)]
      split
      · have := (List.getElem?_eq_some_iff.mp hcx).1
        omega
      · exact hold
  case invokespecial idx =>
    replace ho : (if r1 = 998 then (match st with
      | (2, a) :: t => if 0 ≤ a ∧ a < (cs.length : Int) ∧ mm_cs t ≤ 8 then some (nx, t, cs) else none
      | _ => none) else none) = some (pc', st', cs') := ho
    split at ho
    · split at ho
      · split at ho
        · cases ho
          exact same (tl hst)
        · cases ho
      · cases ho
    · cases ho
  all_goals (exact absurd ho (by intro q; cases q))
end
section
/-! The constructors over the real machine. -/
def cc_ag (N : Nat) (σ σ' : Nat → Nat) : Prop := ∀ a, a < N ∨ a = 1000 → σ' a = σ a
theorem cc_ag_rl {N : Nat} {σ σ' : Nat → Nat} (h : cc_ag N σ σ') {v : mm_V} (hv : cc_lt N v) : mm_rl σ' v = mm_rl σ v := by
  unfold mm_rl
  by_cases h0 : v.1 = 0
  · rw [if_pos h0, if_pos h0]
  · rw [if_neg h0, if_neg h0]
    by_cases h1 : v.1 = 1
    · rw [if_pos h1, if_pos h1]
    · rw [if_neg h1, if_neg h1]
      by_cases h2 : v.2 < 0
      · rw [if_pos h2, if_pos h2]
      · rw [if_neg h2, if_neg h2]
        rcases hv (by omega) with h3 | h3
        · rw [h v.2.toNat (Or.inl (by omega))]
        · rw [h v.2.toNat (Or.inr (by omega))]
theorem cc_ag_map {N : Nat} {σ σ' : Nat → Nat} (h : cc_ag N σ σ') {st : List mm_V} (hv : ∀ v ∈ st, cc_lt N v) : st.map (mm_rl σ') = st.map (mm_rl σ) := List.map_congr_left (fun v hm => cc_ag_rl h (hv v hm))
theorem cc_ag_cell {N : Nat} {σ σ' : Nat → Nat} (h : cc_ag N σ σ') (hN : 0 < N) {P : Nat → ClassId} {c : cc_C} (hc : cc_ok N c) : cc_cell σ' P c = cc_cell σ P c := by
  unfold cc_cell
  by_cases h0 : c.1 = 0
  · rw [if_pos h0, if_pos h0]
    congr 2
    apply List.map_congr_left
    intro k hk
    apply cc_ag_rl h
    intro q
    by_cases hr : cc_isR c.2.1 k = true
    · rcases hc.1 h0 k hr with h3 | h3
      · exact Or.inl h3
      · left; dsimp only; omega
    · rw [if_neg hr] at q; omega
  · rw [if_neg h0, if_neg h0]
    by_cases h2 : c.1 = 2
    · rw [if_pos h2, if_pos h2]
    · rw [if_neg h2, if_neg h2]
      by_cases h5 : c.1 = 5 ∨ c.1 = 6
      · rw [if_pos h5, if_pos h5]
        congr 7
        funext j
        by_cases hj : c.2.2.getD j (-1) < 0
        · rw [if_pos hj, if_pos hj]
        · rw [if_neg hj, if_neg hj]
          have := hc.2 h5 j
          rw [h _ (Or.inl (by omega))]
      · rw [if_neg h5, if_neg h5]
theorem cc_w_get {σ : Nat → Nat} {P : Nat → ClassId} {cs : List cc_C} {a : Nat} {c : cc_C} (h : cs[a]? = some c) : (cc_w σ P cs)[a]? = some (σ a, cc_cell σ P c) := by
  unfold cc_w
  rw [List.getElem?_map, List.getElem?_zipIdx, h]
  simp
theorem cc_w_none {σ : Nat → Nat} {P : Nat → ClassId} {cs : List cc_C} {a : Nat} (h : cs[a]? = none) : (cc_w σ P cs)[a]? = none := by
  unfold cc_w
  rw [List.getElem?_map, List.getElem?_zipIdx, h]
  rfl
theorem cc_w_len {σ : Nat → Nat} {P : Nat → ClassId} {cs : List cc_C} : (cc_w σ P cs).length = cs.length := by
  unfold cc_w
  rw [List.length_map, List.length_zipIdx]
theorem cc_w_set {σ : Nat → Nat} {P : Nat → ClassId} {cs : List cc_C} {a : Nat} {c : cc_C} : (cc_w σ P cs).set a (σ a, cc_cell σ P c) = cc_w σ P (cs.set a c) := by
  apply List.ext_getElem?
  intro j
  by_cases hj : j = a
  · subst hj
    by_cases hl : j < cs.length
    · rw [List.getElem?_set_self (by rw [cc_w_len]; exact hl), cc_w_get (List.getElem?_set_self hl)]
    · rw [List.getElem?_eq_none (by rw [List.length_set, cc_w_len]; omega), List.getElem?_eq_none (by rw [cc_w_len, List.length_set]; omega)]
  · rw [List.getElem?_set_ne (Ne.symm hj)]
    cases h : cs[j]? with
    | none => rw [cc_w_none h, cc_w_none (by rw [List.getElem?_set_ne (Ne.symm hj)]; exact h)]
    | some d => rw [cc_w_get h, cc_w_get (by rw [List.getElem?_set_ne (Ne.symm hj)]; exact h)]
theorem cc_w_ag {σ σ' : Nat → Nat} {P : Nat → ClassId} {cs : List cc_C} (h : cc_ag cs.length σ σ') (hcs : cc_oks cs) : cc_w σ' P cs = cc_w σ P cs := by
  apply List.ext_getElem?
  intro j
  cases hj : cs[j]? with
  | none => rw [cc_w_none hj, cc_w_none hj]
  | some d =>
    have hl := (List.getElem?_eq_some_iff.mp hj).1
    rw [cc_w_get hj, cc_w_get hj, h j (Or.inl hl), cc_ag_cell h (by omega) (hcs d (List.mem_of_getElem? hj))]
def cc_up (σ : Nat → Nat) (N q : Nat) : Nat → Nat := fun a => if a = N then q else σ a
theorem cc_up_ag {σ : Nat → Nat} {N q : Nat} (hN : N < 1000) : cc_ag N σ (cc_up σ N q) := fun a h => by
  unfold cc_up
  rw [if_neg (by omega)]
theorem cc_w_app {σ : Nat → Nat} {P : Nat → ClassId} {cs : List cc_C} {q : Nat} {c : cc_C} {e : va_E} (hN : cs.length < 1000) (hcs : cc_oks cs) (he : e = cc_cell (cc_up σ cs.length q) P c) : cc_w σ P cs ++ [(q, e)] = cc_w (cc_up σ cs.length q) P (cs ++ [c]) := by
  rw [← cc_w_ag (cc_up_ag (q := q) hN) hcs]
  apply List.ext_getElem?
  intro j
  by_cases hj : j < cs.length
  · rw [List.getElem?_append_left (by rw [cc_w_len]; exact hj), cc_w_get (List.getElem?_eq_getElem hj), cc_w_get (by rw [List.getElem?_append_left hj]; exact List.getElem?_eq_getElem hj)]
  · rw [List.getElem?_append_right (by rw [cc_w_len]; omega), cc_w_len]
    by_cases e2 : j = cs.length
    · subst e2
      rw [Nat.sub_self, cc_w_get (c := c) (by rw [List.getElem?_append_right (Nat.le_refl _), Nat.sub_self]; rfl)]
      show some (q, e) = _
      rw [he]
      unfold cc_up
      rw [if_pos rfl]
    · rw [List.getElem?_eq_none (by rw [List.length_singleton]; omega), List.getElem?_eq_none (by rw [cc_w_len, List.length_append, List.length_singleton]; omega)]
def cc_Cx (p : Program) (s : State) (m : MethodId) (args : Array Value) (own : Nat) (P : Nat → ClassId) (dC : Nat → ClassId) (dI : Nat → Nat → Nat) : Prop :=
  p.tables.exec = Jvm.exec ∧ s.vm.findClass (mm_cn own) = some m.cls ∧ (∀ w ∈ wA, w.before args s = true) ∧ va_K (dC, dI) mm_cl (mm_tys P) s ∧ va_AO "PagesByLevels$Complex" s ∧ va_AO "PagesByLevels$Sheet" s
theorem cc_isR_ty : ∀ ci, ci < 9 → ∀ k, k < mm_nf ci → (cc_isR ci k = true → (∃ C, mm_ty ci k = .object C) ∨ ∃ t, mm_ty ci k = .array t) ∧ (cc_isR ci k = false → mm_fk ci k = 0 ∨ mm_fk ci k = 3) ∧ (mm_F ci k).1 = mm_cn ci := by
  have h : (List.range 9).all (fun ci => (List.range (mm_nf ci)).all fun k => (if cc_isR ci k then (match mm_ty ci k with
    | .object _ => true
    | .array _ => true
    | _ => false) else decide (mm_fk ci k = 0 ∨ mm_fk ci k = 3)) && decide ((mm_F ci k).1 = mm_cn ci)) = true := by decide +kernel
  intro ci hci k hk
  have h1 := List.all_eq_true.mp (List.all_eq_true.mp h ci (List.mem_range.mpr hci)) k (List.mem_range.mpr hk)
  rw [Bool.and_eq_true] at h1
  refine ⟨fun hr => ?_, fun hr => ?_, of_decide_eq_true h1.2⟩
  · have h2 := h1.1
    rw [if_pos hr] at h2
    split at h2
    · rename_i C hC; exact Or.inl ⟨C, hC⟩
    · rename_i t ht; exact Or.inr ⟨t, ht⟩
    · cases h2
  · have h2 := h1.1
    rw [if_neg (by rw [hr]; decide)] at h2
    exact of_decide_eq_true h2
theorem cc_narrow {σ : Nat → Nat} {ty : FieldType} {x : Int} (h : (∃ C, ty = .object C) ∨ ∃ t, ty = .array t) : narrow ty (mm_rl σ (2, x)) = mm_rl σ (2, x) ∧ fits ty (mm_rl σ (2, x)) = true := by
  rcases mm_rl_ref_cases σ x with e | ⟨a, e⟩ <;> rw [e] <;> rcases h with ⟨C, rfl⟩ | ⟨t, rfl⟩ <;> exact ⟨rfl, rfl⟩
theorem cc_new_fs {ci : Nat} (h : ci < 9) (σ : Nat → Nat) : ∀ j, j < mm_nf ci → defaultValue (mm_ty ci j) = vp_V ((List.range (mm_nf ci)).map fun k => mm_rl σ (if cc_isR ci k then 2 else 0, (cc_new ci).2.2.getD k 0)) j := by
  intro j hj
  unfold vp_V
  rw [List.getD_eq_getElem?_getD, List.getElem?_map, List.getElem?_range hj]
  simp only [Option.map_some, Option.getD_some]
  obtain ⟨h1, h2, -⟩ := cc_isR_ty ci h j hj
  have e : (cc_new ci).2.2.getD j 0 = if cc_isR ci j then -1 else 0 := by
    unfold cc_new
    rw [List.getD_eq_getElem?_getD, List.getElem?_map, List.getElem?_range hj]
    rfl
  rw [e]
  by_cases hr : cc_isR ci j = true
  · rw [if_pos hr, if_pos hr]
    rcases h1 hr with ⟨C, hC⟩ | ⟨t, ht⟩
    · rw [hC]; rfl
    · rw [ht]; rfl
  · rw [if_neg hr, if_neg hr]
    obtain ⟨hk0, hk3, -, -⟩ := mm_Fki ci h j hj
    rcases h2 (by simpa using hr) with z | z
    · rw [hk0 z]; rfl
    · rw [hk3 z]; rfl
theorem cc_new_cell {ci : Nat} (σ : Nat → Nat) (P : Nat → ClassId) : cc_cell σ P (cc_new ci) = .inr (ci, (List.range (mm_nf ci)).map fun k => mm_rl σ (if cc_isR ci k then 2 else 0, (cc_new ci).2.2.getD k 0)) := by
  unfold cc_cell
  rw [if_pos (show (cc_new ci).1 = 0 from rfl)]
  show Sum.inr (ci, (List.range (cc_new ci).2.2.length).map _) = _
  have : (cc_new ci).2.2.length = mm_nf ci := by unfold cc_new; rw [List.length_map, List.length_range]
  rw [this]
  rfl
def cc_kk (p : Program) (l : Launch) (e : Env) (R : Room) (s : State) (m : MethodId) (args : Array Value) (below : List Frame) (meth : Method) (c : Code) (H0 : Heap) (N0 Z0 : Nat) (Q : State → Prop) (ls : Array Slot) (σ : Nat → Nat) (P : Nat → ClassId) (dC : Nat → ClassId) (dI : Nat → Nat → Nat) (B0 : Nat) (N : Nat) (pc' : Nat) (st' : List mm_V) (cs' : List cc_C) : Prop :=
  ∀ (σ' : Nat → Nat) (H1 : Heap) (locs1 : List Loc), cc_ag N σ σ' → va_P (dC, dI) mm_cl (cc_w σ' P cs') H1 → va_D (fun q => B0 ≤ q) (cc_w σ' P cs') → va_S (fun q => B0 ≤ q) H0 H1 locs1 → W p l e R s m args below meth c H1 locs1 (cs'.length - N0) (cc_sz cs' - Z0) Q (F0 m pc' ls (st'.map (mm_rl σ')))
section CC3
variable {p : Program} {l : Launch} {e : Env} {R : Room} {s : State} {m : MethodId} {args : Array Value} {below : List Frame} {meth : Method} {c : Code} {H H0 : Heap} {locs : List Loc} {Q : State → Prop} {cc : ByteArray} {ls : Array Slot} {σ : Nat → Nat} {P : Nat → ClassId} {dC : Nat → ClassId} {dI : Nat → Nat → Nat} {B0 own N0 Z0 : Nat}
theorem cc_op_sound (C : cc_Cx p s m args own P dC dI) (hb : c.code = cc) (hsz : ls.size = c.maxLocals) {pc len r1 r2 : Nat} {i : Instr} {r3 : Int} {st st' : List mm_V} {cs cs' : List cc_C} {pc' fr lo : Nat} (hinit : own ≠ 13 → meth.name = "<init>") (hown13 : ∀ idx, i = .putfield idx → own ≠ 13) (hR : fr ≤ R.frames ∧ lo ≤ R.locals) (hd : decode cc pc = .ok (i, len)) (hlen : len = cc_il i) (hok : cc_iok own fr lo (pc, i, len, r1, r2, r3) = true) (ho : cc_op pc i (pc + len) r1 r2 st cs = some (pc', st', cs')) (hst : ∀ v ∈ st, cc_lt cs.length v) (hcs : cc_oks cs) (hN : N0 ≤ cs.length) (hZ : Z0 ≤ cc_sz cs) (hB : ∀ q, H0.size ≤ q → B0 ≤ q)
    (hroom : cs'.length - N0 ≤ R.cells ∧ cc_sz cs' - Z0 ≤ R.slots) (hP : va_P (dC, dI) mm_cl (cc_w σ P cs) H) (hD : va_D (fun q => B0 ≤ q) (cc_w σ P cs)) (hS : va_S (fun q => B0 ≤ q) H0 H locs) (kk : cc_kk p l e R s m args below meth c H0 N0 Z0 Q ls σ P dC dI B0 cs.length pc' st' cs') : W p l e R s m args below meth c H locs (cs.length - N0) (cc_sz cs - Z0) Q (F0 m pc ls (st.map (mm_rl σ))) := by
  obtain ⟨hx, hown, hts, hK, hAO1, hAO2⟩ := C
  have k0 : cs' = cs → W p l e R s m args below meth c H locs (cs.length - N0) (cc_sz cs - Z0) Q (F0 m pc' ls (st'.map (mm_rl σ))) := fun h => by
    have := kk σ H locs (fun a _ => rfl)
    rw [h] at this
    exact this hP hD hS
  cases i
  case aconst_null => cases ho; subst hlen; exact lv_null hx hb hd (k0 rfl)
  case iconst n => cases ho; subst hlen; exact lv_iconst hx hb hd rfl (k0 rfl)
  case bipush n => cases ho; subst hlen; exact lv_bipush hx hb hd (mm_byte (of_decide_eq_true hok)) (k0 rfl)
  case sipush n => cases ho; subst hlen; exact lv_sipush hx hb hd (mm_short (of_decide_eq_true hok)) (k0 rfl)
  case dup =>
    subst hlen
    match st, ho with
    | v :: t, ho =>
      replace ho : (if v.1 = 1 then none else some (pc + 1, v :: v :: t, cs)) = some (pc', st', cs') := ho
      split at ho
      · cases ho
      · rename_i h
        cases ho
        exact lv_dup hx hb hd (mm_cat1 h) (k0 rfl)
  case goto off => cases ho; subst hlen; exact lv_goto hx hb hd (Int.toNat_of_nonneg (of_decide_eq_true hok)).symm (k0 rfl)
  case if_icmp cnd off =>
    cases cnd
    case ge =>
      subst hlen
      replace ho : (match mm_b2 st 0 0 with
        | some (x, y, r) => if (-2147483648 ≤ x ∧ x < 2147483648) ∧ (-2147483648 ≤ y ∧ y < 2147483648) then some (if y ≤ x then ((pc : Int) + off).toNat else pc + 3, r, cs) else none
        | none => none) = some (pc', st', cs') := ho
      split at ho
      · rename_i x y r h1
        split at ho
        · rename_i hrr
          cases ho
          have hst2 := mm_b2_inv h1
          subst hst2
          have hy1 : mm_r32 y := hrr.2
          have hx1 : mm_r32 x := hrr.1
          have hoff : 0 ≤ (pc : Int) + off := of_decide_eq_true hok
          refine lv_icmp_ge (x := Int32.ofInt x) (y := Int32.ofInt y) (tgt := ((pc : Int) + off).toNat) hx hb hd (Int.toNat_of_nonneg hoff).symm (fun q => ?_) (fun q => ?_)
          · have k1 := k0 rfl
            rw [if_pos ((mm_le32 hy1 hx1).mp q)] at k1
            exact k1
          · have k1 := k0 rfl
            rw [if_neg (fun z => q ((mm_le32 hy1 hx1).mpr z))] at k1
            exact k1
        · cases ho
      · cases ho
    all_goals (exact absurd ho (by intro q; cases q))
  case new idx =>
    subst hlen
    replace ho : (if r1 < 9 ∧ cs.length < 1000 then some (pc + 3, (2, (cs.length : Int)) :: st, cs ++ [cc_new r1]) else none) = some (pc', st', cs') := ho
    split at ho
    · rename_i hg
      cases ho
      obtain ⟨q, hq, h⟩ := List.any_eq_true.mp hok
      have h := of_decide_eq_true h
      dsimp only at h
      obtain ⟨w1, w2, w3⟩ := cc_ln_ok q hq
      rw [h.1, h.2.1, h.2.2] at w1
      rw [h.2.2] at w2 w3
      have hl : (cs ++ [cc_new r1]).length = cs.length + 1 := List.length_append.trans rfl
      have hz : cc_sz (cs ++ [cc_new r1]) = cc_sz cs + mm_nf r1 := by
        rw [cc_sz_app]
        congr 1
        unfold cc_new; rw [List.length_map, List.length_range]
      refine va_new (ci := r1) (C := mm_cn r1) (T := mm_F r1) (N := mm_nf r1) hx hb hts (mm_Fw r1 hg.1) (mm_ty r1) (mm_Fty r1 hg.1) hown (hts _ w1) (hts _ w2) (hts _ w3) hK hP hD hS hB (mm_Fcl r1 hg.1) (cc_new_fs hg.1 σ) (by omega) (by omega) hd (fun q H1 hP1 hD1 hS1 => ?_)
      have hcell : Sum.inr (r1, (List.range (mm_nf r1)).map fun k => mm_rl σ (if cc_isR r1 k then 2 else 0, (cc_new r1).2.2.getD k 0)) = cc_cell (cc_up σ cs.length q) P (cc_new r1) := by
        rw [cc_new_cell]
        congr 2
        apply List.map_congr_left
        intro k hk
        by_cases hr : cc_isR r1 k = true
        · have e : (cc_new r1).2.2.getD k 0 = -1 := by
            unfold cc_new
            rw [List.getD_eq_getElem?_getD, List.getElem?_map, List.getElem?_range (List.mem_range.mp hk)]
            simp only [Option.map_some, Option.getD_some, hr, if_true]
          rw [e, if_pos hr]
          rfl
        · rw [if_neg hr]; rfl
      rw [cc_w_app hg.2 hcs hcell] at hP1 hD1
      have k1 := kk _ H1 locs (cc_up_ag hg.2) hP1 hD1 hS1
      rw [hl, hz, show cs.length + 1 - N0 = cs.length - N0 + 1 by omega, show cc_sz cs + mm_nf r1 - Z0 = cc_sz cs - Z0 + mm_nf r1 by omega, List.map_cons, cc_ag_map (cc_up_ag hg.2) hst, mm_rl_ref (by omega)] at k1
      rw [show cc_up σ cs.length q ((cs.length : Int)).toNat = q from by unfold cc_up; rw [if_pos (by omega)]] at k1
      exact k1
    · cases ho
  case newarray t =>
    subst hlen
    replace ho : (match mm_b1 st 0 with
      | some (n, r) => if 0 ≤ n ∧ n < 100000 ∧ r1 ∈ [1, 2, 3, 4] ∧ cs.length < 1000 then some (pc + 2, (2, (cs.length : Int)) :: r, cs ++ [(r1, 0, List.replicate n.toNat 0)]) else none
      | none => none) = some (pc', st', cs') := ho
    split at ho
    · rename_i n r h1
      have hst2 := mm_b1_inv h1
      subst hst2
      split at ho
      · rename_i hg
        cases ho
        obtain ⟨hn0, hn1, hk, hNl⟩ := hg
        have htc : cc_tc t = r1 := of_decide_eq_true hok
        have hn32 : mm_r32 n := ⟨by omega, by omega⟩
        have hnn : (Int32.ofInt n).toNatClampNeg = n.toNat := Int32.toNatClampNeg_ofInt_of_le (by omega) (by omega)
        have hneg : ¬ Int32.ofInt n < 0 := fun q => by
          have := (mm_lt32 hn32 mm_r32_0).mp q
          omega
        have hl : (cs ++ [((r1, 0, List.replicate n.toNat 0) : cc_C)]).length = cs.length + 1 := List.length_append.trans rfl
        have hz : cc_sz (cs ++ [((r1, 0, List.replicate n.toNat 0) : cc_C)]) = cc_sz cs + n.toNat := by rw [cc_sz_app]; congr 1; exact List.length_replicate
        have hrest : ∀ v ∈ r, cc_lt cs.length v := fun v hv => hst v (List.mem_cons_of_mem _ hv)
        have fin : ∀ (q : Nat) (H1 : Heap) (ee : va_E), ee = cc_cell (cc_up σ cs.length q) P (r1, 0, List.replicate n.toNat 0) → va_P (dC, dI) mm_cl (cc_w σ P cs ++ [(q, ee)]) H1 → va_D (fun q => B0 ≤ q) (cc_w σ P cs ++ [(q, ee)]) → va_S (fun q => B0 ≤ q) H0 H1 locs → W p l e R s m args below meth c H1 locs (cs.length - N0 + 1) (cc_sz cs - Z0 + n.toNat) Q (F0 m (pc + 2) ls (.ref q :: r.map (mm_rl σ))) := fun q H1 ee he hP1 hD1 hS1 => by
          rw [cc_w_app hNl hcs he] at hP1 hD1
          have k1 := kk _ H1 locs (cc_up_ag hNl) hP1 hD1 hS1
          rw [hl, hz, show cs.length + 1 - N0 = cs.length - N0 + 1 by omega, show cc_sz cs + n.toNat - Z0 = cc_sz cs - Z0 + n.toNat by omega, List.map_cons, cc_ag_map (cc_up_ag hNl) hrest, mm_rl_ref (by omega)] at k1
          rw [show cc_up σ cs.length q ((cs.length : Int)).toNat = q from by unfold cc_up; rw [if_pos (by omega)]] at k1
          exact k1
        have hget : ∀ j : Nat, (List.replicate n.toNat (0 : Int)).getD j 0 = 0 := fun j => by
          rw [List.getD_eq_getElem?_getD, List.getElem?_replicate]; split <;> rfl
        have hint : ∀ k : Nat, k ≠ 0 → k ≠ 2 → ¬ (k = 5 ∨ k = 6) → ∀ q, cc_cell (cc_up σ cs.length q) P ((k, 0, List.replicate n.toNat 0) : cc_C) = .inl (P k, n.toNat, .inl (fun _ => (0 : Int32))) := fun k a1 a2 a3 q => by
          unfold cc_cell
          rw [if_neg a1, if_neg a2, if_neg a3]
          show Sum.inl (P k, (List.replicate n.toNat (0 : Int)).length, _) = _
          rw [List.length_replicate]
          congr 3
          congr 1
          funext j
          show Int32.ofInt ((List.replicate n.toNat (0 : Int)).getD j 0) = 0
          rw [hget]; rfl
        rw [List.map_cons]
        have hK0 := hK.2
        cases t
        case int =>
          subst htc
          refine va_newa (atype := .int) (ty := .int) (N' := n.toNat) (a0 := (n.toNat, .inl fun _ => 0)) hx hb (hts _ cc_arr.1) rfl hK hP hD hS hB (fun cA => rfl) hneg hnn (by show n.toNat * 4 ≤ _; omega) (by omega) (by omega) hd (fun q cA H1 hK1 hP1 hD1 hS1 => ?_)
          have hcA : cA = P 1 := Option.some.inj ((hK1.2 6 (cA, .int) rfl).2.symm.trans (hK.2 0 _ rfl).2)
          rw [hcA] at hP1 hD1
          exact fin q H1 _ (hint 1 (by decide) (by decide) (by decide) q).symm hP1 hD1 hS1
        case byte =>
          subst htc
          refine va_newa (atype := .byte) (ty := .byte) (N' := n.toNat) (a0 := (n.toNat, .inl fun _ => 0)) hx hb (hts _ cc_arr.2.1) rfl hK hP hD hS hB (fun cA => rfl) hneg hnn (by show n.toNat * 1 ≤ _; omega) (by omega) (by omega) hd (fun q cA H1 hK1 hP1 hD1 hS1 => ?_)
          have hcA : cA = P 3 := Option.some.inj ((hK1.2 6 (cA, .byte) rfl).2.symm.trans (hK.2 2 _ rfl).2)
          rw [hcA] at hP1 hD1
          exact fin q H1 _ (hint 3 (by decide) (by decide) (by decide) q).symm hP1 hD1 hS1
        case boolean =>
          subst htc
          refine va_newa (atype := .boolean) (ty := .boolean) (N' := n.toNat) (a0 := (n.toNat, .inl fun _ => 0)) hx hb (hts _ cc_arr.2.2.2) rfl hK hP hD hS hB (fun cA => rfl) hneg hnn (by show n.toNat * 1 ≤ _; omega) (by omega) (by omega) hd (fun q cA H1 hK1 hP1 hD1 hS1 => ?_)
          have hcA : cA = P 4 := Option.some.inj ((hK1.2 6 (cA, .boolean) rfl).2.symm.trans (hK.2 3 _ rfl).2)
          rw [hcA] at hP1 hD1
          exact fin q H1 _ (hint 4 (by decide) (by decide) (by decide) q).symm hP1 hD1 hS1
        case long =>
          subst htc
          refine va_newa (atype := .long) (ty := .long) (N' := n.toNat) (a0 := (n.toNat, .inr (.inl fun _ => 0))) hx hb (hts _ cc_arr.2.2.1) rfl hK hP hD hS hB (fun cA => rfl) hneg hnn (by show n.toNat * 8 ≤ _; omega) (by omega) (by omega) hd (fun q cA H1 hK1 hP1 hD1 hS1 => ?_)
          have hcA : cA = P 2 := Option.some.inj ((hK1.2 6 (cA, .long) rfl).2.symm.trans (hK.2 1 _ rfl).2)
          rw [hcA] at hP1 hD1
          refine fin q H1 _ ?_ hP1 hD1 hS1
          show _ = cc_cell (cc_up σ cs.length q) P ((2, 0, List.replicate n.toNat 0) : cc_C)
          unfold cc_cell
          rw [if_neg (show ¬ (2 : Nat) = 0 by decide), if_pos rfl]
          show _ = Sum.inl (P 2, (List.replicate n.toNat (0 : Int)).length, _)
          rw [List.length_replicate]
          congr 5
          funext j
          show 0 = Int64.ofInt ((List.replicate n.toNat (0 : Int)).getD j 0)
          rw [hget]; rfl
        all_goals (exfalso; subst htc; exact absurd hk (by decide))
      · cases ho
    · cases ho
  case anewarray idx =>
    subst hlen
    replace ho : (match mm_b1 st 0 with
      | some (n, r) => if 0 ≤ n ∧ n < 100000 ∧ r1 ∈ [5, 6] ∧ cs.length < 1000 then some (pc + 3, (2, (cs.length : Int)) :: r, cs ++ [(r1, 0, List.replicate n.toNat (-1))]) else none
      | none => none) = some (pc', st', cs') := ho
    split at ho
    · rename_i n r h1
      have hst2 := mm_b1_inv h1
      subst hst2
      split at ho
      · rename_i hg
        cases ho
        obtain ⟨hn0, hn1, hk, hNl⟩ := hg
        have hn32 : mm_r32 n := ⟨by omega, by omega⟩
        have hnn : (Int32.ofInt n).toNatClampNeg = n.toNat := Int32.toNatClampNeg_ofInt_of_le (by omega) (by omega)
        have hneg : ¬ Int32.ofInt n < 0 := fun q => by
          have := (mm_lt32 hn32 mm_r32_0).mp q
          omega
        obtain ⟨q, hq, h⟩ := List.any_eq_true.mp hok
        have h := of_decide_eq_true h
        dsimp only at h
        have w1 := cc_la_ok q hq
        rw [h.1, h.2.1, h.2.2] at w1
        have hl : (cs ++ [((r1, 0, List.replicate n.toNat (-1)) : cc_C)]).length = cs.length + 1 := List.length_append.trans rfl
        have hz : cc_sz (cs ++ [((r1, 0, List.replicate n.toNat (-1)) : cc_C)]) = cc_sz cs + n.toNat := by rw [cc_sz_app]; congr 1; exact List.length_replicate
        have hrest : ∀ v ∈ r, cc_lt cs.length v := fun v hv => hst v (List.mem_cons_of_mem _ hv)
        have hget : ∀ j : Nat, (List.replicate n.toNat (-1 : Int)).getD j (-1) = -1 := fun j => by
          rw [List.getD_eq_getElem?_getD, List.getElem?_replicate]; split <;> rfl
        have hcellq : ∀ (k : Nat), (k = 5 ∨ k = 6) → ∀ q, cc_cell (cc_up σ cs.length q) P ((k, 0, List.replicate n.toNat (-1)) : cc_C) = .inl (P k, n.toNat, .inr (.inr (.inr (.inr (fun _ => none))))) := fun k hk q => by
          unfold cc_cell
          rw [if_neg (show ¬ k = 0 by omega), if_neg (show ¬ k = 2 by omega), if_pos hk]
          show Sum.inl (P k, (List.replicate n.toNat (-1 : Int)).length, _) = _
          rw [List.length_replicate]
          congr 7
          funext j
          show (if (List.replicate n.toNat (-1 : Int)).getD j (-1) < 0 then none else _) = none
          rw [hget, if_pos (by decide)]
        rw [List.map_cons]
        have fin : ∀ (q : Nat) (H1 : Heap) (ee : va_E), ee = cc_cell (cc_up σ cs.length q) P (r1, 0, List.replicate n.toNat (-1)) → va_P (dC, dI) mm_cl (cc_w σ P cs ++ [(q, ee)]) H1 → va_D (fun q => B0 ≤ q) (cc_w σ P cs ++ [(q, ee)]) → va_S (fun q => B0 ≤ q) H0 H1 locs → W p l e R s m args below meth c H1 locs (cs.length - N0 + 1) (cc_sz cs - Z0 + n.toNat) Q (F0 m (pc + 3) ls (.ref q :: r.map (mm_rl σ))) := fun q H1 ee he hP1 hD1 hS1 => by
          rw [cc_w_app hNl hcs he] at hP1 hD1
          have k1 := kk _ H1 locs (cc_up_ag hNl) hP1 hD1 hS1
          rw [hl, hz, show cs.length + 1 - N0 = cs.length - N0 + 1 by omega, show cc_sz cs + n.toNat - Z0 = cc_sz cs - Z0 + n.toNat by omega, List.map_cons, cc_ag_map (cc_up_ag hNl) hrest, mm_rl_ref (by omega)] at k1
          rw [show cc_up σ cs.length q ((cs.length : Int)).toNat = q from by unfold cc_up; rw [if_pos (by omega)]] at k1
          exact k1
        have obj : ∀ (cA cB : ClassId) (C : String), va_RA s cA (.object C) → va_RA s cB (.object C) → cA = cB := fun cA cB C a b => by
          obtain ⟨-, -, -, -, -, h4⟩ := a
          obtain ⟨-, -, -, -, -, h4'⟩ := b
          exact Option.some.inj (h4.symm.trans h4')
        rcases (show r1 = 5 ∨ r1 = 6 by simpa using hk) with rfl | rfl
        · refine va_newq (C := "PagesByLevels$Complex") (N' := n.toNat) hx hb hown (hts _ w1) hAO1 hK hP hD hS hB hneg hnn (by omega) (by omega) (by omega) hd (fun q cA H1 hK1 hP1 hD1 hS1 => ?_)
          have hcA : cA = P 5 := obj _ _ _ (hK1.2 6 (cA, .object "PagesByLevels$Complex") rfl).2 (hK.2 4 _ rfl).2
          rw [hcA] at hP1 hD1
          exact fin q H1 _ (hcellq 5 (Or.inl rfl) q).symm hP1 hD1 hS1
        · refine va_newq (C := "PagesByLevels$Sheet") (N' := n.toNat) hx hb hown (hts _ w1) hAO2 hK hP hD hS hB hneg hnn (by omega) (by omega) (by omega) hd (fun q cA H1 hK1 hP1 hD1 hS1 => ?_)
          have hcA : cA = P 6 := obj _ _ _ (hK1.2 6 (cA, .object "PagesByLevels$Sheet") rfl).2 (hK.2 5 _ rfl).2
          rw [hcA] at hP1 hD1
          exact fin q H1 _ (hcellq 6 (Or.inr rfl) q).symm hP1 hD1 hS1
      · cases ho
    · cases ho
  case putfield idx =>
    subst hlen
    obtain ⟨u, x, a, fs, rfl, hc, h0, hl, hk, rfl, rfl⟩ := cc_put_inv ho
    have hok2 : (decide (own = r1) && cc_lf.any fun q => decide (q.1 = own ∧ q.2.1 = idx ∧ q.2.2.1 = r1 ∧ q.2.2.2.1 = r2)) = true := hok
    rw [Bool.and_eq_true] at hok2
    have hor : own = r1 := of_decide_eq_true hok2.1
    obtain ⟨q, hq, h⟩ := List.any_eq_true.mp hok2.2
    have h := of_decide_eq_true h
    obtain ⟨w1, hci, hr2⟩ := cc_lf_ok q hq
    unfold mm_lfw at w1
    rw [h.1, h.2.1, h.2.2.1, h.2.2.2] at w1
    rw [h.2.2.1] at hci
    rw [h.2.2.1, h.2.2.2] at hr2
    have he := cc_w_get (σ := σ) (P := P) hc
    have hcell : ∀ fs : List Int, fs.length = mm_nf r1 → cc_cell σ P ((0, r1, fs) : cc_C) = .inr (r1, (List.range (mm_nf r1)).map fun k => mm_rl σ (if cc_isR r1 k then 2 else 0, fs.getD k 0)) := fun fs hf => by
      unfold cc_cell
      rw [if_pos rfl]
      show Sum.inr (r1, (List.range fs.length).map _) = _
      rw [hf]
    rw [hcell fs hl] at he
    obtain ⟨t1, t2, t3⟩ := cc_isR_ty r1 hci r2 hr2
    obtain ⟨hk0, hk3, -, -⟩ := mm_Fki r1 hci r2 hr2
    have hv : mm_rl σ (u, x) = mm_rl σ (if cc_isR r1 r2 then 2 else 0, x) ∧ narrow (mm_ty r1 r2) (mm_rl σ (u, x)) = mm_rl σ (u, x) ∧ fits (mm_ty r1 r2) (mm_rl σ (u, x)) = true := by
      rcases hk with ⟨hr, rfl, -, -⟩ | ⟨hr, rfl, hk⟩
      · rw [if_pos hr]
        exact ⟨rfl, cc_narrow (t1 hr)⟩
      · rw [if_neg (by rw [hr]; decide)]
        rcases hk with z | ⟨z, hx01⟩
        · rw [hk0 z]; exact ⟨rfl, rfl, rfl⟩
        · rw [hk3 z]; rcases hx01 with rfl | rfl <;> exact ⟨rfl, rfl, rfl⟩
    have fin : ∀ (H1 : Heap) (locs1 : List Loc), va_P (dC, dI) mm_cl ((cc_w σ P cs).set a.toNat (σ a.toNat, .inr (r1, ((List.range (mm_nf r1)).map fun k => mm_rl σ (if cc_isR r1 k then 2 else 0, fs.getD k 0)).set r2 (mm_rl σ (u, x))))) H1 → va_D (fun q => B0 ≤ q) ((cc_w σ P cs).set a.toNat (σ a.toNat, .inr (r1, ((List.range (mm_nf r1)).map fun k => mm_rl σ (if cc_isR r1 k then 2 else 0, fs.getD k 0)).set r2 (mm_rl σ (u, x))))) → va_S (fun q => B0 ≤ q) H0 H1 locs1 → W p l e R s m args below meth c H1 locs1 (cs.length - N0) (cc_sz cs - Z0) Q (F0 m (pc + 3) ls (st'.map (mm_rl σ))) := fun H1 locs1 hP1 hD1 hS1 => by
      have e1 : ((List.range (mm_nf r1)).map fun k => mm_rl σ (if cc_isR r1 k then 2 else 0, fs.getD k 0)).set r2 (mm_rl σ (u, x)) = (List.range (mm_nf r1)).map fun k => mm_rl σ (if cc_isR r1 k then 2 else 0, (fs.set r2 x).getD k 0) := by
        apply List.ext_getElem?
        intro j
        by_cases hj : j = r2
        · subst hj
          rw [List.getElem?_set_self (by rw [List.length_map, List.length_range]; exact hr2), List.getElem?_map, List.getElem?_range hr2]
          simp only [Option.map_some]
          rw [hv.1, cc_getD_set (by omega), if_pos rfl]
        · rw [List.getElem?_set_ne (Ne.symm hj), List.getElem?_map, List.getElem?_map]
          by_cases hjl : j < mm_nf r1
          · rw [List.getElem?_range hjl]
            simp only [Option.map_some]
            rw [cc_getD_set (by omega), if_neg hj]
          · rw [List.getElem?_eq_none (by rw [List.length_range]; omega)]; rfl
      rw [e1, ← hcell (fs.set r2 x) (by rw [List.length_set]; exact hl), cc_w_set] at hP1 hD1
      have k1 := kk σ H1 locs1 (fun _ _ => rfl) hP1 hD1 hS1
      rw [List.length_set, cc_sz_set cs _ _ _ hc (List.length_set ..)] at k1
      exact k1
    rw [List.map_cons, List.map_cons, mm_rl_ref h0]
    by_cases hfin : (mm_F r1 r2).2.2.2 = true
    · refine va_putF (ref := (mm_F r1 r2).1) hx hb hts (mm_Fw r1 hci) (mm_ty r1) (mm_Fty r1 hci) (mm_Fnm r1 hci) hown hK hP hD hS a.toNat he (mm_Fcl r1 hci) r2 hr2 (hts _ w1) (fun _ z => z) hfin (hinit (hown13 idx rfl)) (by rw [t3, hor]) (mm_Fty r1 hci r2 hr2) hv.2.1 hv.2.2 (by rw [List.length_map, List.length_range]; exact hr2) hd (fun H1 locs1 a1 a2 a3 => fin H1 locs1 a1 a2 a3)
    · refine va_put (ref := (mm_F r1 r2).1) hx hb hts (mm_Fw r1 hci) (mm_ty r1) (mm_Fty r1 hci) (mm_Fnm r1 hci) hown hK hP hD hS a.toNat he (mm_Fcl r1 hci) r2 hr2 (hts _ w1) (fun _ z => z) (by simpa using hfin) (mm_Fty r1 hci r2 hr2) hv.2.1 hv.2.2 (by rw [List.length_map, List.length_range]; exact hr2) hd (fun H1 locs1 a1 a2 a3 => fin H1 locs1 a1 a2 a3)
  case getfield idx =>
    subst hlen
    obtain ⟨a, t, fs, rfl, hc, h0, hl, rfl, rfl, rfl⟩ := cc_get_inv ho
    obtain ⟨q, hq, h⟩ := List.any_eq_true.mp hok
    have h := of_decide_eq_true h
    dsimp only at h
    obtain ⟨w1, hci, hr2⟩ := cc_lf_ok q hq
    unfold mm_lfw at w1
    rw [h.1, h.2.1, h.2.2.1, h.2.2.2] at w1
    rw [h.2.2.1] at hci
    rw [h.2.2.1, h.2.2.2] at hr2
    have he := cc_w_get (σ := σ) (P := P) hc
    have hcell : cc_cell σ P ((0, r1, fs) : cc_C) = .inr (r1, (List.range (mm_nf r1)).map fun k => mm_rl σ (if cc_isR r1 k then 2 else 0, fs.getD k 0)) := by
      unfold cc_cell
      rw [if_pos rfl]
      show Sum.inr (r1, (List.range fs.length).map _) = _
      rw [hl]
    rw [hcell] at he
    rw [List.map_cons, mm_rl_ref h0]
    refine va_get (ref := (mm_F r1 r2).1) hx hb hts (mm_Fw r1 hci) hown hK hP a.toNat he (mm_Fcl r1 hci) r2 hr2 (hts _ w1) (fun _ z => z) (v := mm_rl σ (if cc_isR r1 r2 then 2 else 0, fs.getD r2 0)) ?_ hd (k0 rfl)
    rw [List.getElem?_map, List.getElem?_range hr2]
    rfl
  case iastore =>
    subst hlen
    obtain ⟨x, i, a, q, l2, rfl, hc, h0, hi0, hi1, hi2, rfl, rfl⟩ := cc_ist_inv ho
    have hi32 : mm_r32 i := ⟨by omega, by omega⟩
    obtain ⟨hin2, hnn⟩ := mm_nn hi32 hi0 hi1
    have he := cc_w_get (σ := σ) (P := P) hc
    have hcell : ∀ l2 : List Int, cc_cell σ P ((1, q, l2) : cc_C) = .inl (P 1, l2.length, .inl fun j => Int32.ofInt (l2.getD j 0)) := fun l2 => by
      unfold cc_cell
      rw [if_neg (show ¬ (1 : Nat) = 0 by decide), if_neg (show ¬ (1 : Nat) = 2 by decide), if_neg (show ¬ ((1 : Nat) = 5 ∨ (1 : Nat) = 6) by decide)]
    rw [hcell] at he
    rw [List.map_cons, List.map_cons, List.map_cons, mm_rl_ref h0]
    refine va_iast (x := Int32.ofInt x) hx hb hK hP hD hS a.toNat 0 he rfl hin2 hd (fun H1 locs1 hP1 hD1 hS1 => ?_)
    rw [hnn] at hP1 hD1
    have e1 : upd (fun j => Int32.ofInt (l2.getD j 0)) i.toNat (Int32.ofInt x) = fun j => Int32.ofInt ((l2.set i.toNat x).getD j 0) := by
      funext j
      rw [cc_getD_set (by omega)]
      unfold upd
      split <;> rfl
    have e2 : (l2.set i.toNat x).length = l2.length := List.length_set ..
    rw [e1, ← e2, ← hcell, cc_w_set] at hP1 hD1
    have k1 := kk σ H1 locs1 (fun _ _ => rfl) hP1 hD1 hS1
    rw [List.length_set, cc_sz_set cs _ _ _ hc (List.length_set ..)] at k1
    exact k1
  case aastore =>
    subst hlen
    obtain ⟨x, i, a, k, q, l2, ci, fs, rfl, hc, hcx, h0, hi0, hi1, hi2, hx0, hkc, rfl, rfl⟩ := cc_ast_inv ho
    have hi32 : mm_r32 i := ⟨by omega, by omega⟩
    obtain ⟨hin2, hnn⟩ := mm_nn hi32 hi0 hi1
    have he := cc_w_get (σ := σ) (P := P) hc
    have hex := cc_w_get (σ := σ) (P := P) hcx
    have hxcell : ∃ vs, cc_cell σ P ((0, ci, fs) : cc_C) = .inr (ci, vs) := by
      unfold cc_cell
      rw [if_pos rfl]
      exact ⟨_, rfl⟩
    obtain ⟨vs, hvs⟩ := hxcell
    rw [hvs] at hex
    have hcell : ∀ l2 : List Int, cc_cell σ P ((k, q, l2) : cc_C) = .inl (P k, l2.length, .inr (.inr (.inr (.inr fun j => if l2.getD j (-1) < 0 then none else some (σ (l2.getD j (-1)).toNat))))) := fun l2 => by
      unfold cc_cell
      rw [if_neg (show ¬ k = 0 by omega), if_neg (show ¬ k = 2 by omega), if_pos (show k = 5 ∨ k = 6 by omega)]
    rw [hcell] at he
    rw [List.map_cons, List.map_cons, List.map_cons, mm_rl_ref h0, mm_rl_ref hx0]
    have fin : ∀ (H1 : Heap) (locs1 : List Loc), va_P (dC, dI) mm_cl ((cc_w σ P cs).set a.toNat (σ a.toNat, .inl (P k, l2.length, .inr (.inr (.inr (.inr (va_up (fun j => if l2.getD j (-1) < 0 then none else some (σ (l2.getD j (-1)).toNat)) (Int32.ofInt (0, i).2).toNatClampNeg (some (σ x.toNat))))))))) H1 → va_D (fun q => B0 ≤ q) ((cc_w σ P cs).set a.toNat (σ a.toNat, .inl (P k, l2.length, .inr (.inr (.inr (.inr (va_up (fun j => if l2.getD j (-1) < 0 then none else some (σ (l2.getD j (-1)).toNat)) (Int32.ofInt (0, i).2).toNatClampNeg (some (σ x.toNat))))))))) → va_S (fun q => B0 ≤ q) H0 H1 locs1 → W p l e R s m args below meth c H1 locs1 (cs.length - N0) (cc_sz cs - Z0) Q (F0 m (pc + 1) ls (st'.map (mm_rl σ))) := fun H1 locs1 hP1 hD1 hS1 => by
      rw [show (Int32.ofInt (0, i).2).toNatClampNeg = i.toNat from hnn] at hP1 hD1
      have e1 : va_up (fun j => if l2.getD j (-1) < 0 then none else some (σ (l2.getD j (-1)).toNat)) i.toNat (some (σ x.toNat)) = fun j => if (l2.set i.toNat x).getD j (-1) < 0 then none else some (σ ((l2.set i.toNat x).getD j (-1)).toNat) := by
        funext j
        rw [cc_getD_set (by omega)]
        unfold va_up
        by_cases hj : j = i.toNat
        · rw [if_pos hj, if_pos hj, if_neg (by omega)]
        · rw [if_neg hj, if_neg hj]
      have e2 : (l2.set i.toNat x).length = l2.length := List.length_set ..
      rw [e1, ← e2, ← hcell, cc_w_set] at hP1 hD1
      have k1 := kk σ H1 locs1 (fun _ _ => rfl) hP1 hD1 hS1
      rw [List.length_set, cc_sz_set cs _ _ _ hc (List.length_set ..)] at k1
      exact k1
    rcases hkc with ⟨rfl, rfl⟩ | ⟨rfl, rfl⟩
    · exact va_astq (r := (mm_cn 1, mm_F 1, mm_nf 1)) hx hb hK hP hD hS a.toNat 4 x.toNat 1 he rfl hex rfl hin2 hd fin
    · exact va_astq (r := (mm_cn 7, mm_F 7, mm_nf 7)) hx hb hK hP hD hS a.toNat 5 x.toNat 7 he rfl hex rfl hin2 hd fin
  case invokespecial idx =>
    subst hlen
    replace ho : (if r1 = 998 then (match st with
      | (2, a) :: t => if 0 ≤ a ∧ a < (cs.length : Int) ∧ mm_cs t ≤ 8 then some (pc + 3, t, cs) else none
      | _ => none) else none) = some (pc', st', cs') := ho
    split at ho
    · rename_i h9
      replace hok : (if r1 = 998 then cc_lo.any (fun q => decide (q.1 = own ∧ q.2.1 = idx)) && decide (1 ≤ fr ∧ 20 ≤ lo) else _) = true := hok
      rw [if_pos h9, Bool.and_eq_true] at hok
      obtain ⟨q, hq, h⟩ := List.any_eq_true.mp hok.1
      have h := of_decide_eq_true h
      have w1 := cc_lo_ok q hq
      rw [h.1, h.2] at w1
      have hrm := of_decide_eq_true hok.2
      split at ho
      · rename_i a t
        split at ho
        · rename_i hg
          cases ho
          rw [List.map_cons, mm_rl_ref hg.1]
          refine W.objInit (g := F0 m pc ls (.ref (σ a.toNat) :: st'.map (mm_rl σ))) (rest := st'.map (mm_rl σ)) hx hb hown (hts _ w1) (hts _ cc_obj.1) (hts _ cc_obj.2) rfl hsz rfl hd (by omega) ?_ (k0 rfl)
          show 2 * 0 + _ + 12 ≤ _
          have := mm_cat_sum σ st'
          omega
        · cases ho
      · cases ho
    · cases ho
  all_goals (exact absurd ho (by intro q; cases q))
end CC3
end
section
theorem cc_lo_lt {N : Nat} {i : Instr} {nx : Nat} {ls st ls' st' : List mm_V} {pc' : Nat} (ho : mm_lo i nx ls st = some (pc', ls', st')) (hls : ∀ v ∈ ls, v.1 < 3 → cc_lt N v) (hst : ∀ v ∈ st, cc_lt N v) : (∀ v ∈ ls', v.1 < 3 → cc_lt N v) ∧ ∀ v ∈ st', cc_lt N v := by
  have h9 : ((9, 0) : mm_V).1 < 3 → cc_lt N (9, 0) := fun q => absurd q (by decide)
  have hset : ∀ (l : List mm_V) (k : Nat) (w : mm_V), (∀ v ∈ l, v.1 < 3 → cc_lt N v) → (w.1 < 3 → cc_lt N w) → ∀ v ∈ l.set k w, v.1 < 3 → cc_lt N v := fun l k w h1 h2 v hv => by
    rcases List.mem_or_eq_of_mem_set hv with h | h
    · exact h1 v h
    · rw [h]; exact h2
  have hkill : ∀ (l : List mm_V) (k : Nat), (∀ v ∈ l, v.1 < 3 → cc_lt N v) → ∀ v ∈ mm_kill l k, v.1 < 3 → cc_lt N v := fun l k h1 => by
    unfold mm_kill
    split
    · exact h1
    · split
      · split
        · exact hset _ _ _ h1 h9
        · exact h1
      · exact h1
  have hs1 : ∀ (k : Nat) (w : mm_V), cc_lt N w → ∀ v ∈ mm_set1 ls k w, v.1 < 3 → cc_lt N v := fun k w hw => hset _ _ _ (hkill _ _ hls) (fun _ => hw)
  have hs2 : ∀ (k : Nat) (w : mm_V), cc_lt N w → ∀ v ∈ mm_set2 ls k w, v.1 < 3 → cc_lt N v := fun k w hw => hset _ _ _ (hset _ _ _ (hkill _ _ hls) h9) (fun _ => hw)
  have hl : ∀ {j t : Nat}, t < 3 → mm_ld nx ls st j t = some (pc', ls', st') → (∀ v ∈ ls', v.1 < 3 → cc_lt N v) ∧ ∀ v ∈ st', cc_lt N v := fun ht h => by
    obtain ⟨x, h1, -, rfl, rfl⟩ := mm_ld_inv h
    exact ⟨hls, fun v hv => by rcases List.mem_cons.mp hv with rfl | hv; exact hls _ (List.mem_of_getElem? h1) ht; exact hst v hv⟩
  have hs : ∀ {j t : Nat}, mm_sto nx ls st j t = some (pc', ls', st') → (∀ v ∈ ls', v.1 < 3 → cc_lt N v) ∧ ∀ v ∈ st', cc_lt N v := fun h => by
    obtain ⟨x, rfl, -, ⟨-, -, rfl⟩ | ⟨-, -, rfl⟩⟩ := mm_sto_inv h
    · exact ⟨hs2 _ _ (hst _ List.mem_cons_self), fun v hv => hst v (List.mem_cons_of_mem _ hv)⟩
    · exact ⟨hs1 _ _ (hst _ List.mem_cons_self), fun v hv => hst v (List.mem_cons_of_mem _ hv)⟩
  cases i
  case iload j => exact hl (by decide) ho
  case iload_n j => exact hl (by decide) ho
  case lload j => exact hl (by decide) ho
  case lload_n j => exact hl (by decide) ho
  case aload j => exact hl (by decide) ho
  case aload_n j => exact hl (by decide) ho
  case istore j => exact hs ho
  case istore_n j => exact hs ho
  case lstore j => exact hs ho
  case lstore_n j => exact hs ho
  case astore j => exact hs ho
  case astore_n j => exact hs ho
  case iinc j n =>
    replace ho : (match ls[j]? with
      | some (0, x) => some (nx, mm_set1 ls j (0, mm_w32 (x + n)), st)
      | _ => none) = some (pc', ls', st') := ho
    split at ho
    · cases ho
      exact ⟨hs1 _ _ (fun q => absurd q (by simp)), hst⟩
    · cases ho
  all_goals (exact absurd ho (by intro q; cases q))
theorem cc_ent_lt {N n : Nat} {as : List mm_V} (h : ∀ v ∈ as, cc_lt N v) : ∀ v ∈ mm_ent n as, v.1 < 3 → cc_lt N v := by
  have h9 : ((9, 0) : mm_V).1 < 3 → cc_lt N (9, 0) := fun q => absurd q (by decide)
  have key : ∀ as : List mm_V, (∀ v ∈ as, cc_lt N v) → ∀ v ∈ mm_args as, v.1 < 3 → cc_lt N v := by
    intro as
    induction as with
    | nil => intro _ v hv; cases hv
    | cons a r ih =>
      intro h v hv
      unfold mm_args at hv
      split at hv
      · rcases List.mem_cons.mp hv with rfl | hv
        · exact fun _ => h _ List.mem_cons_self
        · rcases List.mem_cons.mp hv with rfl | hv
          · exact h9
          · exact ih (fun w hw => h w (List.mem_cons_of_mem _ hw)) v hv
      · rcases List.mem_cons.mp hv with rfl | hv
        · exact fun _ => h _ List.mem_cons_self
        · exact ih (fun w hw => h w (List.mem_cons_of_mem _ hw)) v hv
  intro v hv
  unfold mm_ent at hv
  rcases List.mem_append.mp hv with hv | hv
  · exact key as h v hv
  · rw [(List.mem_replicate.mp hv).2]; exact h9
theorem cc_ret_j {k : Nat → List mm_V → List mm_V → List cc_C → Option (List mm_V × List cc_C)} {ck : Nat → List mm_V → List cc_C → Option (List mm_V × List cc_C)} {e : mm_E} {ls st : List mm_V} {cs : List cc_C} {r : List mm_V × List cc_C} (h : cc_j k ck e ls st cs = some r) :
    (∃ pc st' cs', cc_op e.1 e.2.1 (e.1 + e.2.2.1) e.2.2.2.1 e.2.2.2.2.1 st cs = some (pc, st', cs') ∧ k pc ls st' cs' = some r) ∨
    (∃ pc ls' st', mm_lo e.2.1 (e.1 + e.2.2.1) ls st = some (pc, ls', st') ∧ k pc ls' st' cs = some r) ∨
    (e.2.1 = .return_ ∧ st = [] ∧ r = (ls, cs)) ∨
    (∃ idx a l2 cs', e.2.1 = .invokespecial idx ∧ e.2.2.2.1 = 997 ∧ e.2.2.2.2.2.toNat < st.length ∧ mm_cs (st.drop (e.2.2.2.2.2.toNat + 1)) ≤ 8 ∧ st[e.2.2.2.2.2.toNat]? = some (2, a) ∧ 0 ≤ a ∧ a < (cs.length : Int) ∧ ck e.2.2.2.2.1 (st.take (e.2.2.2.2.2.toNat + 1)).reverse cs = some (l2, cs') ∧ k (e.1 + e.2.2.1) ls (st.drop (e.2.2.2.2.2.toNat + 1)) cs' = some r) := by
  unfold cc_j at h
  split at h
  · rename_i pc st' cs' h1
    exact Or.inl ⟨pc, st', cs', h1, h⟩
  · split at h
    · rename_i pc ls' st' h2
      exact Or.inr (Or.inl ⟨pc, ls', st', h2, h⟩)
    · split at h
      · rename_i h3
        split at h
        · cases h
          exact Or.inr (Or.inr (Or.inl ⟨h3, rfl, rfl⟩))
        · cases h
      · rename_i idx h3
        split at h
        · rename_i hg
          split at h
          · rename_i a h4
            split at h
            · rename_i ha
              split at h
              · rename_i l2 cs' h5
                exact Or.inr (Or.inr (Or.inr ⟨idx, a, l2, cs', h3, hg.1, hg.2.1, hg.2.2, h4, ha.1, ha.2, h5, h⟩))
              · cases h
            · cases h
          · cases h
        · cases h
      · cases h
theorem cc_ex_keep : ∀ (n stop : Nat) (cd : List mm_E) (pc : Nat) (ls st : List mm_V) (cs : List cc_C) (ls' : List mm_V) (cs' : List cc_C), cc_ex cc_T stop n cd pc ls st cs = some (ls', cs') → (∀ v ∈ ls, v.1 < 3 → cc_lt cs.length v) → (∀ v ∈ st, cc_lt cs.length v) → cc_oks cs → cs.length ≤ cs'.length ∧ cc_sz cs ≤ cc_sz cs' ∧ cc_oks cs'
  | 0, _, _, _, _, _, _, _, _, h, _, _, _ => by cases h
  | n + 1, stop, cd, pc, ls, st, cs, ls', cs', h, hls, hst, hcs => by
    unfold cc_ex at h
    split at h
    · split at h
      · cases h; exact ⟨Nat.le_refl _, Nat.le_refl _, hcs⟩
      · cases h
    · split at h
      · rename_i x hf
        rcases cc_ret_j h with ⟨pc1, st1, cs1, h1, h2⟩ | ⟨pc1, ls1, st1, h1, h2⟩ | ⟨-, -, h2⟩ | ⟨idx, a, l2, cs1, -, -, hlt, -, h4, -, -, h5, h6⟩
        · obtain ⟨a1, a2, a3, a4⟩ := cc_op_keep h1 hst hcs
          obtain ⟨b1, b2, b3⟩ := cc_ex_keep n stop cd pc1 ls st1 cs1 ls' cs' h2 (fun v hv h3 => cc_lt_mono a1 (hls v hv h3)) a4 a3
          exact ⟨by omega, by omega, b3⟩
        · obtain ⟨a1, a2⟩ := cc_lo_lt h1 hls hst
          exact cc_ex_keep n stop cd pc1 ls1 st1 cs ls' cs' h2 a1 a2 hcs
        · cases h2; exact ⟨Nat.le_refl _, Nat.le_refl _, hcs⟩
        · split at h5
          · obtain ⟨a1, a2, a3⟩ := cc_ex_keep n 9999 _ 0 _ [] cs l2 cs1 h5 (cc_ent_lt (fun v hv => hst v (List.mem_of_mem_take (List.mem_reverse.mp hv)))) (fun v hv => by cases hv) hcs
            obtain ⟨b1, b2, b3⟩ := cc_ex_keep n stop cd _ ls _ cs1 ls' cs' h6 (fun v hv h3 => cc_lt_mono a1 (hls v hv h3)) (fun v hv => cc_lt_mono a1 (hst v (List.mem_of_mem_drop hv))) a3
            exact ⟨by omega, by omega, b3⟩
          · cases h5
      · cases h
def cc_wso (ci : Nat) : List Cond := cc_cw (cc_hd ci) :: wA
def cc_rm (ci mc ms : Nat) : Room := { frames := (cc_hd ci).2.2.2.1, cells := mc, slots := ms, locals := (cc_hd ci).2.2.2.2.1 }
def cc_Wd (σ : Nat → Nat) (P : Nat → ClassId) (dC : Nat → ClassId) (dI : Nat → Nat → Nat) (B0 : Nat) (cs : List cc_C) (U : State) : Prop := va_P (dC, dI) mm_cl (cc_w σ P cs) U.heap ∧ va_D (fun q => B0 ≤ q) (cc_w σ P cs) ∧ va_K (dC, dI) mm_cl (mm_tys P) U ∧ va_AO "PagesByLevels$Complex" U ∧ va_AO "PagesByLevels$Sheet" U ∧ B0 ≤ U.heap.size
def cc_Qc (σ : Nat → Nat) (P : Nat → ClassId) (dC : Nat → ClassId) (dI : Nat → Nat → Nat) (B0 N : Nat) (cs' : List cc_C) : Array Value → State → Outcome → State → Prop := fun _ st oc t => (oc = .returned none ∧ ∃ σ', cc_ag N σ σ' ∧ va_P (dC, dI) mm_cl (cc_w σ' P cs') t.heap ∧ va_D (fun q => B0 ≤ q) (cc_w σ' P cs')) ∧ va_F (fun q => B0 ≤ q) st t
def cc_Mt (l : Launch) (P : Nat → ClassId) (dC : Nat → ClassId) (dI : Nat → Nat → Nat) (B0 n : Nat) : Prop := ∀ (ci : Nat) (as : List mm_V) (cs : List cc_C) (ls' : List mm_V) (cs' : List cc_C) (σ : Nat → Nat), ci < 9 → cc_ex cc_T 9999 n (cc_T ci).1 0 (mm_ent (cc_T ci).2 as) [] cs = some (ls', cs') → (mm_args as).length ≤ (cc_T ci).2 → (∀ v ∈ as, cc_lt cs.length v) → cc_oks cs →
  Met l (cc_hd ci).1 (cc_wso ci) (cc_rm ci (cs'.length - cs.length) (cc_sz cs' - cc_sz cs)) (va_Pc (as.map (mm_rl σ)) (cc_Wd σ P dC dI B0 cs)) (cc_Qc σ P dC dI B0 cs.length cs') (cs'.length - cs.length) (cc_sz cs' - cc_sz cs) (fun q => B0 ≤ q)
theorem cc_wso_good {ci : Nat} (h : ci < 9) : GoodIn wA (cc_wso ci) := by
  intro w hw
  have hm : w ∈ wA := by
    rcases List.mem_cons.mp hw with rfl | h1
    · exact cc_cw_ok ci h
    · exact h1
  exact ⟨hm, good_of_word (wA_good w hm)⟩
theorem cc_lr_ag {N : Nat} {σ σ' : Nat → Nat} {ls : List mm_V} {lsr : Array Slot} {nL : Nat} (h : cc_ag N σ σ') (hls : ∀ v ∈ ls, v.1 < 3 → cc_lt N v) (hl : mm_lr σ ls lsr nL) : mm_lr σ' ls lsr nL := ⟨hl.1, hl.2.1, hl.2.2.1, fun i v hv h3 => by rw [cc_ag_rl h (hls v (List.mem_of_getElem? hv) h3)]; exact hl.2.2.2 i v hv h3⟩
section CC4
variable {p : Program} {l : Launch} {e : Env} {R : Room} {s : State} {m : MethodId} {args : Array Value} {below : List Frame} {meth : Method} {c : Code} {H0 : Heap} {Q : State → Prop} {cc : ByteArray} {P : Nat → ClassId} {dC : Nat → ClassId} {dI : Nat → Nat → Nat} {B0 own N0 Z0 : Nat}
theorem cc_callx {H : Heap} {locs : List Loc} {cells slots mc ms : Nat} {lsr : Array Slot} {σ : Nat → Nat} {N : Nat} {cs' : List cc_C} {pc : Nat} {rest st0 : List Value} {a : Array Value} (hr : va_Run p l e R s m args below meth c H locs cells slots mc ms (F0 m pc lsr st0) rest (cc_Qc σ P dC dI B0 N cs' a) (fun q => B0 ≤ q)) (hS : va_S (fun q => B0 ≤ q) H0 H locs)
    (kk : ∀ (σ' : Nat → Nat) (H1 : Heap) (locs1 : List Loc), cc_ag N σ σ' → va_P (dC, dI) mm_cl (cc_w σ' P cs') H1 → va_D (fun q => B0 ≤ q) (cc_w σ' P cs') → va_S (fun q => B0 ≤ q) H0 H1 locs1 → W p l e R s m args below meth c H1 locs1 (cells + mc) (slots + ms) Q (F0 m (pc + 3) lsr rest)) : W p l e R s m args below meth c H locs cells slots Q (F0 m pc lsr st0) := by
  intro T hT X
  obtain ⟨w, st₀, t, T', L, h0, X', hL, e1, e2, ⟨⟨hv, σ', hag, hb, hd⟩, hz, hk⟩, st⟩ := hr T hT X
  cases hv
  rw [h0] at hz hk
  obtain ⟨t2, a1, b1⟩ := kk σ' T'.heap (locs ++ L) hag (by rw [e1]; exact hb) hd
    ⟨Nat.le_trans hS.1 (by rw [e1]; exact hz), fun q h1 h2 => by rw [e1, hk q (Nat.lt_of_lt_of_le h1 hS.1) h2]; exact hS.2.1 q h1 h2, fun q hq => by
      rcases List.mem_append.mp hq with h | h
      · exact hS.2.2 q h
      · exact hL q h⟩ T' rfl X'
  exact ⟨t2, st t2 a1, b1⟩
theorem cc_frame {nL fr lo stop : Nat} {cd : List mm_E} (C : cc_Cx p s m args own P dC dI) (hb : c.code = cc) (hml : c.maxLocals = nL) (hinit : own ≠ 13 → meth.name = "<init>") (h13 : own = 13 → ∀ x ∈ cd, ∀ idx, x.2.1 ≠ .putfield idx) (hcd : ∀ x ∈ cd, cc_eok own fr lo cc x = true) (hR : fr ≤ R.frames ∧ lo ≤ R.locals) (hB : B0 ≤ H0.size) (ls' : List mm_V) (cs' : List cc_C) (hroom : cs'.length - N0 ≤ R.cells ∧ cc_sz cs' - Z0 ≤ R.slots) (N00 : Nat) (σ00 : Nat → Nat)
    (HR : ∀ (σ : Nat → Nat) (pcE : Nat) (lsr : Array Slot) (H1 : Heap) (locs1 : List Loc), ((pcE = stop ∧ stop < 9999) ∨ ∃ x ∈ cd, x.1 = pcE ∧ x.2.1 = .return_) → cc_ag N00 σ00 σ → mm_lr σ ls' lsr nL → va_P (dC, dI) mm_cl (cc_w σ P cs') H1 → va_D (fun q => B0 ≤ q) (cc_w σ P cs') → va_S (fun q => B0 ≤ q) H0 H1 locs1 → W p l e R s m args below meth c H1 locs1 (cs'.length - N0) (cc_sz cs' - Z0) Q (F0 m pcE lsr [])) :
    ∀ (n : Nat), (∀ k, k < n → cc_Mt l P dC dI B0 k) → ∀ (pc : Nat) (ls st : List mm_V) (cs : List cc_C) (σ : Nat → Nat) (lsr : Array Slot) (H : Heap) (locs : List Loc), cc_ex cc_T stop n cd pc ls st cs = some (ls', cs') → mm_lr σ ls lsr nL → (∀ v ∈ ls, v.1 < 3 → cc_lt cs.length v) → (∀ v ∈ st, cc_lt cs.length v) → cc_oks cs → N0 ≤ cs.length → Z0 ≤ cc_sz cs → N00 ≤ cs.length → cc_ag N00 σ00 σ → va_P (dC, dI) mm_cl (cc_w σ P cs) H → va_D (fun q => B0 ≤ q) (cc_w σ P cs) → va_S (fun q => B0 ≤ q) H0 H locs → W p l e R s m args below meth c H locs (cs.length - N0) (cc_sz cs - Z0) Q (F0 m pc lsr (st.map (mm_rl σ))) := by
  intro n
  induction n with
  | zero => intro _ pc ls st cs σ lsr H locs h; cases h
  | succ n ih =>
    intro hM pc ls st cs σ lsr H locs h hl hls hst hcs hN hZ hN00 hag hP hD hS
    have ih' := ih (fun k hk => hM k (by omega))
    have hkeep := cc_ex_keep _ _ _ _ _ _ _ _ _ h hls hst hcs
    unfold cc_ex at h
    split at h
    · rename_i hstop
      split at h
      · cases h
        exact HR σ pc lsr H locs (Or.inl hstop) hag hl hP hD hS
      · cases h
    · split at h
      · rename_i x hf
        obtain ⟨hm, hpc⟩ := mm_find_mem hf
        have hek := hcd x hm
        unfold cc_eok at hek
        rw [Bool.and_eq_true, Bool.and_eq_true] at hek
        have hd := of_decide_eq_true hek.1
        have hlen := of_decide_eq_true hek.2.1
        have hok := hek.2.2
        subst hpc
        rcases cc_ret_j h with ⟨pc1, st1, cs1, h1, h2⟩ | ⟨pc1, ls1, st1, h1, h2⟩ | ⟨hret, hst0, h2⟩ | ⟨idx, a, l2, cs1, hi, h997, hlt, hcs8, h4, ha0, ha1, h5, h6⟩
        · obtain ⟨a1, a2, a3, a4⟩ := cc_op_keep h1 hst hcs
          have hk2 := cc_ex_keep _ _ _ _ _ _ _ _ _ h2 (fun v hv h3 => cc_lt_mono a1 (hls v hv h3)) a4 a3
          refine cc_op_sound (r3 := x.2.2.2.2.2) C hb (by rw [hml, hl.1]) hinit (fun idx hi h => h13 h x hm idx hi) hR hd hlen hok h1 hst hcs hN hZ (fun q hq => by omega) ⟨by omega, by omega⟩ hP hD hS (fun σ' H1 locs1 b0 b1 b2 b3 => ?_)
          exact ih' pc1 ls st1 cs1 σ' lsr H1 locs1 h2 (cc_lr_ag b0 hls hl) (fun v hv h3 => cc_lt_mono a1 (hls v hv h3)) a4 a3 (by omega) (by omega) (by omega) (fun q hq => by rw [b0 q (by omega)]; exact hag q hq) b1 b2 b3
        · obtain ⟨a1, a2⟩ := cc_lo_lt h1 hls hst
          have hlen2 : mm_il x.2.1 = 0 ∨ x.2.2.1 = mm_il x.2.1 := by
            right
            rw [hlen]
            obtain ⟨_, i, _⟩ := x
            cases i <;> first | rfl | exact absurd h1 (by intro q; cases q)
          exact mm_lo_sound C.1 hb hd hlen2 h1 hl (fun lsr' hl' => ih' pc1 ls1 st1 cs σ lsr' H locs h2 hl' a1 a2 hcs hN hZ hN00 hag hP hD hS)
        · cases h2
          rw [hst0]
          exact HR σ x.1 lsr H locs (Or.inr ⟨x, hm, rfl, hret⟩) hag hl hP hD hS
        · split at h5
          · rename_i hal
            have hasl : ∀ v ∈ (st.take (x.2.2.2.2.2.toNat + 1)).reverse, cc_lt cs.length v := fun v hv => hst v (List.mem_of_mem_take (List.mem_reverse.mp hv))
            obtain ⟨a1, a2, a3⟩ := cc_ex_keep _ _ _ _ _ _ _ _ _ h5 (cc_ent_lt hasl) (fun v hv => by cases hv) hcs
            have hk2 := cc_ex_keep _ _ _ _ _ _ _ _ _ h6 (fun v hv h3 => cc_lt_mono a1 (hls v hv h3)) (fun v hv => cc_lt_mono a1 (hst v (List.mem_of_mem_drop hv))) a3
            obtain ⟨hx, hown, hts, hK, hAO1, hAO2⟩ := C
            obtain ⟨pc0, i0, len, r1, r2, r3⟩ := x
            dsimp only at hi h997 hlt hcs8 h4 h5 h6 hd hlen hok hal hasl hk2 ⊢
            subst hi
            subst hlen
            have hok2 : (if r1 = 998 then cc_lo.any (fun q => decide (q.1 = own ∧ q.2.1 = idx)) && decide (1 ≤ fr ∧ 20 ≤ lo) else cc_lk.any (fun q => decide (q.1 = own ∧ q.2.1 = idx ∧ q.2.2.1 = r2)) && decide (r3 = ((cc_hd r2).2.2.2.2.2 : Int) ∧ (cc_hd r2).2.2.2.1 + 1 ≤ fr ∧ 8 + ((cc_hd r2).2.2.1 + 11) + (cc_hd r2).2.2.2.2.1 ≤ lo)) = true := hok
            rw [if_neg (by omega), Bool.and_eq_true] at hok2
            obtain ⟨q, hq, hqq⟩ := List.any_eq_true.mp hok2.1
            have hqq := of_decide_eq_true hqq
            obtain ⟨w1, hci⟩ := cc_lk_ok q hq
            rw [hqq.1, hqq.2.1, hqq.2.2] at w1
            rw [hqq.2.2] at hci
            obtain ⟨hr3, hfr, hlo⟩ := of_decide_eq_true hok2.2
            obtain ⟨g1, g2, g3, g4, g5, g6, g7⟩ := cc_hd_ok r2 hci
            have hMet := hM n (by omega) r2 _ cs l2 cs1 σ hci h5 hal hasl hcs
            have hr3n : r3.toNat = (cc_hd r2).2.2.2.2.2 := by omega
            -- the stack: arguments, the receiver, the rest
            have hsplit0 : st = st.take r3.toNat ++ (2, a) :: st.drop (r3.toNat + 1) := by
              have e1 := (List.getElem?_eq_some_iff.mp h4)
              obtain ⟨hl1, hl2⟩ := e1
              rw [← hl2, ← List.drop_eq_getElem_cons hl1, List.take_append_drop]
            have hrev : (st.take (r3.toNat + 1)).reverse = (2, a) :: (st.take r3.toNat).reverse := by
              have e1 := (List.getElem?_eq_some_iff.mp h4)
              obtain ⟨hl1, hl2⟩ := e1
              rw [List.take_succ_eq_append_getElem hl1, List.reverse_append, hl2]
              rfl
            rw [hrev, List.map_cons, mm_rl_ref ha0] at hMet
            have hblind : FrameBlind (va_Pc (Value.ref (σ a.toNat) :: (st.take r3.toNat).reverse.map (mm_rl σ)) (cc_Wd σ P dC dI B0 cs)) := by
              intro a2 U g mk h
              obtain ⟨z1, z2, z3, z4, z5, z6, z7⟩ := h
              exact ⟨z1, z2, z3, va_K.moved (u := U) (U := U.calling g mk a2) (Vm.Alike.refl U.vm) z4, va_AO.moved (u := U) (U := U.calling g mk a2) (Vm.Alike.refl U.vm) z5, va_AO.moved (u := U) (U := U.calling g mk a2) (Vm.Alike.refl U.vm) z6, z7⟩
            have hpre : ∀ U : State, U.heap = H → s.WarmedH U.vm → va_Pc (Value.ref (σ a.toNat) :: (st.take r3.toNat).reverse.map (mm_rl σ)) (cc_Wd σ P dC dI B0 cs) (Value.ref (σ a.toNat) :: (st.take r3.toNat).reverse.map (mm_rl σ)).toArray U := fun U hU hW =>
              ⟨rfl, by rw [hU]; exact hP, hD, va_K.moved hW.alike hK, va_AO.moved hW.alike hAO1, va_AO.moved hW.alike hAO2, by rw [hU]; exact Nat.le_trans hB hS.1⟩
            have hcat : 2 * (F0 m pc0 lsr (st.map (mm_rl σ))).monitorRoom + (((st.drop (r3.toNat + 1)).map (mm_rl σ)).map fun v => v.category).sum ≤ 8 := by
              show 2 * 0 + _ ≤ 8
              have := mm_cat_sum σ (st.drop (r3.toNat + 1))
              omega
            have hroom2 : (cc_rm r2 (cs1.length - cs.length) (cc_sz cs1 - cc_sz cs)).frames + 1 ≤ R.frames ∧ 8 + ((cc_hd r2).2.2.1 + 11) + (cc_rm r2 (cs1.length - cs.length) (cc_sz cs1 - cc_sz cs)).locals ≤ R.locals := ⟨Nat.le_trans hfr hR.1, Nat.le_trans hlo hR.2⟩
            have cb := callB_of (R := R) (own := mm_cn own) (index := idx) (mc := cs1.length - cs.length) (ms := cc_sz cs1 - cc_sz cs) (cc_hd r2).2.2.2.2.2 hts (cc_wso_good hci) (show cc_wso r2 = Cond.code (cc_hd r2).1 (cc_hd r2).2.1 (cc_hd r2).2.2.1 none :: wA from rfl) (rm := cc_rm r2 (cs1.length - cs.length) (cc_sz cs1 - cc_sz cs)) rfl rfl (hts _ g1) (hts _ w1) g5 hroom2
            refine cc_callx (va_runI (g := F0 m pc0 lsr (st.map (mm_rl σ))) (b := σ a.toNat) (As := (st.take r3.toNat).reverse.map (mm_rl σ)) (rest := (st.drop (r3.toNat + 1)).map (mm_rl σ)) ⟨hx, hb, hml, hown, hts⟩ hMet ⟨cb, g4, hts _ g2⟩ ⟨hblind, hpre⟩ rfl ?_ hl.1 ?_ hcat hd ⟨by omega, by omega⟩) hS (fun σ' H1 locs1 b0 b1 b2 b3 => ?_)
            · rw [List.length_map, List.length_reverse, List.length_take]; omega
            · show st.map (mm_rl σ) = _
              rw [← List.map_reverse, List.reverse_reverse, ← mm_rl_ref ha0, ← List.map_cons, ← List.map_append, ← hsplit0]
            · have k1 := ih' _ ls _ cs1 σ' lsr H1 locs1 h6 (cc_lr_ag b0 hls hl) (fun v hv h3 => cc_lt_mono a1 (hls v hv h3)) (fun v hv => cc_lt_mono a1 (hst v (List.mem_of_mem_drop hv))) a3 (by omega) (by omega) (by omega) (fun q hq => by rw [b0 q (by omega)]; exact hag q hq) b1 b2 b3
              rw [cc_ag_map b0 (fun v hv => hst v (List.mem_of_mem_drop hv))] at k1
              rw [show cs.length - N0 + (cs1.length - cs.length) = cs1.length - N0 by omega, show cc_sz cs - Z0 + (cc_sz cs1 - cc_sz cs) = cc_sz cs1 - Z0 by omega]
              exact k1
          · cases h5
      · cases h
end CC4
theorem cc_met (l : Launch) {P : Nat → ClassId} {dC : Nat → ClassId} {dI : Nat → Nat → Nat} {B0 : Nat} : ∀ n, cc_Mt l P dC dI B0 n := by
  intro n
  induction n using Nat.strongRecOn with
  | ind n ih =>
    intro ci as cs ls' cs' σ hci hex hal hlt hcs
    obtain ⟨g1, g2, g3, g4, g5, g6, g7⟩ := cc_hd_ok ci hci
    refine Met.ofWF (cc := (cc_hd ci).2.1) (maxL := (cc_hd ci).2.2.1) (ret := none) g6 rfl ?_
    intro p e s m args below meth c s₁ B hml hv
    obtain ⟨rfl, hP, hD, hK, hAO1, hAO2, hBs⟩ := hv
    have hts : ∀ w ∈ wA, w.before ((as.map (mm_rl σ)).toArray) s = true := fun w hw => atoms_spec (ws := cc_wso ci) B.pre w (List.mem_cons_of_mem _ hw)
    have hown : s.vm.findClass (mm_cn ci) = some m.cls := by rw [← g3]; exact findClass_of_methodNamed B.named
    have hlocks := B.notSynchronized
    have hb := B.bytes
    have hr := B.returns
    have hx := B.exec
    have hin : meth.name = "<init>" := by rw [(name_of_methodNamed B.named B.method).1, g4]
    rw [lg_entry_eq]
    rw [g7] at hex hal
    have hl := mm_lr_ent (σ := σ) hal
    have hS : va_S (fun q => B0 ≤ q) s.heap s.heap [] := va_S.rf
    have key := cc_frame (p := p) (l := l) (e := e) (R := (headSpec (cc_wso ci) (cc_rm ci (cs'.length - cs.length) (cc_sz cs' - cc_sz cs))).room) (s := s) (m := m) (args := (as.map (mm_rl σ)).toArray) (below := below) (meth := meth) (c := c) (H0 := s.heap) (Q := MQ below (cc_Qc σ P dC dI B0 cs.length cs') (as.map (mm_rl σ)).toArray s (cs'.length - cs.length) (cc_sz cs' - cc_sz cs) (fun q => B0 ≤ q)) (B0 := B0) (own := ci) (N0 := cs.length) (Z0 := cc_sz cs) (nL := (cc_hd ci).2.2.1) (stop := 9999) (cd := (cc_T ci).1) ⟨hx, hown, hts, hK, hAO1, hAO2⟩ hb hml (fun _ => hin) (fun h => by omega) (fun x hx => List.all_eq_true.mp (cc_ek_all ci hci) x hx) ⟨Nat.le_refl _, Nat.le_refl _⟩ hBs ls' cs' ⟨Nat.le_refl _, Nat.le_refl _⟩ cs.length σ ?_ n ih 0 _ [] cs σ _ s.heap [] hex hl (cc_ent_lt hlt) (fun w hw => by cases hw) hcs (Nat.le_refl _) (Nat.le_refl _) (Nat.le_refl _) (fun _ _ => rfl) hP hD hS
    · rw [Nat.sub_self, Nat.sub_self] at key
      exact key
    · intro σ' pcE lsr H1 locs1 hend hag _ hP1 hD1 hS1
      have hF : ∀ t : State, t.heap = H1 → va_F (fun q => B0 ≤ q) s t := fun t ht => hS1.F ht
      rcases hend with h9 | ⟨x, hm, hpc, hi⟩
      · exact absurd h9.2 (by decide)
      · have hek := List.all_eq_true.mp (cc_ek_all ci hci) x hm
        unfold cc_eok at hek
        rw [Bool.and_eq_true, Bool.and_eq_true] at hek
        have hd := of_decide_eq_true hek.1
        have hlen := of_decide_eq_true hek.2.1
        rw [hi] at hd hlen
        rw [hpc, hlen] at hd
        exact W.vret hx hb hr (fun t ht _ => ⟨⟨rfl, σ', hag, by rw [ht]; exact hP1, hD1⟩, hF t ht⟩) hS1.2.2 hd hlocks
end
section
def k_Law_0 : List mm_E := [(16, .iconst 0, 1, 0, 0, 0), (17, .istore_n 3, 1, 0, 0, 0), (18, .iload_n 3, 1, 0, 0, 0), (19, .aload_n 0, 1, 0, 0, 0), (20, .arraylength, 1, 7, 0, 0), (21, .bipush (7), 2, 0, 0, 0), (23, .isub, 1, 0, 0, 0), (24, .if_icmp .gt (1526), 3, 0, 0, 0), (27, .aload_n 0, 1, 0, 0, 0), (28, .iload_n 3, 1, 0, 0, 0), (29, .iaload, 1, 7, 0, 0), (30, .bipush (31), 2, 0, 0, 0), (32, .iand, 1, 0, 0, 0), (33, .tableswitch (1511) (0) (29) #[(135), (158), (211), (264), (307), (350), (373), (396), (459), (482), (535), (598), (673), (748), (791), (834), (877), (940), (983), (1036), (1111), (1134), (1177), (1250), (1293), (1356), (1409), (1462), (1485), (1498)], 135, 0, 0, 0), (168, .aload_n 1, 1, 0, 0, 0), (169, .aload_n 0, 1, 0, 0, 0), (170, .iload_n 3, 1, 0, 0, 0), (171, .iconst 1, 1, 0, 0, 0), (172, .iadd, 1, 0, 0, 0), (173, .iaload, 1, 7, 0, 0), (174, .invokevirtual 13, 3, 0, 2, 1), (177, .aload_n 2, 1, 0, 0, 0), (178, .aload_n 0, 1, 0, 0, 0), (179, .iload_n 3, 1, 0, 0, 0), (180, .iconst 1, 1, 0, 0, 0), (181, .iadd, 1, 0, 0, 0), (182, .iaload, 1, 7, 0, 0), (183, .invokevirtual 17, 3, 56, 2, 9), (186, .if_icmp .eq (1358), 3, 0, 0, 0), (189, .iconst 0, 1, 0, 0, 0), (190, .ireturn, 1, 0, 0, 0), (191, .aload_n 1, 1, 0, 0, 0), (192, .aload_n 0, 1, 0, 0, 0), (193, .iload_n 3, 1, 0, 0, 0), (194, .iconst 1, 1, 0, 0, 0), (195, .iadd, 1, 0, 0, 0), (196, .iaload, 1, 7, 0, 0), (197, .aload_n 0, 1, 0, 0, 0), (198, .iload_n 3, 1, 0, 0, 0), (199, .iconst 2, 1, 0, 0, 0), (200, .iadd, 1, 0, 0, 0), (201, .iaload, 1, 7, 0, 0), (202, .aload_n 0, 1, 0, 0, 0), (203, .iload_n 3, 1, 0, 0, 0), (204, .iconst 3, 1, 0, 0, 0), (205, .iadd, 1, 0, 0, 0), (206, .iaload, 1, 7, 0, 0), (207, .aload_n 0, 1, 0, 0, 0), (208, .iload_n 3, 1, 0, 0, 0), (209, .iconst 4, 1, 0, 0, 0), (210, .iadd, 1, 0, 0, 0), (211, .iaload, 1, 7, 0, 0), (212, .invokevirtual 18, 3, 1, 5, 1), (215, .aload_n 2, 1, 0, 0, 0), (216, .aload_n 0, 1, 0, 0, 0), (217, .iload_n 3, 1, 0, 0, 0), (218, .iconst 1, 1, 0, 0, 0), (219, .iadd, 1, 0, 0, 0), (220, .iaload, 1, 7, 0, 0), (221, .aload_n 0, 1, 0, 0, 0)]
def k_Law_1 : List mm_E := [(222, .iload_n 3, 1, 0, 0, 0), (223, .iconst 2, 1, 0, 0, 0), (224, .iadd, 1, 0, 0, 0), (225, .iaload, 1, 7, 0, 0), (226, .aload_n 0, 1, 0, 0, 0), (227, .iload_n 3, 1, 0, 0, 0), (228, .iconst 3, 1, 0, 0, 0), (229, .iadd, 1, 0, 0, 0), (230, .iaload, 1, 7, 0, 0), (231, .aload_n 0, 1, 0, 0, 0), (232, .iload_n 3, 1, 0, 0, 0), (233, .iconst 4, 1, 0, 0, 0), (234, .iadd, 1, 0, 0, 0), (235, .iaload, 1, 7, 0, 0), (236, .invokevirtual 22, 3, 57, 5, 9), (239, .if_icmp .eq (1305), 3, 0, 0, 0), (242, .iconst 0, 1, 0, 0, 0), (243, .ireturn, 1, 0, 0, 0), (244, .aload_n 1, 1, 0, 0, 0), (245, .aload_n 0, 1, 0, 0, 0), (246, .iload_n 3, 1, 0, 0, 0), (247, .iconst 1, 1, 0, 0, 0), (248, .iadd, 1, 0, 0, 0), (249, .iaload, 1, 7, 0, 0), (250, .aload_n 0, 1, 0, 0, 0), (251, .iload_n 3, 1, 0, 0, 0), (252, .iconst 2, 1, 0, 0, 0), (253, .iadd, 1, 0, 0, 0), (254, .iaload, 1, 7, 0, 0), (255, .aload_n 0, 1, 0, 0, 0), (256, .iload_n 3, 1, 0, 0, 0), (257, .iconst 3, 1, 0, 0, 0), (258, .iadd, 1, 0, 0, 0), (259, .iaload, 1, 7, 0, 0), (260, .aload_n 0, 1, 0, 0, 0), (261, .iload_n 3, 1, 0, 0, 0), (262, .iconst 4, 1, 0, 0, 0), (263, .iadd, 1, 0, 0, 0), (264, .iaload, 1, 7, 0, 0), (265, .invokevirtual 23, 3, 2, 5, 1), (268, .aload_n 2, 1, 0, 0, 0), (269, .aload_n 0, 1, 0, 0, 0), (270, .iload_n 3, 1, 0, 0, 0), (271, .iconst 1, 1, 0, 0, 0), (272, .iadd, 1, 0, 0, 0), (273, .iaload, 1, 7, 0, 0), (274, .aload_n 0, 1, 0, 0, 0), (275, .iload_n 3, 1, 0, 0, 0), (276, .iconst 2, 1, 0, 0, 0), (277, .iadd, 1, 0, 0, 0), (278, .iaload, 1, 7, 0, 0), (279, .aload_n 0, 1, 0, 0, 0), (280, .iload_n 3, 1, 0, 0, 0), (281, .iconst 3, 1, 0, 0, 0), (282, .iadd, 1, 0, 0, 0), (283, .iaload, 1, 7, 0, 0), (284, .aload_n 0, 1, 0, 0, 0), (285, .iload_n 3, 1, 0, 0, 0), (286, .iconst 4, 1, 0, 0, 0), (287, .iadd, 1, 0, 0, 0)]
def k_Law_2 : List mm_E := [(288, .iaload, 1, 7, 0, 0), (289, .invokevirtual 26, 3, 59, 5, 9), (292, .if_icmp .eq (1252), 3, 0, 0, 0), (295, .iconst 0, 1, 0, 0, 0), (296, .ireturn, 1, 0, 0, 0), (297, .aload_n 1, 1, 0, 0, 0), (298, .aload_n 0, 1, 0, 0, 0), (299, .iload_n 3, 1, 0, 0, 0), (300, .iconst 1, 1, 0, 0, 0), (301, .iadd, 1, 0, 0, 0), (302, .iaload, 1, 7, 0, 0), (303, .aload_n 0, 1, 0, 0, 0), (304, .iload_n 3, 1, 0, 0, 0), (305, .iconst 2, 1, 0, 0, 0), (306, .iadd, 1, 0, 0, 0), (307, .iaload, 1, 7, 0, 0), (308, .aload_n 0, 1, 0, 0, 0), (309, .iload_n 3, 1, 0, 0, 0), (310, .iconst 3, 1, 0, 0, 0), (311, .iadd, 1, 0, 0, 0), (312, .iaload, 1, 7, 0, 0), (313, .invokevirtual 27, 3, 3, 4, 1), (316, .aload_n 2, 1, 0, 0, 0), (317, .aload_n 0, 1, 0, 0, 0), (318, .iload_n 3, 1, 0, 0, 0), (319, .iconst 1, 1, 0, 0, 0), (320, .iadd, 1, 0, 0, 0), (321, .iaload, 1, 7, 0, 0), (322, .aload_n 0, 1, 0, 0, 0), (323, .iload_n 3, 1, 0, 0, 0), (324, .iconst 2, 1, 0, 0, 0), (325, .iadd, 1, 0, 0, 0), (326, .iaload, 1, 7, 0, 0), (327, .aload_n 0, 1, 0, 0, 0), (328, .iload_n 3, 1, 0, 0, 0), (329, .iconst 3, 1, 0, 0, 0), (330, .iadd, 1, 0, 0, 0), (331, .iaload, 1, 7, 0, 0), (332, .invokevirtual 31, 3, 60, 4, 9), (335, .if_icmp .eq (1209), 3, 0, 0, 0), (338, .iconst 0, 1, 0, 0, 0), (339, .ireturn, 1, 0, 0, 0), (340, .aload_n 1, 1, 0, 0, 0), (341, .aload_n 0, 1, 0, 0, 0), (342, .iload_n 3, 1, 0, 0, 0), (343, .iconst 1, 1, 0, 0, 0), (344, .iadd, 1, 0, 0, 0), (345, .iaload, 1, 7, 0, 0), (346, .aload_n 0, 1, 0, 0, 0), (347, .iload_n 3, 1, 0, 0, 0), (348, .iconst 2, 1, 0, 0, 0), (349, .iadd, 1, 0, 0, 0), (350, .iaload, 1, 7, 0, 0), (351, .aload_n 0, 1, 0, 0, 0), (352, .iload_n 3, 1, 0, 0, 0), (353, .iconst 3, 1, 0, 0, 0), (354, .iadd, 1, 0, 0, 0), (355, .iaload, 1, 7, 0, 0), (356, .invokevirtual 32, 3, 4, 4, 1), (359, .aload_n 2, 1, 0, 0, 0)]
def k_Law_3 : List mm_E := [(360, .aload_n 0, 1, 0, 0, 0), (361, .iload_n 3, 1, 0, 0, 0), (362, .iconst 1, 1, 0, 0, 0), (363, .iadd, 1, 0, 0, 0), (364, .iaload, 1, 7, 0, 0), (365, .aload_n 0, 1, 0, 0, 0), (366, .iload_n 3, 1, 0, 0, 0), (367, .iconst 2, 1, 0, 0, 0), (368, .iadd, 1, 0, 0, 0), (369, .iaload, 1, 7, 0, 0), (370, .aload_n 0, 1, 0, 0, 0), (371, .iload_n 3, 1, 0, 0, 0), (372, .iconst 3, 1, 0, 0, 0), (373, .iadd, 1, 0, 0, 0), (374, .iaload, 1, 7, 0, 0), (375, .invokevirtual 35, 3, 62, 4, 9), (378, .if_icmp .eq (1166), 3, 0, 0, 0), (381, .iconst 0, 1, 0, 0, 0), (382, .ireturn, 1, 0, 0, 0), (383, .aload_n 1, 1, 0, 0, 0), (384, .aload_n 0, 1, 0, 0, 0), (385, .iload_n 3, 1, 0, 0, 0), (386, .iconst 1, 1, 0, 0, 0), (387, .iadd, 1, 0, 0, 0), (388, .iaload, 1, 7, 0, 0), (389, .invokevirtual 36, 3, 5, 2, 1), (392, .aload_n 2, 1, 0, 0, 0), (393, .aload_n 0, 1, 0, 0, 0), (394, .iload_n 3, 1, 0, 0, 0), (395, .iconst 1, 1, 0, 0, 0), (396, .iadd, 1, 0, 0, 0), (397, .iaload, 1, 7, 0, 0), (398, .invokevirtual 39, 3, 64, 2, 9), (401, .if_icmp .eq (1143), 3, 0, 0, 0), (404, .iconst 0, 1, 0, 0, 0), (405, .ireturn, 1, 0, 0, 0), (406, .aload_n 1, 1, 0, 0, 0), (407, .aload_n 0, 1, 0, 0, 0), (408, .iload_n 3, 1, 0, 0, 0), (409, .iconst 1, 1, 0, 0, 0), (410, .iadd, 1, 0, 0, 0), (411, .iaload, 1, 7, 0, 0), (412, .invokevirtual 40, 3, 6, 2, 1), (415, .aload_n 2, 1, 0, 0, 0), (416, .aload_n 0, 1, 0, 0, 0), (417, .iload_n 3, 1, 0, 0, 0), (418, .iconst 1, 1, 0, 0, 0), (419, .iadd, 1, 0, 0, 0), (420, .iaload, 1, 7, 0, 0), (421, .invokevirtual 43, 3, 66, 2, 9), (424, .if_icmp .eq (1120), 3, 0, 0, 0), (427, .iconst 0, 1, 0, 0, 0), (428, .ireturn, 1, 0, 0, 0), (429, .aload_n 1, 1, 0, 0, 0), (430, .aload_n 0, 1, 0, 0, 0), (431, .iload_n 3, 1, 0, 0, 0), (432, .iconst 1, 1, 0, 0, 0), (433, .iadd, 1, 0, 0, 0), (434, .iaload, 1, 7, 0, 0), (435, .i2l, 1, 0, 0, 0)]
def k_Law_4 : List mm_E := [(436, .bipush (32), 2, 0, 0, 0), (438, .lshl, 1, 0, 0, 0), (439, .aload_n 0, 1, 0, 0, 0), (440, .iload_n 3, 1, 0, 0, 0), (441, .iconst 2, 1, 0, 0, 0), (442, .iadd, 1, 0, 0, 0), (443, .iaload, 1, 7, 0, 0), (444, .i2l, 1, 0, 0, 0), (445, .ldc2_w 44, 3, 0, 0, 4294967295), (448, .land, 1, 0, 0, 0), (449, .lor, 1, 0, 0, 0), (450, .aload_n 0, 1, 0, 0, 0), (451, .iload_n 3, 1, 0, 0, 0), (452, .iconst 3, 1, 0, 0, 0), (453, .iadd, 1, 0, 0, 0), (454, .iaload, 1, 7, 0, 0), (455, .invokevirtual 46, 3, 7, 3, 1), (458, .aload_n 2, 1, 0, 0, 0), (459, .aload_n 0, 1, 0, 0, 0), (460, .iload_n 3, 1, 0, 0, 0), (461, .iconst 1, 1, 0, 0, 0), (462, .iadd, 1, 0, 0, 0), (463, .iaload, 1, 7, 0, 0), (464, .i2l, 1, 0, 0, 0), (465, .bipush (32), 2, 0, 0, 0), (467, .lshl, 1, 0, 0, 0), (468, .aload_n 0, 1, 0, 0, 0), (469, .iload_n 3, 1, 0, 0, 0), (470, .iconst 2, 1, 0, 0, 0), (471, .iadd, 1, 0, 0, 0), (472, .iaload, 1, 7, 0, 0), (473, .i2l, 1, 0, 0, 0), (474, .ldc2_w 44, 3, 0, 0, 4294967295), (477, .land, 1, 0, 0, 0), (478, .lor, 1, 0, 0, 0), (479, .aload_n 0, 1, 0, 0, 0), (480, .iload_n 3, 1, 0, 0, 0), (481, .iconst 3, 1, 0, 0, 0), (482, .iadd, 1, 0, 0, 0), (483, .iaload, 1, 7, 0, 0), (484, .invokevirtual 50, 3, 98, 3, 9), (487, .if_icmp .eq (1057), 3, 0, 0, 0), (490, .iconst 0, 1, 0, 0, 0), (491, .ireturn, 1, 0, 0, 0), (492, .aload_n 1, 1, 0, 0, 0), (493, .aload_n 0, 1, 0, 0, 0), (494, .iload_n 3, 1, 0, 0, 0), (495, .iconst 1, 1, 0, 0, 0), (496, .iadd, 1, 0, 0, 0), (497, .iaload, 1, 7, 0, 0), (498, .invokevirtual 51, 3, 8, 2, 1), (501, .aload_n 2, 1, 0, 0, 0), (502, .aload_n 0, 1, 0, 0, 0), (503, .iload_n 3, 1, 0, 0, 0), (504, .iconst 1, 1, 0, 0, 0), (505, .iadd, 1, 0, 0, 0), (506, .iaload, 1, 7, 0, 0), (507, .invokevirtual 54, 3, 104, 2, 9), (510, .if_icmp .eq (1034), 3, 0, 0, 0), (513, .iconst 0, 1, 0, 0, 0)]
def k_Law_5 : List mm_E := [(514, .ireturn, 1, 0, 0, 0), (515, .aload_n 1, 1, 0, 0, 0), (516, .aload_n 0, 1, 0, 0, 0), (517, .iload_n 3, 1, 0, 0, 0), (518, .iconst 1, 1, 0, 0, 0), (519, .iadd, 1, 0, 0, 0), (520, .iaload, 1, 7, 0, 0), (521, .aload_n 0, 1, 0, 0, 0), (522, .iload_n 3, 1, 0, 0, 0), (523, .iconst 2, 1, 0, 0, 0), (524, .iadd, 1, 0, 0, 0), (525, .iaload, 1, 7, 0, 0), (526, .aload_n 0, 1, 0, 0, 0), (527, .iload_n 3, 1, 0, 0, 0), (528, .iconst 3, 1, 0, 0, 0), (529, .iadd, 1, 0, 0, 0), (530, .iaload, 1, 7, 0, 0), (531, .aload_n 0, 1, 0, 0, 0), (532, .iload_n 3, 1, 0, 0, 0), (533, .iconst 4, 1, 0, 0, 0), (534, .iadd, 1, 0, 0, 0), (535, .iaload, 1, 7, 0, 0), (536, .invokevirtual 55, 3, 9, 5, 1), (539, .aload_n 2, 1, 0, 0, 0), (540, .aload_n 0, 1, 0, 0, 0), (541, .iload_n 3, 1, 0, 0, 0), (542, .iconst 1, 1, 0, 0, 0), (543, .iadd, 1, 0, 0, 0), (544, .iaload, 1, 7, 0, 0), (545, .aload_n 0, 1, 0, 0, 0), (546, .iload_n 3, 1, 0, 0, 0), (547, .iconst 2, 1, 0, 0, 0), (548, .iadd, 1, 0, 0, 0), (549, .iaload, 1, 7, 0, 0), (550, .aload_n 0, 1, 0, 0, 0), (551, .iload_n 3, 1, 0, 0, 0), (552, .iconst 3, 1, 0, 0, 0), (553, .iadd, 1, 0, 0, 0), (554, .iaload, 1, 7, 0, 0), (555, .aload_n 0, 1, 0, 0, 0), (556, .iload_n 3, 1, 0, 0, 0), (557, .iconst 4, 1, 0, 0, 0), (558, .iadd, 1, 0, 0, 0), (559, .iaload, 1, 7, 0, 0), (560, .invokevirtual 58, 3, 76, 5, 9), (563, .if_icmp .eq (981), 3, 0, 0, 0), (566, .iconst 0, 1, 0, 0, 0), (567, .ireturn, 1, 0, 0, 0), (568, .aload_n 1, 1, 0, 0, 0), (569, .aload_n 0, 1, 0, 0, 0), (570, .iload_n 3, 1, 0, 0, 0), (571, .iconst 1, 1, 0, 0, 0), (572, .iadd, 1, 0, 0, 0), (573, .iaload, 1, 7, 0, 0), (574, .aload_n 0, 1, 0, 0, 0), (575, .iload_n 3, 1, 0, 0, 0), (576, .iconst 2, 1, 0, 0, 0), (577, .iadd, 1, 0, 0, 0), (578, .iaload, 1, 7, 0, 0), (579, .aload_n 0, 1, 0, 0, 0)]
def k_Law_6 : List mm_E := [(580, .iload_n 3, 1, 0, 0, 0), (581, .iconst 3, 1, 0, 0, 0), (582, .iadd, 1, 0, 0, 0), (583, .iaload, 1, 7, 0, 0), (584, .aload_n 0, 1, 0, 0, 0), (585, .iload_n 3, 1, 0, 0, 0), (586, .iconst 4, 1, 0, 0, 0), (587, .iadd, 1, 0, 0, 0), (588, .iaload, 1, 7, 0, 0), (589, .aload_n 0, 1, 0, 0, 0), (590, .iload_n 3, 1, 0, 0, 0), (591, .iconst 5, 1, 0, 0, 0), (592, .iadd, 1, 0, 0, 0), (593, .iaload, 1, 7, 0, 0), (594, .invokevirtual 59, 3, 10, 6, 1), (597, .aload_n 2, 1, 0, 0, 0), (598, .aload_n 0, 1, 0, 0, 0), (599, .iload_n 3, 1, 0, 0, 0), (600, .iconst 1, 1, 0, 0, 0), (601, .iadd, 1, 0, 0, 0), (602, .iaload, 1, 7, 0, 0), (603, .aload_n 0, 1, 0, 0, 0), (604, .iload_n 3, 1, 0, 0, 0), (605, .iconst 2, 1, 0, 0, 0), (606, .iadd, 1, 0, 0, 0), (607, .iaload, 1, 7, 0, 0), (608, .aload_n 0, 1, 0, 0, 0), (609, .iload_n 3, 1, 0, 0, 0), (610, .iconst 3, 1, 0, 0, 0), (611, .iadd, 1, 0, 0, 0), (612, .iaload, 1, 7, 0, 0), (613, .aload_n 0, 1, 0, 0, 0), (614, .iload_n 3, 1, 0, 0, 0), (615, .iconst 4, 1, 0, 0, 0), (616, .iadd, 1, 0, 0, 0), (617, .iaload, 1, 7, 0, 0), (618, .aload_n 0, 1, 0, 0, 0), (619, .iload_n 3, 1, 0, 0, 0), (620, .iconst 5, 1, 0, 0, 0), (621, .iadd, 1, 0, 0, 0), (622, .iaload, 1, 7, 0, 0), (623, .invokevirtual 63, 3, 77, 6, 9), (626, .if_icmp .eq (918), 3, 0, 0, 0), (629, .iconst 0, 1, 0, 0, 0), (630, .ireturn, 1, 0, 0, 0), (631, .aload_n 1, 1, 0, 0, 0), (632, .aload_n 0, 1, 0, 0, 0), (633, .iload_n 3, 1, 0, 0, 0), (634, .iconst 1, 1, 0, 0, 0), (635, .iadd, 1, 0, 0, 0), (636, .iaload, 1, 7, 0, 0), (637, .aload_n 0, 1, 0, 0, 0), (638, .iload_n 3, 1, 0, 0, 0), (639, .iconst 2, 1, 0, 0, 0), (640, .iadd, 1, 0, 0, 0), (641, .iaload, 1, 7, 0, 0), (642, .aload_n 0, 1, 0, 0, 0), (643, .iload_n 3, 1, 0, 0, 0), (644, .iconst 3, 1, 0, 0, 0), (645, .iadd, 1, 0, 0, 0)]
def k_Law_7 : List mm_E := [(646, .iaload, 1, 7, 0, 0), (647, .aload_n 0, 1, 0, 0, 0), (648, .iload_n 3, 1, 0, 0, 0), (649, .iconst 4, 1, 0, 0, 0), (650, .iadd, 1, 0, 0, 0), (651, .iaload, 1, 7, 0, 0), (652, .aload_n 0, 1, 0, 0, 0), (653, .iload_n 3, 1, 0, 0, 0), (654, .iconst 5, 1, 0, 0, 0), (655, .iadd, 1, 0, 0, 0), (656, .iaload, 1, 7, 0, 0), (657, .aload_n 0, 1, 0, 0, 0), (658, .iload_n 3, 1, 0, 0, 0), (659, .bipush (6), 2, 0, 0, 0), (661, .iadd, 1, 0, 0, 0), (662, .iaload, 1, 7, 0, 0), (663, .invokevirtual 64, 3, 11, 7, 1), (666, .aload_n 2, 1, 0, 0, 0), (667, .aload_n 0, 1, 0, 0, 0), (668, .iload_n 3, 1, 0, 0, 0), (669, .iconst 1, 1, 0, 0, 0), (670, .iadd, 1, 0, 0, 0), (671, .iaload, 1, 7, 0, 0), (672, .aload_n 0, 1, 0, 0, 0), (673, .iload_n 3, 1, 0, 0, 0), (674, .iconst 2, 1, 0, 0, 0), (675, .iadd, 1, 0, 0, 0), (676, .iaload, 1, 7, 0, 0), (677, .aload_n 0, 1, 0, 0, 0), (678, .iload_n 3, 1, 0, 0, 0), (679, .iconst 3, 1, 0, 0, 0), (680, .iadd, 1, 0, 0, 0), (681, .iaload, 1, 7, 0, 0), (682, .aload_n 0, 1, 0, 0, 0), (683, .iload_n 3, 1, 0, 0, 0), (684, .iconst 4, 1, 0, 0, 0), (685, .iadd, 1, 0, 0, 0), (686, .iaload, 1, 7, 0, 0), (687, .aload_n 0, 1, 0, 0, 0), (688, .iload_n 3, 1, 0, 0, 0), (689, .iconst 5, 1, 0, 0, 0), (690, .iadd, 1, 0, 0, 0), (691, .iaload, 1, 7, 0, 0), (692, .aload_n 0, 1, 0, 0, 0), (693, .iload_n 3, 1, 0, 0, 0), (694, .bipush (6), 2, 0, 0, 0), (696, .iadd, 1, 0, 0, 0), (697, .iaload, 1, 7, 0, 0), (698, .invokevirtual 68, 3, 81, 7, 9), (701, .if_icmp .eq (843), 3, 0, 0, 0), (704, .iconst 0, 1, 0, 0, 0), (705, .ireturn, 1, 0, 0, 0), (706, .aload_n 1, 1, 0, 0, 0), (707, .aload_n 0, 1, 0, 0, 0), (708, .iload_n 3, 1, 0, 0, 0), (709, .iconst 1, 1, 0, 0, 0), (710, .iadd, 1, 0, 0, 0), (711, .iaload, 1, 7, 0, 0), (712, .aload_n 0, 1, 0, 0, 0), (713, .iload_n 3, 1, 0, 0, 0)]
def k_Law_8 : List mm_E := [(714, .iconst 2, 1, 0, 0, 0), (715, .iadd, 1, 0, 0, 0), (716, .iaload, 1, 7, 0, 0), (717, .aload_n 0, 1, 0, 0, 0), (718, .iload_n 3, 1, 0, 0, 0), (719, .iconst 3, 1, 0, 0, 0), (720, .iadd, 1, 0, 0, 0), (721, .iaload, 1, 7, 0, 0), (722, .aload_n 0, 1, 0, 0, 0), (723, .iload_n 3, 1, 0, 0, 0), (724, .iconst 4, 1, 0, 0, 0), (725, .iadd, 1, 0, 0, 0), (726, .iaload, 1, 7, 0, 0), (727, .aload_n 0, 1, 0, 0, 0), (728, .iload_n 3, 1, 0, 0, 0), (729, .iconst 5, 1, 0, 0, 0), (730, .iadd, 1, 0, 0, 0), (731, .iaload, 1, 7, 0, 0), (732, .aload_n 0, 1, 0, 0, 0), (733, .iload_n 3, 1, 0, 0, 0), (734, .bipush (6), 2, 0, 0, 0), (736, .iadd, 1, 0, 0, 0), (737, .iaload, 1, 7, 0, 0), (738, .invokevirtual 69, 3, 12, 7, 1), (741, .aload_n 2, 1, 0, 0, 0), (742, .aload_n 0, 1, 0, 0, 0), (743, .iload_n 3, 1, 0, 0, 0), (744, .iconst 1, 1, 0, 0, 0), (745, .iadd, 1, 0, 0, 0), (746, .iaload, 1, 7, 0, 0), (747, .aload_n 0, 1, 0, 0, 0), (748, .iload_n 3, 1, 0, 0, 0), (749, .iconst 2, 1, 0, 0, 0), (750, .iadd, 1, 0, 0, 0), (751, .iaload, 1, 7, 0, 0), (752, .aload_n 0, 1, 0, 0, 0), (753, .iload_n 3, 1, 0, 0, 0), (754, .iconst 3, 1, 0, 0, 0), (755, .iadd, 1, 0, 0, 0), (756, .iaload, 1, 7, 0, 0), (757, .aload_n 0, 1, 0, 0, 0), (758, .iload_n 3, 1, 0, 0, 0), (759, .iconst 4, 1, 0, 0, 0), (760, .iadd, 1, 0, 0, 0), (761, .iaload, 1, 7, 0, 0), (762, .aload_n 0, 1, 0, 0, 0), (763, .iload_n 3, 1, 0, 0, 0), (764, .iconst 5, 1, 0, 0, 0), (765, .iadd, 1, 0, 0, 0), (766, .iaload, 1, 7, 0, 0), (767, .aload_n 0, 1, 0, 0, 0), (768, .iload_n 3, 1, 0, 0, 0), (769, .bipush (6), 2, 0, 0, 0), (771, .iadd, 1, 0, 0, 0), (772, .iaload, 1, 7, 0, 0), (773, .invokevirtual 72, 3, 82, 7, 9), (776, .if_icmp .eq (768), 3, 0, 0, 0), (779, .iconst 0, 1, 0, 0, 0), (780, .ireturn, 1, 0, 0, 0), (781, .aload_n 1, 1, 0, 0, 0)]
def k_Law_9 : List mm_E := [(782, .aload_n 0, 1, 0, 0, 0), (783, .iload_n 3, 1, 0, 0, 0), (784, .iconst 1, 1, 0, 0, 0), (785, .iadd, 1, 0, 0, 0), (786, .iaload, 1, 7, 0, 0), (787, .aload_n 0, 1, 0, 0, 0), (788, .iload_n 3, 1, 0, 0, 0), (789, .iconst 2, 1, 0, 0, 0), (790, .iadd, 1, 0, 0, 0), (791, .iaload, 1, 7, 0, 0), (792, .aload_n 0, 1, 0, 0, 0), (793, .iload_n 3, 1, 0, 0, 0), (794, .iconst 3, 1, 0, 0, 0), (795, .iadd, 1, 0, 0, 0), (796, .iaload, 1, 7, 0, 0), (797, .invokevirtual 73, 3, 13, 4, 1), (800, .aload_n 2, 1, 0, 0, 0), (801, .aload_n 0, 1, 0, 0, 0), (802, .iload_n 3, 1, 0, 0, 0), (803, .iconst 1, 1, 0, 0, 0), (804, .iadd, 1, 0, 0, 0), (805, .iaload, 1, 7, 0, 0), (806, .aload_n 0, 1, 0, 0, 0), (807, .iload_n 3, 1, 0, 0, 0), (808, .iconst 2, 1, 0, 0, 0), (809, .iadd, 1, 0, 0, 0), (810, .iaload, 1, 7, 0, 0), (811, .aload_n 0, 1, 0, 0, 0), (812, .iload_n 3, 1, 0, 0, 0), (813, .iconst 3, 1, 0, 0, 0), (814, .iadd, 1, 0, 0, 0), (815, .iaload, 1, 7, 0, 0), (816, .invokevirtual 76, 3, 83, 4, 9), (819, .if_icmp .eq (725), 3, 0, 0, 0), (822, .iconst 0, 1, 0, 0, 0), (823, .ireturn, 1, 0, 0, 0), (824, .aload_n 1, 1, 0, 0, 0), (825, .aload_n 0, 1, 0, 0, 0), (826, .iload_n 3, 1, 0, 0, 0), (827, .iconst 1, 1, 0, 0, 0), (828, .iadd, 1, 0, 0, 0), (829, .iaload, 1, 7, 0, 0), (830, .aload_n 0, 1, 0, 0, 0), (831, .iload_n 3, 1, 0, 0, 0), (832, .iconst 2, 1, 0, 0, 0), (833, .iadd, 1, 0, 0, 0), (834, .iaload, 1, 7, 0, 0), (835, .aload_n 0, 1, 0, 0, 0), (836, .iload_n 3, 1, 0, 0, 0), (837, .iconst 3, 1, 0, 0, 0), (838, .iadd, 1, 0, 0, 0), (839, .iaload, 1, 7, 0, 0), (840, .invokevirtual 77, 3, 14, 4, 1), (843, .aload_n 2, 1, 0, 0, 0), (844, .aload_n 0, 1, 0, 0, 0), (845, .iload_n 3, 1, 0, 0, 0), (846, .iconst 1, 1, 0, 0, 0), (847, .iadd, 1, 0, 0, 0), (848, .iaload, 1, 7, 0, 0), (849, .aload_n 0, 1, 0, 0, 0)]
def k_Law_10 : List mm_E := [(850, .iload_n 3, 1, 0, 0, 0), (851, .iconst 2, 1, 0, 0, 0), (852, .iadd, 1, 0, 0, 0), (853, .iaload, 1, 7, 0, 0), (854, .aload_n 0, 1, 0, 0, 0), (855, .iload_n 3, 1, 0, 0, 0), (856, .iconst 3, 1, 0, 0, 0), (857, .iadd, 1, 0, 0, 0), (858, .iaload, 1, 7, 0, 0), (859, .invokevirtual 80, 3, 85, 4, 9), (862, .if_icmp .eq (682), 3, 0, 0, 0), (865, .iconst 0, 1, 0, 0, 0), (866, .ireturn, 1, 0, 0, 0), (867, .aload_n 1, 1, 0, 0, 0), (868, .aload_n 0, 1, 0, 0, 0), (869, .iload_n 3, 1, 0, 0, 0), (870, .iconst 1, 1, 0, 0, 0), (871, .iadd, 1, 0, 0, 0), (872, .iaload, 1, 7, 0, 0), (873, .aload_n 0, 1, 0, 0, 0), (874, .iload_n 3, 1, 0, 0, 0), (875, .iconst 2, 1, 0, 0, 0), (876, .iadd, 1, 0, 0, 0), (877, .iaload, 1, 7, 0, 0), (878, .aload_n 0, 1, 0, 0, 0), (879, .iload_n 3, 1, 0, 0, 0), (880, .iconst 3, 1, 0, 0, 0), (881, .iadd, 1, 0, 0, 0), (882, .iaload, 1, 7, 0, 0), (883, .invokevirtual 81, 3, 15, 4, 1), (886, .aload_n 2, 1, 0, 0, 0), (887, .aload_n 0, 1, 0, 0, 0), (888, .iload_n 3, 1, 0, 0, 0), (889, .iconst 1, 1, 0, 0, 0), (890, .iadd, 1, 0, 0, 0), (891, .iaload, 1, 7, 0, 0), (892, .aload_n 0, 1, 0, 0, 0), (893, .iload_n 3, 1, 0, 0, 0), (894, .iconst 2, 1, 0, 0, 0), (895, .iadd, 1, 0, 0, 0), (896, .iaload, 1, 7, 0, 0), (897, .aload_n 0, 1, 0, 0, 0), (898, .iload_n 3, 1, 0, 0, 0), (899, .iconst 3, 1, 0, 0, 0), (900, .iadd, 1, 0, 0, 0), (901, .iaload, 1, 7, 0, 0), (902, .invokevirtual 84, 3, 94, 4, 9), (905, .if_icmp .eq (639), 3, 0, 0, 0), (908, .iconst 0, 1, 0, 0, 0), (909, .ireturn, 1, 0, 0, 0), (910, .aload_n 1, 1, 0, 0, 0), (911, .aload_n 0, 1, 0, 0, 0), (912, .iload_n 3, 1, 0, 0, 0), (913, .iconst 1, 1, 0, 0, 0), (914, .iadd, 1, 0, 0, 0), (915, .iaload, 1, 7, 0, 0), (916, .aload_n 0, 1, 0, 0, 0), (917, .iload_n 3, 1, 0, 0, 0), (918, .iconst 2, 1, 0, 0, 0), (919, .iadd, 1, 0, 0, 0)]
def k_Law_11 : List mm_E := [(920, .iaload, 1, 7, 0, 0), (921, .aload_n 0, 1, 0, 0, 0), (922, .iload_n 3, 1, 0, 0, 0), (923, .iconst 3, 1, 0, 0, 0), (924, .iadd, 1, 0, 0, 0), (925, .iaload, 1, 7, 0, 0), (926, .aload_n 0, 1, 0, 0, 0), (927, .iload_n 3, 1, 0, 0, 0), (928, .iconst 4, 1, 0, 0, 0), (929, .iadd, 1, 0, 0, 0), (930, .iaload, 1, 7, 0, 0), (931, .aload_n 0, 1, 0, 0, 0), (932, .iload_n 3, 1, 0, 0, 0), (933, .iconst 5, 1, 0, 0, 0), (934, .iadd, 1, 0, 0, 0), (935, .iaload, 1, 7, 0, 0), (936, .invokevirtual 85, 3, 16, 6, 1), (939, .aload_n 2, 1, 0, 0, 0), (940, .aload_n 0, 1, 0, 0, 0), (941, .iload_n 3, 1, 0, 0, 0), (942, .iconst 1, 1, 0, 0, 0), (943, .iadd, 1, 0, 0, 0), (944, .iaload, 1, 7, 0, 0), (945, .aload_n 0, 1, 0, 0, 0), (946, .iload_n 3, 1, 0, 0, 0), (947, .iconst 2, 1, 0, 0, 0), (948, .iadd, 1, 0, 0, 0), (949, .iaload, 1, 7, 0, 0), (950, .aload_n 0, 1, 0, 0, 0), (951, .iload_n 3, 1, 0, 0, 0), (952, .iconst 3, 1, 0, 0, 0), (953, .iadd, 1, 0, 0, 0), (954, .iaload, 1, 7, 0, 0), (955, .aload_n 0, 1, 0, 0, 0), (956, .iload_n 3, 1, 0, 0, 0), (957, .iconst 4, 1, 0, 0, 0), (958, .iadd, 1, 0, 0, 0), (959, .iaload, 1, 7, 0, 0), (960, .aload_n 0, 1, 0, 0, 0), (961, .iload_n 3, 1, 0, 0, 0), (962, .iconst 5, 1, 0, 0, 0), (963, .iadd, 1, 0, 0, 0), (964, .iaload, 1, 7, 0, 0), (965, .invokevirtual 88, 3, 95, 6, 9), (968, .if_icmp .eq (576), 3, 0, 0, 0), (971, .iconst 0, 1, 0, 0, 0), (972, .ireturn, 1, 0, 0, 0), (973, .aload_n 1, 1, 0, 0, 0), (974, .aload_n 0, 1, 0, 0, 0), (975, .iload_n 3, 1, 0, 0, 0), (976, .iconst 1, 1, 0, 0, 0), (977, .iadd, 1, 0, 0, 0), (978, .iaload, 1, 7, 0, 0), (979, .aload_n 0, 1, 0, 0, 0), (980, .iload_n 3, 1, 0, 0, 0), (981, .iconst 2, 1, 0, 0, 0), (982, .iadd, 1, 0, 0, 0), (983, .iaload, 1, 7, 0, 0), (984, .aload_n 0, 1, 0, 0, 0), (985, .iload_n 3, 1, 0, 0, 0)]
def k_Law_12 : List mm_E := [(986, .iconst 3, 1, 0, 0, 0), (987, .iadd, 1, 0, 0, 0), (988, .iaload, 1, 7, 0, 0), (989, .invokevirtual 89, 3, 17, 4, 1), (992, .aload_n 2, 1, 0, 0, 0), (993, .aload_n 0, 1, 0, 0, 0), (994, .iload_n 3, 1, 0, 0, 0), (995, .iconst 1, 1, 0, 0, 0), (996, .iadd, 1, 0, 0, 0), (997, .iaload, 1, 7, 0, 0), (998, .aload_n 0, 1, 0, 0, 0), (999, .iload_n 3, 1, 0, 0, 0), (1000, .iconst 2, 1, 0, 0, 0), (1001, .iadd, 1, 0, 0, 0), (1002, .iaload, 1, 7, 0, 0), (1003, .aload_n 0, 1, 0, 0, 0), (1004, .iload_n 3, 1, 0, 0, 0), (1005, .iconst 3, 1, 0, 0, 0), (1006, .iadd, 1, 0, 0, 0), (1007, .iaload, 1, 7, 0, 0), (1008, .invokevirtual 92, 3, 96, 4, 9), (1011, .if_icmp .eq (533), 3, 0, 0, 0), (1014, .iconst 0, 1, 0, 0, 0), (1015, .ireturn, 1, 0, 0, 0), (1016, .aload_n 1, 1, 0, 0, 0), (1017, .aload_n 0, 1, 0, 0, 0), (1018, .iload_n 3, 1, 0, 0, 0), (1019, .iconst 1, 1, 0, 0, 0), (1020, .iadd, 1, 0, 0, 0), (1021, .iaload, 1, 7, 0, 0), (1022, .aload_n 0, 1, 0, 0, 0), (1023, .iload_n 3, 1, 0, 0, 0), (1024, .iconst 2, 1, 0, 0, 0), (1025, .iadd, 1, 0, 0, 0), (1026, .iaload, 1, 7, 0, 0), (1027, .aload_n 0, 1, 0, 0, 0), (1028, .iload_n 3, 1, 0, 0, 0), (1029, .iconst 3, 1, 0, 0, 0), (1030, .iadd, 1, 0, 0, 0), (1031, .iaload, 1, 7, 0, 0), (1032, .aload_n 0, 1, 0, 0, 0), (1033, .iload_n 3, 1, 0, 0, 0), (1034, .iconst 4, 1, 0, 0, 0), (1035, .iadd, 1, 0, 0, 0), (1036, .iaload, 1, 7, 0, 0), (1037, .invokevirtual 93, 3, 18, 5, 1), (1040, .aload_n 2, 1, 0, 0, 0), (1041, .aload_n 0, 1, 0, 0, 0), (1042, .iload_n 3, 1, 0, 0, 0), (1043, .iconst 1, 1, 0, 0, 0), (1044, .iadd, 1, 0, 0, 0), (1045, .iaload, 1, 7, 0, 0), (1046, .aload_n 0, 1, 0, 0, 0), (1047, .iload_n 3, 1, 0, 0, 0), (1048, .iconst 2, 1, 0, 0, 0), (1049, .iadd, 1, 0, 0, 0), (1050, .iaload, 1, 7, 0, 0), (1051, .aload_n 0, 1, 0, 0, 0), (1052, .iload_n 3, 1, 0, 0, 0), (1053, .iconst 3, 1, 0, 0, 0)]
def k_Law_13 : List mm_E := [(1054, .iadd, 1, 0, 0, 0), (1055, .iaload, 1, 7, 0, 0), (1056, .aload_n 0, 1, 0, 0, 0), (1057, .iload_n 3, 1, 0, 0, 0), (1058, .iconst 4, 1, 0, 0, 0), (1059, .iadd, 1, 0, 0, 0), (1060, .iaload, 1, 7, 0, 0), (1061, .invokevirtual 96, 3, 97, 5, 9), (1064, .if_icmp .eq (480), 3, 0, 0, 0), (1067, .iconst 0, 1, 0, 0, 0), (1068, .ireturn, 1, 0, 0, 0), (1069, .aload_n 1, 1, 0, 0, 0), (1070, .aload_n 0, 1, 0, 0, 0), (1071, .iload_n 3, 1, 0, 0, 0), (1072, .iconst 1, 1, 0, 0, 0), (1073, .iadd, 1, 0, 0, 0), (1074, .iaload, 1, 7, 0, 0), (1075, .aload_n 0, 1, 0, 0, 0), (1076, .iload_n 3, 1, 0, 0, 0), (1077, .iconst 2, 1, 0, 0, 0), (1078, .iadd, 1, 0, 0, 0), (1079, .iaload, 1, 7, 0, 0), (1080, .aload_n 0, 1, 0, 0, 0), (1081, .iload_n 3, 1, 0, 0, 0), (1082, .iconst 3, 1, 0, 0, 0), (1083, .iadd, 1, 0, 0, 0), (1084, .iaload, 1, 7, 0, 0), (1085, .aload_n 0, 1, 0, 0, 0), (1086, .iload_n 3, 1, 0, 0, 0), (1087, .iconst 4, 1, 0, 0, 0), (1088, .iadd, 1, 0, 0, 0), (1089, .iaload, 1, 7, 0, 0), (1090, .aload_n 0, 1, 0, 0, 0), (1091, .iload_n 3, 1, 0, 0, 0), (1092, .iconst 5, 1, 0, 0, 0), (1093, .iadd, 1, 0, 0, 0), (1094, .iaload, 1, 7, 0, 0), (1095, .aload_n 0, 1, 0, 0, 0), (1096, .iload_n 3, 1, 0, 0, 0), (1097, .bipush (6), 2, 0, 0, 0), (1099, .iadd, 1, 0, 0, 0), (1100, .iaload, 1, 7, 0, 0), (1101, .invokevirtual 97, 3, 19, 7, 1), (1104, .aload_n 2, 1, 0, 0, 0), (1105, .aload_n 0, 1, 0, 0, 0), (1106, .iload_n 3, 1, 0, 0, 0), (1107, .iconst 1, 1, 0, 0, 0), (1108, .iadd, 1, 0, 0, 0), (1109, .iaload, 1, 7, 0, 0), (1110, .aload_n 0, 1, 0, 0, 0), (1111, .iload_n 3, 1, 0, 0, 0), (1112, .iconst 2, 1, 0, 0, 0), (1113, .iadd, 1, 0, 0, 0), (1114, .iaload, 1, 7, 0, 0), (1115, .aload_n 0, 1, 0, 0, 0), (1116, .iload_n 3, 1, 0, 0, 0), (1117, .iconst 3, 1, 0, 0, 0), (1118, .iadd, 1, 0, 0, 0), (1119, .iaload, 1, 7, 0, 0), (1120, .aload_n 0, 1, 0, 0, 0)]
def k_Law_14 : List mm_E := [(1121, .iload_n 3, 1, 0, 0, 0), (1122, .iconst 4, 1, 0, 0, 0), (1123, .iadd, 1, 0, 0, 0), (1124, .iaload, 1, 7, 0, 0), (1125, .aload_n 0, 1, 0, 0, 0), (1126, .iload_n 3, 1, 0, 0, 0), (1127, .iconst 5, 1, 0, 0, 0), (1128, .iadd, 1, 0, 0, 0), (1129, .iaload, 1, 7, 0, 0), (1130, .aload_n 0, 1, 0, 0, 0), (1131, .iload_n 3, 1, 0, 0, 0), (1132, .bipush (6), 2, 0, 0, 0), (1134, .iadd, 1, 0, 0, 0), (1135, .iaload, 1, 7, 0, 0), (1136, .invokevirtual 100, 3, 67, 7, 9), (1139, .if_icmp .eq (405), 3, 0, 0, 0), (1142, .iconst 0, 1, 0, 0, 0), (1143, .ireturn, 1, 0, 0, 0), (1144, .aload_n 1, 1, 0, 0, 0), (1145, .aload_n 0, 1, 0, 0, 0), (1146, .iload_n 3, 1, 0, 0, 0), (1147, .iconst 1, 1, 0, 0, 0), (1148, .iadd, 1, 0, 0, 0), (1149, .iaload, 1, 7, 0, 0), (1150, .invokevirtual 101, 3, 20, 2, 1), (1153, .aload_n 2, 1, 0, 0, 0), (1154, .aload_n 0, 1, 0, 0, 0), (1155, .iload_n 3, 1, 0, 0, 0), (1156, .iconst 1, 1, 0, 0, 0), (1157, .iadd, 1, 0, 0, 0), (1158, .iaload, 1, 7, 0, 0), (1159, .invokevirtual 104, 3, 68, 2, 9), (1162, .if_icmp .eq (382), 3, 0, 0, 0), (1165, .iconst 0, 1, 0, 0, 0), (1166, .ireturn, 1, 0, 0, 0), (1167, .aload_n 1, 1, 0, 0, 0), (1168, .aload_n 0, 1, 0, 0, 0), (1169, .iload_n 3, 1, 0, 0, 0), (1170, .iconst 1, 1, 0, 0, 0), (1171, .iadd, 1, 0, 0, 0), (1172, .iaload, 1, 7, 0, 0), (1173, .aload_n 0, 1, 0, 0, 0), (1174, .iload_n 3, 1, 0, 0, 0), (1175, .iconst 2, 1, 0, 0, 0), (1176, .iadd, 1, 0, 0, 0), (1177, .iaload, 1, 7, 0, 0), (1178, .aload_n 0, 1, 0, 0, 0), (1179, .iload_n 3, 1, 0, 0, 0), (1180, .iconst 3, 1, 0, 0, 0), (1181, .iadd, 1, 0, 0, 0), (1182, .iaload, 1, 7, 0, 0), (1183, .invokevirtual 105, 3, 21, 4, 1), (1186, .aload_n 2, 1, 0, 0, 0), (1187, .aload_n 0, 1, 0, 0, 0), (1188, .iload_n 3, 1, 0, 0, 0), (1189, .iconst 1, 1, 0, 0, 0), (1190, .iadd, 1, 0, 0, 0), (1191, .iaload, 1, 7, 0, 0), (1192, .aload_n 0, 1, 0, 0, 0), (1193, .iload_n 3, 1, 0, 0, 0)]
def k_Law_15 : List mm_E := [(1194, .iconst 2, 1, 0, 0, 0), (1195, .iadd, 1, 0, 0, 0), (1196, .iaload, 1, 7, 0, 0), (1197, .aload_n 0, 1, 0, 0, 0), (1198, .iload_n 3, 1, 0, 0, 0), (1199, .iconst 3, 1, 0, 0, 0), (1200, .iadd, 1, 0, 0, 0), (1201, .iaload, 1, 7, 0, 0), (1202, .invokevirtual 108, 3, 108, 4, 9), (1205, .if_icmp .eq (339), 3, 0, 0, 0), (1208, .iconst 0, 1, 0, 0, 0), (1209, .ireturn, 1, 0, 0, 0), (1210, .aload_n 1, 1, 0, 0, 0), (1211, .aload_n 0, 1, 0, 0, 0), (1212, .iload_n 3, 1, 0, 0, 0), (1213, .iconst 1, 1, 0, 0, 0), (1214, .iadd, 1, 0, 0, 0), (1215, .iaload, 1, 7, 0, 0), (1216, .aload_n 0, 1, 0, 0, 0), (1217, .iload_n 3, 1, 0, 0, 0), (1218, .iconst 2, 1, 0, 0, 0), (1219, .iadd, 1, 0, 0, 0), (1220, .iaload, 1, 7, 0, 0), (1221, .aload_n 0, 1, 0, 0, 0), (1222, .iload_n 3, 1, 0, 0, 0), (1223, .iconst 3, 1, 0, 0, 0), (1224, .iadd, 1, 0, 0, 0), (1225, .iaload, 1, 7, 0, 0), (1226, .i2l, 1, 0, 0, 0), (1227, .bipush (32), 2, 0, 0, 0), (1229, .lshl, 1, 0, 0, 0), (1230, .aload_n 0, 1, 0, 0, 0), (1231, .iload_n 3, 1, 0, 0, 0), (1232, .iconst 4, 1, 0, 0, 0), (1233, .iadd, 1, 0, 0, 0), (1234, .iaload, 1, 7, 0, 0), (1235, .i2l, 1, 0, 0, 0), (1236, .ldc2_w 44, 3, 0, 0, 4294967295), (1239, .land, 1, 0, 0, 0), (1240, .lor, 1, 0, 0, 0), (1241, .invokevirtual 109, 3, 22, 4, 1), (1244, .aload_n 2, 1, 0, 0, 0), (1245, .aload_n 0, 1, 0, 0, 0), (1246, .iload_n 3, 1, 0, 0, 0), (1247, .iconst 1, 1, 0, 0, 0), (1248, .iadd, 1, 0, 0, 0), (1249, .iaload, 1, 7, 0, 0), (1250, .aload_n 0, 1, 0, 0, 0), (1251, .iload_n 3, 1, 0, 0, 0), (1252, .iconst 2, 1, 0, 0, 0), (1253, .iadd, 1, 0, 0, 0), (1254, .iaload, 1, 7, 0, 0), (1255, .aload_n 0, 1, 0, 0, 0), (1256, .iload_n 3, 1, 0, 0, 0), (1257, .iconst 3, 1, 0, 0, 0), (1258, .iadd, 1, 0, 0, 0), (1259, .iaload, 1, 7, 0, 0), (1260, .i2l, 1, 0, 0, 0), (1261, .bipush (32), 2, 0, 0, 0), (1263, .lshl, 1, 0, 0, 0)]
def k_Law_16 : List mm_E := [(1264, .aload_n 0, 1, 0, 0, 0), (1265, .iload_n 3, 1, 0, 0, 0), (1266, .iconst 4, 1, 0, 0, 0), (1267, .iadd, 1, 0, 0, 0), (1268, .iaload, 1, 7, 0, 0), (1269, .i2l, 1, 0, 0, 0), (1270, .ldc2_w 44, 3, 0, 0, 4294967295), (1273, .land, 1, 0, 0, 0), (1274, .lor, 1, 0, 0, 0), (1275, .invokevirtual 113, 3, 109, 4, 9), (1278, .if_icmp .eq (266), 3, 0, 0, 0), (1281, .iconst 0, 1, 0, 0, 0), (1282, .ireturn, 1, 0, 0, 0), (1283, .aload_n 1, 1, 0, 0, 0), (1284, .aload_n 0, 1, 0, 0, 0), (1285, .iload_n 3, 1, 0, 0, 0), (1286, .iconst 1, 1, 0, 0, 0), (1287, .iadd, 1, 0, 0, 0), (1288, .iaload, 1, 7, 0, 0), (1289, .aload_n 0, 1, 0, 0, 0), (1290, .iload_n 3, 1, 0, 0, 0), (1291, .iconst 2, 1, 0, 0, 0), (1292, .iadd, 1, 0, 0, 0), (1293, .iaload, 1, 7, 0, 0), (1294, .aload_n 0, 1, 0, 0, 0), (1295, .iload_n 3, 1, 0, 0, 0), (1296, .iconst 3, 1, 0, 0, 0), (1297, .iadd, 1, 0, 0, 0), (1298, .iaload, 1, 7, 0, 0), (1299, .invokevirtual 114, 3, 23, 4, 1), (1302, .aload_n 2, 1, 0, 0, 0), (1303, .aload_n 0, 1, 0, 0, 0), (1304, .iload_n 3, 1, 0, 0, 0), (1305, .iconst 1, 1, 0, 0, 0), (1306, .iadd, 1, 0, 0, 0), (1307, .iaload, 1, 7, 0, 0), (1308, .aload_n 0, 1, 0, 0, 0), (1309, .iload_n 3, 1, 0, 0, 0), (1310, .iconst 2, 1, 0, 0, 0), (1311, .iadd, 1, 0, 0, 0), (1312, .iaload, 1, 7, 0, 0), (1313, .aload_n 0, 1, 0, 0, 0), (1314, .iload_n 3, 1, 0, 0, 0), (1315, .iconst 3, 1, 0, 0, 0), (1316, .iadd, 1, 0, 0, 0), (1317, .iaload, 1, 7, 0, 0), (1318, .invokevirtual 117, 3, 110, 4, 9), (1321, .if_icmp .eq (223), 3, 0, 0, 0), (1324, .iconst 0, 1, 0, 0, 0), (1325, .ireturn, 1, 0, 0, 0), (1326, .aload_n 1, 1, 0, 0, 0), (1327, .aload_n 0, 1, 0, 0, 0), (1328, .iload_n 3, 1, 0, 0, 0), (1329, .iconst 1, 1, 0, 0, 0), (1330, .iadd, 1, 0, 0, 0), (1331, .iaload, 1, 7, 0, 0), (1332, .aload_n 0, 1, 0, 0, 0), (1333, .iload_n 3, 1, 0, 0, 0), (1334, .iconst 2, 1, 0, 0, 0), (1335, .iadd, 1, 0, 0, 0)]
def k_Law_17 : List mm_E := [(1336, .iaload, 1, 7, 0, 0), (1337, .aload_n 0, 1, 0, 0, 0), (1338, .iload_n 3, 1, 0, 0, 0), (1339, .iconst 3, 1, 0, 0, 0), (1340, .iadd, 1, 0, 0, 0), (1341, .iaload, 1, 7, 0, 0), (1342, .aload_n 0, 1, 0, 0, 0), (1343, .iload_n 3, 1, 0, 0, 0), (1344, .iconst 4, 1, 0, 0, 0), (1345, .iadd, 1, 0, 0, 0), (1346, .iaload, 1, 7, 0, 0), (1347, .aload_n 0, 1, 0, 0, 0), (1348, .iload_n 3, 1, 0, 0, 0), (1349, .iconst 5, 1, 0, 0, 0), (1350, .iadd, 1, 0, 0, 0), (1351, .iaload, 1, 7, 0, 0), (1352, .invokevirtual 118, 3, 24, 6, 1), (1355, .aload_n 2, 1, 0, 0, 0), (1356, .aload_n 0, 1, 0, 0, 0), (1357, .iload_n 3, 1, 0, 0, 0), (1358, .iconst 1, 1, 0, 0, 0), (1359, .iadd, 1, 0, 0, 0), (1360, .iaload, 1, 7, 0, 0), (1361, .aload_n 0, 1, 0, 0, 0), (1362, .iload_n 3, 1, 0, 0, 0), (1363, .iconst 2, 1, 0, 0, 0), (1364, .iadd, 1, 0, 0, 0), (1365, .iaload, 1, 7, 0, 0), (1366, .aload_n 0, 1, 0, 0, 0), (1367, .iload_n 3, 1, 0, 0, 0), (1368, .iconst 3, 1, 0, 0, 0), (1369, .iadd, 1, 0, 0, 0), (1370, .iaload, 1, 7, 0, 0), (1371, .aload_n 0, 1, 0, 0, 0), (1372, .iload_n 3, 1, 0, 0, 0), (1373, .iconst 4, 1, 0, 0, 0), (1374, .iadd, 1, 0, 0, 0), (1375, .iaload, 1, 7, 0, 0), (1376, .aload_n 0, 1, 0, 0, 0), (1377, .iload_n 3, 1, 0, 0, 0), (1378, .iconst 5, 1, 0, 0, 0), (1379, .iadd, 1, 0, 0, 0), (1380, .iaload, 1, 7, 0, 0), (1381, .invokevirtual 121, 3, 111, 6, 9), (1384, .if_icmp .eq (160), 3, 0, 0, 0), (1387, .iconst 0, 1, 0, 0, 0), (1388, .ireturn, 1, 0, 0, 0), (1389, .aload_n 1, 1, 0, 0, 0), (1390, .aload_n 0, 1, 0, 0, 0), (1391, .iload_n 3, 1, 0, 0, 0), (1392, .iconst 1, 1, 0, 0, 0), (1393, .iadd, 1, 0, 0, 0), (1394, .iaload, 1, 7, 0, 0), (1395, .aload_n 0, 1, 0, 0, 0), (1396, .iload_n 3, 1, 0, 0, 0), (1397, .iconst 2, 1, 0, 0, 0), (1398, .iadd, 1, 0, 0, 0), (1399, .iaload, 1, 7, 0, 0), (1400, .aload_n 0, 1, 0, 0, 0), (1401, .iload_n 3, 1, 0, 0, 0)]
def k_Law_18 : List mm_E := [(1402, .iconst 3, 1, 0, 0, 0), (1403, .iadd, 1, 0, 0, 0), (1404, .iaload, 1, 7, 0, 0), (1405, .aload_n 0, 1, 0, 0, 0), (1406, .iload_n 3, 1, 0, 0, 0), (1407, .iconst 4, 1, 0, 0, 0), (1408, .iadd, 1, 0, 0, 0), (1409, .iaload, 1, 7, 0, 0), (1410, .invokevirtual 122, 3, 25, 5, 1), (1413, .aload_n 2, 1, 0, 0, 0), (1414, .aload_n 0, 1, 0, 0, 0), (1415, .iload_n 3, 1, 0, 0, 0), (1416, .iconst 1, 1, 0, 0, 0), (1417, .iadd, 1, 0, 0, 0), (1418, .iaload, 1, 7, 0, 0), (1419, .aload_n 0, 1, 0, 0, 0), (1420, .iload_n 3, 1, 0, 0, 0), (1421, .iconst 2, 1, 0, 0, 0), (1422, .iadd, 1, 0, 0, 0), (1423, .iaload, 1, 7, 0, 0), (1424, .aload_n 0, 1, 0, 0, 0), (1425, .iload_n 3, 1, 0, 0, 0), (1426, .iconst 3, 1, 0, 0, 0), (1427, .iadd, 1, 0, 0, 0), (1428, .iaload, 1, 7, 0, 0), (1429, .aload_n 0, 1, 0, 0, 0), (1430, .iload_n 3, 1, 0, 0, 0), (1431, .iconst 4, 1, 0, 0, 0), (1432, .iadd, 1, 0, 0, 0), (1433, .iaload, 1, 7, 0, 0), (1434, .invokevirtual 125, 3, 113, 5, 9), (1437, .if_icmp .eq (107), 3, 0, 0, 0), (1440, .iconst 0, 1, 0, 0, 0), (1441, .ireturn, 1, 0, 0, 0), (1442, .aload_n 1, 1, 0, 0, 0), (1443, .aload_n 0, 1, 0, 0, 0), (1444, .iload_n 3, 1, 0, 0, 0), (1445, .iconst 1, 1, 0, 0, 0), (1446, .iadd, 1, 0, 0, 0), (1447, .iaload, 1, 7, 0, 0), (1448, .aload_n 0, 1, 0, 0, 0), (1449, .iload_n 3, 1, 0, 0, 0), (1450, .iconst 2, 1, 0, 0, 0), (1451, .iadd, 1, 0, 0, 0), (1452, .iaload, 1, 7, 0, 0), (1453, .aload_n 0, 1, 0, 0, 0), (1454, .iload_n 3, 1, 0, 0, 0), (1455, .iconst 3, 1, 0, 0, 0), (1456, .iadd, 1, 0, 0, 0), (1457, .iaload, 1, 7, 0, 0), (1458, .aload_n 0, 1, 0, 0, 0), (1459, .iload_n 3, 1, 0, 0, 0), (1460, .iconst 4, 1, 0, 0, 0), (1461, .iadd, 1, 0, 0, 0), (1462, .iaload, 1, 7, 0, 0), (1463, .invokevirtual 126, 3, 26, 5, 1), (1466, .aload_n 2, 1, 0, 0, 0), (1467, .aload_n 0, 1, 0, 0, 0), (1468, .iload_n 3, 1, 0, 0, 0), (1469, .iconst 1, 1, 0, 0, 0)]
def k_Law_19 : List mm_E := [(1470, .iadd, 1, 0, 0, 0), (1471, .iaload, 1, 7, 0, 0), (1472, .aload_n 0, 1, 0, 0, 0), (1473, .iload_n 3, 1, 0, 0, 0), (1474, .iconst 2, 1, 0, 0, 0), (1475, .iadd, 1, 0, 0, 0), (1476, .iaload, 1, 7, 0, 0), (1477, .aload_n 0, 1, 0, 0, 0), (1478, .iload_n 3, 1, 0, 0, 0), (1479, .iconst 3, 1, 0, 0, 0), (1480, .iadd, 1, 0, 0, 0), (1481, .iaload, 1, 7, 0, 0), (1482, .aload_n 0, 1, 0, 0, 0), (1483, .iload_n 3, 1, 0, 0, 0), (1484, .iconst 4, 1, 0, 0, 0), (1485, .iadd, 1, 0, 0, 0), (1486, .iaload, 1, 7, 0, 0), (1487, .invokevirtual 129, 3, 114, 5, 9), (1490, .if_icmp .eq (54), 3, 0, 0, 0), (1493, .iconst 0, 1, 0, 0, 0), (1494, .ireturn, 1, 0, 0, 0), (1495, .aload_n 1, 1, 0, 0, 0), (1496, .aload_n 0, 1, 0, 0, 0), (1497, .iload_n 3, 1, 0, 0, 0), (1498, .iconst 1, 1, 0, 0, 0), (1499, .iadd, 1, 0, 0, 0), (1500, .iaload, 1, 7, 0, 0), (1501, .invokevirtual 130, 3, 27, 2, 1), (1504, .aload_n 2, 1, 0, 0, 0), (1505, .aload_n 0, 1, 0, 0, 0), (1506, .iload_n 3, 1, 0, 0, 0), (1507, .iconst 1, 1, 0, 0, 0), (1508, .iadd, 1, 0, 0, 0), (1509, .iaload, 1, 7, 0, 0), (1510, .invokevirtual 133, 3, 116, 2, 9), (1513, .if_icmp .eq (31), 3, 0, 0, 0), (1516, .iconst 0, 1, 0, 0, 0), (1517, .ireturn, 1, 0, 0, 0), (1518, .aload_n 1, 1, 0, 0, 0), (1519, .invokevirtual 134, 3, 28, 1, 1), (1522, .aload_n 2, 1, 0, 0, 0), (1523, .invokevirtual 138, 3, 118, 1, 9), (1526, .if_icmp .eq (18), 3, 0, 0, 0), (1529, .iconst 0, 1, 0, 0, 0), (1530, .ireturn, 1, 0, 0, 0), (1531, .aload_n 1, 1, 0, 0, 0), (1532, .invokevirtual 139, 3, 29, 1, 1), (1535, .aload_n 2, 1, 0, 0, 0), (1536, .invokevirtual 142, 3, 119, 1, 9), (1539, .if_icmp .eq (5), 3, 0, 0, 0), (1542, .iconst 0, 1, 0, 0, 0), (1543, .ireturn, 1, 0, 0, 0), (1544, .iinc 3 (7), 3, 0, 0, 0), (1547, .goto (-1529), 3, 0, 0, 0), (1550, .iconst 1, 1, 0, 0, 0), (1551, .ireturn, 1, 0, 0, 0)]
def k_Law_law : List mm_E := k_Law_0 ++ (k_Law_1 ++ (k_Law_2 ++ (k_Law_3 ++ (k_Law_4 ++ (k_Law_5 ++ (k_Law_6 ++ (k_Law_7 ++ (k_Law_8 ++ (k_Law_9 ++ (k_Law_10 ++ (k_Law_11 ++ (k_Law_12 ++ (k_Law_13 ++ (k_Law_14 ++ (k_Law_15 ++ (k_Law_16 ++ (k_Law_17 ++ (k_Law_18 ++ (k_Law_19)))))))))))))))))))
theorem ek_Law_0 : k_Law_0.all (mm_eok 13 9 348 code) = true := by decide +kernel
theorem ek_Law_1 : k_Law_1.all (mm_eok 13 9 348 code) = true := by decide +kernel
theorem ek_Law_2 : k_Law_2.all (mm_eok 13 9 348 code) = true := by decide +kernel
theorem ek_Law_3 : k_Law_3.all (mm_eok 13 9 348 code) = true := by decide +kernel
theorem ek_Law_4 : k_Law_4.all (mm_eok 13 9 348 code) = true := by decide +kernel
theorem ek_Law_5 : k_Law_5.all (mm_eok 13 9 348 code) = true := by decide +kernel
theorem ek_Law_6 : k_Law_6.all (mm_eok 13 9 348 code) = true := by decide +kernel
theorem ek_Law_7 : k_Law_7.all (mm_eok 13 9 348 code) = true := by decide +kernel
theorem ek_Law_8 : k_Law_8.all (mm_eok 13 9 348 code) = true := by decide +kernel
theorem ek_Law_9 : k_Law_9.all (mm_eok 13 9 348 code) = true := by decide +kernel
theorem ek_Law_10 : k_Law_10.all (mm_eok 13 9 348 code) = true := by decide +kernel
theorem ek_Law_11 : k_Law_11.all (mm_eok 13 9 348 code) = true := by decide +kernel
theorem ek_Law_12 : k_Law_12.all (mm_eok 13 9 348 code) = true := by decide +kernel
theorem ek_Law_13 : k_Law_13.all (mm_eok 13 9 348 code) = true := by decide +kernel
theorem ek_Law_14 : k_Law_14.all (mm_eok 13 9 348 code) = true := by decide +kernel
theorem ek_Law_15 : k_Law_15.all (mm_eok 13 9 348 code) = true := by decide +kernel
theorem ek_Law_16 : k_Law_16.all (mm_eok 13 9 348 code) = true := by decide +kernel
theorem ek_Law_17 : k_Law_17.all (mm_eok 13 9 348 code) = true := by decide +kernel
theorem ek_Law_18 : k_Law_18.all (mm_eok 13 9 348 code) = true := by decide +kernel
theorem ek_Law_19 : k_Law_19.all (mm_eok 13 9 348 code) = true := by decide +kernel
theorem ek_Law : ∀ x ∈ k_Law_law, mm_eok 13 9 348 code x = true := by
  intro x hx
  unfold k_Law_law at hx
  simp only [List.mem_append] at hx
  rcases hx with h | h | h | h | h | h | h | h | h | h | h | h | h | h | h | h | h | h | h | h
  · exact List.all_eq_true.mp ek_Law_0 x h
  · exact List.all_eq_true.mp ek_Law_1 x h
  · exact List.all_eq_true.mp ek_Law_2 x h
  · exact List.all_eq_true.mp ek_Law_3 x h
  · exact List.all_eq_true.mp ek_Law_4 x h
  · exact List.all_eq_true.mp ek_Law_5 x h
  · exact List.all_eq_true.mp ek_Law_6 x h
  · exact List.all_eq_true.mp ek_Law_7 x h
  · exact List.all_eq_true.mp ek_Law_8 x h
  · exact List.all_eq_true.mp ek_Law_9 x h
  · exact List.all_eq_true.mp ek_Law_10 x h
  · exact List.all_eq_true.mp ek_Law_11 x h
  · exact List.all_eq_true.mp ek_Law_12 x h
  · exact List.all_eq_true.mp ek_Law_13 x h
  · exact List.all_eq_true.mp ek_Law_14 x h
  · exact List.all_eq_true.mp ek_Law_15 x h
  · exact List.all_eq_true.mp ek_Law_16 x h
  · exact List.all_eq_true.mp ek_Law_17 x h
  · exact List.all_eq_true.mp ek_Law_18 x h
  · exact List.all_eq_true.mp ek_Law_19 x h
theorem cc_kL_noret : ∀ x ∈ cc_kL, x.2.1 ≠ .return_ := by
  have h : cc_kL.all (fun x => decide (x.2.1 ≠ .return_)) = true := by decide +kernel
  exact fun x hx => of_decide_eq_true (List.all_eq_true.mp h x hx)
theorem cc_kL_noput : ∀ x ∈ cc_kL, ∀ idx, x.2.1 ≠ .putfield idx := by
  have h : cc_kL.all (fun x => match x.2.1 with
    | .putfield _ => false
    | _ => true) = true := by decide +kernel
  intro x hx idx hi
  have := List.all_eq_true.mp h x hx
  rw [hi] at this
  cases this
theorem inst_ok : ∀ ci, ci < 9 → Cond.instantiable (mm_cn ci) (mm_nf ci) ∈ wA := by
  have h : (List.range 9).all (fun ci => cc_ln.any fun q => decide (q.2.2.1 = ci)) = true := by decide +kernel
  intro ci hci
  obtain ⟨q, hq, h1⟩ := List.any_eq_true.mp (List.all_eq_true.mp h ci (List.mem_range.mpr hci))
  have h1 := of_decide_eq_true h1
  have := (cc_ln_ok q hq).2.1
  rw [h1] at this
  exact this
theorem over_ok : Cond.arrayOver (.object "PagesByLevels$Complex") ∈ lw_tbl ∧ Cond.arrayOver (.object "PagesByLevels$Sheet") ∈ lw_tbl := ⟨List.mem_of_getElem? (i := 65) (by decide +kernel), List.mem_of_getElem? (i := 233) (by decide +kernel)⟩
end
section
/-! THE CLAIM OUT OF ONE WALK OF THE LAW'S BODY. Your part is whole_start (and what it stands on); all else here is the same for every law, but numbers. -/
def R_law : String := "PagesByLevelsLaw"
def lw_P (b : Addr) (xs : List Int32) (args : Array Value) (s : State) : Prop := args = #[.ref b] ∧ s.IntsAt b xs ∧ xs.length ≤ 3584 ∧ (Jvm.Cond.and given_1 narrow_1).before args s = true
def lw_Q (_ : Array Value) (s : State) (o : Outcome) (t : State) : Prop := o = .returned (some (.int 1)) ∧ Framed s o t [] 600000 7302250
def lw_Z (below : List Frame) (a : Array Value) (s : State) : State → Prop := fun t => ∃ o, t.status = .running ∧ Ended t below o ∧ lw_Q a s o t
/-- the law's own end, with 1 on the stack, nothing written that was there before, its room as the claim has it -/
theorem lw_ret {p : Program} {l : Launch} {e : Env} {s : State} {m : MethodId} {below : List Frame} {meth : Method} {c : Code} {b : Nat} (hx : p.tables.exec = Jvm.exec) (hb : c.code = code) (hr : meth.sig.returnType = ret) (hlocks : meth.locks = false) {pc : Nat} {H : Heap} {ls : Array Slot} (hdg : decode code pc = .ok (.ireturn, 1)) : W p l e room_1 s m #[Value.ref b] below meth c H [] 600000 7302250 (lw_Z below #[Value.ref b] s) (F0 m pc ls [.int 1]) := by
  intro T hT X
  obtain ⟨fs, hret, hrun, hended, hW, hframe⟩ := X.leave (v := some (.int 1)) (hlocks := hlocks) (fun h => by rw [hr] at h; cases h)
  have hmeth' : T.vm.method? m = some meth := X.method'
  refine ⟨T.setFrames fs, ?_, .returned (some (.int 1)), hrun, hended, rfl, ⟨_, rfl⟩, hW, hframe⟩
  jvm_step X.here [X.here.top, hx, hb, hdg, hmeth', hr, ret, narrow_b1]
  (try refine ⟨rfl, ?_⟩); (try refine ⟨rfl, ?_⟩)
  first | (intro acts; rw [hret _ acts rfl rfl rfl]) | rw [hret _ _ rfl rfl rfl]
  exact Steps.refl _
/-- what holds at the law's entry: the machine, the code, the tables' words (any of lw_tbl by 'hts w (by decide +kernel)'), the script of L ints xs at the cell b, what the Statement gives of the start (any of its parts by flat_of_before) -/
def lw_At (p : Program) (s : State) (m : MethodId) (meth : Method) (c : Code) (b L : Nat) (xs : Nat → Int32) : Prop :=
  p.tables.exec = Jvm.exec ∧ c.code = code ∧ meth.sig.returnType = ret ∧ c.maxLocals = 4 ∧ s.vm.findClass R_law = some m.cls ∧ (∀ w ∈ lw_tbl, w.before #[Value.ref b] s = true) ∧ va_X b L xs s s.heap ∧ b < s.heap.size ∧ meth.locks = false ∧ (Jvm.Cond.and given_1 narrow_1).before #[Value.ref b] s = true
/-- what the cells hold at the start, the script beside them -/
def S_0 (L : Nat) (xs : Nat → Int32) : mm_S := fun a k =>
  if a = 1000 then (if k = -1 then (L : Int) else if 0 ≤ k ∧ k < (L : Int) then (xs k.toNat).toInt else 0)
  else if 0 ≤ a ∧ 0 ≤ k then (cc_fin.getD a.toNat (99, 0, [])).2.2.getD k.toNat 0 else 0
theorem S_0_row (L : Nat) (xs : Nat → Int32) {a : Nat} (ha : a < 1000) (k : Nat) : S_0 L xs a k = (cc_fin.getD a (99, 0, [])).2.2.getD k 0 := by
  unfold S_0
  rw [if_neg (by omega), if_pos ⟨by omega, by omega⟩, Int.toNat_natCast, Int.toNat_natCast]
def cc_chk (a : Nat) (c : cc_C) : Bool :=
  decide (c.1 = (mm_kd a).1) && (if c.1 = 0 then decide (c.2.1 = (mm_kd a).2 ∧ c.2.2.length = mm_nf c.2.1 ∧ c.2.1 < 9) && (List.range (mm_nf c.2.1)).all fun k => decide (mm_fk c.2.1 k = 1 → mm_sr c.2.1 k a = c.2.2.getD k 0) && decide (mm_fk c.2.1 k < 4)
    else decide (c.2.2.length = (mm_kd a).2) && (if c.1 = 5 ∨ c.1 = 6 then (List.range c.2.2.length).all fun j => decide (c.2.2.getD j (-1) = mm_ra a j ∧ 0 ≤ mm_ra a j) else true))
theorem cc_fin_chk : ∀ a, a < 91 → cc_chk a (cc_fin.getD a (99, 0, [])) = true := by
  have h : (List.range 91).all (fun a => cc_chk a (cc_fin.getD a (99, 0, []))) = true := by decide +kernel
  exact fun a ha => List.all_eq_true.mp h a (List.mem_range.mpr ha)
theorem cc_fin_small : ∀ c ∈ cc_fin, ∀ x ∈ c.2.2, -1000 < x ∧ x < 1000 := by
  have h : cc_fin.all (fun c => c.2.2.all fun x => decide (-1000 < x ∧ x < 1000)) = true := by decide +kernel
  exact fun c hc x hx => of_decide_eq_true (List.all_eq_true.mp (List.all_eq_true.mp h c hc) x hx)
theorem cc_fin_getD (a k : Nat) : -1000 < (cc_fin.getD a (99, 0, [])).2.2.getD k 0 ∧ (cc_fin.getD a (99, 0, [])).2.2.getD k 0 < 1000 := by
  rw [List.getD_eq_getElem?_getD, List.getD_eq_getElem?_getD]
  cases h : cc_fin[a]? with
  | none => simp
  | some c =>
    show -1000 < (c.2.2[k]?).getD 0 ∧ (c.2.2[k]?).getD 0 < 1000
    cases h2 : c.2.2[k]? with
    | none => exact ⟨by decide, by decide⟩
    | some x => exact cc_fin_small c (List.mem_of_getElem? h) x (List.mem_of_getElem? h2)
theorem S_0_ok {L : Nat} (hL : L ≤ 3584) (xs : Nat → Int32) : mm_sok (S_0 L xs) := by
  have small : ∀ {z : Int}, -1000 < z ∧ z < 1000 → mm_r32 z := fun h => ⟨by omega, by omega⟩
  have key : ∀ a k, mm_r32 (S_0 L xs a k) := by
    intro a k
    unfold S_0
    split
    · split
      · exact ⟨by omega, by omega⟩
      · split
        · exact mm_i32_r _
        · exact ⟨by omega, by omega⟩
    · split
      · exact small (cc_fin_getD _ _)
      · exact ⟨by omega, by omega⟩
  exact fun a k => ⟨fun _ => ⟨by have := (key a k).1; omega, by have := (key a k).2; omega⟩, fun _ => key a k⟩
theorem cc_fin_len : cc_fin.length = 91 := by decide +kernel
/-- the made cells are the layout's -/
theorem S_0_world {σ : Nat → Nat} {P : Nat → ClassId} {dC : Nat → ClassId} {dI : Nat → Nat → Nat} {H : Heap} {L : Nat} {xs : Nat → Int32} (h : va_P (dC, dI) mm_cl (cc_w σ P cc_fin) H) : va_P (dC, dI) mm_cl (mm_ws σ P (S_0 L xs)) H := by
  intro k q hk
  obtain ⟨hl, rfl⟩ := mm_ws_at hk
  have hg : cc_fin[k]? = some (cc_fin.getD k (99, 0, [])) := by
    rw [List.getD_eq_getElem?_getD, List.getElem?_eq_getElem (by rw [cc_fin_len]; exact hl)]; rfl
  have h1 := h k _ (cc_w_get hg)
  have hc := cc_fin_chk k hl
  have hrow : ∀ j : Nat, S_0 L xs (k : Int) (j : Int) = (cc_fin.getD k (99, 0, [])).2.2.getD j 0 := fun j => S_0_row L xs (by omega) j
  generalize cc_fin.getD k (99, 0, []) = c at h1 hc hrow
  unfold cc_chk at hc
  rw [Bool.and_eq_true] at hc
  have hk1 := of_decide_eq_true hc.1
  have hc2 := hc.2
  unfold cc_cell at h1
  unfold mm_cellR
  by_cases h0 : c.1 = 0
  · rw [if_pos h0] at h1 hc2
    rw [if_pos (by rw [← hk1]; exact h0)]
    rw [Bool.and_eq_true] at hc2
    obtain ⟨e1, e2, e3⟩ := of_decide_eq_true hc2.1
    have hall := List.all_eq_true.mp hc2.2
    rw [← e1]
    have e : ((List.range (mm_nf c.2.1)).map fun (j : Nat) => mm_rl σ (mm_gw c.2.1 j k (S_0 L xs k j) (mm_fk c.2.1 j))) = (List.range c.2.2.length).map fun j => mm_rl σ (if cc_isR c.2.1 j then 2 else 0, c.2.2.getD j 0) := by
      rw [e2]
      apply List.map_congr_left
      intro j hj
      have hj2 := hall j hj
      rw [Bool.and_eq_true] at hj2
      have g1 := of_decide_eq_true hj2.1
      have g2 := of_decide_eq_true hj2.2
      rw [hrow j]
      unfold cc_isR
      rcases (show mm_fk c.2.1 j = 0 ∨ mm_fk c.2.1 j = 1 ∨ mm_fk c.2.1 j = 2 ∨ mm_fk c.2.1 j = 3 by omega) with z | z | z | z
      · rw [z]; rfl
      · have := g1 z
        rw [z]
        show mm_rl σ (2, mm_sr c.2.1 j k) = mm_rl σ (2, c.2.2.getD j 0)
        rw [this]
      · rw [z]; rfl
      · rw [z]; rfl
    rw [e]
    exact h1
  · rw [if_neg h0] at h1 hc2
    rw [if_neg (by rw [← hk1]; exact h0)]
    rw [Bool.and_eq_true] at hc2
    have hlen := of_decide_eq_true hc2.1
    by_cases h2 : c.1 = 2
    · rw [if_pos h2] at h1
      rw [if_pos (by rw [← hk1]; exact h2), ← hlen]
      have e : (fun j : Nat => Int64.ofInt (S_0 L xs k j)) = fun j : Nat => Int64.ofInt (c.2.2.getD j 0) := by
        funext j; rw [hrow j]
      rw [e]
      exact h1
    · rw [if_neg h2] at h1
      rw [if_neg (by rw [← hk1]; exact h2)]
      by_cases h5 : c.1 = 5 ∨ c.1 = 6
      · rw [if_pos h5] at h1
        rw [if_pos (by rw [← hk1]; exact h5), ← hlen, ← hk1]
        have hra := hc2.2
        rw [if_pos h5] at hra
        have hall := List.all_eq_true.mp hra
        have e : H[σ k]? = some (vp_cell (P c.1) (c.2.2.length, .inr (.inr (.inr (.inr fun (j : Nat) => if c.2.2.getD j (-1) < 0 then none else some (σ (c.2.2.getD j (-1)).toNat)))))) := h1
        show H[σ k]? = some (vp_cell (P c.1) (c.2.2.length, .inr (.inr (.inr (.inr fun (j : Nat) => some (σ (mm_ra k j).toNat))))))
        rw [e, vp_cell_q, vp_cell_q]
        congr 1
        unfold arrV
        congr 1
        congr 1
        funext j
        have hj := of_decide_eq_true (hall j.val (List.mem_range.mpr j.isLt))
        show va_rf (if c.2.2.getD j.val (-1) < 0 then none else some (σ (c.2.2.getD j.val (-1)).toNat)) = va_rf (some (σ (mm_ra k j.val).toNat))
        rw [if_neg (by rw [hj.1]; omega), hj.1]
      · rw [if_neg h5] at h1
        rw [if_neg (by rw [← hk1]; exact h5), ← hlen, ← hk1]
        have e : (fun j : Nat => Int32.ofInt (S_0 L xs k j)) = fun j : Nat => Int32.ofInt (c.2.2.getD j 0) := by
          funext j; rw [hrow j]
        rw [e]
        exact h1
end
section
/-! The law's start: its classes, the two objects made, then the loop in the small machine. -/
theorem mm_prim {s : State} {args : Array Value} {ty : FieldType} (hp : ∀ k C, (ty = .object C ∨ ty = .array k) → False) (h : (Cond.arrayClass ty).before args s = true) : ∃ cA, ArrOfT s cA ty ∧ va_RA s cA ty := by
  obtain ⟨cA, kA, comp, h1, h2, h3⟩ := Cond.arrayClass_spec h
  refine ⟨cA, fun n z => ⟨fun k h => (by cases h), kA, h2, comp, h3⟩, ?_⟩
  cases ty with
  | object C => exact (hp .int C (Or.inl rfl)).elim
  | array t => exact (hp t "" (Or.inr rfl)).elim
  | _ => exact h1
theorem mm_obj {s : State} {args : Array Value} {C : String} (h : (Cond.arrayOver (.object C)).before args s = true) : ∃ cA, ArrOfT s cA (.object C) ∧ va_RA s cA (.object C) := by
  obtain ⟨comp, c, k, h1, h2, h3, h4, h5⟩ := Cond.arrayOver_spec h
  exact ⟨c, fun n z => ⟨fun k h => (by cases h), k, h3, comp, h4⟩, k, comp, h3, h4, h1, h5⟩
def mm_P6 (a b c d e f : ClassId) : Nat → ClassId
  | 1 => a
  | 2 => b
  | 3 => c
  | 4 => d
  | 5 => e
  | _ => f
theorem mm_Kn {s : State} {args : Array Value} (hts : ∀ w ∈ lw_tbl, w.before args s = true) : ∃ (P : Nat → ClassId) (dC : Nat → ClassId) (dI : Nat → Nat → Nat), va_K (dC, dI) mm_cl (mm_tys P) s := by
  have htsA : ∀ w ∈ wA, w.before args s = true := fun w hw => hts w (wA_in w hw)
  have hkn : ∀ ci, ∃ q : ClassId × (Nat → Nat), ci < 9 → u_Kn s (mm_cn ci) (mm_F ci) (mm_nf ci) q.1 q.2 := by
    intro ci
    by_cases h : ci < 9
    · obtain ⟨cC, iS, h1⟩ := u_known htsA (mm_Fw ci h) (htsA _ (inst_ok ci h))
      exact ⟨(cC, iS), fun _ => h1⟩
    · exact ⟨(0, fun _ => 0), fun q => absurd q h⟩
  obtain ⟨p1, p1h⟩ := mm_prim (ty := .int) (fun _ _ h => by rcases h with h | h <;> cases h) (htsA _ cc_arr.1)
  obtain ⟨p3, p3h⟩ := mm_prim (ty := .byte) (fun _ _ h => by rcases h with h | h <;> cases h) (htsA _ cc_arr.2.1)
  obtain ⟨p2, p2h⟩ := mm_prim (ty := .long) (fun _ _ h => by rcases h with h | h <;> cases h) (htsA _ cc_arr.2.2.1)
  obtain ⟨p4, p4h⟩ := mm_prim (ty := .boolean) (fun _ _ h => by rcases h with h | h <;> cases h) (htsA _ cc_arr.2.2.2)
  obtain ⟨p5, p5h⟩ := mm_obj (hts _ over_ok.1)
  obtain ⟨p6, p6h⟩ := mm_obj (hts _ over_ok.2)
  refine ⟨mm_P6 p1 p2 p3 p4 p5 p6, fun ci => (Classical.choose (hkn ci)).1, fun ci => (Classical.choose (hkn ci)).2, fun c q hq => ?_, fun k q hq => ?_⟩
  · have hc : c < 9 := (List.getElem?_eq_some_iff.mp hq).1
    have e := mm_Fcl c hc
    rw [e] at hq
    cases hq
    exact Classical.choose_spec (hkn c) hc
  · match k with
    | 0 => cases hq; exact p1h
    | 1 => cases hq; exact p2h
    | 2 => cases hq; exact p3h
    | 3 => cases hq; exact p4h
    | 4 => cases hq; exact p5h
    | 5 => cases hq; exact p6h
    | k + 6 => cases hq
theorem start_of (law_run : ∀ (L : Nat) (xs : Nat → Int32), L ≤ 3584 → Rn k_Law_law 16 [(2, 1000), (2, 0), (2, 71), (9, 0)] [] (S_0 L xs) (fun v _ => v = some (0, 1))) {p : Program} {e : Env} {s : State} {m : MethodId} {below : List Frame} {meth : Method} {c : Code} (l : Launch) (hflags : l.flags = flags0) {b L : Nat} {xs : Nat → Int32} (hL : L ≤ 3584) (C0 : lw_At p s m meth c b L xs) : W p l e room_1 s m #[Value.ref b] below meth c s.heap [] 0 0 (lw_Z below #[Value.ref b] s) (entryFrame m ([Value.ref b] : List Value).toArray 4) := by
  obtain ⟨hx, hb, hr, hml, hown, hts, hX, hbl, hlocks, hgv⟩ := C0
  have htsA : ∀ w ∈ wA, w.before #[Value.ref b] s = true := fun w hw => hts w (wA_in w hw)
  obtain ⟨P, dC, dI, hK⟩ := mm_Kn hts
  have hAO1 : va_AO "PagesByLevels$Complex" s := va_AO.of (hts _ over_ok.1)
  have hAO2 : va_AO "PagesByLevels$Sheet" s := va_AO.of (hts _ over_ok.2)
  have hN : ∀ q ∈ mm_ln, va_Nw (mm_nw q) s := fun q hq => va_Nw.of rfl (hts _ (mm_ln_ok q hq))
  have hown' : s.vm.findClass (mm_cn 13) = some m.cls := hown
  let σ0 : Nat → Nat := fun a => if a = 1000 then b else 0
  have hS : va_S (fun q => s.heap.size ≤ q) s.heap s.heap [] := va_S.rf
  have hl0 := mm_lr_ent (σ := σ0) (as := [(2, 1000)]) (n := 4) (by decide)
  rw [lg_entry_eq]
  have key := cc_frame (p := p) (l := l) (e := e) (R := room_1) (s := s) (m := m) (args := #[Value.ref b]) (below := below) (meth := meth) (c := c) (H0 := s.heap) (Q := lw_Z below #[Value.ref b] s) (cc := code) (P := P) (dC := dC) (dI := dI) (B0 := s.heap.size) (own := 13) (N0 := 0) (Z0 := 0) (nL := 4) (fr := 9) (lo := 348) (stop := 16) (cd := cc_kL) ⟨hx, hown', htsA, hK, hAO1, hAO2⟩ hb hml (fun h => absurd rfl h) (fun _ => cc_kL_noput) (fun x hx => List.all_eq_true.mp cc_ekL x hx) ⟨Nat.le_refl _, Nat.le_refl _⟩ (Nat.le_refl _) [(2, 1000), (2, 0), (2, 71), (9, 0)] cc_fin ⟨by decide +kernel, by decide +kernel⟩ 0 σ0 ?_ 400 (fun k _ => cc_met l k) 0 [(2, 1000), (9, 0), (9, 0), (9, 0)] [] [] σ0 _ s.heap [] cc_end_ok hl0 ?_ (fun v h => by cases h) (fun c h => by cases h) (Nat.le_refl _) (Nat.le_refl _) (Nat.le_refl _) (fun _ _ => rfl) (fun k q h => by cases h) ⟨fun i j p q h => (by cases h), fun k q h => (by cases h)⟩ hS
  · exact key
  · intro σ pcE lsr H1 locs1 hend hag hlr hP1 hD1 hS1
    have hpc : pcE = 16 := by
      rcases hend with h | ⟨x, hm, _, hi⟩
      · exact h.1
      · exact absurd hi (cc_kL_noret x hm)
    subst hpc
    have hσ : σ 1000 = b := hag 1000 (Or.inr rfl)
    have hap : mm_ap s.heap.size σ := by
      refine ⟨fun i j hi hj h => ?_, fun i hi => ?_⟩
      · have gi : cc_fin[i]? = some (cc_fin[i]'(by rw [cc_fin_len]; exact hi)) := List.getElem?_eq_getElem _
        have gj : cc_fin[j]? = some (cc_fin[j]'(by rw [cc_fin_len]; exact hj)) := List.getElem?_eq_getElem _
        exact hD1.1 i j _ _ (cc_w_get gi) (cc_w_get gj) h
      · have gi : cc_fin[i]? = some (cc_fin[i]'(by rw [cc_fin_len]; exact hi)) := List.getElem?_eq_getElem _
        exact hD1.2 i _ (cc_w_get gi)
    have hW := S_0_world (L := L) (xs := xs) hP1
    obtain ⟨n, v, S', h1, rfl⟩ := law_run L xs hL
    refine W.widen (k := 600000) (n := 7302250) (by decide +kernel) (by decide +kernel) ?_
    refine mm_frame (st := []) (cd := k_Law_law) (fr := 9) (lo := 348) (own := 13) (H0 := s.heap) (B0 := s.heap.size) (σ := σ) (P := P) (dC := dC) (dI := dI) (nL := 4) ⟨hx, hown', htsA, hK, hN, hap⟩ hb hml ek_Law ⟨Nat.le_refl _, Nat.le_refl _⟩ ⟨Nat.le_refl _, Nat.le_refl _⟩ (some (0, 1)) S' ?_ n (fun k _ => mm_met l hap k) 16 _ (S_0 L xs) lsr H1 locs1 h1 hlr ?_ (fun w hw => by cases hw) (S_0_ok hL xs) ?_ hW hS1
    · intro x pc st lsr H2 locs2 hm hpc hret hP2 hS2
      obtain ⟨hd, hlen, hok⟩ := mm_eok_inv (ek_Law x hm)
      rw [hpc] at hd
      rcases mm_ret_inv hret with ⟨hi, y, rfl, h, h01⟩ | ⟨hi, y, rfl, h⟩ | ⟨hi, y, rfl, h⟩ | ⟨hi, rfl, h⟩
      · cases h
        rw [hi] at hd
        have hl1 : x.2.2.1 = 1 := by
          rcases hlen with h | h
          · rw [hi] at h; cases h
          · rw [hi] at h; exact h
        rw [hl1] at hd
        exact va_forget hS2.2.2 (lw_ret hx hb hr hlocks hd)
      · cases h
      · cases h
      · cases h
    · intro w hw
      have : w = (2, 1000) ∨ w = (2, 0) ∨ w = (2, 71) ∨ w = (9, 0) := by simpa using hw
      rcases this with rfl | rfl | rfl | rfl <;> exact ⟨fun h => (by cases h), fun h => (by cases h)⟩
    · intro _
      refine ⟨b, L, xs, hX, hbl, hbl, hσ, ?_, by omega, fun j hj => ?_⟩
      · unfold S_0
        rw [if_pos rfl, if_pos rfl]
      · unfold S_0
        rw [if_pos rfl, if_neg (by omega), if_pos ⟨by omega, by omega⟩, Int.toNat_natCast]
        exact Int32.ofInt_toInt _
  · intro v hv h3
    have : v = (2, 1000) ∨ v = (9, 0) := by simpa using hv
    rcases this with rfl | rfl
    · exact fun _ => Or.inr rfl
    · dsimp only at h3; omega
end
section
/-! Complexes as whole functions: how many cells, degrees, levels, other levels, entries. -/
abbrev CX : Type := Int × (Int → Int) × (Int → Int) × (Int → Int) × (Int → Int → Int)
def Xn (K : CX) : Int := K.1
def Xd (K : CX) : Int → Int := K.2.1
def X0 (K : CX) : Int → Int := K.2.2.1
def X1 (K : CX) : Int → Int := K.2.2.2.1
def Xe (K : CX) : Int → Int → Int := K.2.2.2.2
def Xl (K : CX) (w x : Int) : Int := if w = 0 then X0 K x else X1 K x
def Xmay (K : CX) (x y : Int) : Prop := (0 ≤ x ∧ x < Xn K) ∧ (0 ≤ y ∧ y < Xn K) ∧ Xd K y = Xd K x - 1 ∧ X0 K y ≤ X0 K x ∧ X1 K y ≤ X1 K x
def Nz (K : CX) : Prop := (0 ≤ Xn K ∧ Xn K ≤ 12) ∧ (∀ x, ¬ (0 ≤ x ∧ x < Xn K) → Xd K x = 0 ∧ X0 K x = 0 ∧ X1 K x = 0) ∧ ∀ x y, ¬ ((0 ≤ x ∧ x < Xn K) ∧ (0 ≤ y ∧ y < Xn K)) → Xe K x y = 0
def Rg (K : CX) : Prop := (∀ x, (0 ≤ Xd K x ∧ Xd K x ≤ 4) ∧ (0 ≤ X0 K x ∧ X0 K x ≤ 9) ∧ (0 ≤ X1 K x ∧ X1 K x ≤ 9)) ∧ ∀ x y, -9 ≤ Xe K x y ∧ Xe K x y ≤ 9
def Vx (K : CX) : Prop := Nz K ∧ Rg K ∧ ∀ x y, Xe K x y ≠ 0 → Xmay K x y
theorem CXext {K K' : CX} (h1 : Xn K = Xn K') (h2 : ∀ x, Xd K x = Xd K' x) (h3 : ∀ x, X0 K x = X0 K' x) (h4 : ∀ x, X1 K x = X1 K' x) (h5 : ∀ x y, Xe K x y = Xe K' x y) : K = K' := by
  obtain ⟨a, b, c, d, e⟩ := K
  obtain ⟨a', b', c', d', e'⟩ := K'
  have q1 : a = a' := h1
  have q2 : b = b' := funext h2
  have q3 : c = c' := funext h3
  have q4 : d = d' := funext h4
  have q5 : e = e' := funext fun x => funext fun y => h5 x y
  rw [q1, q2, q3, q4, q5]
/-- a complex of the class, at its cell; one of the other's, by its number -/
def MC (S : mm_S) (a : Int) (K : CX) : Prop := Nz K ∧ S a 0 = Xn K ∧ (∀ x, 0 ≤ x → x < Xn K → S (a + 1) x = Xd K x ∧ S (a + 2) x = X0 K x ∧ S (a + 3) x = X1 K x) ∧ ∀ x y, 0 ≤ x → x < Xn K → 0 ≤ y → y < Xn K → S (a + 4) (x * 12 + y) = Xe K x y
def MR (S : mm_S) (c : Int) (K : CX) : Prop := Nz K ∧ S 72 c = Xn K ∧ (∀ x, 0 ≤ x → x < Xn K → S 73 (12 * c + x) = Xd K x ∧ S 74 (12 * (2 * c) + x) = X0 K x ∧ S 74 (12 * (2 * c + 1) + x) = X1 K x) ∧ ∀ x y, 0 ≤ x → x < 12 → 0 ≤ y → y < 12 → S 75 (144 * c + 12 * x + y) = Xe K x y
theorem mm_unq {S : mm_S} {a k x b : Int} (h : b ≠ a) : mm_up S a k x b = S b := by
  funext j
  unfold mm_up
  exact if_neg fun q => h q.1
theorem mm_ua {S : mm_S} {a k x : Int} : mm_up S a k x a k = x := if_pos ⟨rfl, rfl⟩
theorem mm_uk {S : mm_S} {a k x j : Int} (h : j ≠ k) : mm_up S a k x a j = S a j := if_neg fun q => h q.2
theorem mm_cpy_ne {S : mm_S} {a sp b dp n c : Int} (h : c ≠ b) : mm_cpy S a sp b dp n c = S c := by
  funext j
  unfold mm_cpy
  exact if_neg fun q => h q.1
theorem mm_cpy_in {S : mm_S} {a sp b dp n j : Int} (h1 : dp ≤ j) (h2 : j < dp + n) : mm_cpy S a sp b dp n b j = S a (sp + (j - dp)) := if_pos ⟨rfl, h1, h2⟩
theorem mm_cpy_out {S : mm_S} {a sp b dp n j : Int} (h : ¬ (dp ≤ j ∧ j < dp + n)) : mm_cpy S a sp b dp n b j = S b j := if_neg fun q => h q.2
theorem MC.fr {S S' : mm_S} {a : Int} {K : CX} (h : MC S a K) (hf : ∀ b, a ≤ b → b ≤ a + 4 → S' b = S b) : MC S' a K := by
  obtain ⟨h1, h2, h3, h4⟩ := h
  refine ⟨h1, by rw [hf a (by omega) (by omega)]; exact h2, fun x p q => ?_, fun x y p q r t => ?_⟩
  · rw [hf (a + 1) (by omega) (by omega), hf (a + 2) (by omega) (by omega), hf (a + 3) (by omega) (by omega)]
    exact h3 x p q
  · rw [hf (a + 4) (by omega) (by omega)]
    exact h4 x y p q r t
theorem MC.up {S : mm_S} {a b k x : Int} {K : CX} (h : MC S a K) (hb : ¬ (a ≤ b ∧ b ≤ a + 4)) : MC (mm_up S b k x) a K := h.fr fun c h1 h2 => mm_unq (fun q => hb ⟨by omega, by omega⟩)
theorem MC.n {S : mm_S} {a : Int} {K : CX} (h : MC S a K) : S a 0 = Xn K := h.2.1
theorem MC.nr {S : mm_S} {a : Int} {K : CX} (h : MC S a K) : 0 ≤ Xn K ∧ Xn K ≤ 12 := h.1.1
theorem MC.d {S : mm_S} {a : Int} {K : CX} (h : MC S a K) {x : Int} (hx : 0 ≤ x ∧ x < Xn K) : S (a + 1) x = Xd K x := (h.2.2.1 x hx.1 hx.2).1
theorem MC.l0 {S : mm_S} {a : Int} {K : CX} (h : MC S a K) {x : Int} (hx : 0 ≤ x ∧ x < Xn K) : S (a + 2) x = X0 K x := (h.2.2.1 x hx.1 hx.2).2.1
theorem MC.l1 {S : mm_S} {a : Int} {K : CX} (h : MC S a K) {x : Int} (hx : 0 ≤ x ∧ x < Xn K) : S (a + 3) x = X1 K x := (h.2.2.1 x hx.1 hx.2).2.2
theorem MC.e {S : mm_S} {a : Int} {K : CX} (h : MC S a K) {x y : Int} (hx : 0 ≤ x ∧ x < Xn K) (hy : 0 ≤ y ∧ y < Xn K) : S (a + 4) (x * 12 + y) = Xe K x y := h.2.2.2 x y hx.1 hx.2 hy.1 hy.2
theorem Nz.d {K : CX} (h : Nz K) {x : Int} (hx : ¬ (0 ≤ x ∧ x < Xn K)) : Xd K x = 0 := (h.2.1 x hx).1
theorem Nz.l {K : CX} (h : Nz K) {w x : Int} (hx : ¬ (0 ≤ x ∧ x < Xn K)) : Xl K w x = 0 := by
  unfold Xl
  rw [(h.2.1 x hx).2.1, (h.2.1 x hx).2.2]
  exact ite_self 0
theorem Nz.e {K : CX} (h : Nz K) {x y : Int} (hx : ¬ ((0 ≤ x ∧ x < Xn K) ∧ (0 ≤ y ∧ y < Xn K))) : Xe K x y = 0 := h.2.2 x y hx
theorem Xl_0 (K : CX) (x : Int) : Xl K 0 x = X0 K x := rfl
theorem Xl_n (K : CX) {w : Int} (h : ¬ w = 0) (x : Int) : Xl K w x = X1 K x := if_neg h
theorem Rg.d {K : CX} (h : Rg K) (x : Int) : 0 ≤ Xd K x ∧ Xd K x ≤ 4 := (h.1 x).1
theorem Rg.l {K : CX} (h : Rg K) (w x : Int) : 0 ≤ Xl K w x ∧ Xl K w x ≤ 9 := by
  unfold Xl
  split
  · exact (h.1 x).2.1
  · exact (h.1 x).2.2
theorem Rg.e {K : CX} (h : Rg K) (x y : Int) : -9 ≤ Xe K x y ∧ Xe K x y ≤ 9 := h.2 x y
/-- no cell -/
def Xz : CX := (0, fun _ => 0, fun _ => 0, fun _ => 0, fun _ _ => 0)
/-- one entry other -/
def Xset (K : CX) (x y v : Int) : CX := (Xn K, Xd K, X0 K, X1 K, fun i j => if ((0 ≤ x ∧ x < Xn K) ∧ (0 ≤ y ∧ y < Xn K)) ∧ i = x ∧ j = y then v else Xe K i j)
/-- one cell more -/
def Xadd (K : CX) (d l o : Int) : CX := (Xn K + 1, fun i => if i = Xn K then d else Xd K i, fun i => if i = Xn K then l else X0 K i, fun i => if i = Xn K then o else X1 K i, Xe K)
theorem Xz_Nz : Nz Xz := ⟨⟨by decide, by decide⟩, fun _ _ => ⟨rfl, rfl, rfl⟩, fun _ _ _ => rfl⟩
theorem Xset_n (K : CX) (x y v : Int) : Xn (Xset K x y v) = Xn K := rfl
theorem Xset_d (K : CX) (x y v : Int) : Xd (Xset K x y v) = Xd K := rfl
theorem Xset_0 (K : CX) (x y v : Int) : X0 (Xset K x y v) = X0 K := rfl
theorem Xset_1 (K : CX) (x y v : Int) : X1 (Xset K x y v) = X1 K := rfl
theorem Xset_l (K : CX) (x y v w i : Int) : Xl (Xset K x y v) w i = Xl K w i := rfl
theorem Xset_e (K : CX) (x y v i j : Int) : Xe (Xset K x y v) i j = if ((0 ≤ x ∧ x < Xn K) ∧ (0 ≤ y ∧ y < Xn K)) ∧ i = x ∧ j = y then v else Xe K i j := rfl
theorem Xset_Nz {K : CX} (h : Nz K) (x y v : Int) : Nz (Xset K x y v) := ⟨h.1, h.2.1, fun i j hij => by
  rw [Xset_n] at hij
  rw [Xset_e, if_neg fun q => hij ⟨by rw [q.2.1]; exact q.1.1, by rw [q.2.2]; exact q.1.2⟩]
  exact h.e hij⟩
theorem Xset_out {K : CX} {x y : Int} (h : ¬ ((0 ≤ x ∧ x < Xn K) ∧ (0 ≤ y ∧ y < Xn K))) (v : Int) : Xset K x y v = K := CXext rfl (fun _ => rfl) (fun _ => rfl) (fun _ => rfl) fun i j => by rw [Xset_e, if_neg fun q => h q.1]
theorem Xset_Rg {K : CX} (h : Rg K) (x y : Int) {v : Int} (hv : -9 ≤ v ∧ v ≤ 9) : Rg (Xset K x y v) := ⟨h.1, fun i j => by
  rw [Xset_e]
  split
  · exact hv
  · exact h.2 i j⟩
theorem Xset_may {K : CX} {x y v i j : Int} : Xmay (Xset K x y v) i j ↔ Xmay K i j := Iff.rfl
theorem Xset_Vx {K : CX} (h : Vx K) {x y v : Int} (hv : -9 ≤ v ∧ v ≤ 9) (hm : v = 0 ∨ Xmay K x y) : Vx (Xset K x y v) := ⟨Xset_Nz h.1 x y v, Xset_Rg h.2.1 x y hv, fun i j hne => by
  rw [Xset_e] at hne
  rw [Xset_may]
  split at hne
  · rename_i q
    rw [q.2.1, q.2.2]
    exact hm.resolve_left hne
  · exact h.2.2 i j hne⟩
theorem Xset_same {K : CX} (h : Nz K) (x y v : Int) : Xset (Xset K x y v) x y (Xe K x y) = K := CXext rfl (fun _ => rfl) (fun _ => rfl) (fun _ => rfl) fun i j => by
  rw [Xset_e, Xset_e]
  split
  · rename_i q; rw [q.2.1, q.2.2]
  · rename_i q; exact if_neg q
theorem Xadd_n (K : CX) (d l o : Int) : Xn (Xadd K d l o) = Xn K + 1 := rfl
theorem Xadd_d (K : CX) (d l o i : Int) : Xd (Xadd K d l o) i = if i = Xn K then d else Xd K i := rfl
theorem Xadd_0 (K : CX) (d l o i : Int) : X0 (Xadd K d l o) i = if i = Xn K then l else X0 K i := rfl
theorem Xadd_1 (K : CX) (d l o i : Int) : X1 (Xadd K d l o) i = if i = Xn K then o else X1 K i := rfl
theorem Xadd_e (K : CX) (d l o i j : Int) : Xe (Xadd K d l o) i j = Xe K i j := rfl
theorem Xadd_Nz {K : CX} (h : Nz K) (d l o : Int) (hn : Xn K < 12) : Nz (Xadd K d l o) := by
  have := h.1
  refine ⟨⟨by rw [Xadd_n]; omega, by rw [Xadd_n]; omega⟩, fun x hx => ?_, fun x y hx => ?_⟩
  · rw [Xadd_n] at hx
    rw [Xadd_d, Xadd_0, Xadd_1, if_neg (by omega), if_neg (by omega), if_neg (by omega)]
    exact h.2.1 x (by omega)
  · rw [Xadd_n] at hx
    rw [Xadd_e]
    exact h.e (by omega)
theorem Xadd_Rg {K : CX} (h : Rg K) {d l o : Int} (hd : 0 ≤ d ∧ d ≤ 4) (hl : 0 ≤ l ∧ l ≤ 9) (ho : 0 ≤ o ∧ o ≤ 9) : Rg (Xadd K d l o) := by
  refine ⟨fun x => ?_, h.2⟩
  have := h.1 x
  rw [Xadd_d, Xadd_0, Xadd_1]
  split
  · exact ⟨hd, hl, ho⟩
  · exact this
theorem Xadd_Vx {K : CX} (h : Vx K) {d l o : Int} (hn : Xn K < 12) (hd : 0 ≤ d ∧ d ≤ 4) (hl : 0 ≤ l ∧ l ≤ 9) (ho : 0 ≤ o ∧ o ≤ 9) : Vx (Xadd K d l o) := by
  refine ⟨Xadd_Nz h.1 d l o hn, Xadd_Rg h.2.1 hd hl ho, fun x y hne => ?_⟩
  rw [Xadd_e] at hne
  have := h.2.2 x y hne
  unfold Xmay at this ⊢
  rw [Xadd_n, Xadd_d, Xadd_d, Xadd_0, Xadd_0, Xadd_1, Xadd_1, if_neg (by omega), if_neg (by omega), if_neg (by omega), if_neg (by omega), if_neg (by omega), if_neg (by omega)]
  omega
theorem z_09 : ((0 : Int) ≤ 0 ∧ (0 : Int) ≤ 4) ∧ ((0 : Int) ≤ 0 ∧ (0 : Int) ≤ 9) ∧ (-9 : Int) ≤ 0 := by decide
theorem Xz_Vx : Vx Xz := ⟨Xz_Nz, ⟨fun _ => ⟨z_09.1, z_09.2.1, z_09.2.1⟩, fun _ _ => ⟨z_09.2.2, z_09.2.1.2⟩⟩, fun _ _ h => absurd rfl h⟩
/-! Sums, greatest ones, first ones. -/
def smN (f : Int → Int) : Nat → Int
  | 0 => 0
  | k + 1 => smN f k + f k
def sm (f : Int → Int) (n : Int) : Int := smN f n.toNat
theorem sm_0 (f : Int → Int) : sm f 0 = 0 := rfl
theorem sm_s (f : Int → Int) {n : Int} (h : 0 ≤ n) : sm f (n + 1) = sm f n + f n := by
  obtain ⟨k, rfl⟩ := Int.eq_ofNat_of_zero_le h
  rfl
theorem smN_b {f : Int → Int} {lo hi : Int} : ∀ (k : Nat), (∀ i : Nat, i < k → lo ≤ f i ∧ f i ≤ hi) → lo * k ≤ smN f k ∧ smN f k ≤ hi * k
  | 0, _ => by simp [smN]
  | k + 1, h => by
    have h1 := smN_b k fun i hi => h i (by omega)
    have h2 := h k (by omega)
    have e1 : lo * ((k + 1 : Nat) : Int) = lo * k + lo := by rw [Int.natCast_add, Int.mul_add]; simp
    have e2 : hi * ((k + 1 : Nat) : Int) = hi * k + hi := by rw [Int.natCast_add, Int.mul_add]; simp
    rw [e1, e2]
    show _ ≤ smN f k + f k ∧ smN f k + f k ≤ _
    omega
theorem sm_b {f : Int → Int} {lo hi n : Int} (hn : 0 ≤ n) (h : ∀ i, 0 ≤ i → i < n → lo ≤ f i ∧ f i ≤ hi) : lo * n ≤ sm f n ∧ sm f n ≤ hi * n := by
  obtain ⟨k, rfl⟩ := Int.eq_ofNat_of_zero_le hn
  exact smN_b k fun i hi => h i (by omega) (by omega)
theorem smN_congr {f g : Int → Int} : ∀ (k : Nat), (∀ i : Nat, i < k → f i = g i) → smN f k = smN g k
  | 0, _ => rfl
  | k + 1, h => by
    show smN f k + f k = smN g k + g k
    rw [smN_congr k fun i hi => h i (by omega), h k (by omega)]
theorem sm_congr {f g : Int → Int} {n : Int} (h : ∀ i, 0 ≤ i → i < n → f i = g i) : sm f n = sm g n := smN_congr _ fun i hi => h i (by omega) (by omega)
theorem smN_z {f : Int → Int} : ∀ (k : Nat), (∀ i : Nat, i < k → f i = 0) → smN f k = 0
  | 0, _ => rfl
  | k + 1, h => by
    show smN f k + f k = 0
    rw [smN_z k fun i hi => h i (by omega), h k (by omega)]; rfl
theorem sm_z {f : Int → Int} {n : Int} (h : ∀ i, 0 ≤ i → i < n → f i = 0) : sm f n = 0 := smN_z _ fun i hi => h i (by omega) (by omega)
def mxN (f : Int → Int) : Nat → Int
  | 0 => 0
  | k + 1 => max (mxN f k) (f k)
def mx (f : Int → Int) (n : Int) : Int := mxN f n.toNat
theorem mx_0 (f : Int → Int) : mx f 0 = 0 := rfl
theorem mx_s (f : Int → Int) {n : Int} (h : 0 ≤ n) : mx f (n + 1) = max (mx f n) (f n) := by
  obtain ⟨k, rfl⟩ := Int.eq_ofNat_of_zero_le h
  rfl
theorem mxN_b {f : Int → Int} {hi : Int} (h0 : 0 ≤ hi) : ∀ (k : Nat), (∀ i : Nat, i < k → f i ≤ hi) → 0 ≤ mxN f k ∧ mxN f k ≤ hi
  | 0, _ => ⟨Int.le_refl 0, h0⟩
  | k + 1, h => by
    have h1 := mxN_b h0 k fun i hi => h i (by omega)
    have h2 := h k (by omega)
    show 0 ≤ max (mxN f k) (f k) ∧ max (mxN f k) (f k) ≤ hi
    omega
theorem mx_b {f : Int → Int} {hi n : Int} (h0 : 0 ≤ hi) (h : ∀ i, 0 ≤ i → i < n → f i ≤ hi) : 0 ≤ mx f n ∧ mx f n ≤ hi := mxN_b h0 _ fun i hi => h i (by omega) (by omega)
theorem mxN_le {f : Int → Int} {hi : Int} : ∀ (k : Nat), (mxN f k ≤ hi ↔ 0 ≤ hi ∧ ∀ i : Nat, i < k → f i ≤ hi)
  | 0 => by
    show (0 : Int) ≤ hi ↔ _
    exact ⟨fun h => ⟨h, fun i hi => absurd hi (Nat.not_lt_zero i)⟩, fun h => h.1⟩
  | k + 1 => by
    have ih := mxN_le (f := f) (hi := hi) k
    show max (mxN f k) (f k) ≤ hi ↔ _
    constructor
    · intro h
      have h1 : mxN f k ≤ hi := by omega
      obtain ⟨a, b⟩ := ih.mp h1
      refine ⟨a, fun i hi' => ?_⟩
      by_cases e : i = k
      · rw [e]; omega
      · exact b i (by omega)
    · intro ⟨a, b⟩
      have h1 := ih.mpr ⟨a, fun i hi' => b i (by omega)⟩
      have h2 := b k (by omega)
      omega
theorem mx_le {f : Int → Int} {hi n : Int} : mx f n ≤ hi ↔ 0 ≤ hi ∧ ∀ i, 0 ≤ i → i < n → f i ≤ hi := by
  unfold mx
  rw [mxN_le]
  constructor
  · intro ⟨a, b⟩
    refine ⟨a, fun i h0 h1 => ?_⟩
    have := b i.toNat (by omega)
    rw [Int.toNat_of_nonneg h0] at this
    exact this
  · intro ⟨a, b⟩
    exact ⟨a, fun i hi' => b i (by omega) (by omega)⟩
/-- the first value that isn't 0 -/
def frN (g : Int → Int) : Nat → Int → Int
  | 0, _ => 0
  | k + 1, i => if g i ≠ 0 then g i else frN g k (i + 1)
def fr (g : Int → Int) (i n : Int) : Int := frN g (n - i).toNat i
theorem fr_e (g : Int → Int) {i n : Int} (h : n ≤ i) : fr g i n = 0 := by
  unfold fr
  rw [show (n - i).toNat = 0 by omega]; rfl
theorem fr_s (g : Int → Int) {i n : Int} (h : i < n) : fr g i n = if g i ≠ 0 then g i else fr g (i + 1) n := by
  unfold fr
  rw [show (n - i).toNat = (n - (i + 1)).toNat + 1 by omega]; rfl
theorem fr_y (g : Int → Int) {i n : Int} (h : i < n) (hg : g i ≠ 0) : fr g i n = g i := by rw [fr_s g h, if_pos hg]
theorem fr_n (g : Int → Int) {i n : Int} (h : i < n) (hg : g i = 0) : fr g i n = fr g (i + 1) n := by rw [fr_s g h, if_neg (fun q => q hg)]
theorem frN_congr {g g' : Int → Int} : ∀ (k : Nat) (i : Int), (∀ j, i ≤ j → j < i + k → g j = g' j) → frN g k i = frN g' k i
  | 0, _, _ => rfl
  | k + 1, i, h => by
    show (if g i ≠ 0 then g i else frN g k (i + 1)) = if g' i ≠ 0 then g' i else frN g' k (i + 1)
    rw [h i (by omega) (by omega), frN_congr k (i + 1) fun j h1 h2 => h j (by omega) (by omega)]
theorem fr_congr {g g' : Int → Int} {i n : Int} (h : ∀ j, i ≤ j → j < n → g j = g' j) : fr g i n = fr g' i n := frN_congr _ _ fun j h1 h2 => h j h1 (by omega)
theorem frN_b {g : Int → Int} {lo hi : Int} (h0 : lo ≤ 0 ∧ 0 ≤ hi) : ∀ (k : Nat) (i : Int), (∀ j, i ≤ j → j < i + k → lo ≤ g j ∧ g j ≤ hi) → lo ≤ frN g k i ∧ frN g k i ≤ hi
  | 0, _, _ => h0
  | k + 1, i, h => by
    show lo ≤ (if g i ≠ 0 then g i else frN g k (i + 1)) ∧ (if g i ≠ 0 then g i else frN g k (i + 1)) ≤ hi
    split
    · exact h i (by omega) (by omega)
    · exact frN_b h0 k (i + 1) fun j h1 h2 => h j (by omega) (by omega)
theorem fr_b {g : Int → Int} {lo hi i n : Int} (h0 : lo ≤ 0 ∧ 0 ≤ hi) (h : ∀ j, i ≤ j → j < n → lo ≤ g j ∧ g j ≤ hi) : lo ≤ fr g i n ∧ fr g i n ≤ hi := frN_b h0 _ _ fun j h1 h2 => h j h1 (by omega)
theorem frN_z {g : Int → Int} : ∀ (k : Nat) (i : Int), frN g k i = 0 ↔ ∀ j, i ≤ j → j < i + k → g j = 0
  | 0, i => ⟨fun _ j h1 h2 => by omega, fun _ => rfl⟩
  | k + 1, i => by
    show (if g i ≠ 0 then g i else frN g k (i + 1)) = 0 ↔ _
    have ih := frN_z (g := g) k (i + 1)
    constructor
    · intro h j h1 h2
      split at h
      · rename_i q; exact absurd h q
      · rename_i q
        by_cases e : j = i
        · rw [e]; exact Classical.not_not.mp q
        · exact ih.mp h j (by omega) (by omega)
    · intro h
      rw [if_neg (fun q => q (h i (by omega) (by omega)))]
      exact ih.mpr fun j h1 h2 => h j (by omega) (by omega)
theorem fr_z {g : Int → Int} {i n : Int} : fr g i n = 0 ↔ ∀ j, i ≤ j → j < n → g j = 0 := by
  unfold fr
  rw [frN_z]
  constructor
  · intro h j h1 h2; exact h j h1 (by omega)
  · intro h j h1 h2; exact h j h1 (by omega)
/-- the edge of an edge -/
def Xdd (K : CX) (x y : Int) : Int := sm (fun k => Xe K x k * Xe K k y) (Xn K)
def Xfbr (K : CX) (x y : Int) : Int := if Xdd K x y ≠ 0 then 1 + 16 * x + y else 0
def Xfb (K : CX) : Int := fr (fun x => fr (Xfbr K x) 0 (Xn K)) 0 (Xn K)
theorem pr81 {a b : Int} (ha : -9 ≤ a ∧ a ≤ 9) (hb : -9 ≤ b ∧ b ≤ 9) : -81 ≤ a * b ∧ a * b ≤ 81 := by
  have h : ∀ k : Nat, k < 19 → ∀ b : Int, -9 ≤ b ∧ b ≤ 9 → -81 ≤ ((k : Int) - 9) * b ∧ ((k : Int) - 9) * b ≤ 81 := by
    intro k hk b hb
    have : k = 0 ∨ k = 1 ∨ k = 2 ∨ k = 3 ∨ k = 4 ∨ k = 5 ∨ k = 6 ∨ k = 7 ∨ k = 8 ∨ k = 9 ∨ k = 10 ∨ k = 11 ∨ k = 12 ∨ k = 13 ∨ k = 14 ∨ k = 15 ∨ k = 16 ∨ k = 17 ∨ k = 18 := by omega
    rcases this with rfl | rfl | rfl | rfl | rfl | rfl | rfl | rfl | rfl | rfl | rfl | rfl | rfl | rfl | rfl | rfl | rfl | rfl | rfl <;> omega
  have := h (a + 9).toNat (by omega) b hb
  rw [show (((a + 9).toNat : Nat) : Int) - 9 = a by omega] at this
  exact this
theorem Xdd_part {K : CX} (h : Rg K) (x y : Int) {i : Int} (h0 : 0 ≤ i) (h1 : i ≤ 12) : -1000 < sm (fun k => Xe K x k * Xe K k y) i ∧ sm (fun k => Xe K x k * Xe K k y) i < 1000 := by
  have := sm_b (f := fun k => Xe K x k * Xe K k y) (lo := -81) (hi := 81) h0 fun k _ _ => pr81 (h.e x k) (h.e k y)
  omega
theorem Xdd_out {K : CX} (h : Nz K) {x y : Int} (hx : ¬ ((0 ≤ x ∧ x < Xn K) ∧ (0 ≤ y ∧ y < Xn K))) : Xdd K x y = 0 := sm_z fun k h0 h1 => by
  by_cases hy : 0 ≤ x ∧ x < Xn K
  · rw [h.e (x := k) (y := y) (fun q => hx ⟨hy, q.2⟩), Int.mul_zero]
  · rw [h.e (x := x) (y := k) (fun q => hy q.1), Int.zero_mul]
theorem Xdd_may {K : CX} (h : Vx K) {x y : Int} (hd : Xd K y ≠ Xd K x - 2) : Xdd K x y = 0 := sm_z fun k h0 h1 => by
  by_cases h1 : Xe K x k = 0
  · rw [h1, Int.zero_mul]
  · by_cases h2 : Xe K k y = 0
    · rw [h2, Int.mul_zero]
    · have a := (h.2.2 x k h1).2.2.1
      have b := (h.2.2 k y h2).2.2.1
      omega
theorem Xfb_r {K : CX} (h : Nz K) : 0 ≤ Xfb K ∧ Xfb K ≤ 188 := by
  have := h.1
  refine fr_b ⟨by decide, by decide⟩ fun x hx0 hx1 => fr_b ⟨by decide, by decide⟩ fun y hy0 hy1 => ?_
  unfold Xfbr
  split <;> omega
theorem Xfb_z {K : CX} (h : Nz K) : Xfb K = 0 ↔ ∀ x y, Xdd K x y = 0 := by
  unfold Xfb
  rw [fr_z]
  constructor
  · intro q x y
    by_cases hx : (0 ≤ x ∧ x < Xn K) ∧ (0 ≤ y ∧ y < Xn K)
    · have := fr_z.mp (q x hx.1.1 hx.1.2) y hx.2.1 hx.2.2
      unfold Xfbr at this
      by_cases e : Xdd K x y = 0
      · exact e
      · rw [if_pos e] at this; omega
    · exact Xdd_out h hx
  · intro q x h1 h2
    rw [fr_z]
    intro y h3 h4
    unfold Xfbr
    rw [if_neg (fun e => e (q x y))]
end
section
/-! Small methods of the library, and rows read and written with care. -/
theorem R_alen {cd : List mm_E} {pc len r2 : Nat} {r3 : Int} {ls st : List mm_V} {S : mm_S} {Q : Option mm_V → mm_S → Prop} {a : Int} {n t nx : Nat} (hf : mm_find cd pc = some (pc, .arraylength, len, 0, r2, r3)) (hn : pc + len = nx) (ha : 0 ≤ a) (hk : mm_kd a.toNat = (t, n)) (ht : 0 < t ∧ t < 7) (k : Rn cd nx ls ((0, (n : Int)) :: st) S Q) : Rn cd pc ls ((2, a) :: st) S Q := by
  subst hn
  refine Rn.op _ hf ?_ k
  show (if 0 ≤ a ∧ 0 < (mm_kd a.toNat).1 ∧ (mm_kd a.toNat).1 < 7 then some (pc + len, (0, ((mm_kd a.toNat).2 : Int)) :: st, S) else none) = _
  rw [hk, if_pos ⟨ha, ht.1, ht.2⟩]
theorem R_cv {cd : List mm_E} {pc : Nat} {ls st : List mm_V} {S : mm_S} {Q : Option mm_V → mm_S → Prop} {t : Nat} {v w : Int} (h : v = w) (k : Rn cd pc ls ((t, w) :: st) S Q) : Rn cd pc ls ((t, v) :: st) S Q := by
  subst h; exact k
theorem R_S {cd : List mm_E} {pc : Nat} {ls st : List mm_V} {S S' : mm_S} {Q : Option mm_V → mm_S → Prop} (h : S = S') (k : Rn cd pc ls st S' Q) : Rn cd pc ls st S Q := by
  subst h; exact k
theorem mm_xs {x y : Int} (hy : 0 ≤ y ∧ y < 2147483648) (hx : mm_r32 x) : (Int32.ofInt x ^^^ Int32.ofInt y).toInt < 0 ↔ x < 0 := by
  have e : ∀ z : Int32, z.toInt < 0 ↔ z.toBitVec.msb = true := fun z => by
    rw [BitVec.msb_eq_toInt]; exact decide_eq_true_iff.symm
  rw [e, Int32.toBitVec_xor, BitVec.msb_xor]
  have h1 : (Int32.ofInt x).toBitVec.msb = true ↔ x < 0 := by rw [← e, Int32.toInt_ofInt_of_le hx.1 hx.2]
  have h2 : (Int32.ofInt y).toBitVec.msb = false := by
    have : ¬ (Int32.ofInt y).toBitVec.msb = true := by rw [← e, Int32.toInt_ofInt_of_le (by omega) hy.2]; omega
    simpa using this
  rw [h2, Bool.xor_false]
  exact h1
theorem fm_c {x y : Int} (hy : 0 < y) : (0 ≤ x → Int.tmod x y = x % y) ∧ (x < 0 → -y < Int.tmod x y ∧ Int.tmod x y ≤ 0 ∧ (Int.tmod x y = 0 → x % y = 0) ∧ (Int.tmod x y ≠ 0 → x % y = Int.tmod x y + y)) := by
  have e := Int.tmod_eq_emod (a := x) (b := y)
  have h1 := Int.emod_nonneg x (b := y) (by omega)
  have h2 := Int.emod_lt_of_pos x hy
  refine ⟨fun h => ?_, fun h => ?_⟩
  · rw [e, if_pos (Or.inl h)]; omega
  · by_cases hd : y ∣ x
    · have h3 := Int.emod_eq_zero_of_dvd hd
      rw [if_pos (Or.inr hd)] at e
      omega
    · have h3 : x % y ≠ 0 := fun q => hd (Int.dvd_of_emod_eq_zero q)
      rw [if_neg (by intro q; rcases q with q | q; omega; exact hd q)] at e
      omega
/-- bits of a small number -/
def pcN : Nat → Nat → Nat
  | 0, _ => 0
  | k + 1, n => n % 2 + pcN k (n / 2)
def pc12 (x : Int) : Int := pcN 12 x.toNat

set_option maxRecDepth 20000 in
set_option maxHeartbeats 4000000 in
theorem c_Ma_max (S : mm_S) (x y : Int) : Cl 186 [(0, x), (0, y)] S (fun v S' => v = some (0, max x y) ∧ S = S') := by
  refine ⟨Nat.le_of_ble_eq_true rfl, ?_⟩
  show Rn k_Ma_max 0 [(0, x), (0, y)] [] S _
  refine R_lo (nx := 1) rfl rfl rfl rfl ?_
  refine R_lo (nx := 2) rfl rfl rfl rfl ?_
  refine R_icmp (nx := 5) (tg := 9) rfl rfl rfl (mm_cnd_lt _ _) (fun c2 => ?_) (fun c2 => ?_)
  ·
    refine R_lo (nx := 10) rfl rfl rfl rfl ?_
    refine R_ret rfl (fun _ _ => rfl) rfl rfl ?_
    first | exact ⟨by rw [Int.max_eq_right (by omega)], rfl⟩ | exact ⟨by rw [Int.max_eq_left (by omega)], rfl⟩
  ·
    refine R_lo (nx := 6) rfl rfl rfl rfl ?_
    refine R_op (nx := 9) (pc' := 10) rfl rfl rfl ?_
    refine R_ret rfl (fun _ _ => rfl) rfl rfl ?_
    first | exact ⟨by rw [Int.max_eq_right (by omega)], rfl⟩ | exact ⟨by rw [Int.max_eq_left (by omega)], rfl⟩

set_option maxRecDepth 20000 in
set_option maxHeartbeats 4000000 in
theorem c_Ma_min (S : mm_S) (x y : Int) : Cl 187 [(0, x), (0, y)] S (fun v S' => v = some (0, min x y) ∧ S = S') := by
  refine ⟨Nat.le_of_ble_eq_true rfl, ?_⟩
  show Rn k_Ma_min 0 [(0, x), (0, y)] [] S _
  refine R_lo (nx := 1) rfl rfl rfl rfl ?_
  refine R_lo (nx := 2) rfl rfl rfl rfl ?_
  refine R_icmp (nx := 5) (tg := 9) rfl rfl rfl (mm_cnd_gt _ _) (fun c2 => ?_) (fun c2 => ?_)
  ·
    refine R_lo (nx := 10) rfl rfl rfl rfl ?_
    refine R_ret rfl (fun _ _ => rfl) rfl rfl ?_
    first | exact ⟨by rw [Int.min_eq_right (by omega)], rfl⟩ | exact ⟨by rw [Int.min_eq_left (by omega)], rfl⟩
  ·
    refine R_lo (nx := 6) rfl rfl rfl rfl ?_
    refine R_op (nx := 9) (pc' := 10) rfl rfl rfl ?_
    refine R_ret rfl (fun _ _ => rfl) rfl rfl ?_
    first | exact ⟨by rw [Int.min_eq_right (by omega)], rfl⟩ | exact ⟨by rw [Int.min_eq_left (by omega)], rfl⟩

set_option maxRecDepth 20000 in
set_option maxHeartbeats 4000000 in
theorem c_Ma_abs (S : mm_S) (x : Int) (hx : -2147483648 < x ∧ x < 2147483648) : Cl 184 [(0, x)] S (fun v S' => v = some (0, if x < 0 then -x else x) ∧ S = S') := by
  refine ⟨Nat.le_of_ble_eq_true rfl, ?_⟩
  show Rn k_Ma_abs 0 [(0, x)] [] S _
  refine R_lo (nx := 1) rfl rfl rfl rfl ?_
  refine R_if (nx := 4) (tg := 9) rfl rfl rfl (mm_cnd_ge _ _) (fun c1 => ?_) (fun c1 => ?_)
  ·
    refine R_lo (nx := 10) rfl rfl rfl rfl ?_
    refine R_ret rfl (fun _ _ => rfl) rfl rfl ?_
    first | exact ⟨by rw [if_pos (by omega)], rfl⟩ | exact ⟨by rw [if_neg (by omega)], rfl⟩
  ·
    refine R_lo (nx := 5) rfl rfl rfl rfl ?_
    refine R_ineg (nx := 6) (z := (-x)) rfl rfl rfl ⟨by omega, by omega⟩ ?_
    refine R_op (nx := 9) (pc' := 10) rfl rfl rfl ?_
    refine R_ret rfl (fun _ _ => rfl) rfl rfl ?_
    first | exact ⟨by rw [if_pos (by omega)], rfl⟩ | exact ⟨by rw [if_neg (by omega)], rfl⟩

set_option maxRecDepth 20000 in
set_option maxHeartbeats 4000000 in
theorem c_In_compare (S : mm_S) (x y : Int) : Cl 183 [(0, x), (0, y)] S (fun v S' => v = some (0, if x < y then -1 else if x = y then 0 else 1) ∧ S = S') := by
  refine ⟨Nat.le_of_ble_eq_true rfl, ?_⟩
  show Rn k_In_compare 0 [(0, x), (0, y)] [] S _
  refine R_lo (nx := 1) rfl rfl rfl rfl ?_
  refine R_lo (nx := 2) rfl rfl rfl rfl ?_
  refine R_icmp (nx := 5) (tg := 9) rfl rfl rfl (mm_cnd_ge _ _) (fun c2 => ?_) (fun c2 => ?_)
  ·
    refine R_lo (nx := 10) rfl rfl rfl rfl ?_
    refine R_lo (nx := 11) rfl rfl rfl rfl ?_
    refine R_icmp (nx := 14) (tg := 18) rfl rfl rfl (mm_cnd_ne _ _) (fun c11 => ?_) (fun c11 => ?_)
    ·
      refine R_op (nx := 19) rfl rfl rfl ?_
      refine R_ret rfl (fun _ _ => rfl) rfl rfl ?_
      first | exact ⟨by rw [if_pos (by omega)], rfl⟩ | exact ⟨by rw [if_neg (by omega), if_pos (by omega)], rfl⟩ | exact ⟨by rw [if_neg (by omega), if_neg (by omega)], rfl⟩
    ·
      refine R_op (nx := 15) rfl rfl rfl ?_
      refine R_op (nx := 18) (pc' := 19) rfl rfl rfl ?_
      refine R_ret rfl (fun _ _ => rfl) rfl rfl ?_
      first | exact ⟨by rw [if_pos (by omega)], rfl⟩ | exact ⟨by rw [if_neg (by omega), if_pos (by omega)], rfl⟩ | exact ⟨by rw [if_neg (by omega), if_neg (by omega)], rfl⟩
  ·
    refine R_op (nx := 6) rfl rfl rfl ?_
    refine R_op (nx := 9) (pc' := 19) rfl rfl rfl ?_
    refine R_ret rfl (fun _ _ => rfl) rfl rfl ?_
    first | exact ⟨by rw [if_pos (by omega)], rfl⟩ | exact ⟨by rw [if_neg (by omega), if_pos (by omega)], rfl⟩ | exact ⟨by rw [if_neg (by omega), if_neg (by omega)], rfl⟩

set_option maxRecDepth 20000 in
set_option maxHeartbeats 4000000 in
theorem c_Ma_floorMod (S : mm_S) (x y : Int) (hy : 0 < y ∧ y < 1000) (hx : mm_r32 x) : Cl 185 [(0, x), (0, y)] S (fun v S' => v = some (0, x % y) ∧ S = S') := by
  refine ⟨Nat.le_of_ble_eq_true rfl, ?_⟩
  show Rn k_Ma_floorMod 0 [(0, x), (0, y), (9, 0)] [] S _
  have hxs := mm_xs (x := x) (y := y) (by omega) hx
  have ht := fm_c (x := x) hy.1
  refine R_lo (nx := 1) rfl rfl rfl rfl ?_
  refine R_lo (nx := 2) rfl rfl rfl rfl ?_
  refine R_irem (nx := 3) (z := (Int.tmod x y)) rfl rfl (by omega) rfl ?_
  refine R_lo (nx := 4) (ls' := [(0, x), (0, y), (0, (Int.tmod x y))]) rfl rfl rfl rfl ?_
  refine R_lo (nx := 5) rfl rfl rfl rfl ?_
  refine R_lo (nx := 6) rfl rfl rfl rfl ?_
  refine R_op (nx := 7) (st' := [(0, (Int32.ofInt x ^^^ Int32.ofInt y).toInt)]) rfl rfl rfl ?_
  refine R_if (nx := 10) (tg := 18) rfl rfl rfl (mm_cnd_ge _ _) (fun c7 => ?_) (fun c7 => ?_)
  ·
    refine R_lo (nx := 19) rfl rfl rfl rfl ?_
    refine R_ret rfl (fun _ _ => rfl) rfl rfl ?_
    refine ⟨?_, rfl⟩
    rw [show x % y = (Int.tmod x y) by omega]
  ·
    refine R_lo (nx := 11) rfl rfl rfl rfl ?_
    refine R_if (nx := 14) (tg := 18) rfl rfl rfl (mm_cnd_eq _ _) (fun c11 => ?_) (fun c11 => ?_)
    ·
      refine R_lo (nx := 19) rfl rfl rfl rfl ?_
      refine R_ret rfl (fun _ _ => rfl) rfl rfl ?_
      refine ⟨?_, rfl⟩
      rw [show x % y = (Int.tmod x y) by omega]
    ·
      refine R_lo (nx := 15) rfl rfl rfl rfl ?_
      refine R_lo (nx := 16) rfl rfl rfl rfl ?_
      refine R_iadd (nx := 17) (z := ((Int.tmod x y) + y)) rfl rfl rfl ⟨by omega, by omega⟩ ?_
      refine R_ret rfl (fun _ _ => rfl) rfl rfl ?_
      refine ⟨?_, rfl⟩
      rw [show x % y = ((Int.tmod x y) + y) by omega]

set_option maxRecDepth 20000 in
set_option maxHeartbeats 4000000 in
theorem c_P_get (S : mm_S) (a : Int) (n : Nat) (hk : 0 ≤ a ∧ mm_kd a.toNat = (1, n)) (hn : n < 100000) (i : Int) : Cl 38 [(2, a), (0, i)] S (fun v S' => v = some (0, if 0 ≤ i ∧ i < (n : Int) then S a i else 0) ∧ S = S') := by
  refine ⟨Nat.le_of_ble_eq_true rfl, ?_⟩
  show Rn k_P_get 0 [(2, a), (0, i)] [] S _
  refine R_lo (nx := 1) rfl rfl rfl rfl ?_
  refine R_if (nx := 4) (tg := 16) rfl rfl rfl (mm_cnd_lt _ _) (fun c1 => ?_) (fun c1 => ?_)
  ·
    refine R_op (nx := 17) rfl rfl rfl ?_
    refine R_ret rfl (fun _ _ => rfl) rfl rfl ?_
    first | exact ⟨by rw [if_pos (by omega)], rfl⟩ | exact ⟨by rw [if_neg (by omega)], rfl⟩
  ·
    refine R_lo (nx := 5) rfl rfl rfl rfl ?_
    refine R_lo (nx := 6) rfl rfl rfl rfl ?_
    refine R_alen (nx := 7) rfl rfl hk.1 hk.2 (by decide) ?_
    refine R_icmp (nx := 10) (tg := 16) rfl rfl rfl (mm_cnd_ge _ _) (fun c7 => ?_) (fun c7 => ?_)
    ·
      refine R_op (nx := 17) rfl rfl rfl ?_
      refine R_ret rfl (fun _ _ => rfl) rfl rfl ?_
      first | exact ⟨by rw [if_pos (by omega)], rfl⟩ | exact ⟨by rw [if_neg (by omega)], rfl⟩
    ·
      refine R_lo (nx := 11) rfl rfl rfl rfl ?_
      refine R_lo (nx := 12) rfl rfl rfl rfl ?_
      refine R_iald (nx := 13) rfl rfl (mm_el_ok 1 n hk.1 hk.2 (by decide) (by omega) (by omega)) ?_
      refine R_op (nx := 16) (pc' := 17) rfl rfl rfl ?_
      refine R_ret rfl (fun _ _ => rfl) rfl rfl ?_
      first | exact ⟨by rw [if_pos (by omega)], rfl⟩ | exact ⟨by rw [if_neg (by omega)], rfl⟩

theorem c_P_get_in (S : mm_S) (a : Int) (n : Nat) (hk : 0 ≤ a ∧ mm_kd a.toNat = (1, n)) (hn : n < 100000) (i : Int) (hi : 0 ≤ i ∧ i < (n : Int)) : Cl 38 [(2, a), (0, i)] S (fun v S' => v = some (0, S a i) ∧ S = S') := (c_P_get S a n hk hn i).mono fun v S' h => by rw [if_pos hi] at h; exact h

set_option maxRecDepth 20000 in
set_option maxHeartbeats 4000000 in
theorem c_P_set (S : mm_S) (a : Int) (n : Nat) (hk : 0 ≤ a ∧ mm_kd a.toNat = (1, n)) (hn : n < 100000) (i v : Int) (hi : 0 ≤ i ∧ i < (n : Int)) : Cl 39 [(2, a), (0, i), (0, v)] S (fun w S' => w = none ∧ S' = mm_up S a i v) := by
  refine ⟨Nat.le_of_ble_eq_true rfl, ?_⟩
  show Rn k_P_set 0 [(2, a), (0, i), (0, v)] [] S _
  refine R_lo (nx := 1) rfl rfl rfl rfl ?_
  refine R_if (nx := 4) (tg := 14) rfl rfl rfl (mm_cnd_lt _ _) (fun c1 => ?_) (fun c1 => ?_)
  ·
    exfalso
    omega
  ·
    refine R_lo (nx := 5) rfl rfl rfl rfl ?_
    refine R_lo (nx := 6) rfl rfl rfl rfl ?_
    refine R_alen (nx := 7) rfl rfl hk.1 hk.2 (by decide) ?_
    refine R_icmp (nx := 10) (tg := 14) rfl rfl rfl (mm_cnd_ge _ _) (fun c7 => ?_) (fun c7 => ?_)
    ·
      exfalso
      omega
    ·
      refine R_lo (nx := 11) rfl rfl rfl rfl ?_
      refine R_lo (nx := 12) rfl rfl rfl rfl ?_
      refine R_lo (nx := 13) rfl rfl rfl rfl ?_
      refine R_iast (nx := 14) rfl rfl (mm_el_ok 1 n hk.1 hk.2 (by decide) (by omega) (by omega)) ?_
      refine R_ret rfl (fun _ _ => rfl) rfl rfl ?_
      exact ⟨rfl, rfl⟩

set_option maxRecDepth 20000 in
set_option maxHeartbeats 4000000 in
theorem c_Ar_fill (S : mm_S) (a : Int) (n : Nat) (hk : 0 ≤ a ∧ mm_kd a.toNat = (1, n)) (hn : n < 100000) (v : Int) : Cl 188 [(2, a), (0, v)] S (fun w S' => w = none ∧ (∀ j, 0 ≤ j → j < (n : Int) → S' a j = v) ∧ ∀ b, b ≠ a → S' b = S b) := by
  refine ⟨Nat.le_of_ble_eq_true rfl, ?_⟩
  show Rn k_Ar_fill 0 [(2, a), (0, v), (9, 0), (9, 0)] [] S _
  refine R_op (nx := 1) rfl rfl rfl ?_
  refine R_lo (nx := 2) (ls' := [(2, a), (0, v), (0, 0), (9, 0)]) rfl rfl rfl rfl ?_
  refine R_lo (nx := 3) rfl rfl rfl rfl ?_
  refine R_alen (nx := 4) rfl rfl hk.1 hk.2 (by decide) ?_
  refine R_lo (nx := 5) (ls' := [(2, a), (0, v), (0, 0), (0, (n : Int))]) rfl rfl rfl rfl ?_
  have L5 : ∀ (f5 : Nat) (S1 : mm_S) (i : Int), ((n : Int) - i).toNat < f5 → (0 ≤ i ∧ i ≤ (n : Int)) → (∀ j, 0 ≤ j → j < i → S1 a j = v) → (∀ b, b ≠ a → S1 b = S b) → Rn k_Ar_fill 5 [(2, a), (0, v), (0, i), (0, (n : Int))] [] S1 (fun w S' => w = none ∧ (∀ j, 0 ≤ j → j < (n : Int) → S' a j = v) ∧ ∀ b, b ≠ a → S' b = S b) := by
    intro f5
    induction f5 with
    | zero => intro S1 i hm5; exact absurd hm5 (Nat.not_lt_zero _)
    | succ f5 ih5 =>
      intro S1 i hm5 hi ha hf
      refine R_lo (nx := 6) rfl rfl rfl rfl ?_
      refine R_lo (nx := 7) rfl rfl rfl rfl ?_
      refine R_icmp (nx := 10) (tg := 20) rfl rfl rfl (mm_cnd_ge _ _) (fun c7 => ?_) (fun c7 => ?_)
      ·
        refine R_ret rfl (fun _ _ => rfl) rfl rfl ?_
        exact ⟨rfl, fun j h1 h2 => ha j h1 (by omega), hf⟩
      ·
        refine R_lo (nx := 11) rfl rfl rfl rfl ?_
        refine R_lo (nx := 12) rfl rfl rfl rfl ?_
        refine R_lo (nx := 13) rfl rfl rfl rfl ?_
        refine R_iast (nx := 14) rfl rfl (mm_el_ok 1 n hk.1 hk.2 (by decide) (by omega) (by omega)) ?_
        refine R_iinc (nx := 17) (z := (i + 1)) (ls' := [(2, a), (0, v), (0, (i + 1)), (0, (n : Int))]) rfl rfl rfl rfl ⟨by omega, by omega⟩ rfl ?_
        refine R_op (nx := 20) (pc' := 5) rfl rfl rfl ?_
        refine Rn.weak (ls' := [(2, a), (0, v), (0, (i + 1)), (0, (n : Int))]) ⟨Or.inl rfl, ⟨Or.inl rfl, ⟨Or.inl rfl, ⟨Or.inl rfl, trivial⟩⟩⟩⟩ ?_
        refine ih5 ((mm_up S1 a i v)) ((i + 1)) ?_ ?_ ?_ ?_
        · omega
        · omega
        · intro j h1 h2
          by_cases e : j = i
          · rw [e, mm_ua]
          · rw [mm_uk e]; exact ha j h1 (by omega)
        · intro b hb; rw [mm_unq hb]; exact hf b hb
  refine Rn.weak (ls' := [(2, a), (0, v), (0, 0), (0, (n : Int))]) ⟨Or.inl rfl, ⟨Or.inl rfl, ⟨Or.inl rfl, ⟨Or.inl rfl, trivial⟩⟩⟩⟩ ?_
  refine L5 (((n : Int) - (0)).toNat + 1) (S) (0) (Nat.lt_succ_self _) ?_ ?_ ?_
  · omega
  · intro j h1 h2; omega
  · intro b hb; rfl

set_option maxRecDepth 20000 in
set_option maxHeartbeats 4000000 in
theorem c_Ar_fillL (S : mm_S) (a : Int) (n : Nat) (hk : 0 ≤ a ∧ mm_kd a.toNat = (2, n)) (hn : n < 100000) (v : Int) : Cl 189 [(2, a), (1, v)] S (fun w S' => w = none ∧ (∀ j, 0 ≤ j → j < (n : Int) → S' a j = v) ∧ ∀ b, b ≠ a → S' b = S b) := by
  refine ⟨Nat.le_of_ble_eq_true rfl, ?_⟩
  show Rn k_Ar_fillL 0 [(2, a), (1, v), (9, 0), (9, 0), (9, 0)] [] S _
  refine R_op (nx := 1) rfl rfl rfl ?_
  refine R_lo (nx := 2) (ls' := [(2, a), (1, v), (9, 0), (0, 0), (9, 0)]) rfl rfl rfl rfl ?_
  refine R_lo (nx := 3) rfl rfl rfl rfl ?_
  refine R_alen (nx := 4) rfl rfl hk.1 hk.2 (by decide) ?_
  refine R_lo (nx := 6) (ls' := [(2, a), (1, v), (9, 0), (0, 0), (0, (n : Int))]) rfl rfl rfl rfl ?_
  have L6 : ∀ (f6 : Nat) (S1 : mm_S) (i : Int), ((n : Int) - i).toNat < f6 → (0 ≤ i ∧ i ≤ (n : Int)) → (∀ j, 0 ≤ j → j < i → S1 a j = v) → (∀ b, b ≠ a → S1 b = S b) → Rn k_Ar_fillL 6 [(2, a), (1, v), (9, 0), (0, i), (0, (n : Int))] [] S1 (fun w S' => w = none ∧ (∀ j, 0 ≤ j → j < (n : Int) → S' a j = v) ∧ ∀ b, b ≠ a → S' b = S b) := by
    intro f6
    induction f6 with
    | zero => intro S1 i hm6; exact absurd hm6 (Nat.not_lt_zero _)
    | succ f6 ih6 =>
      intro S1 i hm6 hi ha hf
      refine R_lo (nx := 7) rfl rfl rfl rfl ?_
      refine R_lo (nx := 9) rfl rfl rfl rfl ?_
      refine R_icmp (nx := 12) (tg := 22) rfl rfl rfl (mm_cnd_ge _ _) (fun c9 => ?_) (fun c9 => ?_)
      ·
        refine R_ret rfl (fun _ _ => rfl) rfl rfl ?_
        exact ⟨rfl, fun j h1 h2 => ha j h1 (by omega), hf⟩
      ·
        refine R_lo (nx := 13) rfl rfl rfl rfl ?_
        refine R_lo (nx := 14) rfl rfl rfl rfl ?_
        refine R_lo (nx := 15) rfl rfl rfl rfl ?_
        refine R_last (nx := 16) rfl rfl (mm_el_ok 2 n hk.1 hk.2 (by decide) (by omega) (by omega)) ?_
        refine R_iinc (nx := 19) (z := (i + 1)) (ls' := [(2, a), (1, v), (9, 0), (0, (i + 1)), (0, (n : Int))]) rfl rfl rfl rfl ⟨by omega, by omega⟩ rfl ?_
        refine R_op (nx := 22) (pc' := 6) rfl rfl rfl ?_
        refine Rn.weak (ls' := [(2, a), (1, v), (9, 0), (0, (i + 1)), (0, (n : Int))]) ⟨Or.inl rfl, ⟨Or.inl rfl, ⟨Or.inl rfl, ⟨Or.inl rfl, ⟨Or.inl rfl, trivial⟩⟩⟩⟩⟩ ?_
        refine ih6 ((mm_up S1 a i v)) ((i + 1)) ?_ ?_ ?_ ?_
        · omega
        · omega
        · intro j h1 h2
          by_cases e : j = i
          · rw [e, mm_ua]
          · rw [mm_uk e]; exact ha j h1 (by omega)
        · intro b hb; rw [mm_unq hb]; exact hf b hb
  refine Rn.weak (ls' := [(2, a), (1, v), (9, 0), (0, 0), (0, (n : Int))]) ⟨Or.inl rfl, ⟨Or.inl rfl, ⟨Or.inl rfl, ⟨Or.inl rfl, ⟨Or.inl rfl, trivial⟩⟩⟩⟩⟩ ?_
  refine L6 (((n : Int) - (0)).toNat + 1) (S) (0) (Nat.lt_succ_self _) ?_ ?_ ?_
  · omega
  · intro j h1 h2; omega
  · intro b hb; rfl
end
section
/-! The class's complexes. -/
set_option maxRecDepth 20000 in
set_option maxHeartbeats 4000000 in
theorem c_C_has (S : mm_S) (a : Int) (hC : mm_isC a) (K : CX) (h : MC S a K) (x : Int) : Cl 120 [(2, a), (0, x)] S (fun v S' => (v = some (0, 1) ∧ (0 ≤ x ∧ x < Xn K) ∧ S = S') ∨ (v = some (0, 0) ∧ ¬ (0 ≤ x ∧ x < Xn K) ∧ S = S')) := by
  refine ⟨Nat.le_of_ble_eq_true rfl, ?_⟩
  show Rn k_C_has 0 [(2, a), (0, x)] [] S _
  have hnr := h.nr
  have hn := h.n
  refine R_lo (nx := 1) rfl rfl rfl rfl ?_
  refine R_if (nx := 4) (tg := 25) rfl rfl rfl (mm_cnd_lt _ _) (fun c1 => ?_) (fun c1 => ?_)
  ·
    refine R_op (nx := 26) rfl rfl rfl ?_
    refine R_ret rfl (fun _ _ => rfl) rfl rfl ?_
    first | exact Or.inl ⟨rfl, by omega, rfl⟩ | exact Or.inr ⟨rfl, by omega, rfl⟩
  ·
    refine R_lo (nx := 5) rfl rfl rfl rfl ?_
    refine R_lo (nx := 6) rfl rfl rfl rfl ?_
    refine R_get (nx := 9) (w := (0, (S a 0))) rfl rfl (isC_ob hC) rfl ?_
    refine R_icmp (nx := 12) (tg := 25) rfl rfl rfl (mm_cnd_ge _ _) (fun c9 => ?_) (fun c9 => ?_)
    ·
      refine R_op (nx := 26) rfl rfl rfl ?_
      refine R_ret rfl (fun _ _ => rfl) rfl rfl ?_
      first | exact Or.inl ⟨rfl, by omega, rfl⟩ | exact Or.inr ⟨rfl, by omega, rfl⟩
    ·
      refine R_lo (nx := 13) rfl rfl rfl rfl ?_
      refine R_get (nx := 16) (w := (0, (S a 0))) rfl rfl (isC_ob hC) rfl ?_
      refine R_op (nx := 18) rfl rfl rfl ?_
      refine R_icmp (nx := 21) (tg := 25) rfl rfl rfl (mm_cnd_gt _ _) (fun c18 => ?_) (fun c18 => ?_)
      ·
        refine R_op (nx := 26) rfl rfl rfl ?_
        refine R_ret rfl (fun _ _ => rfl) rfl rfl ?_
        first | exact Or.inl ⟨rfl, by omega, rfl⟩ | exact Or.inr ⟨rfl, by omega, rfl⟩
      ·
        refine R_op (nx := 22) rfl rfl rfl ?_
        refine R_op (nx := 25) (pc' := 26) rfl rfl rfl ?_
        refine R_ret rfl (fun _ _ => rfl) rfl rfl ?_
        first | exact Or.inl ⟨rfl, by omega, rfl⟩ | exact Or.inr ⟨rfl, by omega, rfl⟩

set_option maxRecDepth 20000 in
set_option maxHeartbeats 4000000 in
theorem c_C_degree (S : mm_S) (a : Int) (hC : mm_isC a) (K : CX) (h : MC S a K) (x : Int) : Cl 121 [(2, a), (0, x)] S (fun v S' => v = some (0, Xd K x) ∧ S = S') := by
  refine ⟨Nat.le_of_ble_eq_true rfl, ?_⟩
  show Rn k_C_degree 0 [(2, a), (0, x)] [] S _
  have hnr := h.nr
  have hn := h.n
  refine R_lo (nx := 1) rfl rfl rfl rfl ?_
  refine R_lo (nx := 2) rfl rfl rfl rfl ?_
  refine R_call1 (nx := 5) (as := [(2, a), (0, x)]) (rest := []) rfl rfl (fun _ _ => rfl) rfl rfl rfl rfl rfl rfl (isC_rc hC _) rfl (Cl.mono (c_C_has S a hC K (by first | assumption | exact MC.up (by assumption) (by omega) | exact MC.up (MC.up (by assumption) (by omega)) (by omega) | exact MC.up (MC.up (MC.up (by assumption) (by omega)) (by omega)) (by omega)) x) ?_)
  rintro _ _ (⟨rfl, b2, rfl⟩ | ⟨rfl, b2, rfl⟩)
  ·
    refine ⟨_, rfl, ?_⟩
    refine R_ifF (nx := 8) rfl rfl rfl ?_
    refine R_lo (nx := 9) rfl rfl rfl rfl ?_
    refine R_get (nx := 12) (w := (2, (a + 1))) rfl rfl (isC_ob hC) rfl ?_
    refine R_lo (nx := 13) rfl rfl rfl rfl ?_
    refine R_iald (nx := 14) rfl rfl (isC_el1 hC (by omega) (by omega)) ?_
    refine R_op (nx := 17) (pc' := 18) rfl rfl rfl ?_
    refine R_ret rfl (fun _ _ => rfl) rfl rfl ?_
    first | exact ⟨by rw [h.d b2], rfl⟩ | exact ⟨by rw [h.1.d b2], rfl⟩
  ·
    refine ⟨_, rfl, ?_⟩
    refine R_ifT (tg := 17) rfl rfl rfl ?_
    refine R_op (nx := 18) rfl rfl rfl ?_
    refine R_ret rfl (fun _ _ => rfl) rfl rfl ?_
    first | exact ⟨by rw [h.d b2], rfl⟩ | exact ⟨by rw [h.1.d b2], rfl⟩

set_option maxRecDepth 20000 in
set_option maxHeartbeats 4000000 in
theorem c_C_level (S : mm_S) (a : Int) (hC : mm_isC a) (K : CX) (h : MC S a K) (w x : Int) : Cl 122 [(2, a), (0, w), (0, x)] S (fun v S' => v = some (0, Xl K w x) ∧ S = S') := by
  refine ⟨Nat.le_of_ble_eq_true rfl, ?_⟩
  show Rn k_C_level 0 [(2, a), (0, w), (0, x)] [] S _
  have hnr := h.nr
  have hn := h.n
  refine R_lo (nx := 1) rfl rfl rfl rfl ?_
  refine R_lo (nx := 2) rfl rfl rfl rfl ?_
  refine R_call1 (nx := 5) (as := [(2, a), (0, x)]) (rest := []) rfl rfl (fun _ _ => rfl) rfl rfl rfl rfl rfl rfl (isC_rc hC _) rfl (Cl.mono (c_C_has S a hC K (by first | assumption | exact MC.up (by assumption) (by omega) | exact MC.up (MC.up (by assumption) (by omega)) (by omega) | exact MC.up (MC.up (MC.up (by assumption) (by omega)) (by omega)) (by omega)) x) ?_)
  rintro _ _ (⟨rfl, b2, rfl⟩ | ⟨rfl, b2, rfl⟩)
  ·
    refine ⟨_, rfl, ?_⟩
    refine R_ifT (tg := 10) rfl rfl rfl ?_
    refine R_lo (nx := 11) rfl rfl rfl rfl ?_
    refine R_if (nx := 14) (tg := 23) rfl rfl rfl (mm_cnd_ne _ _) (fun c11 => ?_) (fun c11 => ?_)
    ·
      refine R_lo (nx := 24) rfl rfl rfl rfl ?_
      refine R_get (nx := 27) (w := (2, (a + 3))) rfl rfl (isC_ob hC) rfl ?_
      refine R_lo (nx := 28) rfl rfl rfl rfl ?_
      refine R_iald (nx := 29) rfl rfl (isC_el3 hC (by omega) (by omega)) ?_
      refine R_ret rfl (fun _ _ => rfl) rfl rfl ?_
      first | exact ⟨by rw [h.1.l b2], rfl⟩ | (have c := Classical.not_not.mp c11; subst c; exact ⟨by rw [Xl_0, h.l0 b2], rfl⟩) | exact ⟨by rw [Xl_n K c11, h.l1 b2], rfl⟩
    ·
      refine R_lo (nx := 15) rfl rfl rfl rfl ?_
      refine R_get (nx := 18) (w := (2, (a + 2))) rfl rfl (isC_ob hC) rfl ?_
      refine R_lo (nx := 19) rfl rfl rfl rfl ?_
      refine R_iald (nx := 20) rfl rfl (isC_el2 hC (by omega) (by omega)) ?_
      refine R_op (nx := 23) (pc' := 29) rfl rfl rfl ?_
      refine R_ret rfl (fun _ _ => rfl) rfl rfl ?_
      first | exact ⟨by rw [h.1.l b2], rfl⟩ | (have c := Classical.not_not.mp c11; subst c; exact ⟨by rw [Xl_0, h.l0 b2], rfl⟩) | exact ⟨by rw [Xl_n K c11, h.l1 b2], rfl⟩
  ·
    refine ⟨_, rfl, ?_⟩
    refine R_ifF (nx := 8) rfl rfl rfl ?_
    refine R_op (nx := 9) rfl rfl rfl ?_
    refine R_ret rfl (fun _ _ => rfl) rfl rfl ?_
    first | exact ⟨by rw [h.1.l b2], rfl⟩ | (have c := Classical.not_not.mp c11; subst c; exact ⟨by rw [Xl_0, h.l0 b2], rfl⟩) | exact ⟨by rw [Xl_n K c11, h.l1 b2], rfl⟩

set_option maxRecDepth 20000 in
set_option maxHeartbeats 4000000 in
theorem c_C_edge (S : mm_S) (a : Int) (hC : mm_isC a) (K : CX) (h : MC S a K) (x y : Int) : Cl 123 [(2, a), (0, x), (0, y)] S (fun v S' => v = some (0, Xe K x y) ∧ S = S') := by
  refine ⟨Nat.le_of_ble_eq_true rfl, ?_⟩
  show Rn k_C_edge 0 [(2, a), (0, x), (0, y)] [] S _
  have hnr := h.nr
  have hn := h.n
  refine R_lo (nx := 1) rfl rfl rfl rfl ?_
  refine R_lo (nx := 2) rfl rfl rfl rfl ?_
  refine R_call1 (nx := 5) (as := [(2, a), (0, x)]) (rest := []) rfl rfl (fun _ _ => rfl) rfl rfl rfl rfl rfl rfl (isC_rc hC _) rfl (Cl.mono (c_C_has S a hC K (by first | assumption | exact MC.up (by assumption) (by omega) | exact MC.up (MC.up (by assumption) (by omega)) (by omega) | exact MC.up (MC.up (MC.up (by assumption) (by omega)) (by omega)) (by omega)) x) ?_)
  rintro _ _ (⟨rfl, b2, rfl⟩ | ⟨rfl, b2, rfl⟩)
  ·
    refine ⟨_, rfl, ?_⟩
    refine R_ifF (nx := 8) rfl rfl rfl ?_
    refine R_lo (nx := 9) rfl rfl rfl rfl ?_
    refine R_lo (nx := 10) rfl rfl rfl rfl ?_
    refine R_call1 (nx := 13) (as := [(2, a), (0, y)]) (rest := []) rfl rfl (fun _ _ => rfl) rfl rfl rfl rfl rfl rfl (isC_rc hC _) rfl (Cl.mono (c_C_has S a hC K (by first | assumption | exact MC.up (by assumption) (by omega) | exact MC.up (MC.up (by assumption) (by omega)) (by omega) | exact MC.up (MC.up (MC.up (by assumption) (by omega)) (by omega)) (by omega)) y) ?_)
    rintro _ _ (⟨rfl, b10, rfl⟩ | ⟨rfl, b10, rfl⟩)
    ·
      refine ⟨_, rfl, ?_⟩
      refine R_ifF (nx := 16) rfl rfl rfl ?_
      refine R_lo (nx := 17) rfl rfl rfl rfl ?_
      refine R_get (nx := 20) (w := (2, (a + 4))) rfl rfl (isC_ob hC) rfl ?_
      refine R_lo (nx := 21) rfl rfl rfl rfl ?_
      refine R_op (nx := 23) rfl rfl rfl ?_
      refine R_imul (nx := 24) (z := (x * 12)) rfl rfl rfl ⟨by omega, by omega⟩ ?_
      refine R_lo (nx := 25) rfl rfl rfl rfl ?_
      refine R_iadd (nx := 26) (z := ((x * 12) + y)) rfl rfl rfl ⟨by omega, by omega⟩ ?_
      refine R_iald (nx := 27) rfl rfl (isC_el4 hC (by omega) (by omega)) ?_
      refine R_op (nx := 30) (pc' := 31) rfl rfl rfl ?_
      refine R_ret rfl (fun _ _ => rfl) rfl rfl ?_
      first | exact ⟨by rw [h.e b2 b10], rfl⟩ | exact ⟨by rw [h.1.e (by omega)], rfl⟩
    ·
      refine ⟨_, rfl, ?_⟩
      refine R_ifT (tg := 30) rfl rfl rfl ?_
      refine R_op (nx := 31) rfl rfl rfl ?_
      refine R_ret rfl (fun _ _ => rfl) rfl rfl ?_
      first | exact ⟨by rw [h.e b2 b10], rfl⟩ | exact ⟨by rw [h.1.e (by omega)], rfl⟩
  ·
    refine ⟨_, rfl, ?_⟩
    refine R_ifT (tg := 30) rfl rfl rfl ?_
    refine R_op (nx := 31) rfl rfl rfl ?_
    refine R_ret rfl (fun _ _ => rfl) rfl rfl ?_
    first | exact ⟨by rw [h.e b2 b10], rfl⟩ | exact ⟨by rw [h.1.e (by omega)], rfl⟩

theorem MC.set {S : mm_S} {a : Int} {K : CX} (h : MC S a K) {x y : Int} (v : Int) (hx : 0 ≤ x ∧ x < Xn K) (hy : 0 ≤ y ∧ y < Xn K) : MC (mm_up S (a + 4) (x * 12 + y) v) a (Xset K x y v) := by
  have hnr := h.nr
  refine ⟨Xset_Nz h.1 x y v, ?_, fun i p q => ?_, fun i j p q r t => ?_⟩
  · rw [mm_unq (by omega), Xset_n]; exact h.n
  · rw [mm_unq (by omega), mm_unq (by omega), mm_unq (by omega)]; exact h.2.2.1 i p q
  · rw [Xset_n] at q t
    rw [Xset_e]
    by_cases e : i = x ∧ j = y
    · obtain ⟨rfl, rfl⟩ := e
      rw [if_pos ⟨⟨hx, hy⟩, rfl, rfl⟩]
      exact mm_ua
    · rw [if_neg (fun z => e z.2), mm_uk (by omega)]
      exact h.e ⟨p, q⟩ ⟨r, t⟩

set_option maxRecDepth 20000 in
set_option maxHeartbeats 4000000 in
theorem c_C_setEdge (S : mm_S) (a : Int) (hC : mm_isC a) (K : CX) (h : MC S a K) (x y z : Int) : Cl 124 [(2, a), (0, x), (0, y), (0, z)] S (fun v S' => v = none ∧ MC S' a (Xset K x y z) ∧ ∀ b, b ≠ a + 4 → S' b = S b) := by
  refine ⟨Nat.le_of_ble_eq_true rfl, ?_⟩
  show Rn k_C_setEdge 0 [(2, a), (0, x), (0, y), (0, z)] [] S _
  have hnr := h.nr
  have hn := h.n
  refine R_lo (nx := 1) rfl rfl rfl rfl ?_
  refine R_lo (nx := 2) rfl rfl rfl rfl ?_
  refine R_call1 (nx := 5) (as := [(2, a), (0, x)]) (rest := []) rfl rfl (fun _ _ => rfl) rfl rfl rfl rfl rfl rfl (isC_rc hC _) rfl (Cl.mono (c_C_has S a hC K (by first | assumption | exact MC.up (by assumption) (by omega) | exact MC.up (MC.up (by assumption) (by omega)) (by omega) | exact MC.up (MC.up (MC.up (by assumption) (by omega)) (by omega)) (by omega)) x) ?_)
  rintro _ _ (⟨rfl, b2, rfl⟩ | ⟨rfl, b2, rfl⟩)
  ·
    refine ⟨_, rfl, ?_⟩
    refine R_ifF (nx := 8) rfl rfl rfl ?_
    refine R_lo (nx := 9) rfl rfl rfl rfl ?_
    refine R_lo (nx := 10) rfl rfl rfl rfl ?_
    refine R_call1 (nx := 13) (as := [(2, a), (0, y)]) (rest := []) rfl rfl (fun _ _ => rfl) rfl rfl rfl rfl rfl rfl (isC_rc hC _) rfl (Cl.mono (c_C_has S a hC K (by first | assumption | exact MC.up (by assumption) (by omega) | exact MC.up (MC.up (by assumption) (by omega)) (by omega) | exact MC.up (MC.up (MC.up (by assumption) (by omega)) (by omega)) (by omega)) y) ?_)
    rintro _ _ (⟨rfl, b10, rfl⟩ | ⟨rfl, b10, rfl⟩)
    ·
      refine ⟨_, rfl, ?_⟩
      refine R_ifF (nx := 16) rfl rfl rfl ?_
      refine R_lo (nx := 17) rfl rfl rfl rfl ?_
      refine R_get (nx := 20) (w := (2, (a + 4))) rfl rfl (isC_ob hC) rfl ?_
      refine R_lo (nx := 21) rfl rfl rfl rfl ?_
      refine R_op (nx := 23) rfl rfl rfl ?_
      refine R_imul (nx := 24) (z := (x * 12)) rfl rfl rfl ⟨by omega, by omega⟩ ?_
      refine R_lo (nx := 25) rfl rfl rfl rfl ?_
      refine R_iadd (nx := 26) (z := ((x * 12) + y)) rfl rfl rfl ⟨by omega, by omega⟩ ?_
      refine R_lo (nx := 27) rfl rfl rfl rfl ?_
      refine R_iast (nx := 28) rfl rfl (isC_el4 hC (by omega) (by omega)) ?_
      refine R_ret rfl (fun _ _ => rfl) rfl rfl ?_
      first | exact ⟨rfl, h.set z b2 b10, fun b hb => mm_unq hb⟩ | exact ⟨rfl, by rw [Xset_out (by omega)]; exact h, fun _ _ => rfl⟩
    ·
      refine ⟨_, rfl, ?_⟩
      refine R_ifT (tg := 28) rfl rfl rfl ?_
      refine R_ret rfl (fun _ _ => rfl) rfl rfl ?_
      first | exact ⟨rfl, h.set z b2 b10, fun b hb => mm_unq hb⟩ | exact ⟨rfl, by rw [Xset_out (by omega)]; exact h, fun _ _ => rfl⟩
  ·
    refine ⟨_, rfl, ?_⟩
    refine R_ifT (tg := 28) rfl rfl rfl ?_
    refine R_ret rfl (fun _ _ => rfl) rfl rfl ?_
    first | exact ⟨rfl, h.set z b2 b10, fun b hb => mm_unq hb⟩ | exact ⟨rfl, by rw [Xset_out (by omega)]; exact h, fun _ _ => rfl⟩

set_option maxRecDepth 20000 in
set_option maxHeartbeats 4000000 in
theorem c_C_mayHave (S : mm_S) (a : Int) (hC : mm_isC a) (K : CX) (h : MC S a K) (hR : Rg K) (x y : Int) : Cl 125 [(2, a), (0, x), (0, y)] S (fun v S' => (v = some (0, 1) ∧ Xmay K x y ∧ S = S') ∨ (v = some (0, 0) ∧ ¬ Xmay K x y ∧ S = S')) := by
  refine ⟨Nat.le_of_ble_eq_true rfl, ?_⟩
  show Rn k_C_mayHave 0 [(2, a), (0, x), (0, y)] [] S _
  have hnr := h.nr
  have hn := h.n
  refine R_lo (nx := 1) rfl rfl rfl rfl ?_
  refine R_lo (nx := 2) rfl rfl rfl rfl ?_
  refine R_call1 (nx := 5) (as := [(2, a), (0, x)]) (rest := []) rfl rfl (fun _ _ => rfl) rfl rfl rfl rfl rfl rfl (isC_rc hC _) rfl (Cl.mono (c_C_has S a hC K (by first | assumption | exact MC.up (by assumption) (by omega) | exact MC.up (MC.up (by assumption) (by omega)) (by omega) | exact MC.up (MC.up (MC.up (by assumption) (by omega)) (by omega)) (by omega)) x) ?_)
  rintro _ _ (⟨rfl, b2, rfl⟩ | ⟨rfl, b2, rfl⟩)
  ·
    refine ⟨_, rfl, ?_⟩
    refine R_ifF (nx := 8) rfl rfl rfl ?_
    refine R_lo (nx := 9) rfl rfl rfl rfl ?_
    refine R_lo (nx := 10) rfl rfl rfl rfl ?_
    refine R_call1 (nx := 13) (as := [(2, a), (0, y)]) (rest := []) rfl rfl (fun _ _ => rfl) rfl rfl rfl rfl rfl rfl (isC_rc hC _) rfl (Cl.mono (c_C_has S a hC K (by first | assumption | exact MC.up (by assumption) (by omega) | exact MC.up (MC.up (by assumption) (by omega)) (by omega) | exact MC.up (MC.up (MC.up (by assumption) (by omega)) (by omega)) (by omega)) y) ?_)
    rintro _ _ (⟨rfl, b10, rfl⟩ | ⟨rfl, b10, rfl⟩)
    ·
      refine ⟨_, rfl, ?_⟩
      refine R_ifF (nx := 16) rfl rfl rfl ?_
      refine R_lo (nx := 17) rfl rfl rfl rfl ?_
      refine R_get (nx := 20) (w := (2, (a + 1))) rfl rfl (isC_ob hC) rfl ?_
      refine R_lo (nx := 21) rfl rfl rfl rfl ?_
      refine R_iald (nx := 22) rfl rfl (isC_el1 hC (by omega) (by omega)) ?_
      refine R_lo (nx := 23) rfl rfl rfl rfl ?_
      refine R_get (nx := 26) (w := (2, (a + 1))) rfl rfl (isC_ob hC) rfl ?_
      refine R_lo (nx := 27) rfl rfl rfl rfl ?_
      refine R_iald (nx := 28) rfl rfl (isC_el1 hC (by omega) (by omega)) ?_
      refine R_op (nx := 29) rfl rfl rfl ?_
      refine R_isub (nx := 30) (z := ((S (a + 1) x) - 1)) rfl rfl rfl (by rw [h.d b2]; have := hR.d x; exact ⟨by omega, by omega⟩) ?_
      refine R_icmp (nx := 33) (tg := 67) rfl rfl rfl (mm_cnd_ne _ _) (fun c30 => ?_) (fun c30 => ?_)
      ·
        refine R_op (nx := 68) rfl rfl rfl ?_
        refine R_ret rfl (fun _ _ => rfl) rfl rfl ?_
        unfold Xmay
        (try rw [h.d b2] at *)
        (try rw [h.d b10] at *)
        (try rw [h.l0 b2] at *)
        (try rw [h.l0 b10] at *)
        (try rw [h.l1 b2] at *)
        (try rw [h.l1 b10] at *)
        first | exact Or.inl ⟨rfl, by omega, rfl⟩ | exact Or.inr ⟨rfl, by omega, rfl⟩
      ·
        refine R_lo (nx := 34) rfl rfl rfl rfl ?_
        refine R_get (nx := 37) (w := (2, (a + 2))) rfl rfl (isC_ob hC) rfl ?_
        refine R_lo (nx := 38) rfl rfl rfl rfl ?_
        refine R_iald (nx := 39) rfl rfl (isC_el2 hC (by omega) (by omega)) ?_
        refine R_lo (nx := 40) rfl rfl rfl rfl ?_
        refine R_get (nx := 43) (w := (2, (a + 2))) rfl rfl (isC_ob hC) rfl ?_
        refine R_lo (nx := 44) rfl rfl rfl rfl ?_
        refine R_iald (nx := 45) rfl rfl (isC_el2 hC (by omega) (by omega)) ?_
        refine R_icmp (nx := 48) (tg := 67) rfl rfl rfl (mm_cnd_gt _ _) (fun c45 => ?_) (fun c45 => ?_)
        ·
          refine R_op (nx := 68) rfl rfl rfl ?_
          refine R_ret rfl (fun _ _ => rfl) rfl rfl ?_
          unfold Xmay
          (try rw [h.d b2] at *)
          (try rw [h.d b10] at *)
          (try rw [h.l0 b2] at *)
          (try rw [h.l0 b10] at *)
          (try rw [h.l1 b2] at *)
          (try rw [h.l1 b10] at *)
          first | exact Or.inl ⟨rfl, by omega, rfl⟩ | exact Or.inr ⟨rfl, by omega, rfl⟩
        ·
          refine R_lo (nx := 49) rfl rfl rfl rfl ?_
          refine R_get (nx := 52) (w := (2, (a + 3))) rfl rfl (isC_ob hC) rfl ?_
          refine R_lo (nx := 53) rfl rfl rfl rfl ?_
          refine R_iald (nx := 54) rfl rfl (isC_el3 hC (by omega) (by omega)) ?_
          refine R_lo (nx := 55) rfl rfl rfl rfl ?_
          refine R_get (nx := 58) (w := (2, (a + 3))) rfl rfl (isC_ob hC) rfl ?_
          refine R_lo (nx := 59) rfl rfl rfl rfl ?_
          refine R_iald (nx := 60) rfl rfl (isC_el3 hC (by omega) (by omega)) ?_
          refine R_icmp (nx := 63) (tg := 67) rfl rfl rfl (mm_cnd_gt _ _) (fun c60 => ?_) (fun c60 => ?_)
          ·
            refine R_op (nx := 68) rfl rfl rfl ?_
            refine R_ret rfl (fun _ _ => rfl) rfl rfl ?_
            unfold Xmay
            (try rw [h.d b2] at *)
            (try rw [h.d b10] at *)
            (try rw [h.l0 b2] at *)
            (try rw [h.l0 b10] at *)
            (try rw [h.l1 b2] at *)
            (try rw [h.l1 b10] at *)
            first | exact Or.inl ⟨rfl, by omega, rfl⟩ | exact Or.inr ⟨rfl, by omega, rfl⟩
          ·
            refine R_op (nx := 64) rfl rfl rfl ?_
            refine R_op (nx := 67) (pc' := 68) rfl rfl rfl ?_
            refine R_ret rfl (fun _ _ => rfl) rfl rfl ?_
            unfold Xmay
            (try rw [h.d b2] at *)
            (try rw [h.d b10] at *)
            (try rw [h.l0 b2] at *)
            (try rw [h.l0 b10] at *)
            (try rw [h.l1 b2] at *)
            (try rw [h.l1 b10] at *)
            first | exact Or.inl ⟨rfl, by omega, rfl⟩ | exact Or.inr ⟨rfl, by omega, rfl⟩
    ·
      refine ⟨_, rfl, ?_⟩
      refine R_ifT (tg := 67) rfl rfl rfl ?_
      refine R_op (nx := 68) rfl rfl rfl ?_
      refine R_ret rfl (fun _ _ => rfl) rfl rfl ?_
      unfold Xmay
      (try rw [h.d b2] at *)
      (try rw [h.d b10] at *)
      (try rw [h.l0 b2] at *)
      (try rw [h.l0 b10] at *)
      (try rw [h.l1 b2] at *)
      (try rw [h.l1 b10] at *)
      first | exact Or.inl ⟨rfl, by omega, rfl⟩ | exact Or.inr ⟨rfl, by omega, rfl⟩
  ·
    refine ⟨_, rfl, ?_⟩
    refine R_ifT (tg := 67) rfl rfl rfl ?_
    refine R_op (nx := 68) rfl rfl rfl ?_
    refine R_ret rfl (fun _ _ => rfl) rfl rfl ?_
    unfold Xmay
    (try rw [h.d b2] at *)
    (try rw [h.d b10] at *)
    (try rw [h.l0 b2] at *)
    (try rw [h.l0 b10] at *)
    (try rw [h.l1 b2] at *)
    (try rw [h.l1 b10] at *)
    first | exact Or.inl ⟨rfl, by omega, rfl⟩ | exact Or.inr ⟨rfl, by omega, rfl⟩

theorem MC.zero {S : mm_S} {a : Int} : MC (mm_up S a 0 0) a Xz := ⟨Xz_Nz, mm_ua, fun x p q => absurd q (by show ¬ x < 0; omega), fun x y p q => absurd q (by show ¬ x < 0; omega)⟩
set_option maxRecDepth 20000 in
set_option maxHeartbeats 4000000 in
theorem c_C_empty (S : mm_S) (a : Int) (hC : mm_isC a) : Cl 126 [(2, a)] S (fun v S' => v = none ∧ MC S' a Xz ∧ ∀ b, b ≠ a → S' b = S b) := by
  refine ⟨Nat.le_of_ble_eq_true rfl, ?_⟩
  show Rn k_C_empty 0 [(2, a)] [] S _
  refine R_lo (nx := 1) rfl rfl rfl rfl ?_
  refine R_op (nx := 2) rfl rfl rfl ?_
  refine R_put (nx := 5) (kk := 0) rfl rfl (isC_ob hC) rfl rfl ?_
  refine R_ret rfl (fun _ _ => rfl) rfl rfl ?_
  exact ⟨rfl, MC.zero, fun b hb => mm_unq hb⟩
end
section
/-! The class's complexes: counted, broken, copied. -/
set_option maxRecDepth 20000 in
set_option maxHeartbeats 4000000 in
theorem c_C_entriesIn (S : mm_S) (a : Int) (hC : mm_isC a) (K : CX) (h : MC S a K) (x : Int) : Cl 128 [(2, a), (0, x)] S (fun v S' => v = some (0, sm (fun y => if Xe K x y ≠ 0 then 1 else 0) (Xn K)) ∧ S = S') := by
  refine ⟨Nat.le_of_ble_eq_true rfl, ?_⟩
  show Rn k_C_entriesIn 0 [(2, a), (0, x), (9, 0), (9, 0)] [] S _
  have hnr := h.nr
  have hn := h.n
  refine R_op (nx := 1) rfl rfl rfl ?_
  refine R_lo (nx := 2) (ls' := [(2, a), (0, x), (0, 0), (9, 0)]) rfl rfl rfl rfl ?_
  refine R_op (nx := 3) rfl rfl rfl ?_
  refine R_lo (nx := 4) (ls' := [(2, a), (0, x), (0, 0), (0, 0)]) rfl rfl rfl rfl ?_
  have L4 : ∀ (f4 : Nat) (acc : Int) (i : Int), (Xn K - i).toNat < f4 → (0 ≤ i ∧ i ≤ Xn K) → (0 * i ≤ acc ∧ acc ≤ 1 * i) → (acc = sm (fun y => if Xe K x y ≠ 0 then 1 else 0) i) → Rn k_C_entriesIn 4 [(2, a), (0, x), (0, acc), (0, i)] [] S (fun v S' => v = some (0, sm (fun y => if Xe K x y ≠ 0 then 1 else 0) (Xn K)) ∧ S = S') := by
    intro f4
    induction f4 with
    | zero => intro acc i hm4; exact absurd hm4 (Nat.not_lt_zero _)
    | succ f4 ih4 =>
      intro acc i hm4 hi hb ha
      refine R_lo (nx := 5) rfl rfl rfl rfl ?_
      refine R_lo (nx := 6) rfl rfl rfl rfl ?_
      refine R_get (nx := 9) (w := (0, (S a 0))) rfl rfl (isC_ob hC) rfl ?_
      refine R_icmp (nx := 12) (tg := 35) rfl rfl rfl (mm_cnd_ge _ _) (fun c9 => ?_) (fun c9 => ?_)
      ·
        refine R_lo (nx := 36) rfl rfl rfl rfl ?_
        refine R_ret rfl (fun _ _ => rfl) rfl rfl ?_
        have e : i = Xn K := by omega
        subst e
        exact ⟨by rw [ha], rfl⟩
      ·
        refine R_lo (nx := 13) rfl rfl rfl rfl ?_
        refine R_lo (nx := 14) rfl rfl rfl rfl ?_
        refine R_lo (nx := 15) rfl rfl rfl rfl ?_
        refine R_lo (nx := 16) rfl rfl rfl rfl ?_
        refine R_call1 (nx := 19) (as := [(2, a), (0, x), (0, i)]) (rest := [(0, acc)]) rfl rfl (fun _ _ => rfl) rfl rfl rfl rfl rfl rfl (isC_rc hC _) rfl (Cl.mono (c_C_edge S a hC K (by first | assumption | exact MC.up (by assumption) (by omega) | exact MC.up (MC.up (by assumption) (by omega)) (by omega) | exact MC.up (MC.up (MC.up (by assumption) (by omega)) (by omega)) (by omega)) x i) ?_)
        rintro _ _ ⟨rfl, rfl⟩
        refine ⟨_, rfl, ?_⟩
        refine R_if (nx := 22) (tg := 26) rfl rfl rfl (mm_cnd_eq _ _) (fun c19 => ?_) (fun c19 => ?_)
        ·
          refine R_op (nx := 27) rfl rfl rfl ?_
          refine R_iadd (nx := 28) (z := (acc + 0)) rfl rfl rfl ⟨by omega, by omega⟩ ?_
          refine R_lo (nx := 29) (ls' := [(2, a), (0, x), (0, (acc + 0)), (0, i)]) rfl rfl rfl rfl ?_
          refine R_iinc (nx := 32) (z := (i + 1)) (ls' := [(2, a), (0, x), (0, (acc + 0)), (0, (i + 1))]) rfl rfl rfl rfl ⟨by omega, by omega⟩ rfl ?_
          refine R_op (nx := 35) (pc' := 4) rfl rfl rfl ?_
          refine Rn.weak (ls' := [(2, a), (0, x), (0, (acc + 0)), (0, (i + 1))]) ⟨Or.inl rfl, ⟨Or.inl rfl, ⟨Or.inl rfl, ⟨Or.inl rfl, trivial⟩⟩⟩⟩ ?_
          refine ih4 ((acc + 0)) ((i + 1)) ?_ ?_ ?_ ?_
          · omega
          · omega
          · omega
          · rw [sm_s _ hi.1, ← ha]
            first | rw [if_pos c19] | rw [if_neg (fun q => q c19)]
        ·
          refine R_op (nx := 23) rfl rfl rfl ?_
          refine R_op (nx := 26) (pc' := 27) rfl rfl rfl ?_
          refine R_iadd (nx := 28) (z := (acc + 1)) rfl rfl rfl ⟨by omega, by omega⟩ ?_
          refine R_lo (nx := 29) (ls' := [(2, a), (0, x), (0, (acc + 1)), (0, i)]) rfl rfl rfl rfl ?_
          refine R_iinc (nx := 32) (z := (i + 1)) (ls' := [(2, a), (0, x), (0, (acc + 1)), (0, (i + 1))]) rfl rfl rfl rfl ⟨by omega, by omega⟩ rfl ?_
          refine R_op (nx := 35) (pc' := 4) rfl rfl rfl ?_
          refine Rn.weak (ls' := [(2, a), (0, x), (0, (acc + 1)), (0, (i + 1))]) ⟨Or.inl rfl, ⟨Or.inl rfl, ⟨Or.inl rfl, ⟨Or.inl rfl, trivial⟩⟩⟩⟩ ?_
          refine ih4 ((acc + 1)) ((i + 1)) ?_ ?_ ?_ ?_
          · omega
          · omega
          · omega
          · rw [sm_s _ hi.1, ← ha]
            first | rw [if_pos c19] | rw [if_neg (fun q => q c19)]
  refine Rn.weak (ls' := [(2, a), (0, x), (0, 0), (0, 0)]) ⟨Or.inl rfl, ⟨Or.inl rfl, ⟨Or.inl rfl, ⟨Or.inl rfl, trivial⟩⟩⟩⟩ ?_
  refine L4 ((Xn K - (0)).toNat + 1) (0) (0) (Nat.lt_succ_self _) ?_ ?_ ?_
  · omega
  · omega
  · rfl

set_option maxRecDepth 20000 in
set_option maxHeartbeats 4000000 in
theorem c_C_edgesWith (S : mm_S) (a : Int) (hC : mm_isC a) (K : CX) (h : MC S a K) (x : Int) : Cl 129 [(2, a), (0, x)] S (fun v S' => v = some (0, sm (fun y => if Xe K y x ≠ 0 then 1 else 0) (Xn K)) ∧ S = S') := by
  refine ⟨Nat.le_of_ble_eq_true rfl, ?_⟩
  show Rn k_C_edgesWith 0 [(2, a), (0, x), (9, 0), (9, 0)] [] S _
  have hnr := h.nr
  have hn := h.n
  refine R_op (nx := 1) rfl rfl rfl ?_
  refine R_lo (nx := 2) (ls' := [(2, a), (0, x), (0, 0), (9, 0)]) rfl rfl rfl rfl ?_
  refine R_op (nx := 3) rfl rfl rfl ?_
  refine R_lo (nx := 4) (ls' := [(2, a), (0, x), (0, 0), (0, 0)]) rfl rfl rfl rfl ?_
  have L4 : ∀ (f4 : Nat) (acc : Int) (i : Int), (Xn K - i).toNat < f4 → (0 ≤ i ∧ i ≤ Xn K) → (0 * i ≤ acc ∧ acc ≤ 1 * i) → (acc = sm (fun y => if Xe K y x ≠ 0 then 1 else 0) i) → Rn k_C_edgesWith 4 [(2, a), (0, x), (0, acc), (0, i)] [] S (fun v S' => v = some (0, sm (fun y => if Xe K y x ≠ 0 then 1 else 0) (Xn K)) ∧ S = S') := by
    intro f4
    induction f4 with
    | zero => intro acc i hm4; exact absurd hm4 (Nat.not_lt_zero _)
    | succ f4 ih4 =>
      intro acc i hm4 hi hb ha
      refine R_lo (nx := 5) rfl rfl rfl rfl ?_
      refine R_lo (nx := 6) rfl rfl rfl rfl ?_
      refine R_get (nx := 9) (w := (0, (S a 0))) rfl rfl (isC_ob hC) rfl ?_
      refine R_icmp (nx := 12) (tg := 35) rfl rfl rfl (mm_cnd_ge _ _) (fun c9 => ?_) (fun c9 => ?_)
      ·
        refine R_lo (nx := 36) rfl rfl rfl rfl ?_
        refine R_ret rfl (fun _ _ => rfl) rfl rfl ?_
        have e : i = Xn K := by omega
        subst e
        exact ⟨by rw [ha], rfl⟩
      ·
        refine R_lo (nx := 13) rfl rfl rfl rfl ?_
        refine R_lo (nx := 14) rfl rfl rfl rfl ?_
        refine R_lo (nx := 15) rfl rfl rfl rfl ?_
        refine R_lo (nx := 16) rfl rfl rfl rfl ?_
        refine R_call1 (nx := 19) (as := [(2, a), (0, i), (0, x)]) (rest := [(0, acc)]) rfl rfl (fun _ _ => rfl) rfl rfl rfl rfl rfl rfl (isC_rc hC _) rfl (Cl.mono (c_C_edge S a hC K (by first | assumption | exact MC.up (by assumption) (by omega) | exact MC.up (MC.up (by assumption) (by omega)) (by omega) | exact MC.up (MC.up (MC.up (by assumption) (by omega)) (by omega)) (by omega)) i x) ?_)
        rintro _ _ ⟨rfl, rfl⟩
        refine ⟨_, rfl, ?_⟩
        refine R_if (nx := 22) (tg := 26) rfl rfl rfl (mm_cnd_eq _ _) (fun c19 => ?_) (fun c19 => ?_)
        ·
          refine R_op (nx := 27) rfl rfl rfl ?_
          refine R_iadd (nx := 28) (z := (acc + 0)) rfl rfl rfl ⟨by omega, by omega⟩ ?_
          refine R_lo (nx := 29) (ls' := [(2, a), (0, x), (0, (acc + 0)), (0, i)]) rfl rfl rfl rfl ?_
          refine R_iinc (nx := 32) (z := (i + 1)) (ls' := [(2, a), (0, x), (0, (acc + 0)), (0, (i + 1))]) rfl rfl rfl rfl ⟨by omega, by omega⟩ rfl ?_
          refine R_op (nx := 35) (pc' := 4) rfl rfl rfl ?_
          refine Rn.weak (ls' := [(2, a), (0, x), (0, (acc + 0)), (0, (i + 1))]) ⟨Or.inl rfl, ⟨Or.inl rfl, ⟨Or.inl rfl, ⟨Or.inl rfl, trivial⟩⟩⟩⟩ ?_
          refine ih4 ((acc + 0)) ((i + 1)) ?_ ?_ ?_ ?_
          · omega
          · omega
          · omega
          · rw [sm_s _ hi.1, ← ha]
            first | rw [if_pos c19] | rw [if_neg (fun q => q c19)]
        ·
          refine R_op (nx := 23) rfl rfl rfl ?_
          refine R_op (nx := 26) (pc' := 27) rfl rfl rfl ?_
          refine R_iadd (nx := 28) (z := (acc + 1)) rfl rfl rfl ⟨by omega, by omega⟩ ?_
          refine R_lo (nx := 29) (ls' := [(2, a), (0, x), (0, (acc + 1)), (0, i)]) rfl rfl rfl rfl ?_
          refine R_iinc (nx := 32) (z := (i + 1)) (ls' := [(2, a), (0, x), (0, (acc + 1)), (0, (i + 1))]) rfl rfl rfl rfl ⟨by omega, by omega⟩ rfl ?_
          refine R_op (nx := 35) (pc' := 4) rfl rfl rfl ?_
          refine Rn.weak (ls' := [(2, a), (0, x), (0, (acc + 1)), (0, (i + 1))]) ⟨Or.inl rfl, ⟨Or.inl rfl, ⟨Or.inl rfl, ⟨Or.inl rfl, trivial⟩⟩⟩⟩ ?_
          refine ih4 ((acc + 1)) ((i + 1)) ?_ ?_ ?_ ?_
          · omega
          · omega
          · omega
          · rw [sm_s _ hi.1, ← ha]
            first | rw [if_pos c19] | rw [if_neg (fun q => q c19)]
  refine Rn.weak (ls' := [(2, a), (0, x), (0, 0), (0, 0)]) ⟨Or.inl rfl, ⟨Or.inl rfl, ⟨Or.inl rfl, ⟨Or.inl rfl, trivial⟩⟩⟩⟩ ?_
  refine L4 ((Xn K - (0)).toNat + 1) (0) (0) (Nat.lt_succ_self _) ?_ ?_ ?_
  · omega
  · omega
  · rfl

set_option maxRecDepth 20000 in
set_option maxHeartbeats 4000000 in
theorem c_C_edgeOfEdge (S : mm_S) (a : Int) (hC : mm_isC a) (K : CX) (h : MC S a K) (hR : Rg K) (x y : Int) : Cl 133 [(2, a), (0, x), (0, y)] S (fun v S' => v = some (0, Xdd K x y) ∧ S = S') := by
  refine ⟨Nat.le_of_ble_eq_true rfl, ?_⟩
  show Rn k_C_edgeOfEdge 0 [(2, a), (0, x), (0, y), (9, 0), (9, 0), (9, 0)] [] S _
  have hnr := h.nr
  have hn := h.n
  refine R_lo (nx := 1) rfl rfl rfl rfl ?_
  refine R_lo (nx := 2) rfl rfl rfl rfl ?_
  refine R_call1 (nx := 5) (as := [(2, a), (0, x)]) (rest := []) rfl rfl (fun _ _ => rfl) rfl rfl rfl rfl rfl rfl (isC_rc hC _) rfl (Cl.mono (c_C_has S a hC K (by first | assumption | exact MC.up (by assumption) (by omega) | exact MC.up (MC.up (by assumption) (by omega)) (by omega) | exact MC.up (MC.up (MC.up (by assumption) (by omega)) (by omega)) (by omega)) x) ?_)
  rintro _ _ (⟨rfl, b2, rfl⟩ | ⟨rfl, b2, rfl⟩)
  ·
    refine ⟨_, rfl, ?_⟩
    refine R_ifF (nx := 8) rfl rfl rfl ?_
    refine R_lo (nx := 9) rfl rfl rfl rfl ?_
    refine R_lo (nx := 10) rfl rfl rfl rfl ?_
    refine R_call1 (nx := 13) (as := [(2, a), (0, y)]) (rest := []) rfl rfl (fun _ _ => rfl) rfl rfl rfl rfl rfl rfl (isC_rc hC _) rfl (Cl.mono (c_C_has S a hC K (by first | assumption | exact MC.up (by assumption) (by omega) | exact MC.up (MC.up (by assumption) (by omega)) (by omega) | exact MC.up (MC.up (MC.up (by assumption) (by omega)) (by omega)) (by omega)) y) ?_)
    rintro _ _ (⟨rfl, b10, rfl⟩ | ⟨rfl, b10, rfl⟩)
    ·
      refine ⟨_, rfl, ?_⟩
      refine R_ifT (tg := 18) rfl rfl rfl ?_
      refine R_op (nx := 19) rfl rfl rfl ?_
      refine R_lo (nx := 20) (ls' := [(2, a), (0, x), (0, y), (0, 0), (9, 0), (9, 0)]) rfl rfl rfl rfl ?_
      refine R_op (nx := 21) rfl rfl rfl ?_
      refine R_lo (nx := 23) (ls' := [(2, a), (0, x), (0, y), (0, 0), (0, 0), (9, 0)]) rfl rfl rfl rfl ?_
      have L23 : ∀ (f23 : Nat) (acc : Int) (i : Int), (Xn K - i).toNat < f23 → (0 ≤ i ∧ i ≤ Xn K) → (acc = sm (fun k => Xe K x k * Xe K k y) i) → Rn k_C_edgeOfEdge 23 [(2, a), (0, x), (0, y), (0, acc), (0, i), (9, 0)] [] S (fun v S' => v = some (0, Xdd K x y) ∧ S = S') := by
        intro f23
        induction f23 with
        | zero => intro acc i hm23; exact absurd hm23 (Nat.not_lt_zero _)
        | succ f23 ih23 =>
          intro acc i hm23 hi ha
          have hpb := Xdd_part hR x y hi.1 (by omega)
          have hpr := pr81 (hR.e x i) (hR.e i y)
          refine R_lo (nx := 25) rfl rfl rfl rfl ?_
          refine R_lo (nx := 26) rfl rfl rfl rfl ?_
          refine R_get (nx := 29) (w := (0, (S a 0))) rfl rfl (isC_ob hC) rfl ?_
          refine R_icmp (nx := 32) (tg := 75) rfl rfl rfl (mm_cnd_ge _ _) (fun c29 => ?_) (fun c29 => ?_)
          ·
            refine R_lo (nx := 76) rfl rfl rfl rfl ?_
            refine R_ret rfl (fun _ _ => rfl) rfl rfl ?_
            first | (have e : i = Xn K := (by omega); subst e; exact ⟨by rw [ha]; rfl, rfl⟩) | exact ⟨by rw [Xdd_out h.1 (by omega)], rfl⟩
          ·
            refine R_lo (nx := 33) rfl rfl rfl rfl ?_
            refine R_get (nx := 36) (w := (2, (a + 4))) rfl rfl (isC_ob hC) rfl ?_
            refine R_lo (nx := 37) rfl rfl rfl rfl ?_
            refine R_op (nx := 39) rfl rfl rfl ?_
            refine R_imul (nx := 40) (z := (x * 12)) rfl rfl rfl ⟨by omega, by omega⟩ ?_
            refine R_lo (nx := 42) rfl rfl rfl rfl ?_
            refine R_iadd (nx := 43) (z := ((x * 12) + i)) rfl rfl rfl ⟨by omega, by omega⟩ ?_
            refine R_iald (nx := 44) rfl rfl (isC_el4 hC (by omega) (by omega)) ?_
            rw [h.e b2 (show 0 ≤ i ∧ i < Xn K by omega)]
            refine R_lo (nx := 46) (ls' := [(2, a), (0, x), (0, y), (0, acc), (0, i), (0, (Xe K x i))]) rfl rfl rfl rfl ?_
            refine R_lo (nx := 48) rfl rfl rfl rfl ?_
            refine R_if (nx := 51) (tg := 69) rfl rfl rfl (mm_cnd_eq _ _) (fun c48 => ?_) (fun c48 => ?_)
            ·
              refine R_iinc (nx := 72) (z := (i + 1)) (ls' := [(2, a), (0, x), (0, y), (0, acc), (0, (i + 1)), (0, (Xe K x i))]) rfl rfl rfl rfl ⟨by omega, by omega⟩ rfl ?_
              refine R_op (nx := 75) (pc' := 23) rfl rfl rfl ?_
              refine Rn.weak (ls' := [(2, a), (0, x), (0, y), (0, acc), (0, (i + 1)), (9, 0)]) ⟨Or.inl rfl, ⟨Or.inl rfl, ⟨Or.inl rfl, ⟨Or.inl rfl, ⟨Or.inl rfl, ⟨Or.inr rfl, trivial⟩⟩⟩⟩⟩⟩ ?_
              refine ih23 (acc) ((i + 1)) ?_ ?_ ?_
              · omega
              · omega
              · rw [sm_s _ hi.1, ← ha]
                try rw [c48, Int.zero_mul, Int.add_zero]
            ·
              refine R_lo (nx := 52) rfl rfl rfl rfl ?_
              refine R_lo (nx := 54) rfl rfl rfl rfl ?_
              refine R_lo (nx := 55) rfl rfl rfl rfl ?_
              refine R_get (nx := 58) (w := (2, (a + 4))) rfl rfl (isC_ob hC) rfl ?_
              refine R_lo (nx := 60) rfl rfl rfl rfl ?_
              refine R_op (nx := 62) rfl rfl rfl ?_
              refine R_imul (nx := 63) (z := (i * 12)) rfl rfl rfl ⟨by omega, by omega⟩ ?_
              refine R_lo (nx := 64) rfl rfl rfl rfl ?_
              refine R_iadd (nx := 65) (z := ((i * 12) + y)) rfl rfl rfl ⟨by omega, by omega⟩ ?_
              refine R_iald (nx := 66) rfl rfl (isC_el4 hC (by omega) (by omega)) ?_
              rw [h.e (show 0 ≤ i ∧ i < Xn K by omega) b10]
              refine R_imul (nx := 67) (z := ((Xe K x i) * (Xe K i y))) rfl rfl rfl ⟨by omega, by omega⟩ ?_
              refine R_iadd (nx := 68) (z := (acc + ((Xe K x i) * (Xe K i y)))) rfl rfl rfl ⟨by omega, by omega⟩ ?_
              refine R_lo (nx := 69) (ls' := [(2, a), (0, x), (0, y), (0, (acc + ((Xe K x i) * (Xe K i y)))), (0, i), (0, (Xe K x i))]) rfl rfl rfl rfl ?_
              refine R_iinc (nx := 72) (z := (i + 1)) (ls' := [(2, a), (0, x), (0, y), (0, (acc + ((Xe K x i) * (Xe K i y)))), (0, (i + 1)), (0, (Xe K x i))]) rfl rfl rfl rfl ⟨by omega, by omega⟩ rfl ?_
              refine R_op (nx := 75) (pc' := 23) rfl rfl rfl ?_
              refine Rn.weak (ls' := [(2, a), (0, x), (0, y), (0, (acc + ((Xe K x i) * (Xe K i y)))), (0, (i + 1)), (9, 0)]) ⟨Or.inl rfl, ⟨Or.inl rfl, ⟨Or.inl rfl, ⟨Or.inl rfl, ⟨Or.inl rfl, ⟨Or.inr rfl, trivial⟩⟩⟩⟩⟩⟩ ?_
              refine ih23 ((acc + ((Xe K x i) * (Xe K i y)))) ((i + 1)) ?_ ?_ ?_
              · omega
              · omega
              · rw [sm_s _ hi.1, ← ha]
                try rw [c48, Int.zero_mul, Int.add_zero]
      refine Rn.weak (ls' := [(2, a), (0, x), (0, y), (0, 0), (0, 0), (9, 0)]) ⟨Or.inl rfl, ⟨Or.inl rfl, ⟨Or.inl rfl, ⟨Or.inl rfl, ⟨Or.inl rfl, ⟨Or.inl rfl, trivial⟩⟩⟩⟩⟩⟩ ?_
      refine L23 ((Xn K - (0)).toNat + 1) (0) (0) (Nat.lt_succ_self _) ?_ ?_
      · omega
      · rfl
    ·
      refine ⟨_, rfl, ?_⟩
      refine R_ifF (nx := 16) rfl rfl rfl ?_
      refine R_op (nx := 17) rfl rfl rfl ?_
      refine R_ret rfl (fun _ _ => rfl) rfl rfl ?_
      first | (have e : i = Xn K := (by omega); subst e; exact ⟨by rw [ha]; rfl, rfl⟩) | exact ⟨by rw [Xdd_out h.1 (by omega)], rfl⟩
  ·
    refine ⟨_, rfl, ?_⟩
    refine R_ifT (tg := 16) rfl rfl rfl ?_
    refine R_op (nx := 17) rfl rfl rfl ?_
    refine R_ret rfl (fun _ _ => rfl) rfl rfl ?_
    first | (have e : i = Xn K := (by omega); subst e; exact ⟨by rw [ha]; rfl, rfl⟩) | exact ⟨by rw [Xdd_out h.1 (by omega)], rfl⟩

theorem Xfb_hit {K : CX} {x y : Int} (hx : x < Xn K) (hy : y < Xn K) (h0 : 0 ≤ x ∧ 0 ≤ y) (ho : Xfb K = fr (fun x => fr (Xfbr K x) 0 (Xn K)) x (Xn K)) (hq : fr (Xfbr K x) 0 (Xn K) = fr (Xfbr K x) y (Xn K)) (hne : Xdd K x y ≠ 0) : Xfb K = 1 + 16 * x + y := by
  have e : Xfbr K x y = 1 + 16 * x + y := if_pos hne
  have e2 : fr (Xfbr K x) 0 (Xn K) = 1 + 16 * x + y := by rw [hq, fr_y _ hy (by rw [e]; omega), e]
  rw [ho, fr_y _ hx (by rw [e2]; omega), e2]
theorem Xfb_row {K : CX} {x : Int} (hx : x < Xn K) (ho : Xfb K = fr (fun x => fr (Xfbr K x) 0 (Xn K)) x (Xn K)) (hr : fr (Xfbr K x) 0 (Xn K) = 0) : Xfb K = fr (fun x => fr (Xfbr K x) 0 (Xn K)) (x + 1) (Xn K) := by rw [ho, fr_n _ hx hr]
theorem Xfb_nxt {K : CX} {x y : Int} (hy : y < Xn K) (hq : fr (Xfbr K x) 0 (Xn K) = fr (Xfbr K x) y (Xn K)) (h0 : Xdd K x y = 0) : fr (Xfbr K x) 0 (Xn K) = fr (Xfbr K x) (y + 1) (Xn K) := by rw [hq, fr_n _ hy (if_neg (fun q => q h0))]
theorem Xfb_low {K : CX} (hV : Vx K) {x : Int} (hd : Xd K x - 2 < 0) : fr (Xfbr K x) 0 (Xn K) = 0 := fr_z.mpr fun y _ _ => if_neg fun q => q (Xdd_may hV (by have := hV.2.1.d y; omega))

set_option maxRecDepth 20000 in
set_option maxHeartbeats 4000000 in
theorem c_C_firstBroken (S : mm_S) (a : Int) (hC : mm_isC a) (K : CX) (h : MC S a K) (hV : Vx K) : Cl 131 [(2, a)] S (fun v S' => v = some (0, Xfb K) ∧ S = S') := by
  refine ⟨Nat.le_of_ble_eq_true rfl, ?_⟩
  show Rn k_C_firstBroken 0 [(2, a), (9, 0), (9, 0), (9, 0)] [] S _
  have hnr := h.nr
  have hn := h.n
  have hR := hV.2.1
  refine R_op (nx := 1) rfl rfl rfl ?_
  refine R_lo (nx := 2) (ls' := [(2, a), (0, 0), (9, 0), (9, 0)]) rfl rfl rfl rfl ?_
  have L2 : ∀ (f2 : Nat) (x : Int), (Xn K - x).toNat < f2 → (0 ≤ x ∧ x ≤ Xn K) → (Xfb K = fr (fun x => fr (Xfbr K x) 0 (Xn K)) x (Xn K)) → Rn k_C_firstBroken 2 [(2, a), (0, x), (9, 0), (9, 0)] [] S (fun v S' => v = some (0, Xfb K) ∧ S = S') := by
    intro f2
    induction f2 with
    | zero => intro x hm2; exact absurd hm2 (Nat.not_lt_zero _)
    | succ f2 ih2 =>
      intro x hm2 hx ho
      have hdr := hR.d x
      refine R_lo (nx := 3) rfl rfl rfl rfl ?_
      refine R_lo (nx := 4) rfl rfl rfl rfl ?_
      refine R_get (nx := 7) (w := (0, (S a 0))) rfl rfl (isC_ob hC) rfl ?_
      refine R_icmp (nx := 10) (tg := 71) rfl rfl rfl (mm_cnd_ge _ _) (fun c7 => ?_) (fun c7 => ?_)
      ·
        refine R_op (nx := 72) rfl rfl rfl ?_
        refine R_ret rfl (fun _ _ => rfl) rfl rfl ?_
        first | exact ⟨by rw [Xfb_hit (by omega) (by omega) (by omega) ho hq c47], rfl⟩ | exact ⟨by rw [ho, fr_e _ (by omega)], rfl⟩
      ·
        refine R_lo (nx := 11) rfl rfl rfl rfl ?_
        refine R_lo (nx := 12) rfl rfl rfl rfl ?_
        refine R_call1 (nx := 15) (as := [(2, a), (0, x)]) (rest := []) rfl rfl (fun _ _ => rfl) rfl rfl rfl rfl rfl rfl (isC_rc hC _) rfl (Cl.mono (c_C_degree S a hC K (by first | assumption | exact MC.up (by assumption) (by omega) | exact MC.up (MC.up (by assumption) (by omega)) (by omega) | exact MC.up (MC.up (MC.up (by assumption) (by omega)) (by omega)) (by omega)) x) ?_)
        rintro _ _ ⟨rfl, rfl⟩
        refine ⟨_, rfl, ?_⟩
        refine R_op (nx := 16) rfl rfl rfl ?_
        refine R_isub (nx := 17) (z := ((Xd K x) - 2)) rfl rfl rfl ⟨by omega, by omega⟩ ?_
        refine R_lo (nx := 18) (ls' := [(2, a), (0, x), (0, ((Xd K x) - 2)), (9, 0)]) rfl rfl rfl rfl ?_
        refine R_op (nx := 19) rfl rfl rfl ?_
        refine R_lo (nx := 20) (ls' := [(2, a), (0, x), (0, ((Xd K x) - 2)), (0, 0)]) rfl rfl rfl rfl ?_
        have L20 : ∀ (f20 : Nat) (y : Int), (Xn K - y).toNat < f20 → (0 ≤ y ∧ y ≤ Xn K) → (fr (Xfbr K x) 0 (Xn K) = fr (Xfbr K x) y (Xn K)) → Rn k_C_firstBroken 20 [(2, a), (0, x), (0, (Xd K x - 2)), (0, y)] [] S (fun v S' => v = some (0, Xfb K) ∧ S = S') := by
          intro f20
          induction f20 with
          | zero => intro y hm20; exact absurd hm20 (Nat.not_lt_zero _)
          | succ f20 ih20 =>
            intro y hm20 hy hq
            refine R_lo (nx := 21) rfl rfl rfl rfl ?_
            refine R_lo (nx := 22) rfl rfl rfl rfl ?_
            refine R_get (nx := 25) (w := (0, (S a 0))) rfl rfl (isC_ob hC) rfl ?_
            refine R_icmp (nx := 28) (tg := 65) rfl rfl rfl (mm_cnd_ge _ _) (fun c25 => ?_) (fun c25 => ?_)
            ·
              refine R_iinc (nx := 68) (z := (x + 1)) (ls' := [(2, a), (0, (x + 1)), (0, (Xd K x - 2)), (0, y)]) rfl rfl rfl rfl ⟨by omega, by omega⟩ rfl ?_
              refine R_op (nx := 71) (pc' := 2) rfl rfl rfl ?_
              refine Rn.weak (ls' := [(2, a), (0, (x + 1)), (9, 0), (9, 0)]) ⟨Or.inl rfl, ⟨Or.inl rfl, ⟨Or.inr rfl, ⟨Or.inr rfl, trivial⟩⟩⟩⟩ ?_
              refine ih2 ((x + 1)) ?_ ?_ ?_
              · omega
              · omega
              · first | exact Xfb_row (by omega) ho (by rw [hq, fr_e _ (by omega)]) | exact Xfb_row (by omega) ho (Xfb_low hV (by omega))
            ·
              refine R_lo (nx := 29) rfl rfl rfl rfl ?_
              refine R_if (nx := 32) (tg := 65) rfl rfl rfl (mm_cnd_lt _ _) (fun c29 => ?_) (fun c29 => ?_)
              ·
                refine R_iinc (nx := 68) (z := (x + 1)) (ls' := [(2, a), (0, (x + 1)), (0, (Xd K x - 2)), (0, y)]) rfl rfl rfl rfl ⟨by omega, by omega⟩ rfl ?_
                refine R_op (nx := 71) (pc' := 2) rfl rfl rfl ?_
                refine Rn.weak (ls' := [(2, a), (0, (x + 1)), (9, 0), (9, 0)]) ⟨Or.inl rfl, ⟨Or.inl rfl, ⟨Or.inr rfl, ⟨Or.inr rfl, trivial⟩⟩⟩⟩ ?_
                refine ih2 ((x + 1)) ?_ ?_ ?_
                · omega
                · omega
                · first | exact Xfb_row (by omega) ho (by rw [hq, fr_e _ (by omega)]) | exact Xfb_row (by omega) ho (Xfb_low hV (by omega))
              ·
                refine R_lo (nx := 33) rfl rfl rfl rfl ?_
                refine R_lo (nx := 34) rfl rfl rfl rfl ?_
                refine R_call1 (nx := 37) (as := [(2, a), (0, y)]) (rest := []) rfl rfl (fun _ _ => rfl) rfl rfl rfl rfl rfl rfl (isC_rc hC _) rfl (Cl.mono (c_C_degree S a hC K (by first | assumption | exact MC.up (by assumption) (by omega) | exact MC.up (MC.up (by assumption) (by omega)) (by omega) | exact MC.up (MC.up (MC.up (by assumption) (by omega)) (by omega)) (by omega)) y) ?_)
                rintro _ _ ⟨rfl, rfl⟩
                refine ⟨_, rfl, ?_⟩
                refine R_lo (nx := 38) rfl rfl rfl rfl ?_
                refine R_icmp (nx := 41) (tg := 59) rfl rfl rfl (mm_cnd_ne _ _) (fun c38 => ?_) (fun c38 => ?_)
                ·
                  refine R_iinc (nx := 62) (z := (y + 1)) (ls' := [(2, a), (0, x), (0, (Xd K x - 2)), (0, (y + 1))]) rfl rfl rfl rfl ⟨by omega, by omega⟩ rfl ?_
                  refine R_op (nx := 65) (pc' := 20) rfl rfl rfl ?_
                  refine Rn.weak (ls' := [(2, a), (0, x), (0, (Xd K x - 2)), (0, (y + 1))]) ⟨Or.inl rfl, ⟨Or.inl rfl, ⟨Or.inl rfl, ⟨Or.inl rfl, trivial⟩⟩⟩⟩ ?_
                  refine ih20 ((y + 1)) ?_ ?_ ?_
                  · omega
                  · omega
                  · first | exact Xfb_nxt (by omega) hq c47 | exact Xfb_nxt (by omega) hq (Xdd_may hV c38)
                ·
                  refine R_lo (nx := 42) rfl rfl rfl rfl ?_
                  refine R_lo (nx := 43) rfl rfl rfl rfl ?_
                  refine R_lo (nx := 44) rfl rfl rfl rfl ?_
                  refine R_call1 (nx := 47) (as := [(2, a), (0, x), (0, y)]) (rest := []) rfl rfl (fun _ _ => rfl) rfl rfl rfl rfl rfl rfl (isC_rc hC _) rfl (Cl.mono (c_C_edgeOfEdge S a hC K (by first | assumption | exact MC.up (by assumption) (by omega) | exact MC.up (MC.up (by assumption) (by omega)) (by omega) | exact MC.up (MC.up (MC.up (by assumption) (by omega)) (by omega)) (by omega)) (by assumption) x y) ?_)
                  rintro _ _ ⟨rfl, rfl⟩
                  refine ⟨_, rfl, ?_⟩
                  refine R_if (nx := 50) (tg := 59) rfl rfl rfl (mm_cnd_eq _ _) (fun c47 => ?_) (fun c47 => ?_)
                  ·
                    refine R_iinc (nx := 62) (z := (y + 1)) (ls' := [(2, a), (0, x), (0, (Xd K x - 2)), (0, (y + 1))]) rfl rfl rfl rfl ⟨by omega, by omega⟩ rfl ?_
                    refine R_op (nx := 65) (pc' := 20) rfl rfl rfl ?_
                    refine Rn.weak (ls' := [(2, a), (0, x), (0, (Xd K x - 2)), (0, (y + 1))]) ⟨Or.inl rfl, ⟨Or.inl rfl, ⟨Or.inl rfl, ⟨Or.inl rfl, trivial⟩⟩⟩⟩ ?_
                    refine ih20 ((y + 1)) ?_ ?_ ?_
                    · omega
                    · omega
                    · first | exact Xfb_nxt (by omega) hq c47 | exact Xfb_nxt (by omega) hq (Xdd_may hV c38)
                  ·
                    refine R_op (nx := 51) rfl rfl rfl ?_
                    refine R_op (nx := 53) rfl rfl rfl ?_
                    refine R_lo (nx := 54) rfl rfl rfl rfl ?_
                    refine R_imul (nx := 55) (z := (16 * x)) rfl rfl rfl ⟨by omega, by omega⟩ ?_
                    refine R_iadd (nx := 56) (z := (1 + (16 * x))) rfl rfl rfl ⟨by omega, by omega⟩ ?_
                    refine R_lo (nx := 57) rfl rfl rfl rfl ?_
                    refine R_iadd (nx := 58) (z := ((1 + (16 * x)) + y)) rfl rfl rfl ⟨by omega, by omega⟩ ?_
                    refine R_ret rfl (fun _ _ => rfl) rfl rfl ?_
                    first | exact ⟨by rw [Xfb_hit (by omega) (by omega) (by omega) ho hq c47], rfl⟩ | exact ⟨by rw [ho, fr_e _ (by omega)], rfl⟩
        refine Rn.weak (ls' := [(2, a), (0, x), (0, (Xd K x - 2)), (0, 0)]) ⟨Or.inl rfl, ⟨Or.inl rfl, ⟨Or.inl rfl, ⟨Or.inl rfl, trivial⟩⟩⟩⟩ ?_
        refine L20 ((Xn K - (0)).toNat + 1) (0) (Nat.lt_succ_self _) ?_ ?_
        · omega
        · rfl
  refine Rn.weak (ls' := [(2, a), (0, 0), (9, 0), (9, 0)]) ⟨Or.inl rfl, ⟨Or.inl rfl, ⟨Or.inl rfl, ⟨Or.inl rfl, trivial⟩⟩⟩⟩ ?_
  refine L2 ((Xn K - (0)).toNat + 1) (0) (Nat.lt_succ_self _) ?_ ?_
  · omega
  · rfl

set_option maxRecDepth 20000 in
set_option maxHeartbeats 4000000 in
theorem c_C_isBroken (S : mm_S) (a : Int) (hC : mm_isC a) (K : CX) (h : MC S a K) (hV : Vx K) : Cl 130 [(2, a)] S (fun v S' => (v = some (0, 1) ∧ (Xfb K ≠ 0) ∧ S = S') ∨ (v = some (0, 0) ∧ ¬ (Xfb K ≠ 0) ∧ S = S')) := by
  refine ⟨Nat.le_of_ble_eq_true rfl, ?_⟩
  show Rn k_C_isBroken 0 [(2, a)] [] S _
  have hnr := h.nr
  have hn := h.n
  refine R_lo (nx := 1) rfl rfl rfl rfl ?_
  refine R_call1 (nx := 4) (as := [(2, a)]) (rest := []) rfl rfl (fun _ _ => rfl) rfl rfl rfl rfl rfl rfl (isC_rc hC _) rfl (Cl.mono (c_C_firstBroken S a hC K (by first | assumption | exact MC.up (by assumption) (by omega) | exact MC.up (MC.up (by assumption) (by omega)) (by omega) | exact MC.up (MC.up (MC.up (by assumption) (by omega)) (by omega)) (by omega)) (by assumption)) ?_)
  rintro _ _ ⟨rfl, rfl⟩
  refine ⟨_, rfl, ?_⟩
  refine R_if (nx := 7) (tg := 11) rfl rfl rfl (mm_cnd_eq _ _) (fun c4 => ?_) (fun c4 => ?_)
  ·
    refine R_op (nx := 12) rfl rfl rfl ?_
    refine R_ret rfl (fun _ _ => rfl) rfl rfl ?_
    first | exact Or.inl ⟨rfl, c4, rfl⟩ | exact Or.inr ⟨rfl, fun q => q c4, rfl⟩
  ·
    refine R_op (nx := 8) rfl rfl rfl ?_
    refine R_op (nx := 11) (pc' := 12) rfl rfl rfl ?_
    refine R_ret rfl (fun _ _ => rfl) rfl rfl ?_
    first | exact Or.inl ⟨rfl, c4, rfl⟩ | exact Or.inr ⟨rfl, fun q => q c4, rfl⟩

set_option maxRecDepth 20000 in
set_option maxHeartbeats 4000000 in
theorem c_C_stillBroken (S : mm_S) (a : Int) (hC : mm_isC a) (K : CX) (h : MC S a K) (hV : Vx K) (t : Int) (ht : 0 ≤ t ∧ t ≤ 1000) : Cl 132 [(2, a), (0, t)] S (fun v S' => ∃ r, v = some (0, r) ∧ S = S' ∧ (0 ≤ r ∧ r ≤ 1000) ∧ (r = 0 ↔ Xfb K = 0)) := by
  refine ⟨Nat.le_of_ble_eq_true rfl, ?_⟩
  show Rn k_C_stillBroken 0 [(2, a), (0, t), (9, 0)] [] S _
  have hnr := h.nr
  have hn := h.n
  have hR := hV.2.1
  have hf := Xfb_r h.1
  have hz := Xfb_z h.1
  have ht1 := Int.tdiv_eq_ediv_of_nonneg (a := t - 1) (b := 16)
  refine R_lo (nx := 1) rfl rfl rfl rfl ?_
  refine R_op (nx := 2) rfl rfl rfl ?_
  refine R_isub (nx := 3) (z := (t - 1)) rfl rfl rfl ⟨by omega, by omega⟩ ?_
  refine R_lo (nx := 4) (ls' := [(2, a), (0, t), (0, (t - 1))]) rfl rfl rfl rfl ?_
  refine R_lo (nx := 5) rfl rfl rfl rfl ?_
  refine R_if (nx := 8) (tg := 27) rfl rfl rfl (mm_cnd_lt _ _) (fun c5 => ?_) (fun c5 => ?_)
  ·
    refine R_lo (nx := 28) rfl rfl rfl rfl ?_
    refine R_call1 (nx := 31) (as := [(2, a)]) (rest := []) rfl rfl (fun _ _ => rfl) rfl rfl rfl rfl rfl rfl (isC_rc hC _) rfl (Cl.mono (c_C_firstBroken S a hC K (by first | assumption | exact MC.up (by assumption) (by omega) | exact MC.up (MC.up (by assumption) (by omega)) (by omega) | exact MC.up (MC.up (MC.up (by assumption) (by omega)) (by omega)) (by omega)) (by assumption)) ?_)
    rintro _ _ ⟨rfl, rfl⟩
    refine ⟨_, rfl, ?_⟩
    refine R_ret rfl (fun _ _ => rfl) rfl rfl ?_
    first | exact ⟨_, rfl, rfl, by omega, by omega⟩ | exact ⟨_, rfl, rfl, by omega, by omega, fun q => absurd (hz.mp q _ _) c20⟩
  ·
    refine R_lo (nx := 9) rfl rfl rfl rfl ?_
    refine R_lo (nx := 10) rfl rfl rfl rfl ?_
    refine R_op (nx := 12) rfl rfl rfl ?_
    refine R_idiv (nx := 13) (z := (Int.tdiv (t - 1) 16)) rfl rfl (by decide) rfl ⟨by have := ht1 (by omega); omega, by have := ht1 (by omega); omega⟩ ?_
    refine R_lo (nx := 14) rfl rfl rfl rfl ?_
    refine R_op (nx := 16) rfl rfl rfl ?_
    refine R_irem (nx := 17) (z := (Int.tmod (t - 1) 16)) rfl rfl (by decide) rfl ?_
    refine R_call1 (nx := 20) (as := [(2, a), (0, (Int.tdiv (t - 1) 16)), (0, (Int.tmod (t - 1) 16))]) (rest := []) rfl rfl (fun _ _ => rfl) rfl rfl rfl rfl rfl rfl (isC_rc hC _) rfl (Cl.mono (c_C_edgeOfEdge S a hC K (by first | assumption | exact MC.up (by assumption) (by omega) | exact MC.up (MC.up (by assumption) (by omega)) (by omega) | exact MC.up (MC.up (MC.up (by assumption) (by omega)) (by omega)) (by omega)) (by assumption) (Int.tdiv (t - 1) 16) (Int.tmod (t - 1) 16)) ?_)
    rintro _ _ ⟨rfl, rfl⟩
    refine ⟨_, rfl, ?_⟩
    refine R_if (nx := 23) (tg := 27) rfl rfl rfl (mm_cnd_eq _ _) (fun c20 => ?_) (fun c20 => ?_)
    ·
      refine R_lo (nx := 28) rfl rfl rfl rfl ?_
      refine R_call1 (nx := 31) (as := [(2, a)]) (rest := []) rfl rfl (fun _ _ => rfl) rfl rfl rfl rfl rfl rfl (isC_rc hC _) rfl (Cl.mono (c_C_firstBroken S a hC K (by first | assumption | exact MC.up (by assumption) (by omega) | exact MC.up (MC.up (by assumption) (by omega)) (by omega) | exact MC.up (MC.up (MC.up (by assumption) (by omega)) (by omega)) (by omega)) (by assumption)) ?_)
      rintro _ _ ⟨rfl, rfl⟩
      refine ⟨_, rfl, ?_⟩
      refine R_ret rfl (fun _ _ => rfl) rfl rfl ?_
      first | exact ⟨_, rfl, rfl, by omega, by omega⟩ | exact ⟨_, rfl, rfl, by omega, by omega, fun q => absurd (hz.mp q _ _) c20⟩
    ·
      refine R_lo (nx := 24) rfl rfl rfl rfl ?_
      refine R_op (nx := 27) (pc' := 31) rfl rfl rfl ?_
      refine R_ret rfl (fun _ _ => rfl) rfl rfl ?_
      first | exact ⟨_, rfl, rfl, by omega, by omega⟩ | exact ⟨_, rfl, rfl, by omega, by omega, fun q => absurd (hz.mp q _ _) c20⟩

theorem acp_C {a b : Int} (hC : mm_isC a) (hB : mm_isC b) : (0 ≤ b + 1 ∧ 0 ≤ a + 1 ∧ (0 : Int) ≤ 0 ∧ (0 : Int) ≤ 0 ∧ (0 : Int) ≤ 12 ∧ 0 + 12 ≤ ((mm_kd (b + 1).toNat).2 : Int) ∧ 0 + 12 ≤ ((mm_kd (a + 1).toNat).2 : Int) ∧ (mm_kd (b + 1).toNat).1 = (mm_kd (a + 1).toNat).1 ∧ ((mm_kd (b + 1).toNat).1 = 1 ∨ (mm_kd (b + 1).toNat).1 = 2) ∧ mm_cs [] ≤ 8) ∧ (0 ≤ b + 2 ∧ 0 ≤ a + 2 ∧ (0 : Int) ≤ 0 ∧ (0 : Int) ≤ 0 ∧ (0 : Int) ≤ 12 ∧ 0 + 12 ≤ ((mm_kd (b + 2).toNat).2 : Int) ∧ 0 + 12 ≤ ((mm_kd (a + 2).toNat).2 : Int) ∧ (mm_kd (b + 2).toNat).1 = (mm_kd (a + 2).toNat).1 ∧ ((mm_kd (b + 2).toNat).1 = 1 ∨ (mm_kd (b + 2).toNat).1 = 2) ∧ mm_cs [] ≤ 8) ∧ (0 ≤ b + 3 ∧ 0 ≤ a + 3 ∧ (0 : Int) ≤ 0 ∧ (0 : Int) ≤ 0 ∧ (0 : Int) ≤ 12 ∧ 0 + 12 ≤ ((mm_kd (b + 3).toNat).2 : Int) ∧ 0 + 12 ≤ ((mm_kd (a + 3).toNat).2 : Int) ∧ (mm_kd (b + 3).toNat).1 = (mm_kd (a + 3).toNat).1 ∧ ((mm_kd (b + 3).toNat).1 = 1 ∨ (mm_kd (b + 3).toNat).1 = 2) ∧ mm_cs [] ≤ 8) ∧ (0 ≤ b + 4 ∧ 0 ≤ a + 4 ∧ (0 : Int) ≤ 0 ∧ (0 : Int) ≤ 0 ∧ (0 : Int) ≤ 144 ∧ 0 + 144 ≤ ((mm_kd (b + 4).toNat).2 : Int) ∧ 0 + 144 ≤ ((mm_kd (a + 4).toNat).2 : Int) ∧ (mm_kd (b + 4).toNat).1 = (mm_kd (a + 4).toNat).1 ∧ ((mm_kd (b + 4).toNat).1 = 1 ∨ (mm_kd (b + 4).toNat).1 = 2) ∧ mm_cs [] ≤ 8) := by
  obtain ⟨p0, p1, p2, p3, p4, p5⟩ := isC_kd hC
  obtain ⟨q0, q1, q2, q3, q4, q5⟩ := isC_kd hB
  rw [p2, p3, p4, p5, q2, q3, q4, q5]
  have hz : mm_cs [] ≤ 8 := by decide
  refine ⟨⟨by omega, by omega, by decide, by decide, by decide, by decide, by decide, rfl, Or.inl rfl, hz⟩, ⟨by omega, by omega, by decide, by decide, by decide, by decide, by decide, rfl, Or.inl rfl, hz⟩, ⟨by omega, by omega, by decide, by decide, by decide, by decide, by decide, rfl, Or.inl rfl, hz⟩, by omega, by omega, by decide, by decide, by decide, by decide, by decide, rfl, Or.inl rfl, hz⟩
theorem MC_become {S : mm_S} {a b : Int} {K : CX} (h : MC S b K) (hd : a + 4 < b ∨ b + 4 < a) : MC (mm_cpy (mm_cpy (mm_cpy (mm_cpy (mm_up S a 0 (S b 0)) (b + 1) 0 (a + 1) 0 12) (b + 2) 0 (a + 2) 0 12) (b + 3) 0 (a + 3) 0 12) (b + 4) 0 (a + 4) 0 144) a K := by
  have hnr := h.nr
  refine ⟨h.1, ?_, fun x p q => ⟨?_, ?_, ?_⟩, fun x y p q r t => ?_⟩
  · rw [mm_cpy_ne (by omega), mm_cpy_ne (by omega), mm_cpy_ne (by omega), mm_cpy_ne (by omega), mm_ua]; exact h.n
  · rw [mm_cpy_ne (by omega), mm_cpy_ne (by omega), mm_cpy_ne (by omega), mm_cpy_in (by omega) (by omega), mm_unq (by omega), show 0 + (x - 0) = x by omega]; exact h.d ⟨p, q⟩
  · rw [mm_cpy_ne (by omega), mm_cpy_ne (by omega), mm_cpy_in (by omega) (by omega), mm_cpy_ne (by omega), mm_unq (by omega), show 0 + (x - 0) = x by omega]; exact h.l0 ⟨p, q⟩
  · rw [mm_cpy_ne (by omega), mm_cpy_in (by omega) (by omega), mm_cpy_ne (by omega), mm_cpy_ne (by omega), mm_unq (by omega), show 0 + (x - 0) = x by omega]; exact h.l1 ⟨p, q⟩
  · rw [mm_cpy_in (by omega) (by omega), mm_cpy_ne (by omega), mm_cpy_ne (by omega), mm_cpy_ne (by omega), mm_unq (by omega), show 0 + (x * 12 + y - 0) = x * 12 + y by omega]; exact h.e ⟨p, q⟩ ⟨r, t⟩
theorem fr_become {S : mm_S} {a b c : Int} (hc : ¬ (a ≤ c ∧ c ≤ a + 4)) : mm_cpy (mm_cpy (mm_cpy (mm_cpy (mm_up S a 0 (S b 0)) (b + 1) 0 (a + 1) 0 12) (b + 2) 0 (a + 2) 0 12) (b + 3) 0 (a + 3) 0 12) (b + 4) 0 (a + 4) 0 144 c = S c := by
  rw [mm_cpy_ne (by omega), mm_cpy_ne (by omega), mm_cpy_ne (by omega), mm_cpy_ne (by omega), mm_unq (by omega)]

set_option maxRecDepth 20000 in
set_option maxHeartbeats 4000000 in
theorem c_C_become (S : mm_S) (a : Int) (hC : mm_isC a) (b : Int) (hB : mm_isC b) (K : CX) (h : MC S b K) (hd : a + 4 < b ∨ b + 4 < a) : Cl 134 [(2, a), (2, b)] S (fun v S' => v = none ∧ MC S' a K ∧ ∀ c, ¬ (a ≤ c ∧ c ≤ a + 4) → S' c = S c) := by
  refine ⟨Nat.le_of_ble_eq_true rfl, ?_⟩
  show Rn k_C_become 0 [(2, a), (2, b)] [] S _
  refine R_lo (nx := 1) rfl rfl rfl rfl ?_
  refine R_lo (nx := 2) rfl rfl rfl rfl ?_
  refine R_get (nx := 5) (w := (0, (S b 0))) rfl rfl (isC_ob hB) rfl ?_
  refine R_put (nx := 8) (kk := 0) rfl rfl (isC_ob hC) rfl rfl ?_
  refine R_lo (nx := 9) rfl rfl rfl rfl ?_
  refine R_get (nx := 12) (w := (2, (b + 1))) rfl rfl (isC_ob hB) rfl ?_
  refine R_op (nx := 13) rfl rfl rfl ?_
  refine R_lo (nx := 14) rfl rfl rfl rfl ?_
  refine R_get (nx := 17) (w := (2, (a + 1))) rfl rfl (isC_ob hC) rfl ?_
  refine R_op (nx := 18) rfl rfl rfl ?_
  refine R_op (nx := 20) rfl rfl rfl ?_
  refine R_acp (nx := 23) rfl rfl (acp_C hC hB).1 ?_
  refine R_lo (nx := 24) rfl rfl rfl rfl ?_
  refine R_get (nx := 27) (w := (2, (b + 2))) rfl rfl (isC_ob hB) rfl ?_
  refine R_op (nx := 28) rfl rfl rfl ?_
  refine R_lo (nx := 29) rfl rfl rfl rfl ?_
  refine R_get (nx := 32) (w := (2, (a + 2))) rfl rfl (isC_ob hC) rfl ?_
  refine R_op (nx := 33) rfl rfl rfl ?_
  refine R_op (nx := 35) rfl rfl rfl ?_
  refine R_acp (nx := 38) rfl rfl (acp_C hC hB).2.1 ?_
  refine R_lo (nx := 39) rfl rfl rfl rfl ?_
  refine R_get (nx := 42) (w := (2, (b + 3))) rfl rfl (isC_ob hB) rfl ?_
  refine R_op (nx := 43) rfl rfl rfl ?_
  refine R_lo (nx := 44) rfl rfl rfl rfl ?_
  refine R_get (nx := 47) (w := (2, (a + 3))) rfl rfl (isC_ob hC) rfl ?_
  refine R_op (nx := 48) rfl rfl rfl ?_
  refine R_op (nx := 50) rfl rfl rfl ?_
  refine R_acp (nx := 53) rfl rfl (acp_C hC hB).2.2.1 ?_
  refine R_lo (nx := 54) rfl rfl rfl rfl ?_
  refine R_get (nx := 57) (w := (2, (b + 4))) rfl rfl (isC_ob hB) rfl ?_
  refine R_op (nx := 58) rfl rfl rfl ?_
  refine R_lo (nx := 59) rfl rfl rfl rfl ?_
  refine R_get (nx := 62) (w := (2, (a + 4))) rfl rfl (isC_ob hC) rfl ?_
  refine R_op (nx := 63) rfl rfl rfl ?_
  refine R_op (nx := 66) rfl rfl rfl ?_
  refine R_acp (nx := 69) rfl rfl (acp_C hC hB).2.2.2 ?_
  refine R_ret rfl (fun _ _ => rfl) rfl rfl ?_
  exact ⟨rfl, MC_become h hd, fun c hc => fr_become hc⟩

set_option maxRecDepth 20000 in
set_option maxHeartbeats 4000000 in
theorem c_C_topDegree (S : mm_S) (a : Int) (hC : mm_isC a) (K : CX) (h : MC S a K) (hR : Rg K) : Cl 136 [(2, a)] S (fun v S' => v = some (0, mx (Xd K) (Xn K)) ∧ S = S') := by
  refine ⟨Nat.le_of_ble_eq_true rfl, ?_⟩
  show Rn k_C_topDegree 0 [(2, a), (9, 0), (9, 0)] [] S _
  have hnr := h.nr
  have hn := h.n
  refine R_op (nx := 1) rfl rfl rfl ?_
  refine R_lo (nx := 2) (ls' := [(2, a), (0, 0), (9, 0)]) rfl rfl rfl rfl ?_
  refine R_op (nx := 3) rfl rfl rfl ?_
  refine R_lo (nx := 4) (ls' := [(2, a), (0, 0), (0, 0)]) rfl rfl rfl rfl ?_
  have L4 : ∀ (f4 : Nat) (acc : Int) (i : Int), (Xn K - i).toNat < f4 → (0 ≤ i ∧ i ≤ Xn K) → (0 ≤ acc ∧ acc ≤ 4) → (acc = mx (Xd K) i) → Rn k_C_topDegree 4 [(2, a), (0, acc), (0, i)] [] S (fun v S' => v = some (0, mx (Xd K) (Xn K)) ∧ S = S') := by
    intro f4
    induction f4 with
    | zero => intro acc i hm4; exact absurd hm4 (Nat.not_lt_zero _)
    | succ f4 ih4 =>
      intro acc i hm4 hi hb ha
      refine R_lo (nx := 5) rfl rfl rfl rfl ?_
      refine R_lo (nx := 6) rfl rfl rfl rfl ?_
      refine R_get (nx := 9) (w := (0, (S a 0))) rfl rfl (isC_ob hC) rfl ?_
      refine R_icmp (nx := 12) (tg := 28) rfl rfl rfl (mm_cnd_ge _ _) (fun c9 => ?_) (fun c9 => ?_)
      ·
        refine R_lo (nx := 29) rfl rfl rfl rfl ?_
        refine R_ret rfl (fun _ _ => rfl) rfl rfl ?_
        have e : i = Xn K := by omega
        subst e
        exact ⟨by rw [ha], rfl⟩
      ·
        refine R_lo (nx := 13) rfl rfl rfl rfl ?_
        refine R_lo (nx := 14) rfl rfl rfl rfl ?_
        refine R_lo (nx := 15) rfl rfl rfl rfl ?_
        refine R_call1 (nx := 18) (as := [(2, a), (0, i)]) (rest := [(0, acc)]) rfl rfl (fun _ _ => rfl) rfl rfl rfl rfl rfl rfl (isC_rc hC _) rfl (Cl.mono (c_C_degree S a hC K (by first | assumption | exact MC.up (by assumption) (by omega) | exact MC.up (MC.up (by assumption) (by omega)) (by omega) | exact MC.up (MC.up (MC.up (by assumption) (by omega)) (by omega)) (by omega)) i) ?_)
        rintro _ _ ⟨rfl, rfl⟩
        refine ⟨_, rfl, ?_⟩
        refine R_call1 (nx := 21) (as := [(0, acc), (0, (Xd K i))]) (rest := []) rfl rfl (fun _ _ => rfl) rfl rfl rfl rfl rfl rfl rfl rfl (Cl.mono (c_Ma_max S acc (Xd K i)) ?_)
        rintro _ _ ⟨rfl, rfl⟩
        refine ⟨_, rfl, ?_⟩
        refine R_lo (nx := 22) (ls' := [(2, a), (0, (max acc (Xd K i))), (0, i)]) rfl rfl rfl rfl ?_
        refine R_iinc (nx := 25) (z := (i + 1)) (ls' := [(2, a), (0, (max acc (Xd K i))), (0, (i + 1))]) rfl rfl rfl rfl ⟨by omega, by omega⟩ rfl ?_
        refine R_op (nx := 28) (pc' := 4) rfl rfl rfl ?_
        refine Rn.weak (ls' := [(2, a), (0, (max acc (Xd K i))), (0, (i + 1))]) ⟨Or.inl rfl, ⟨Or.inl rfl, ⟨Or.inl rfl, trivial⟩⟩⟩ ?_
        refine ih4 ((max acc (Xd K i))) ((i + 1)) ?_ ?_ ?_ ?_
        · omega
        · omega
        · have := hR.d i; omega
        · rw [mx_s _ hi.1, ← ha]
  refine Rn.weak (ls' := [(2, a), (0, 0), (0, 0)]) ⟨Or.inl rfl, ⟨Or.inl rfl, ⟨Or.inl rfl, trivial⟩⟩⟩ ?_
  refine L4 ((Xn K - (0)).toNat + 1) (0) (0) (Nat.lt_succ_self _) ?_ ?_ ?_
  · omega
  · omega
  · rfl

set_option maxRecDepth 20000 in
set_option maxHeartbeats 4000000 in
theorem c_C_topLevel (S : mm_S) (a : Int) (hC : mm_isC a) (K : CX) (h : MC S a K) (hR : Rg K) (w : Int) : Cl 137 [(2, a), (0, w)] S (fun v S' => v = some (0, mx (Xl K w) (Xn K)) ∧ S = S') := by
  refine ⟨Nat.le_of_ble_eq_true rfl, ?_⟩
  show Rn k_C_topLevel 0 [(2, a), (0, w), (9, 0), (9, 0)] [] S _
  have hnr := h.nr
  have hn := h.n
  refine R_op (nx := 1) rfl rfl rfl ?_
  refine R_lo (nx := 2) (ls' := [(2, a), (0, w), (0, 0), (9, 0)]) rfl rfl rfl rfl ?_
  refine R_op (nx := 3) rfl rfl rfl ?_
  refine R_lo (nx := 4) (ls' := [(2, a), (0, w), (0, 0), (0, 0)]) rfl rfl rfl rfl ?_
  have L4 : ∀ (f4 : Nat) (acc : Int) (i : Int), (Xn K - i).toNat < f4 → (0 ≤ i ∧ i ≤ Xn K) → (0 ≤ acc ∧ acc ≤ 9) → (acc = mx (Xl K w) i) → Rn k_C_topLevel 4 [(2, a), (0, w), (0, acc), (0, i)] [] S (fun v S' => v = some (0, mx (Xl K w) (Xn K)) ∧ S = S') := by
    intro f4
    induction f4 with
    | zero => intro acc i hm4; exact absurd hm4 (Nat.not_lt_zero _)
    | succ f4 ih4 =>
      intro acc i hm4 hi hb ha
      refine R_lo (nx := 5) rfl rfl rfl rfl ?_
      refine R_lo (nx := 6) rfl rfl rfl rfl ?_
      refine R_get (nx := 9) (w := (0, (S a 0))) rfl rfl (isC_ob hC) rfl ?_
      refine R_icmp (nx := 12) (tg := 29) rfl rfl rfl (mm_cnd_ge _ _) (fun c9 => ?_) (fun c9 => ?_)
      ·
        refine R_lo (nx := 30) rfl rfl rfl rfl ?_
        refine R_ret rfl (fun _ _ => rfl) rfl rfl ?_
        have e : i = Xn K := by omega
        subst e
        exact ⟨by rw [ha], rfl⟩
      ·
        refine R_lo (nx := 13) rfl rfl rfl rfl ?_
        refine R_lo (nx := 14) rfl rfl rfl rfl ?_
        refine R_lo (nx := 15) rfl rfl rfl rfl ?_
        refine R_lo (nx := 16) rfl rfl rfl rfl ?_
        refine R_call1 (nx := 19) (as := [(2, a), (0, w), (0, i)]) (rest := [(0, acc)]) rfl rfl (fun _ _ => rfl) rfl rfl rfl rfl rfl rfl (isC_rc hC _) rfl (Cl.mono (c_C_level S a hC K (by first | assumption | exact MC.up (by assumption) (by omega) | exact MC.up (MC.up (by assumption) (by omega)) (by omega) | exact MC.up (MC.up (MC.up (by assumption) (by omega)) (by omega)) (by omega)) w i) ?_)
        rintro _ _ ⟨rfl, rfl⟩
        refine ⟨_, rfl, ?_⟩
        refine R_call1 (nx := 22) (as := [(0, acc), (0, (Xl K w i))]) (rest := []) rfl rfl (fun _ _ => rfl) rfl rfl rfl rfl rfl rfl rfl rfl (Cl.mono (c_Ma_max S acc (Xl K w i)) ?_)
        rintro _ _ ⟨rfl, rfl⟩
        refine ⟨_, rfl, ?_⟩
        refine R_lo (nx := 23) (ls' := [(2, a), (0, w), (0, (max acc (Xl K w i))), (0, i)]) rfl rfl rfl rfl ?_
        refine R_iinc (nx := 26) (z := (i + 1)) (ls' := [(2, a), (0, w), (0, (max acc (Xl K w i))), (0, (i + 1))]) rfl rfl rfl rfl ⟨by omega, by omega⟩ rfl ?_
        refine R_op (nx := 29) (pc' := 4) rfl rfl rfl ?_
        refine Rn.weak (ls' := [(2, a), (0, w), (0, (max acc (Xl K w i))), (0, (i + 1))]) ⟨Or.inl rfl, ⟨Or.inl rfl, ⟨Or.inl rfl, ⟨Or.inl rfl, trivial⟩⟩⟩⟩ ?_
        refine ih4 ((max acc (Xl K w i))) ((i + 1)) ?_ ?_ ?_ ?_
        · omega
        · omega
        · have := hR.l w i; omega
        · rw [mx_s _ hi.1, ← ha]
  refine Rn.weak (ls' := [(2, a), (0, w), (0, 0), (0, 0)]) ⟨Or.inl rfl, ⟨Or.inl rfl, ⟨Or.inl rfl, ⟨Or.inl rfl, trivial⟩⟩⟩⟩ ?_
  refine L4 ((Xn K - (0)).toNat + 1) (0) (0) (Nat.lt_succ_self _) ?_ ?_ ?_
  · omega
  · omega
  · rfl

def Xfit (K K2 : CX) : Prop := Xn K * Xn K2 ≤ 12 ∧ mx (Xd K) (Xn K) + mx (Xd K2) (Xn K2) ≤ 4 ∧ mx (Xl K 0) (Xn K) + mx (Xl K2 0) (Xn K2) ≤ 9 ∧ mx (Xl K 1) (Xn K) + mx (Xl K2 1) (Xn K2) ≤ 9
theorem mul_b {a b A B : Int} (ha : 0 ≤ a ∧ a ≤ A) (hb : 0 ≤ b ∧ b ≤ B) : 0 ≤ a * b ∧ a * b ≤ A * B := ⟨Int.mul_nonneg ha.1 hb.1, Int.mul_le_mul ha.2 hb.2 hb.1 (by omega)⟩

set_option maxRecDepth 20000 in
set_option maxHeartbeats 4000000 in
theorem c_C_canBeMultiplied (S : mm_S) (a : Int) (hC : mm_isC a) (K : CX) (h : MC S a K) (b : Int) (hB : mm_isC b) (K2 : CX) (h2 : MC S b K2) (hR : Rg K) (hR2 : Rg K2) : Cl 135 [(2, a), (2, b)] S (fun v S' => (v = some (0, 1) ∧ Xfit K K2 ∧ S = S') ∨ (v = some (0, 0) ∧ ¬ Xfit K K2 ∧ S = S')) := by
  refine ⟨Nat.le_of_ble_eq_true rfl, ?_⟩
  show Rn k_C_canBeMultiplied 0 [(2, a), (2, b)] [] S _
  have hnr := h.nr
  have hn := h.n
  have hnr2 := h2.nr
  have hn2 := h2.n
  have hmb := mul_b hnr hnr2
  have t1 := mx_b (f := Xd K) (hi := 4) (n := Xn K) (by decide) fun i _ _ => (hR.d i).2
  have t2 := mx_b (f := Xd K2) (hi := 4) (n := Xn K2) (by decide) fun i _ _ => (hR2.d i).2
  have t3 := mx_b (f := Xl K 0) (hi := 9) (n := Xn K) (by decide) fun i _ _ => (hR.l 0 i).2
  have t4 := mx_b (f := Xl K2 0) (hi := 9) (n := Xn K2) (by decide) fun i _ _ => (hR2.l 0 i).2
  have t5 := mx_b (f := Xl K 1) (hi := 9) (n := Xn K) (by decide) fun i _ _ => (hR.l 1 i).2
  have t6 := mx_b (f := Xl K2 1) (hi := 9) (n := Xn K2) (by decide) fun i _ _ => (hR2.l 1 i).2
  rw [← hn, ← hn2] at hmb
  refine R_lo (nx := 1) rfl rfl rfl rfl ?_
  refine R_get (nx := 4) (w := (0, (S a 0))) rfl rfl (isC_ob hC) rfl ?_
  refine R_lo (nx := 5) rfl rfl rfl rfl ?_
  refine R_get (nx := 8) (w := (0, (S b 0))) rfl rfl (isC_ob hB) rfl ?_
  refine R_imul (nx := 9) (z := ((S a 0) * (S b 0))) rfl rfl rfl ⟨by omega, by omega⟩ ?_
  refine R_op (nx := 11) rfl rfl rfl ?_
  refine R_icmp (nx := 14) (tg := 27) rfl rfl rfl (mm_cnd_gt _ _) (fun c11 => ?_) (fun c11 => ?_)
  ·
    refine R_op (nx := 28) rfl rfl rfl ?_
    refine R_ret rfl (fun _ _ => rfl) rfl rfl ?_
    unfold Xfit
    rw [← hn, ← hn2] at *
    first | exact Or.inl ⟨rfl, ⟨by omega, by omega, by omega, by omega⟩, rfl⟩ | exact Or.inr ⟨rfl, fun q => by omega, rfl⟩
  ·
    refine R_lo (nx := 15) rfl rfl rfl rfl ?_
    refine R_call1 (nx := 18) (as := [(2, a)]) (rest := []) rfl rfl (fun _ _ => rfl) rfl rfl rfl rfl rfl rfl (isC_rc hC _) rfl (Cl.mono (c_C_topDegree S a hC K (by first | assumption | exact MC.up (by assumption) (by omega) | exact MC.up (MC.up (by assumption) (by omega)) (by omega) | exact MC.up (MC.up (MC.up (by assumption) (by omega)) (by omega)) (by omega)) (by assumption)) ?_)
    rintro _ _ ⟨rfl, rfl⟩
    refine ⟨_, rfl, ?_⟩
    refine R_lo (nx := 19) rfl rfl rfl rfl ?_
    refine R_call1 (nx := 22) (as := [(2, b)]) (rest := [(0, (mx (Xd K) (Xn K)))]) rfl rfl (fun _ _ => rfl) rfl rfl rfl rfl rfl rfl (isC_rc hB _) rfl (Cl.mono (c_C_topDegree S b hB K2 (by first | assumption | exact MC.up (by assumption) (by omega) | exact MC.up (MC.up (by assumption) (by omega)) (by omega) | exact MC.up (MC.up (MC.up (by assumption) (by omega)) (by omega)) (by omega)) (by assumption)) ?_)
    rintro _ _ ⟨rfl, rfl⟩
    refine ⟨_, rfl, ?_⟩
    refine R_iadd (nx := 23) (z := ((mx (Xd K) (Xn K)) + (mx (Xd K2) (Xn K2)))) rfl rfl rfl ⟨by omega, by omega⟩ ?_
    refine R_op (nx := 24) rfl rfl rfl ?_
    refine R_icmp (nx := 27) (tg := 29) rfl rfl rfl (mm_cnd_le _ _) (fun c24 => ?_) (fun c24 => ?_)
    ·
      refine R_lo (nx := 30) rfl rfl rfl rfl ?_
      refine R_op (nx := 31) rfl rfl rfl ?_
      refine R_call1 (nx := 34) (as := [(2, a), (0, 0)]) (rest := []) rfl rfl (fun _ _ => rfl) rfl rfl rfl rfl rfl rfl (isC_rc hC _) rfl (Cl.mono (c_C_topLevel S a hC K (by first | assumption | exact MC.up (by assumption) (by omega) | exact MC.up (MC.up (by assumption) (by omega)) (by omega) | exact MC.up (MC.up (MC.up (by assumption) (by omega)) (by omega)) (by omega)) (by assumption) 0) ?_)
      rintro _ _ ⟨rfl, rfl⟩
      refine ⟨_, rfl, ?_⟩
      refine R_lo (nx := 35) rfl rfl rfl rfl ?_
      refine R_op (nx := 36) rfl rfl rfl ?_
      refine R_call1 (nx := 39) (as := [(2, b), (0, 0)]) (rest := [(0, (mx (Xl K 0) (Xn K)))]) rfl rfl (fun _ _ => rfl) rfl rfl rfl rfl rfl rfl (isC_rc hB _) rfl (Cl.mono (c_C_topLevel S b hB K2 (by first | assumption | exact MC.up (by assumption) (by omega) | exact MC.up (MC.up (by assumption) (by omega)) (by omega) | exact MC.up (MC.up (MC.up (by assumption) (by omega)) (by omega)) (by omega)) (by assumption) 0) ?_)
      rintro _ _ ⟨rfl, rfl⟩
      refine ⟨_, rfl, ?_⟩
      refine R_iadd (nx := 40) (z := ((mx (Xl K 0) (Xn K)) + (mx (Xl K2 0) (Xn K2)))) rfl rfl rfl ⟨by omega, by omega⟩ ?_
      refine R_op (nx := 42) rfl rfl rfl ?_
      refine R_icmp (nx := 45) (tg := 65) rfl rfl rfl (mm_cnd_gt _ _) (fun c42 => ?_) (fun c42 => ?_)
      ·
        refine R_op (nx := 66) rfl rfl rfl ?_
        refine R_ret rfl (fun _ _ => rfl) rfl rfl ?_
        unfold Xfit
        rw [← hn, ← hn2] at *
        first | exact Or.inl ⟨rfl, ⟨by omega, by omega, by omega, by omega⟩, rfl⟩ | exact Or.inr ⟨rfl, fun q => by omega, rfl⟩
      ·
        refine R_lo (nx := 46) rfl rfl rfl rfl ?_
        refine R_op (nx := 47) rfl rfl rfl ?_
        refine R_call1 (nx := 50) (as := [(2, a), (0, 1)]) (rest := []) rfl rfl (fun _ _ => rfl) rfl rfl rfl rfl rfl rfl (isC_rc hC _) rfl (Cl.mono (c_C_topLevel S a hC K (by first | assumption | exact MC.up (by assumption) (by omega) | exact MC.up (MC.up (by assumption) (by omega)) (by omega) | exact MC.up (MC.up (MC.up (by assumption) (by omega)) (by omega)) (by omega)) (by assumption) 1) ?_)
        rintro _ _ ⟨rfl, rfl⟩
        refine ⟨_, rfl, ?_⟩
        refine R_lo (nx := 51) rfl rfl rfl rfl ?_
        refine R_op (nx := 52) rfl rfl rfl ?_
        refine R_call1 (nx := 55) (as := [(2, b), (0, 1)]) (rest := [(0, (mx (Xl K 1) (Xn K)))]) rfl rfl (fun _ _ => rfl) rfl rfl rfl rfl rfl rfl (isC_rc hB _) rfl (Cl.mono (c_C_topLevel S b hB K2 (by first | assumption | exact MC.up (by assumption) (by omega) | exact MC.up (MC.up (by assumption) (by omega)) (by omega) | exact MC.up (MC.up (MC.up (by assumption) (by omega)) (by omega)) (by omega)) (by assumption) 1) ?_)
        rintro _ _ ⟨rfl, rfl⟩
        refine ⟨_, rfl, ?_⟩
        refine R_iadd (nx := 56) (z := ((mx (Xl K 1) (Xn K)) + (mx (Xl K2 1) (Xn K2)))) rfl rfl rfl ⟨by omega, by omega⟩ ?_
        refine R_op (nx := 58) rfl rfl rfl ?_
        refine R_icmp (nx := 61) (tg := 65) rfl rfl rfl (mm_cnd_gt _ _) (fun c58 => ?_) (fun c58 => ?_)
        ·
          refine R_op (nx := 66) rfl rfl rfl ?_
          refine R_ret rfl (fun _ _ => rfl) rfl rfl ?_
          unfold Xfit
          rw [← hn, ← hn2] at *
          first | exact Or.inl ⟨rfl, ⟨by omega, by omega, by omega, by omega⟩, rfl⟩ | exact Or.inr ⟨rfl, fun q => by omega, rfl⟩
        ·
          refine R_op (nx := 62) rfl rfl rfl ?_
          refine R_op (nx := 65) (pc' := 66) rfl rfl rfl ?_
          refine R_ret rfl (fun _ _ => rfl) rfl rfl ?_
          unfold Xfit
          rw [← hn, ← hn2] at *
          first | exact Or.inl ⟨rfl, ⟨by omega, by omega, by omega, by omega⟩, rfl⟩ | exact Or.inr ⟨rfl, fun q => by omega, rfl⟩
    ·
      refine R_op (nx := 28) rfl rfl rfl ?_
      refine R_ret rfl (fun _ _ => rfl) rfl rfl ?_
      unfold Xfit
      rw [← hn, ← hn2] at *
      first | exact Or.inl ⟨rfl, ⟨by omega, by omega, by omega, by omega⟩, rfl⟩ | exact Or.inr ⟨rfl, fun q => by omega, rfl⟩

/-- all that a cell of the class holds, read as it stands -/
def KC (S : mm_S) (a n : Int) : CX := (n, fun x => if 0 ≤ x ∧ x < n then S (a + 1) x else 0, fun x => if 0 ≤ x ∧ x < n then S (a + 2) x else 0, fun x => if 0 ≤ x ∧ x < n then S (a + 3) x else 0, fun x y => if (0 ≤ x ∧ x < n) ∧ (0 ≤ y ∧ y < n) then S (a + 4) (x * 12 + y) else 0)
theorem KC_MC {S : mm_S} {a n : Int} (h0 : S a 0 = n) (hn : 0 ≤ n ∧ n ≤ 12) : MC S a (KC S a n) := by
  refine ⟨⟨hn, fun x hx => ⟨if_neg hx, if_neg hx, if_neg hx⟩, fun x y hx => if_neg hx⟩, h0, fun x p q => ⟨?_, ?_, ?_⟩, fun x y p q r t => ?_⟩
  · exact (if_pos ⟨p, q⟩).symm
  · exact (if_pos ⟨p, q⟩).symm
  · exact (if_pos ⟨p, q⟩).symm
  · exact (if_pos ⟨⟨p, q⟩, r, t⟩).symm
/-- what stands while the entries of a new cell are cleared -/
def AddI (K K1 : CX) (d l o y : Int) : Prop := Xn K1 = Xn K + 1 ∧ (∀ i, Xd K1 i = Xd (Xadd K d l o) i) ∧ (∀ i, X0 K1 i = X0 (Xadd K d l o) i) ∧ (∀ i, X1 K1 i = X1 (Xadd K d l o) i) ∧ (∀ i j, i < Xn K → j < Xn K → Xe K1 i j = Xe K i j) ∧ ∀ j, 0 ≤ j → j < y → Xe K1 (Xn K) j = 0 ∧ Xe K1 j (Xn K) = 0
theorem AddI.nx {K K1 : CX} {d l o y : Int} (h : AddI K K1 d l o y) (hy : 0 ≤ y ∧ y ≤ Xn K) : AddI K (Xset (Xset K1 (Xn K) y 0) y (Xn K) 0) d l o (y + 1) := by
  obtain ⟨h1, h2, h3, h4, h5, h6⟩ := h
  refine ⟨h1, h2, h3, h4, fun i j hi hj => ?_, fun j p q => ?_⟩
  · rw [Xset_e, if_neg (by omega), Xset_e, if_neg (by omega)]
    exact h5 i j hi hj
  · by_cases e : j = y
    · subst e
      refine ⟨?_, ?_⟩
      · rw [Xset_e]
        split
        · rfl
        · rw [Xset_e, if_pos ⟨⟨⟨by omega, by omega⟩, by omega, by omega⟩, rfl, rfl⟩]
      · rw [Xset_e, if_pos ⟨⟨⟨by omega, by rw [Xset_n]; omega⟩, by omega, by rw [Xset_n]; omega⟩, rfl, rfl⟩]
    · have := h6 j p (by omega)
      refine ⟨?_, ?_⟩
      · rw [Xset_e]
        split
        · rfl
        · rw [Xset_e]
          split
          · rfl
          · exact this.1
      · rw [Xset_e]
        split
        · rfl
        · rw [Xset_e]
          split
          · rfl
          · exact this.2
theorem AddI.fin {K K1 : CX} {d l o : Int} (h : AddI K K1 d l o (Xn K + 1)) (hK : Nz K) (hK1 : Nz K1) : K1 = Xadd K d l o := by
  obtain ⟨h1, h2, h3, h4, h5, h6⟩ := h
  refine CXext h1 h2 h3 h4 fun i j => ?_
  rw [Xadd_e]
  have := hK.1
  by_cases hr : (0 ≤ i ∧ i < Xn K1) ∧ (0 ≤ j ∧ j < Xn K1)
  · by_cases hi : i = Xn K
    · rw [hi, (h6 j hr.2.1 (by omega)).1, hK.e (by omega)]
    · by_cases hj : j = Xn K
      · rw [hj, (h6 i hr.1.1 (by omega)).2, hK.e (by omega)]
      · exact h5 i j (by omega) (by omega)
  · rw [hK1.e hr, hK.e (by omega)]
theorem AddI.go {S : mm_S} {a : Int} {K : CX} (h : MC S a K) (hn : Xn K < 12) (d l o : Int) : MC (mm_up (mm_up (mm_up (mm_up S (a + 1) (S a 0) d) (a + 2) (S a 0) l) (a + 3) (S a 0) o) a 0 (S a 0 + 1)) a (KC (mm_up (mm_up (mm_up (mm_up S (a + 1) (S a 0) d) (a + 2) (S a 0) l) (a + 3) (S a 0) o) a 0 (S a 0 + 1)) a (Xn K + 1)) ∧ AddI K (KC (mm_up (mm_up (mm_up (mm_up S (a + 1) (S a 0) d) (a + 2) (S a 0) l) (a + 3) (S a 0) o) a 0 (S a 0 + 1)) a (Xn K + 1)) d l o 0 := by
  have hnr := h.nr
  have hnn := h.n
  refine ⟨KC_MC (by rw [mm_ua, hnn]) (by omega), rfl, fun i => ?_, fun i => ?_, fun i => ?_, fun i j hi hj => ?_, fun j p q => by omega⟩
  · show (if 0 ≤ i ∧ i < Xn K + 1 then _ else _) = _
    rw [Xadd_d, mm_unq (by omega), mm_unq (by omega), mm_unq (by omega), hnn]
    by_cases e : i = Xn K
    · rw [if_pos e, if_pos (by omega), e, mm_ua]
    · rw [if_neg e, mm_uk e]
      by_cases c : 0 ≤ i ∧ i < Xn K
      · rw [if_pos (by omega), h.d c]
      · rw [if_neg (by omega), h.1.d c]
  · show (if 0 ≤ i ∧ i < Xn K + 1 then _ else _) = _
    rw [Xadd_0, mm_unq (by omega), mm_unq (by omega), hnn]
    by_cases e : i = Xn K
    · rw [if_pos e, if_pos (by omega), e, mm_ua]
    · rw [if_neg e, mm_uk e, mm_unq (by omega)]
      by_cases c : 0 ≤ i ∧ i < Xn K
      · rw [if_pos (by omega), h.l0 c]
      · rw [if_neg (by omega), (h.1.2.1 i c).2.1]
  · show (if 0 ≤ i ∧ i < Xn K + 1 then _ else _) = _
    rw [Xadd_1, mm_unq (by omega), hnn]
    by_cases e : i = Xn K
    · rw [if_pos e, if_pos (by omega), e, mm_ua]
    · rw [if_neg e, mm_uk e, mm_unq (by omega), mm_unq (by omega)]
      by_cases c : 0 ≤ i ∧ i < Xn K
      · rw [if_pos (by omega), h.l1 c]
      · rw [if_neg (by omega), (h.1.2.1 i c).2.2]
  · show (if (0 ≤ i ∧ i < Xn K + 1) ∧ (0 ≤ j ∧ j < Xn K + 1) then _ else _) = _
    rw [mm_unq (by omega), mm_unq (by omega), mm_unq (by omega), mm_unq (by omega)]
    by_cases c : (0 ≤ i ∧ i < Xn K) ∧ (0 ≤ j ∧ j < Xn K)
    · rw [if_pos (by omega), h.e c.1 c.2]
    · rw [if_neg (by omega), h.1.e c]

set_option maxRecDepth 20000 in
set_option maxHeartbeats 4000000 in
theorem c_C_add (S : mm_S) (a : Int) (hC : mm_isC a) (K : CX) (h : MC S a K) (d l o : Int) : Cl 127 [(2, a), (0, d), (0, l), (0, o)] S (fun v S' => (v = some (0, Xn K) ∧ Xn K < 12 ∧ MC S' a (Xadd K d l o) ∧ ∀ b, ¬ (a ≤ b ∧ b ≤ a + 4) → S' b = S b) ∨ (v = some (0, -2) ∧ Xn K = 12 ∧ S = S')) := by
  refine ⟨Nat.le_of_ble_eq_true rfl, ?_⟩
  show Rn k_C_add 0 [(2, a), (0, d), (0, l), (0, o), (9, 0), (9, 0)] [] S _
  have hnr := h.nr
  have hn := h.n
  refine R_lo (nx := 1) rfl rfl rfl rfl ?_
  refine R_get (nx := 4) (w := (0, (S a 0))) rfl rfl (isC_ob hC) rfl ?_
  refine R_if (nx := 7) (tg := 16) rfl rfl rfl (mm_cnd_lt _ _) (fun c4 => ?_) (fun c4 => ?_)
  ·
    refine R_op (nx := 18) rfl rfl rfl ?_
    refine R_ret rfl (fun _ _ => rfl) rfl rfl ?_
    first | exact Or.inr ⟨rfl, by omega, rfl⟩ | (have e : y = Xn K + 1 := (by omega); subst e; exact Or.inl ⟨by rw [hn], by omega, by rw [← hI.fin h.1 hM.1]; exact hM, hF⟩)
  ·
    refine R_lo (nx := 8) rfl rfl rfl rfl ?_
    refine R_get (nx := 11) (w := (0, (S a 0))) rfl rfl (isC_ob hC) rfl ?_
    refine R_op (nx := 13) rfl rfl rfl ?_
    refine R_icmp (nx := 16) (tg := 19) rfl rfl rfl (mm_cnd_lt _ _) (fun c13 => ?_) (fun c13 => ?_)
    ·
      refine R_lo (nx := 20) rfl rfl rfl rfl ?_
      refine R_get (nx := 23) (w := (0, (S a 0))) rfl rfl (isC_ob hC) rfl ?_
      refine R_lo (nx := 25) (ls' := [(2, a), (0, d), (0, l), (0, o), (0, (S a 0)), (9, 0)]) rfl rfl rfl rfl ?_
      refine R_lo (nx := 26) rfl rfl rfl rfl ?_
      refine R_get (nx := 29) (w := (2, (a + 1))) rfl rfl (isC_ob hC) rfl ?_
      refine R_lo (nx := 31) rfl rfl rfl rfl ?_
      refine R_lo (nx := 32) rfl rfl rfl rfl ?_
      refine R_iast (nx := 33) rfl rfl (isC_el1 hC (by omega) (by omega)) ?_
      refine R_lo (nx := 34) rfl rfl rfl rfl ?_
      refine R_get (nx := 37) (w := (2, (a + 2))) rfl rfl (isC_ob hC) rfl ?_
      refine R_lo (nx := 39) rfl rfl rfl rfl ?_
      refine R_lo (nx := 40) rfl rfl rfl rfl ?_
      refine R_iast (nx := 41) rfl rfl (isC_el2 hC (by omega) (by omega)) ?_
      refine R_lo (nx := 42) rfl rfl rfl rfl ?_
      refine R_get (nx := 45) (w := (2, (a + 3))) rfl rfl (isC_ob hC) rfl ?_
      refine R_lo (nx := 47) rfl rfl rfl rfl ?_
      refine R_lo (nx := 48) rfl rfl rfl rfl ?_
      refine R_iast (nx := 49) rfl rfl (isC_el3 hC (by omega) (by omega)) ?_
      refine R_lo (nx := 50) rfl rfl rfl rfl ?_
      refine R_op (nx := 51) rfl rfl rfl ?_
      refine R_get (nx := 54) (w := (0, ((mm_up (mm_up (mm_up S (a + 1) (S a 0) d) (a + 2) (S a 0) l) (a + 3) (S a 0) o) a 0))) rfl rfl (isC_ob hC) rfl ?_
      rw [mm_unq (show a ≠ a + 3 by omega), mm_unq (show a ≠ a + 2 by omega), mm_unq (show a ≠ a + 1 by omega)]
      refine R_op (nx := 55) rfl rfl rfl ?_
      refine R_iadd (nx := 56) (z := ((S a 0) + 1)) rfl rfl rfl ⟨by omega, by omega⟩ ?_
      refine R_put (nx := 59) (kk := 0) rfl rfl (isC_ob hC) rfl rfl ?_
      refine R_op (nx := 60) rfl rfl rfl ?_
      refine R_lo (nx := 62) (ls' := [(2, a), (0, d), (0, l), (0, o), (0, (S a 0)), (0, 0)]) rfl rfl rfl rfl ?_
      have L62 : ∀ (f62 : Nat) (S1 : mm_S) (K1 : CX) (y : Int), (Xn K + 1 - y).toNat < f62 → (0 ≤ y ∧ y ≤ Xn K + 1) → (MC S1 a K1) → (AddI K K1 d l o y) → (∀ b, ¬ (a ≤ b ∧ b ≤ a + 4) → S1 b = S b) → Rn k_C_add 62 [(2, a), (0, d), (0, l), (0, o), (0, (S a 0)), (0, y)] [] S1 (fun v S' => (v = some (0, Xn K) ∧ Xn K < 12 ∧ MC S' a (Xadd K d l o) ∧ ∀ b, ¬ (a ≤ b ∧ b ≤ a + 4) → S' b = S b) ∨ (v = some (0, -2) ∧ Xn K = 12 ∧ S = S')) := by
        intro f62
        induction f62 with
        | zero => intro S1 K1 y hm62; exact absurd hm62 (Nat.not_lt_zero _)
        | succ f62 ih62 =>
          intro S1 K1 y hm62 hy hM hI hF
          refine R_lo (nx := 64) rfl rfl rfl rfl ?_
          refine R_lo (nx := 66) rfl rfl rfl rfl ?_
          refine R_icmp (nx := 69) (tg := 93) rfl rfl rfl (mm_cnd_gt _ _) (fun c66 => ?_) (fun c66 => ?_)
          ·
            refine R_lo (nx := 95) rfl rfl rfl rfl ?_
            refine R_ret rfl (fun _ _ => rfl) rfl rfl ?_
            first | exact Or.inr ⟨rfl, by omega, rfl⟩ | (have e : y = Xn K + 1 := (by omega); subst e; exact Or.inl ⟨by rw [hn], by omega, by rw [← hI.fin h.1 hM.1]; exact hM, hF⟩)
          ·
            refine R_lo (nx := 70) rfl rfl rfl rfl ?_
            refine R_lo (nx := 72) rfl rfl rfl rfl ?_
            refine R_lo (nx := 74) rfl rfl rfl rfl ?_
            refine R_op (nx := 75) rfl rfl rfl ?_
            refine R_call0 (nx := 78) (as := [(2, a), (0, (S a 0)), (0, y), (0, 0)]) (rest := []) rfl rfl (fun _ _ => rfl) rfl rfl rfl rfl rfl rfl (isC_rc hC _) rfl (Cl.mono (c_C_setEdge S1 a hC K1 (by first | assumption | exact MC.up (by assumption) (by omega) | exact MC.up (MC.up (by assumption) (by omega)) (by omega) | exact MC.up (MC.up (MC.up (by assumption) (by omega)) (by omega)) (by omega)) (S a 0) y 0) ?_)
            rintro _ S75 ⟨rfl, m75, f75⟩
            refine ⟨rfl, ?_⟩
            refine R_lo (nx := 79) rfl rfl rfl rfl ?_
            refine R_lo (nx := 81) rfl rfl rfl rfl ?_
            refine R_lo (nx := 83) rfl rfl rfl rfl ?_
            refine R_op (nx := 84) rfl rfl rfl ?_
            refine R_call0 (nx := 87) (as := [(2, a), (0, y), (0, (S a 0)), (0, 0)]) (rest := []) rfl rfl (fun _ _ => rfl) rfl rfl rfl rfl rfl rfl (isC_rc hC _) rfl (Cl.mono (c_C_setEdge S75 a hC (Xset K1 (S a 0) y 0) (by first | assumption | exact MC.up (by assumption) (by omega) | exact MC.up (MC.up (by assumption) (by omega)) (by omega) | exact MC.up (MC.up (MC.up (by assumption) (by omega)) (by omega)) (by omega)) y (S a 0) 0) ?_)
            rintro _ S84 ⟨rfl, m84, f84⟩
            refine ⟨rfl, ?_⟩
            refine R_iinc (nx := 90) (z := (y + 1)) (ls' := [(2, a), (0, d), (0, l), (0, o), (0, (S a 0)), (0, (y + 1))]) rfl rfl rfl rfl ⟨by omega, by omega⟩ rfl ?_
            refine R_op (nx := 93) (pc' := 62) rfl rfl rfl ?_
            refine Rn.weak (ls' := [(2, a), (0, d), (0, l), (0, o), (0, (S a 0)), (0, (y + 1))]) ⟨Or.inl rfl, ⟨Or.inl rfl, ⟨Or.inl rfl, ⟨Or.inl rfl, ⟨Or.inl rfl, ⟨Or.inl rfl, trivial⟩⟩⟩⟩⟩⟩ ?_
            refine ih62 (S84) ((Xset (Xset K1 (S a 0) y 0) y (S a 0) 0)) ((y + 1)) ?_ ?_ ?_ ?_ ?_
            · omega
            · omega
            · exact m84
            · rw [hn]; exact hI.nx (by omega)
            · intro b hb; rw [f84 b (by omega), f75 b (by omega), hF b hb]
      refine Rn.weak (ls' := [(2, a), (0, d), (0, l), (0, o), (0, (S a 0)), (0, 0)]) ⟨Or.inl rfl, ⟨Or.inl rfl, ⟨Or.inl rfl, ⟨Or.inl rfl, ⟨Or.inl rfl, ⟨Or.inl rfl, trivial⟩⟩⟩⟩⟩⟩ ?_
      refine L62 ((Xn K + 1 - (0)).toNat + 1) ((mm_up (mm_up (mm_up (mm_up S (a + 1) (S a 0) d) (a + 2) (S a 0) l) (a + 3) (S a 0) o) a 0 ((S a 0) + 1))) (KC (mm_up (mm_up (mm_up (mm_up S (a + 1) (S a 0) d) (a + 2) (S a 0) l) (a + 3) (S a 0) o) a 0 (S a 0 + 1)) a (Xn K + 1)) (0) (Nat.lt_succ_self _) ?_ ?_ ?_ ?_
      · omega
      · exact (AddI.go h (by omega) d l o).1
      · exact (AddI.go h (by omega) d l o).2
      · intro b hb; rw [mm_unq (by omega), mm_unq (by omega), mm_unq (by omega), mm_unq (by omega)]
    ·
      refine R_op (nx := 18) rfl rfl rfl ?_
      refine R_ret rfl (fun _ _ => rfl) rfl rfl ?_
      first | exact Or.inr ⟨rfl, by omega, rfl⟩ | (have e : y = Xn K + 1 := (by omega); subst e; exact Or.inl ⟨by rw [hn], by omega, by rw [← hI.fin h.1 hM.1]; exact hM, hF⟩)
end
section
/-! Products and parts. -/
theorem ifc {p q : Prop} [dp : Decidable p] [dq : Decidable q] {a b a' b' : Int} (h : p ↔ q) (ha : a = a') (hb : b = b') : (if p then a else b) = if q then a' else b' := by
  subst ha; subst hb
  by_cases e : p
  · rw [if_pos e, if_pos (h.mp e)]
  · rw [if_neg e, if_neg (fun r => e (h.mpr r))]
theorem pinj {m x y x' y' : Int} (h : 0 ≤ y ∧ y < m) (h' : 0 ≤ y' ∧ y' < m) : x * m + y = x' * m + y' ↔ x = x' ∧ y = y' := by
  constructor
  · intro q
    have e1 : (x * m + y) / m = x := by rw [Int.add_comm, Int.add_mul_ediv_right _ _ (by omega), Int.ediv_eq_zero_of_lt h.1 h.2]; omega
    have e2 : (x' * m + y') / m = x' := by rw [Int.add_comm, Int.add_mul_ediv_right _ _ (by omega), Int.ediv_eq_zero_of_lt h'.1 h'.2]; omega
    have : x = x' := by rw [← e1, ← e2, q]
    subst this
    exact ⟨rfl, by omega⟩
  · rintro ⟨rfl, rfl⟩; rfl
theorem prng {n m x y : Int} (hx : 0 ≤ x ∧ x < n) (hy : 0 ≤ y ∧ y < m) : 0 ≤ x * m + y ∧ x * m + y < n * m := by
  have h1 := Int.mul_nonneg hx.1 (show 0 ≤ m by omega)
  have h2 := Int.mul_le_mul_of_nonneg_right (show x + 1 ≤ n by omega) (show 0 ≤ m by omega)
  rw [Int.add_mul, Int.one_mul] at h2
  omega
theorem pdiv {n m i : Int} (hm : 0 ≤ m) (hi : 0 ≤ i ∧ i < n * m) : ∃ x y, (0 ≤ x ∧ x < n) ∧ (0 ≤ y ∧ y < m) ∧ i = x * m + y := by
  have hm' : 0 < m := by
    by_cases e : m = 0
    · rw [e, Int.mul_zero] at hi; omega
    · omega
  refine ⟨i / m, i % m, ⟨Int.ediv_nonneg hi.1 hm, Int.ediv_lt_of_lt_mul hm' hi.2⟩, ⟨Int.emod_nonneg _ (by omega), Int.emod_lt_of_pos _ hm'⟩, ?_⟩
  rw [Int.mul_comm]
  exact (Int.mul_ediv_add_emod i m).symm
def Xsg (K : CX) (x : Int) : Int := if Xd K x % 2 = 1 then -1 else 1
theorem Xsg_c (K : CX) (x : Int) : Xsg K x = -1 ∨ Xsg K x = 1 := by
  unfold Xsg
  split
  · exact Or.inl rfl
  · exact Or.inr rfl
def Xpe (K K2 : CX) (x y x2 y2 : Int) : Int := (if y2 = y then Xe K x x2 else 0) + (if x2 = x then Xsg K x * Xe K2 y y2 else 0)
theorem Xdiag {K : CX} (h : Vx K) (x : Int) : Xe K x x = 0 := by
  by_cases e : Xe K x x = 0
  · exact e
  · have := (h.2.2 x x e).2.2.1; omega
def isProd (K K2 K1 : CX) : Prop := Nz K1 ∧ Xn K1 = Xn K * Xn K2 ∧ (∀ x y, (0 ≤ x ∧ x < Xn K) → (0 ≤ y ∧ y < Xn K2) → Xd K1 (x * Xn K2 + y) = Xd K x + Xd K2 y ∧ X0 K1 (x * Xn K2 + y) = X0 K x + X0 K2 y ∧ X1 K1 (x * Xn K2 + y) = X1 K x + X1 K2 y) ∧ ∀ x1 y1 x2 y2, (0 ≤ x1 ∧ x1 < Xn K) → (0 ≤ y1 ∧ y1 < Xn K2) → (0 ≤ x2 ∧ x2 < Xn K) → (0 ≤ y2 ∧ y2 < Xn K2) → Xe K1 (x1 * Xn K2 + y1) (x2 * Xn K2 + y2) = Xpe K K2 x1 y1 x2 y2
theorem isProd_u {K K2 K1 K1' : CX} (h2 : 0 ≤ Xn K2) (h : isProd K K2 K1) (h' : isProd K K2 K1') : K1 = K1' := by
  obtain ⟨z, a, b, c⟩ := h
  obtain ⟨z', a', b', c'⟩ := h'
  have key : ∀ x, (Xd K1 x = Xd K1' x ∧ X0 K1 x = X0 K1' x ∧ X1 K1 x = X1 K1' x) := by
    intro x
    by_cases e : 0 ≤ x ∧ x < Xn K1
    · rw [a] at e
      obtain ⟨p, q, hp, hq, rfl⟩ := pdiv h2 e
      obtain ⟨b1, b2, b3⟩ := b p q hp hq
      obtain ⟨d1, d2, d3⟩ := b' p q hp hq
      rw [b1, b2, b3, d1, d2, d3]
      exact ⟨rfl, rfl, rfl⟩
    · obtain ⟨b1, b2, b3⟩ := z.2.1 x e
      obtain ⟨d1, d2, d3⟩ := z'.2.1 x (by rw [a', ← a]; exact e)
      rw [b1, b2, b3, d1, d2, d3]
      exact ⟨rfl, rfl, rfl⟩
  refine CXext (by rw [a, a']) (fun x => (key x).1) (fun x => (key x).2.1) (fun x => (key x).2.2) fun x y => ?_
  by_cases e : (0 ≤ x ∧ x < Xn K1) ∧ (0 ≤ y ∧ y < Xn K1)
  · rw [a] at e
    obtain ⟨p, q, hp, hq, rfl⟩ := pdiv h2 e.1
    obtain ⟨r, s, hr, hs, rfl⟩ := pdiv h2 e.2
    rw [c p q r s hp hq hr hs, c' p q r s hp hq hr hs]
  · rw [z.e e, z'.e (by rw [a', ← a]; exact e)]
theorem isProd_Vx {K K2 K1 : CX} (hK : Vx K) (hK2 : Vx K2) (h : isProd K K2 K1) (hf : Xfit K K2) : Vx K1 := by
  obtain ⟨z, a, b, c⟩ := h
  obtain ⟨f0, f1, f2, f3⟩ := hf
  have n2 := hK2.1.1
  have mxl : ∀ {f : Int → Int} {n i : Int}, 0 ≤ i → i < n → f i ≤ mx f n := fun h0 h1 => (mx_le.mp (Int.le_refl _)).2 _ h0 h1
  have rg : ∀ x, (0 ≤ Xd K1 x ∧ Xd K1 x ≤ 4) ∧ (0 ≤ X0 K1 x ∧ X0 K1 x ≤ 9) ∧ (0 ≤ X1 K1 x ∧ X1 K1 x ≤ 9) := by
    intro x
    by_cases e : 0 ≤ x ∧ x < Xn K1
    · rw [a] at e
      obtain ⟨p, q, hp, hq, rfl⟩ := pdiv n2.1 e
      obtain ⟨b1, b2, b3⟩ := b p q hp hq
      have g1 := hK.2.1.1 p
      have g2 := hK2.2.1.1 q
      have m1 : Xd K p ≤ _ := mxl (f := Xd K) hp.1 hp.2
      have m2 : Xd K2 q ≤ _ := mxl (f := Xd K2) hq.1 hq.2
      have m3 : X0 K p ≤ _ := mxl (f := Xl K 0) hp.1 hp.2
      have m4 : X0 K2 q ≤ _ := mxl (f := Xl K2 0) hq.1 hq.2
      have m5 : X1 K p ≤ _ := mxl (f := Xl K 1) hp.1 hp.2
      have m6 : X1 K2 q ≤ _ := mxl (f := Xl K2 1) hq.1 hq.2
      omega
    · obtain ⟨b1, b2, b3⟩ := z.2.1 x e
      omega
  have ent : ∀ x y, Xe K1 x y ≠ 0 → Xmay K1 x y ∧ -9 ≤ Xe K1 x y ∧ Xe K1 x y ≤ 9 := by
    intro x y hne
    by_cases e : (0 ≤ x ∧ x < Xn K1) ∧ (0 ≤ y ∧ y < Xn K1)
    · have e' := e
      rw [a] at e'
      obtain ⟨p, q, hp, hq, rfl⟩ := pdiv n2.1 e'.1
      obtain ⟨r, s, hr, hs, rfl⟩ := pdiv n2.1 e'.2
      rw [c p q r s hp hq hr hs] at hne ⊢
      obtain ⟨b1, b2, b3⟩ := b p q hp hq
      obtain ⟨d1, d2, d3⟩ := b r s hr hs
      unfold Xpe at hne ⊢
      have E1 := hK.2.1.e p r
      have E2 := hK2.2.1.e q s
      have D := Xdiag hK p
      by_cases hq' : s = q
      · rw [if_pos hq'] at hne ⊢
        by_cases hr' : r = p
        · subst hr'; subst hq'
          have D2 := Xdiag hK2 s
          rw [if_pos rfl, D, D2, Int.mul_zero] at hne
          exact absurd rfl hne
        · rw [if_neg hr'] at hne ⊢
          rw [Int.add_zero] at hne ⊢
          have M := hK.2.2 p r hne
          unfold Xmay at M ⊢
          subst hq'
          rw [b1, b2, b3, d1, d2, d3]
          omega
      · rw [if_neg hq'] at hne ⊢
        by_cases hr' : r = p
        · rw [if_pos hr'] at hne ⊢
          have S := Xsg_c K p
          have h2 : Xe K2 q s ≠ 0 := fun q => hne (by rw [q, Int.mul_zero]; rfl)
          have M := hK2.2.2 q s h2
          unfold Xmay at M ⊢
          subst hr'
          rw [b1, b2, b3, d1, d2, d3]
          rcases S with S | S <;> rw [S] <;> omega
        · rw [if_neg hr'] at hne; exact absurd rfl hne
    · exact absurd (z.e e) hne
  refine ⟨z, ⟨rg, fun x y => ?_⟩, fun x y hne => (ent x y hne).1⟩
  by_cases e : Xe K1 x y = 0
  · rw [e]; exact ⟨by decide, by decide⟩
  · exact (ent x y e).2
theorem pset {Ka : CX} {n m x y i j v x1 y1 x2 y2 : Int} (hn : Xn Ka = n * m) (hx : 0 ≤ x ∧ x < n) (hy : 0 ≤ y ∧ y < m) (hi : 0 ≤ i ∧ i < n) (hj : 0 ≤ j ∧ j < m) (h1 : 0 ≤ x1 ∧ x1 < n) (h2 : 0 ≤ y1 ∧ y1 < m) (h3 : 0 ≤ x2 ∧ x2 < n) (h4 : 0 ≤ y2 ∧ y2 < m) : Xe (Xset Ka (x * m + y) (i * m + j) v) (x1 * m + y1) (x2 * m + y2) = if (x1 = x ∧ y1 = y) ∧ (x2 = i ∧ y2 = j) then v else Xe Ka (x1 * m + y1) (x2 * m + y2) := by
  rw [Xset_e]
  exact ifc (by rw [pinj h2 hy, pinj h4 hj, hn]; exact ⟨fun q => q.2, fun q => ⟨⟨prng hx hy, prng hi hj⟩, q⟩⟩) rfl rfl
def Xsame (K1 Ka : CX) : Prop := Xn Ka = Xn K1 ∧ (∀ i, Xd Ka i = Xd K1 i) ∧ (∀ i, X0 Ka i = X0 K1 i) ∧ ∀ i, X1 Ka i = X1 K1 i

def PEa (K K2 K1 Ka : CX) (x y i : Int) : Prop := ∀ x1 y1 x2 y2, (0 ≤ x1 ∧ x1 < Xn K) → (0 ≤ y1 ∧ y1 < Xn K2) → (0 ≤ x2 ∧ x2 < Xn K) → (0 ≤ y2 ∧ y2 < Xn K2) → Xe Ka (x1 * Xn K2 + y1) (x2 * Xn K2 + y2) = if x1 = x ∧ y1 = y then (if y2 = y ∧ x2 < i then Xe K x x2 else 0) else Xe K1 (x1 * Xn K2 + y1) (x2 * Xn K2 + y2)
def PEb (K K2 K1 Ka : CX) (x y i : Int) : Prop := ∀ x1 y1 x2 y2, (0 ≤ x1 ∧ x1 < Xn K) → (0 ≤ y1 ∧ y1 < Xn K2) → (0 ≤ x2 ∧ x2 < Xn K) → (0 ≤ y2 ∧ y2 < Xn K2) → Xe Ka (x1 * Xn K2 + y1) (x2 * Xn K2 + y2) = if x1 = x ∧ y1 = y then (if x2 = x ∧ y2 < i then Xsg K x * Xe K2 y y2 else if y2 = y then Xe K x x2 else 0) else Xe K1 (x1 * Xn K2 + y1) (x2 * Xn K2 + y2)
theorem PEa.nx {K K2 K1 Ka : CX} {x y i : Int} (hn : Xn Ka = Xn K * Xn K2) (hx : 0 ≤ x ∧ x < Xn K) (hy : 0 ≤ y ∧ y < Xn K2) (hi : 0 ≤ i ∧ i < Xn K) (h : PEa K K2 K1 Ka x y i) : PEa K K2 K1 (Xset Ka (x * Xn K2 + y) (i * Xn K2 + y) (Xe K x i)) x y (i + 1) := by
  intro x1 y1 x2 y2 h1 h2 h3 h4
  rw [pset hn hx hy hi hy h1 h2 h3 h4, h x1 y1 x2 y2 h1 h2 h3 h4]
  by_cases e : (x1 = x ∧ y1 = y) ∧ (x2 = i ∧ y2 = y)
  · rw [if_pos e, if_pos e.1, if_pos ⟨e.2.2, by omega⟩, e.2.1]
  · rw [if_neg e]
    by_cases e2 : x1 = x ∧ y1 = y
    · rw [if_pos e2, if_pos e2]
      exact ifc (by omega) rfl rfl
    · rw [if_neg e2, if_neg e2]
theorem PEb.nx {K K2 K1 Ka : CX} {x y i : Int} (hn : Xn Ka = Xn K * Xn K2) (hx : 0 ≤ x ∧ x < Xn K) (hy : 0 ≤ y ∧ y < Xn K2) (hi : 0 ≤ i ∧ i < Xn K2) (h : PEb K K2 K1 Ka x y i) : PEb K K2 K1 (Xset Ka (x * Xn K2 + y) (x * Xn K2 + i) (Xsg K x * Xe K2 y i)) x y (i + 1) := by
  intro x1 y1 x2 y2 h1 h2 h3 h4
  rw [pset hn hx hy hx hi h1 h2 h3 h4, h x1 y1 x2 y2 h1 h2 h3 h4]
  by_cases e : (x1 = x ∧ y1 = y) ∧ (x2 = x ∧ y2 = i)
  · rw [if_pos e, if_pos e.1, if_pos ⟨e.2.1, by omega⟩, e.2.2]
  · rw [if_neg e]
    by_cases e2 : x1 = x ∧ y1 = y
    · rw [if_pos e2, if_pos e2]
      exact ifc (by omega) rfl rfl
    · rw [if_neg e2, if_neg e2]
theorem PEa.b {K K2 K1 Ka : CX} {x y : Int} (h : PEa K K2 K1 Ka x y (Xn K)) : PEb K K2 K1 Ka x y 0 := by
  intro x1 y1 x2 y2 h1 h2 h3 h4
  rw [h x1 y1 x2 y2 h1 h2 h3 h4]
  refine ifc Iff.rfl ?_ rfl
  rw [if_neg (show ¬ (x2 = x ∧ y2 < 0) by omega)]
  exact ifc (by omega) rfl rfl
theorem PEb.fin {K K2 K1 Ka : CX} {x y : Int} (hV : Vx K) (h : PEb K K2 K1 Ka x y (Xn K2)) (x1 y1 x2 y2 : Int) : (0 ≤ x1 ∧ x1 < Xn K) → (0 ≤ y1 ∧ y1 < Xn K2) → (0 ≤ x2 ∧ x2 < Xn K) → (0 ≤ y2 ∧ y2 < Xn K2) → Xe Ka (x1 * Xn K2 + y1) (x2 * Xn K2 + y2) = if x1 = x ∧ y1 = y then Xpe K K2 x y x2 y2 else Xe K1 (x1 * Xn K2 + y1) (x2 * Xn K2 + y2) := by
  intro h1 h2 h3 h4
  rw [h x1 y1 x2 y2 h1 h2 h3 h4]
  refine ifc Iff.rfl ?_ rfl
  unfold Xpe
  by_cases e : x2 = x
  · rw [if_pos (show x2 = x ∧ y2 < Xn K2 by omega), if_pos e]
    by_cases e2 : y2 = y
    · rw [if_pos e2, e, Xdiag hV]; omega
    · rw [if_neg e2]; omega
  · rw [if_neg (show ¬ (x2 = x ∧ y2 < Xn K2) by omega), if_neg e, Int.add_zero]
theorem PEa.st {K K2 K1 : CX} {x y : Int} (hz : ∀ x2 y2, (0 ≤ x2 ∧ x2 < Xn K) → (0 ≤ y2 ∧ y2 < Xn K2) → Xe K1 (x * Xn K2 + y) (x2 * Xn K2 + y2) = 0) : PEa K K2 K1 K1 x y 0 := by
  intro x1 y1 x2 y2 h1 h2 h3 h4
  by_cases e : x1 = x ∧ y1 = y
  · rw [if_pos e, if_neg (show ¬ (y2 = y ∧ x2 < 0) by omega), e.1, e.2]
    exact hz x2 y2 h3 h4
  · rw [if_neg e]

set_option maxRecDepth 20000 in
set_option maxHeartbeats 4000000 in
theorem c_C_setProductEdge (S : mm_S) (b : Int) (hB : mm_isC b) (K : CX) (h : MC S b K) (c : Int) (hC : mm_isC c) (K2 : CX) (h2 : MC S c K2) (hb : 7 < b) (hc : 7 < c) (hV : Vx K) (hV2 : Vx K2) (hf : Xn K * Xn K2 ≤ 12) (K1 : CX) (h1 : MC S 3 K1) (hn1 : Xn K1 = Xn K * Xn K2) (x y : Int) (hx : 0 ≤ x ∧ x < Xn K) (hy : 0 ≤ y ∧ y < Xn K2) (hz : ∀ x2 y2, (0 ≤ x2 ∧ x2 < Xn K) → (0 ≤ y2 ∧ y2 < Xn K2) → Xe K1 (x * Xn K2 + y) (x2 * Xn K2 + y2) = 0) : Cl 139 [(2, 3), (2, b), (2, c), (0, x), (0, y)] S (fun v S' => v = none ∧ ∃ K', MC S' 3 K' ∧ Xsame K1 K' ∧ (∀ x1 y1 x2 y2, (0 ≤ x1 ∧ x1 < Xn K) → (0 ≤ y1 ∧ y1 < Xn K2) → (0 ≤ x2 ∧ x2 < Xn K) → (0 ≤ y2 ∧ y2 < Xn K2) → Xe K' (x1 * Xn K2 + y1) (x2 * Xn K2 + y2) = if x1 = x ∧ y1 = y then Xpe K K2 x y x2 y2 else Xe K1 (x1 * Xn K2 + y1) (x2 * Xn K2 + y2)) ∧ ∀ e, ¬ (3 ≤ e ∧ e ≤ 7) → S' e = S e) := by
  refine ⟨Nat.le_of_ble_eq_true rfl, ?_⟩
  show Rn k_C_setProductEdge 0 [(2, 3), (2, b), (2, c), (0, x), (0, y), (9, 0), (9, 0), (9, 0), (9, 0)] [] S _
  have hR := hV.2.1
  have hR2 := hV2.2.1
  have hnr := h.nr
  have hnr2 := h2.nr
  have hn := h.n
  have hn2 := h2.n
  have hsz := prng hx hy
  have hsz0 := prng hx (show 0 ≤ 0 ∧ 0 < Xn K2 by omega)
  have hdt := Int.tmod_eq_emod_of_nonneg (b := 2) (hR.d x).1
  refine R_lo (nx := 1) rfl rfl rfl rfl ?_
  refine R_get (nx := 4) (w := (0, (S c 0))) rfl rfl (isC_ob hC) rfl ?_
  rw [hn2]
  refine R_lo (nx := 6) (ls' := [(2, 3), (2, b), (2, c), (0, x), (0, y), (0, (Xn K2)), (9, 0), (9, 0), (9, 0)]) rfl rfl rfl rfl ?_
  refine R_lo (nx := 7) rfl rfl rfl rfl ?_
  refine R_lo (nx := 9) rfl rfl rfl rfl ?_
  refine R_imul (nx := 10) (z := (x * (Xn K2))) rfl rfl rfl ⟨by omega, by omega⟩ ?_
  refine R_lo (nx := 12) rfl rfl rfl rfl ?_
  refine R_iadd (nx := 13) (z := ((x * (Xn K2)) + y)) rfl rfl rfl ⟨by omega, by omega⟩ ?_
  refine R_lo (nx := 15) (ls' := [(2, 3), (2, b), (2, c), (0, x), (0, y), (0, (Xn K2)), (0, ((x * (Xn K2)) + y)), (9, 0), (9, 0)]) rfl rfl rfl rfl ?_
  refine R_lo (nx := 16) rfl rfl rfl rfl ?_
  refine R_lo (nx := 17) rfl rfl rfl rfl ?_
  refine R_call1 (nx := 20) (as := [(2, b), (0, x)]) (rest := []) rfl rfl (fun _ _ => rfl) rfl rfl rfl rfl rfl rfl (isC_rc hB _) rfl (Cl.mono (c_C_degree S b hB K (by first | assumption | exact MC.up (by assumption) (by omega) | exact MC.up (MC.up (by assumption) (by omega)) (by omega) | exact MC.up (MC.up (MC.up (by assumption) (by omega)) (by omega)) (by omega)) x) ?_)
  rintro _ _ ⟨rfl, rfl⟩
  refine ⟨_, rfl, ?_⟩
  refine R_op (nx := 21) rfl rfl rfl ?_
  refine R_irem (nx := 22) (z := (Int.tmod (Xd K x) 2)) rfl rfl (by decide) rfl ?_
  refine R_op (nx := 23) rfl rfl rfl ?_
  refine R_icmp (nx := 26) (tg := 30) rfl rfl rfl (mm_cnd_ne _ _) (fun c23 => ?_) (fun c23 => ?_)
  ·
    refine R_op (nx := 31) rfl rfl rfl ?_
    refine R_cv (w := (Xsg K x)) (by unfold Xsg; first | rw [if_pos (by omega)] | rw [if_neg (by omega)]) ?_
    refine R_lo (nx := 33) (ls' := [(2, 3), (2, b), (2, c), (0, x), (0, y), (0, (Xn K2)), (0, ((x * (Xn K2)) + y)), (0, (Xsg K x)), (9, 0)]) rfl rfl rfl rfl ?_
    refine R_op (nx := 34) rfl rfl rfl ?_
    refine R_lo (nx := 36) (ls' := [(2, 3), (2, b), (2, c), (0, x), (0, y), (0, (Xn K2)), (0, ((x * (Xn K2)) + y)), (0, (Xsg K x)), (0, 0)]) rfl rfl rfl rfl ?_
    have L36 : ∀ (f36 : Nat) (S1 : mm_S) (Ka : CX) (i : Int), (Xn K - i).toNat < f36 → (0 ≤ i ∧ i ≤ Xn K) → (MC S1 3 Ka) → (Xsame K1 Ka) → (PEa K K2 K1 Ka x y i) → (∀ e, ¬ (3 ≤ e ∧ e ≤ 7) → S1 e = S e) → Rn k_C_setProductEdge 36 [(2, 3), (2, b), (2, c), (0, x), (0, y), (0, (Xn K2)), (0, ((x * (Xn K2)) + y)), (0, (Xsg K x)), (0, i)] [] S1 (fun v S' => v = none ∧ ∃ K', MC S' 3 K' ∧ Xsame K1 K' ∧ (∀ x1 y1 x2 y2, (0 ≤ x1 ∧ x1 < Xn K) → (0 ≤ y1 ∧ y1 < Xn K2) → (0 ≤ x2 ∧ x2 < Xn K) → (0 ≤ y2 ∧ y2 < Xn K2) → Xe K' (x1 * Xn K2 + y1) (x2 * Xn K2 + y2) = if x1 = x ∧ y1 = y then Xpe K K2 x y x2 y2 else Xe K1 (x1 * Xn K2 + y1) (x2 * Xn K2 + y2)) ∧ ∀ e, ¬ (3 ≤ e ∧ e ≤ 7) → S' e = S e) := by
      intro f36
      induction f36 with
      | zero => intro S1 Ka i hm36; exact absurd hm36 (Nat.not_lt_zero _)
      | succ f36 ih36 =>
        intro S1 Ka i hm36 hi hM hs hI hF
        have hb1 : MC S1 b K := h.fr fun e p q => hF e (by omega)
        have hc1 : MC S1 c K2 := h2.fr fun e p q => hF e (by omega)
        have hbn := hb1.n
        have hcn := hc1.n
        have hsz := prng hx hy
        have hKn := hs.1
        have hsz1 := fun q => prng (x := i) (y := y) (n := Xn K) (m := Xn K2) q hy
        refine R_lo (nx := 38) rfl rfl rfl rfl ?_
        refine R_lo (nx := 39) rfl rfl rfl rfl ?_
        refine R_get (nx := 42) (w := (0, (S1 b 0))) rfl rfl (isC_ob hB) rfl ?_
        refine R_icmp (nx := 45) (tg := 72) rfl rfl rfl (mm_cnd_ge _ _) (fun c42 => ?_) (fun c42 => ?_)
        ·
          refine R_op (nx := 73) rfl rfl rfl ?_
          refine R_lo (nx := 75) (ls' := [(2, 3), (2, b), (2, c), (0, x), (0, y), (0, (Xn K2)), (0, ((x * (Xn K2)) + y)), (0, (Xsg K x)), (0, 0)]) rfl rfl rfl rfl ?_
          have L75 : ∀ (f75 : Nat) (S1 : mm_S) (Ka : CX) (i : Int), (Xn K2 - i).toNat < f75 → (0 ≤ i ∧ i ≤ Xn K2) → (MC S1 3 Ka) → (Xsame K1 Ka) → (PEb K K2 K1 Ka x y i) → (∀ e, ¬ (3 ≤ e ∧ e ≤ 7) → S1 e = S e) → Rn k_C_setProductEdge 75 [(2, 3), (2, b), (2, c), (0, x), (0, y), (0, (Xn K2)), (0, ((x * (Xn K2)) + y)), (0, (Xsg K x)), (0, i)] [] S1 (fun v S' => v = none ∧ ∃ K', MC S' 3 K' ∧ Xsame K1 K' ∧ (∀ x1 y1 x2 y2, (0 ≤ x1 ∧ x1 < Xn K) → (0 ≤ y1 ∧ y1 < Xn K2) → (0 ≤ x2 ∧ x2 < Xn K) → (0 ≤ y2 ∧ y2 < Xn K2) → Xe K' (x1 * Xn K2 + y1) (x2 * Xn K2 + y2) = if x1 = x ∧ y1 = y then Xpe K K2 x y x2 y2 else Xe K1 (x1 * Xn K2 + y1) (x2 * Xn K2 + y2)) ∧ ∀ e, ¬ (3 ≤ e ∧ e ≤ 7) → S' e = S e) := by
            intro f75
            induction f75 with
            | zero => intro S1 Ka i hm75; exact absurd hm75 (Nat.not_lt_zero _)
            | succ f75 ih75 =>
              intro S1 Ka i hm75 hi hM hs hI hF
              have hb1 : MC S1 b K := h.fr fun e p q => hF e (by omega)
              have hc1 : MC S1 c K2 := h2.fr fun e p q => hF e (by omega)
              have hbn := hb1.n
              have hcn := hc1.n
              have hsz := prng hx hy
              have hKn := hs.1
              have hsz1 := fun q => prng (x := x) (y := i) (n := Xn K) (m := Xn K2) hx q
              have hsb := Xsg_c K x
              refine R_lo (nx := 77) rfl rfl rfl rfl ?_
              refine R_lo (nx := 79) rfl rfl rfl rfl ?_
              refine R_icmp (nx := 82) (tg := 112) rfl rfl rfl (mm_cnd_ge _ _) (fun c79 => ?_) (fun c79 => ?_)
              ·
                refine R_ret rfl (fun _ _ => rfl) rfl rfl ?_
                have e : i = Xn K2 := by omega
                rw [e] at hI
                exact ⟨rfl, _, hM, hs, PEb.fin hV hI, hF⟩
              ·
                refine R_lo (nx := 83) rfl rfl rfl rfl ?_
                refine R_lo (nx := 85) rfl rfl rfl rfl ?_
                refine R_lo (nx := 86) rfl rfl rfl rfl ?_
                refine R_lo (nx := 88) rfl rfl rfl rfl ?_
                refine R_imul (nx := 89) (z := (x * (Xn K2))) rfl rfl rfl ⟨by omega, by omega⟩ ?_
                refine R_lo (nx := 91) rfl rfl rfl rfl ?_
                refine R_iadd (nx := 92) (z := ((x * (Xn K2)) + i)) rfl rfl rfl ⟨by omega, by omega⟩ ?_
                refine R_lo (nx := 94) rfl rfl rfl rfl ?_
                refine R_lo (nx := 95) rfl rfl rfl rfl ?_
                refine R_lo (nx := 97) rfl rfl rfl rfl ?_
                refine R_lo (nx := 99) rfl rfl rfl rfl ?_
                refine R_call1 (nx := 102) (as := [(2, c), (0, y), (0, i)]) (rest := [(0, (Xsg K x)), (0, ((x * (Xn K2)) + i)), (0, ((x * (Xn K2)) + y)), (2, 3)]) rfl rfl (fun _ _ => rfl) rfl rfl rfl rfl rfl rfl (isC_rc hC _) rfl (Cl.mono (c_C_edge S1 c hC K2 (by first | assumption | exact MC.up (by assumption) (by omega) | exact MC.up (MC.up (by assumption) (by omega)) (by omega) | exact MC.up (MC.up (MC.up (by assumption) (by omega)) (by omega)) (by omega)) y i) ?_)
                rintro _ _ ⟨rfl, rfl⟩
                refine ⟨_, rfl, ?_⟩
                refine R_imul (nx := 103) (z := ((Xsg K x) * (Xe K2 y i))) rfl rfl rfl (by have := hR2.e y i; rcases hsb with q | q <;> rw [q] <;> exact ⟨by omega, by omega⟩) ?_
                refine R_call0 (nx := 106) (as := [(2, 3), (0, ((x * (Xn K2)) + y)), (0, ((x * (Xn K2)) + i)), (0, ((Xsg K x) * (Xe K2 y i)))]) (rest := []) rfl rfl (fun _ _ => rfl) rfl rfl rfl rfl rfl rfl rfl rfl (Cl.mono (c_C_setEdge S1 3 isC_3 Ka (by first | assumption | exact MC.up (by assumption) (by omega) | exact MC.up (MC.up (by assumption) (by omega)) (by omega) | exact MC.up (MC.up (MC.up (by assumption) (by omega)) (by omega)) (by omega)) ((x * (Xn K2)) + y) ((x * (Xn K2)) + i) ((Xsg K x) * (Xe K2 y i))) ?_)
                rintro _ S103 ⟨rfl, m103, f103⟩
                have m_f103 : MC S103 b K := MC.fr (by first | assumption | exact MC.up (by assumption) (by omega) | exact MC.up (MC.up (by assumption) (by omega)) (by omega) | exact MC.up (MC.up (MC.up (by assumption) (by omega)) (by omega)) (by omega)) (fun c p q => f103 c (by omega))
                have m_f103 : MC S103 c K2 := MC.fr (by first | assumption | exact MC.up (by assumption) (by omega) | exact MC.up (MC.up (by assumption) (by omega)) (by omega) | exact MC.up (MC.up (MC.up (by assumption) (by omega)) (by omega)) (by omega)) (fun c p q => f103 c (by omega))
                refine ⟨rfl, ?_⟩
                refine R_iinc (nx := 109) (z := (i + 1)) (ls' := [(2, 3), (2, b), (2, c), (0, x), (0, y), (0, (Xn K2)), (0, ((x * (Xn K2)) + y)), (0, (Xsg K x)), (0, (i + 1))]) rfl rfl rfl rfl ⟨by omega, by omega⟩ rfl ?_
                refine R_op (nx := 112) (pc' := 75) rfl rfl rfl ?_
                refine Rn.weak (ls' := [(2, 3), (2, b), (2, c), (0, x), (0, y), (0, (Xn K2)), (0, ((x * (Xn K2)) + y)), (0, (Xsg K x)), (0, (i + 1))]) ⟨Or.inl rfl, ⟨Or.inl rfl, ⟨Or.inl rfl, ⟨Or.inl rfl, ⟨Or.inl rfl, ⟨Or.inl rfl, ⟨Or.inl rfl, ⟨Or.inl rfl, ⟨Or.inl rfl, trivial⟩⟩⟩⟩⟩⟩⟩⟩⟩ ?_
                refine ih75 (S103) ((Xset Ka ((x * (Xn K2)) + y) ((x * (Xn K2)) + i) ((Xsg K x) * (Xe K2 y i)))) ((i + 1)) ?_ ?_ ?_ ?_ ?_ ?_
                · omega
                · omega
                · exact m103
                · exact hs
                · exact PEb.nx (hKn.trans hn1) hx hy (by omega) hI
                · intro e he; rw [f103 e (by omega)]; exact hF e he
          refine Rn.weak (ls' := [(2, 3), (2, b), (2, c), (0, x), (0, y), (0, (Xn K2)), (0, ((x * (Xn K2)) + y)), (0, (Xsg K x)), (0, 0)]) ⟨Or.inl rfl, ⟨Or.inl rfl, ⟨Or.inl rfl, ⟨Or.inl rfl, ⟨Or.inl rfl, ⟨Or.inl rfl, ⟨Or.inl rfl, ⟨Or.inl rfl, ⟨Or.inl rfl, trivial⟩⟩⟩⟩⟩⟩⟩⟩⟩ ?_
          refine L75 ((Xn K2 - (0)).toNat + 1) (S1) (Ka) (0) (Nat.lt_succ_self _) ?_ ?_ ?_ ?_ ?_
          · omega
          · exact hM
          · exact hs
          · have e : i = Xn K := by omega
            rw [e] at hI
            exact hI.b
          · exact hF
        ·
          refine R_lo (nx := 46) rfl rfl rfl rfl ?_
          refine R_lo (nx := 48) rfl rfl rfl rfl ?_
          refine R_lo (nx := 50) rfl rfl rfl rfl ?_
          refine R_lo (nx := 52) rfl rfl rfl rfl ?_
          refine R_imul (nx := 53) (z := (i * (Xn K2))) rfl rfl rfl ⟨by have := hsz1 ⟨by omega, by omega⟩; omega, by have := hsz1 ⟨by omega, by omega⟩; omega⟩ ?_
          refine R_lo (nx := 55) rfl rfl rfl rfl ?_
          refine R_iadd (nx := 56) (z := ((i * (Xn K2)) + y)) rfl rfl rfl ⟨by have := hsz1 ⟨by omega, by omega⟩; omega, by have := hsz1 ⟨by omega, by omega⟩; omega⟩ ?_
          refine R_lo (nx := 57) rfl rfl rfl rfl ?_
          refine R_lo (nx := 58) rfl rfl rfl rfl ?_
          refine R_lo (nx := 60) rfl rfl rfl rfl ?_
          refine R_call1 (nx := 63) (as := [(2, b), (0, x), (0, i)]) (rest := [(0, ((i * (Xn K2)) + y)), (0, ((x * (Xn K2)) + y)), (2, 3)]) rfl rfl (fun _ _ => rfl) rfl rfl rfl rfl rfl rfl (isC_rc hB _) rfl (Cl.mono (c_C_edge S1 b hB K (by first | assumption | exact MC.up (by assumption) (by omega) | exact MC.up (MC.up (by assumption) (by omega)) (by omega) | exact MC.up (MC.up (MC.up (by assumption) (by omega)) (by omega)) (by omega)) x i) ?_)
          rintro _ _ ⟨rfl, rfl⟩
          refine ⟨_, rfl, ?_⟩
          refine R_call0 (nx := 66) (as := [(2, 3), (0, ((x * (Xn K2)) + y)), (0, ((i * (Xn K2)) + y)), (0, (Xe K x i))]) (rest := []) rfl rfl (fun _ _ => rfl) rfl rfl rfl rfl rfl rfl rfl rfl (Cl.mono (c_C_setEdge S1 3 isC_3 Ka (by first | assumption | exact MC.up (by assumption) (by omega) | exact MC.up (MC.up (by assumption) (by omega)) (by omega) | exact MC.up (MC.up (MC.up (by assumption) (by omega)) (by omega)) (by omega)) ((x * (Xn K2)) + y) ((i * (Xn K2)) + y) (Xe K x i)) ?_)
          rintro _ S63 ⟨rfl, m63, f63⟩
          have m_f63 : MC S63 b K := MC.fr (by first | assumption | exact MC.up (by assumption) (by omega) | exact MC.up (MC.up (by assumption) (by omega)) (by omega) | exact MC.up (MC.up (MC.up (by assumption) (by omega)) (by omega)) (by omega)) (fun c p q => f63 c (by omega))
          have m_f63 : MC S63 c K2 := MC.fr (by first | assumption | exact MC.up (by assumption) (by omega) | exact MC.up (MC.up (by assumption) (by omega)) (by omega) | exact MC.up (MC.up (MC.up (by assumption) (by omega)) (by omega)) (by omega)) (fun c p q => f63 c (by omega))
          refine ⟨rfl, ?_⟩
          refine R_iinc (nx := 69) (z := (i + 1)) (ls' := [(2, 3), (2, b), (2, c), (0, x), (0, y), (0, (Xn K2)), (0, ((x * (Xn K2)) + y)), (0, (Xsg K x)), (0, (i + 1))]) rfl rfl rfl rfl ⟨by omega, by omega⟩ rfl ?_
          refine R_op (nx := 72) (pc' := 36) rfl rfl rfl ?_
          refine Rn.weak (ls' := [(2, 3), (2, b), (2, c), (0, x), (0, y), (0, (Xn K2)), (0, ((x * (Xn K2)) + y)), (0, (Xsg K x)), (0, (i + 1))]) ⟨Or.inl rfl, ⟨Or.inl rfl, ⟨Or.inl rfl, ⟨Or.inl rfl, ⟨Or.inl rfl, ⟨Or.inl rfl, ⟨Or.inl rfl, ⟨Or.inl rfl, ⟨Or.inl rfl, trivial⟩⟩⟩⟩⟩⟩⟩⟩⟩ ?_
          refine ih36 (S63) ((Xset Ka ((x * (Xn K2)) + y) ((i * (Xn K2)) + y) (Xe K x i))) ((i + 1)) ?_ ?_ ?_ ?_ ?_ ?_
          · omega
          · omega
          · exact m63
          · exact hs
          · exact PEa.nx (hKn.trans hn1) hx hy (by omega) hI
          · intro e he; rw [f63 e (by omega)]; exact hF e he
    refine Rn.weak (ls' := [(2, 3), (2, b), (2, c), (0, x), (0, y), (0, (Xn K2)), (0, ((x * (Xn K2)) + y)), (0, (Xsg K x)), (0, 0)]) ⟨Or.inl rfl, ⟨Or.inl rfl, ⟨Or.inl rfl, ⟨Or.inl rfl, ⟨Or.inl rfl, ⟨Or.inl rfl, ⟨Or.inl rfl, ⟨Or.inl rfl, ⟨Or.inl rfl, trivial⟩⟩⟩⟩⟩⟩⟩⟩⟩ ?_
    refine L36 ((Xn K - (0)).toNat + 1) (S) (K1) (0) (Nat.lt_succ_self _) ?_ ?_ ?_ ?_ ?_
    · omega
    · exact h1
    · exact ⟨rfl, fun _ => rfl, fun _ => rfl, fun _ => rfl⟩
    · exact PEa.st hz
    · intro e he; rfl
  ·
    refine R_op (nx := 27) rfl rfl rfl ?_
    refine R_op (nx := 30) (pc' := 31) rfl rfl rfl ?_
    refine R_cv (w := (Xsg K x)) (by unfold Xsg; first | rw [if_pos (by omega)] | rw [if_neg (by omega)]) ?_
    refine R_lo (nx := 33) (ls' := [(2, 3), (2, b), (2, c), (0, x), (0, y), (0, (Xn K2)), (0, ((x * (Xn K2)) + y)), (0, (Xsg K x)), (9, 0)]) rfl rfl rfl rfl ?_
    refine R_op (nx := 34) rfl rfl rfl ?_
    refine R_lo (nx := 36) (ls' := [(2, 3), (2, b), (2, c), (0, x), (0, y), (0, (Xn K2)), (0, ((x * (Xn K2)) + y)), (0, (Xsg K x)), (0, 0)]) rfl rfl rfl rfl ?_
    have L36 : ∀ (f36 : Nat) (S1 : mm_S) (Ka : CX) (i : Int), (Xn K - i).toNat < f36 → (0 ≤ i ∧ i ≤ Xn K) → (MC S1 3 Ka) → (Xsame K1 Ka) → (PEa K K2 K1 Ka x y i) → (∀ e, ¬ (3 ≤ e ∧ e ≤ 7) → S1 e = S e) → Rn k_C_setProductEdge 36 [(2, 3), (2, b), (2, c), (0, x), (0, y), (0, (Xn K2)), (0, ((x * (Xn K2)) + y)), (0, (Xsg K x)), (0, i)] [] S1 (fun v S' => v = none ∧ ∃ K', MC S' 3 K' ∧ Xsame K1 K' ∧ (∀ x1 y1 x2 y2, (0 ≤ x1 ∧ x1 < Xn K) → (0 ≤ y1 ∧ y1 < Xn K2) → (0 ≤ x2 ∧ x2 < Xn K) → (0 ≤ y2 ∧ y2 < Xn K2) → Xe K' (x1 * Xn K2 + y1) (x2 * Xn K2 + y2) = if x1 = x ∧ y1 = y then Xpe K K2 x y x2 y2 else Xe K1 (x1 * Xn K2 + y1) (x2 * Xn K2 + y2)) ∧ ∀ e, ¬ (3 ≤ e ∧ e ≤ 7) → S' e = S e) := by
      intro f36
      induction f36 with
      | zero => intro S1 Ka i hm36; exact absurd hm36 (Nat.not_lt_zero _)
      | succ f36 ih36 =>
        intro S1 Ka i hm36 hi hM hs hI hF
        have hb1 : MC S1 b K := h.fr fun e p q => hF e (by omega)
        have hc1 : MC S1 c K2 := h2.fr fun e p q => hF e (by omega)
        have hbn := hb1.n
        have hcn := hc1.n
        have hsz := prng hx hy
        have hKn := hs.1
        have hsz1 := fun q => prng (x := i) (y := y) (n := Xn K) (m := Xn K2) q hy
        refine R_lo (nx := 38) rfl rfl rfl rfl ?_
        refine R_lo (nx := 39) rfl rfl rfl rfl ?_
        refine R_get (nx := 42) (w := (0, (S1 b 0))) rfl rfl (isC_ob hB) rfl ?_
        refine R_icmp (nx := 45) (tg := 72) rfl rfl rfl (mm_cnd_ge _ _) (fun c42_1 => ?_) (fun c42_1 => ?_)
        ·
          refine R_op (nx := 73) rfl rfl rfl ?_
          refine R_lo (nx := 75) (ls' := [(2, 3), (2, b), (2, c), (0, x), (0, y), (0, (Xn K2)), (0, ((x * (Xn K2)) + y)), (0, (Xsg K x)), (0, 0)]) rfl rfl rfl rfl ?_
          have L75 : ∀ (f75 : Nat) (S1 : mm_S) (Ka : CX) (i : Int), (Xn K2 - i).toNat < f75 → (0 ≤ i ∧ i ≤ Xn K2) → (MC S1 3 Ka) → (Xsame K1 Ka) → (PEb K K2 K1 Ka x y i) → (∀ e, ¬ (3 ≤ e ∧ e ≤ 7) → S1 e = S e) → Rn k_C_setProductEdge 75 [(2, 3), (2, b), (2, c), (0, x), (0, y), (0, (Xn K2)), (0, ((x * (Xn K2)) + y)), (0, (Xsg K x)), (0, i)] [] S1 (fun v S' => v = none ∧ ∃ K', MC S' 3 K' ∧ Xsame K1 K' ∧ (∀ x1 y1 x2 y2, (0 ≤ x1 ∧ x1 < Xn K) → (0 ≤ y1 ∧ y1 < Xn K2) → (0 ≤ x2 ∧ x2 < Xn K) → (0 ≤ y2 ∧ y2 < Xn K2) → Xe K' (x1 * Xn K2 + y1) (x2 * Xn K2 + y2) = if x1 = x ∧ y1 = y then Xpe K K2 x y x2 y2 else Xe K1 (x1 * Xn K2 + y1) (x2 * Xn K2 + y2)) ∧ ∀ e, ¬ (3 ≤ e ∧ e ≤ 7) → S' e = S e) := by
            intro f75
            induction f75 with
            | zero => intro S1 Ka i hm75; exact absurd hm75 (Nat.not_lt_zero _)
            | succ f75 ih75 =>
              intro S1 Ka i hm75 hi hM hs hI hF
              have hb1 : MC S1 b K := h.fr fun e p q => hF e (by omega)
              have hc1 : MC S1 c K2 := h2.fr fun e p q => hF e (by omega)
              have hbn := hb1.n
              have hcn := hc1.n
              have hsz := prng hx hy
              have hKn := hs.1
              have hsz1 := fun q => prng (x := x) (y := i) (n := Xn K) (m := Xn K2) hx q
              have hsb := Xsg_c K x
              refine R_lo (nx := 77) rfl rfl rfl rfl ?_
              refine R_lo (nx := 79) rfl rfl rfl rfl ?_
              refine R_icmp (nx := 82) (tg := 112) rfl rfl rfl (mm_cnd_ge _ _) (fun c79_1 => ?_) (fun c79_1 => ?_)
              ·
                refine R_ret rfl (fun _ _ => rfl) rfl rfl ?_
                have e : i = Xn K2 := by omega
                rw [e] at hI
                exact ⟨rfl, _, hM, hs, PEb.fin hV hI, hF⟩
              ·
                refine R_lo (nx := 83) rfl rfl rfl rfl ?_
                refine R_lo (nx := 85) rfl rfl rfl rfl ?_
                refine R_lo (nx := 86) rfl rfl rfl rfl ?_
                refine R_lo (nx := 88) rfl rfl rfl rfl ?_
                refine R_imul (nx := 89) (z := (x * (Xn K2))) rfl rfl rfl ⟨by omega, by omega⟩ ?_
                refine R_lo (nx := 91) rfl rfl rfl rfl ?_
                refine R_iadd (nx := 92) (z := ((x * (Xn K2)) + i)) rfl rfl rfl ⟨by omega, by omega⟩ ?_
                refine R_lo (nx := 94) rfl rfl rfl rfl ?_
                refine R_lo (nx := 95) rfl rfl rfl rfl ?_
                refine R_lo (nx := 97) rfl rfl rfl rfl ?_
                refine R_lo (nx := 99) rfl rfl rfl rfl ?_
                refine R_call1 (nx := 102) (as := [(2, c), (0, y), (0, i)]) (rest := [(0, (Xsg K x)), (0, ((x * (Xn K2)) + i)), (0, ((x * (Xn K2)) + y)), (2, 3)]) rfl rfl (fun _ _ => rfl) rfl rfl rfl rfl rfl rfl (isC_rc hC _) rfl (Cl.mono (c_C_edge S1 c hC K2 (by first | assumption | exact MC.up (by assumption) (by omega) | exact MC.up (MC.up (by assumption) (by omega)) (by omega) | exact MC.up (MC.up (MC.up (by assumption) (by omega)) (by omega)) (by omega)) y i) ?_)
                rintro _ _ ⟨rfl, rfl⟩
                refine ⟨_, rfl, ?_⟩
                refine R_imul (nx := 103) (z := ((Xsg K x) * (Xe K2 y i))) rfl rfl rfl (by have := hR2.e y i; rcases hsb with q | q <;> rw [q] <;> exact ⟨by omega, by omega⟩) ?_
                refine R_call0 (nx := 106) (as := [(2, 3), (0, ((x * (Xn K2)) + y)), (0, ((x * (Xn K2)) + i)), (0, ((Xsg K x) * (Xe K2 y i)))]) (rest := []) rfl rfl (fun _ _ => rfl) rfl rfl rfl rfl rfl rfl rfl rfl (Cl.mono (c_C_setEdge S1 3 isC_3 Ka (by first | assumption | exact MC.up (by assumption) (by omega) | exact MC.up (MC.up (by assumption) (by omega)) (by omega) | exact MC.up (MC.up (MC.up (by assumption) (by omega)) (by omega)) (by omega)) ((x * (Xn K2)) + y) ((x * (Xn K2)) + i) ((Xsg K x) * (Xe K2 y i))) ?_)
                rintro _ S103_1 ⟨rfl, m103_1, f103_1⟩
                have m_f103_1 : MC S103_1 b K := MC.fr (by first | assumption | exact MC.up (by assumption) (by omega) | exact MC.up (MC.up (by assumption) (by omega)) (by omega) | exact MC.up (MC.up (MC.up (by assumption) (by omega)) (by omega)) (by omega)) (fun c p q => f103_1 c (by omega))
                have m_f103_1 : MC S103_1 c K2 := MC.fr (by first | assumption | exact MC.up (by assumption) (by omega) | exact MC.up (MC.up (by assumption) (by omega)) (by omega) | exact MC.up (MC.up (MC.up (by assumption) (by omega)) (by omega)) (by omega)) (fun c p q => f103_1 c (by omega))
                refine ⟨rfl, ?_⟩
                refine R_iinc (nx := 109) (z := (i + 1)) (ls' := [(2, 3), (2, b), (2, c), (0, x), (0, y), (0, (Xn K2)), (0, ((x * (Xn K2)) + y)), (0, (Xsg K x)), (0, (i + 1))]) rfl rfl rfl rfl ⟨by omega, by omega⟩ rfl ?_
                refine R_op (nx := 112) (pc' := 75) rfl rfl rfl ?_
                refine Rn.weak (ls' := [(2, 3), (2, b), (2, c), (0, x), (0, y), (0, (Xn K2)), (0, ((x * (Xn K2)) + y)), (0, (Xsg K x)), (0, (i + 1))]) ⟨Or.inl rfl, ⟨Or.inl rfl, ⟨Or.inl rfl, ⟨Or.inl rfl, ⟨Or.inl rfl, ⟨Or.inl rfl, ⟨Or.inl rfl, ⟨Or.inl rfl, ⟨Or.inl rfl, trivial⟩⟩⟩⟩⟩⟩⟩⟩⟩ ?_
                refine ih75 (S103_1) ((Xset Ka ((x * (Xn K2)) + y) ((x * (Xn K2)) + i) ((Xsg K x) * (Xe K2 y i)))) ((i + 1)) ?_ ?_ ?_ ?_ ?_ ?_
                · omega
                · omega
                · exact m103_1
                · exact hs
                · exact PEb.nx (hKn.trans hn1) hx hy (by omega) hI
                · intro e he; rw [f103_1 e (by omega)]; exact hF e he
          refine Rn.weak (ls' := [(2, 3), (2, b), (2, c), (0, x), (0, y), (0, (Xn K2)), (0, ((x * (Xn K2)) + y)), (0, (Xsg K x)), (0, 0)]) ⟨Or.inl rfl, ⟨Or.inl rfl, ⟨Or.inl rfl, ⟨Or.inl rfl, ⟨Or.inl rfl, ⟨Or.inl rfl, ⟨Or.inl rfl, ⟨Or.inl rfl, ⟨Or.inl rfl, trivial⟩⟩⟩⟩⟩⟩⟩⟩⟩ ?_
          refine L75 ((Xn K2 - (0)).toNat + 1) (S1) (Ka) (0) (Nat.lt_succ_self _) ?_ ?_ ?_ ?_ ?_
          · omega
          · exact hM
          · exact hs
          · have e : i = Xn K := by omega
            rw [e] at hI
            exact hI.b
          · exact hF
        ·
          refine R_lo (nx := 46) rfl rfl rfl rfl ?_
          refine R_lo (nx := 48) rfl rfl rfl rfl ?_
          refine R_lo (nx := 50) rfl rfl rfl rfl ?_
          refine R_lo (nx := 52) rfl rfl rfl rfl ?_
          refine R_imul (nx := 53) (z := (i * (Xn K2))) rfl rfl rfl ⟨by have := hsz1 ⟨by omega, by omega⟩; omega, by have := hsz1 ⟨by omega, by omega⟩; omega⟩ ?_
          refine R_lo (nx := 55) rfl rfl rfl rfl ?_
          refine R_iadd (nx := 56) (z := ((i * (Xn K2)) + y)) rfl rfl rfl ⟨by have := hsz1 ⟨by omega, by omega⟩; omega, by have := hsz1 ⟨by omega, by omega⟩; omega⟩ ?_
          refine R_lo (nx := 57) rfl rfl rfl rfl ?_
          refine R_lo (nx := 58) rfl rfl rfl rfl ?_
          refine R_lo (nx := 60) rfl rfl rfl rfl ?_
          refine R_call1 (nx := 63) (as := [(2, b), (0, x), (0, i)]) (rest := [(0, ((i * (Xn K2)) + y)), (0, ((x * (Xn K2)) + y)), (2, 3)]) rfl rfl (fun _ _ => rfl) rfl rfl rfl rfl rfl rfl (isC_rc hB _) rfl (Cl.mono (c_C_edge S1 b hB K (by first | assumption | exact MC.up (by assumption) (by omega) | exact MC.up (MC.up (by assumption) (by omega)) (by omega) | exact MC.up (MC.up (MC.up (by assumption) (by omega)) (by omega)) (by omega)) x i) ?_)
          rintro _ _ ⟨rfl, rfl⟩
          refine ⟨_, rfl, ?_⟩
          refine R_call0 (nx := 66) (as := [(2, 3), (0, ((x * (Xn K2)) + y)), (0, ((i * (Xn K2)) + y)), (0, (Xe K x i))]) (rest := []) rfl rfl (fun _ _ => rfl) rfl rfl rfl rfl rfl rfl rfl rfl (Cl.mono (c_C_setEdge S1 3 isC_3 Ka (by first | assumption | exact MC.up (by assumption) (by omega) | exact MC.up (MC.up (by assumption) (by omega)) (by omega) | exact MC.up (MC.up (MC.up (by assumption) (by omega)) (by omega)) (by omega)) ((x * (Xn K2)) + y) ((i * (Xn K2)) + y) (Xe K x i)) ?_)
          rintro _ S63_1 ⟨rfl, m63_1, f63_1⟩
          have m_f63_1 : MC S63_1 b K := MC.fr (by first | assumption | exact MC.up (by assumption) (by omega) | exact MC.up (MC.up (by assumption) (by omega)) (by omega) | exact MC.up (MC.up (MC.up (by assumption) (by omega)) (by omega)) (by omega)) (fun c p q => f63_1 c (by omega))
          have m_f63_1 : MC S63_1 c K2 := MC.fr (by first | assumption | exact MC.up (by assumption) (by omega) | exact MC.up (MC.up (by assumption) (by omega)) (by omega) | exact MC.up (MC.up (MC.up (by assumption) (by omega)) (by omega)) (by omega)) (fun c p q => f63_1 c (by omega))
          refine ⟨rfl, ?_⟩
          refine R_iinc (nx := 69) (z := (i + 1)) (ls' := [(2, 3), (2, b), (2, c), (0, x), (0, y), (0, (Xn K2)), (0, ((x * (Xn K2)) + y)), (0, (Xsg K x)), (0, (i + 1))]) rfl rfl rfl rfl ⟨by omega, by omega⟩ rfl ?_
          refine R_op (nx := 72) (pc' := 36) rfl rfl rfl ?_
          refine Rn.weak (ls' := [(2, 3), (2, b), (2, c), (0, x), (0, y), (0, (Xn K2)), (0, ((x * (Xn K2)) + y)), (0, (Xsg K x)), (0, (i + 1))]) ⟨Or.inl rfl, ⟨Or.inl rfl, ⟨Or.inl rfl, ⟨Or.inl rfl, ⟨Or.inl rfl, ⟨Or.inl rfl, ⟨Or.inl rfl, ⟨Or.inl rfl, ⟨Or.inl rfl, trivial⟩⟩⟩⟩⟩⟩⟩⟩⟩ ?_
          refine ih36 (S63_1) ((Xset Ka ((x * (Xn K2)) + y) ((i * (Xn K2)) + y) (Xe K x i))) ((i + 1)) ?_ ?_ ?_ ?_ ?_ ?_
          · omega
          · omega
          · exact m63_1
          · exact hs
          · exact PEa.nx (hKn.trans hn1) hx hy (by omega) hI
          · intro e he; rw [f63_1 e (by omega)]; exact hF e he
    refine Rn.weak (ls' := [(2, 3), (2, b), (2, c), (0, x), (0, y), (0, (Xn K2)), (0, ((x * (Xn K2)) + y)), (0, (Xsg K x)), (0, 0)]) ⟨Or.inl rfl, ⟨Or.inl rfl, ⟨Or.inl rfl, ⟨Or.inl rfl, ⟨Or.inl rfl, ⟨Or.inl rfl, ⟨Or.inl rfl, ⟨Or.inl rfl, ⟨Or.inl rfl, trivial⟩⟩⟩⟩⟩⟩⟩⟩⟩ ?_
    refine L36 ((Xn K - (0)).toNat + 1) (S) (K1) (0) (Nat.lt_succ_self _) ?_ ?_ ?_ ?_ ?_
    · omega
    · exact h1
    · exact ⟨rfl, fun _ => rfl, fun _ => rfl, fun _ => rfl⟩
    · exact PEa.st hz
    · intro e he; rfl

def PA (K K2 K1 : CX) (t : Int) : Prop := Xn K1 = t ∧ (∀ x y, (0 ≤ x ∧ x < Xn K) → (0 ≤ y ∧ y < Xn K2) → x * Xn K2 + y < t → Xd K1 (x * Xn K2 + y) = Xd K x + Xd K2 y ∧ X0 K1 (x * Xn K2 + y) = X0 K x + X0 K2 y ∧ X1 K1 (x * Xn K2 + y) = X1 K x + X1 K2 y) ∧ ∀ i j, Xe K1 i j = 0
theorem PA.add {K K2 K1 : CX} {x y : Int} (h : PA K K2 K1 (x * Xn K2 + y)) (hx : 0 ≤ x ∧ x < Xn K) (hy : 0 ≤ y ∧ y < Xn K2) : PA K K2 (Xadd K1 (Xd K x + Xd K2 y) (Xl K 0 x + Xl K2 0 y) (Xl K 1 x + Xl K2 1 y)) (x * Xn K2 + (y + 1)) := by
  obtain ⟨a, b, c⟩ := h
  refine ⟨by rw [Xadd_n, a]; omega, fun x1 y1 h1 h2 h3 => ?_, c⟩
  rw [Xadd_d, Xadd_0, Xadd_1, a]
  by_cases e : x1 * Xn K2 + y1 = x * Xn K2 + y
  · rw [if_pos e, if_pos e, if_pos e]
    obtain ⟨rfl, rfl⟩ := (pinj h2 hy).mp e
    exact ⟨rfl, rfl, rfl⟩
  · rw [if_neg e, if_neg e, if_neg e]
    exact b x1 y1 h1 h2 (by omega)
theorem PA.z {K K2 : CX} (hn : 0 ≤ Xn K2) : PA K K2 Xz (0 * Xn K2) := ⟨(Int.zero_mul _).symm, fun x y h1 h2 h3 => by have := prng h1 h2; omega, fun _ _ => rfl⟩
theorem PA.nx {K K2 K1 : CX} {x y : Int} (h : PA K K2 K1 (x * Xn K2 + y)) (hy : y = Xn K2) : PA K K2 K1 ((x + 1) * Xn K2) := by
  rw [Int.add_mul, Int.one_mul]; rw [hy] at h; exact h
def PB (K K2 K1 : CX) (x y : Int) : Prop := Xn K1 = Xn K * Xn K2 ∧ (∀ x y, (0 ≤ x ∧ x < Xn K) → (0 ≤ y ∧ y < Xn K2) → Xd K1 (x * Xn K2 + y) = Xd K x + Xd K2 y ∧ X0 K1 (x * Xn K2 + y) = X0 K x + X0 K2 y ∧ X1 K1 (x * Xn K2 + y) = X1 K x + X1 K2 y) ∧ ∀ x1 y1 x2 y2, (0 ≤ x1 ∧ x1 < Xn K) → (0 ≤ y1 ∧ y1 < Xn K2) → (0 ≤ x2 ∧ x2 < Xn K) → (0 ≤ y2 ∧ y2 < Xn K2) → Xe K1 (x1 * Xn K2 + y1) (x2 * Xn K2 + y2) = if x1 < x ∨ (x1 = x ∧ y1 < y) then Xpe K K2 x1 y1 x2 y2 else 0
theorem PA.b {K K2 K1 : CX} {x : Int} (h : PA K K2 K1 (x * Xn K2)) (hx : x = Xn K) : PB K K2 K1 0 0 := by
  subst hx
  obtain ⟨a, b, c⟩ := h
  refine ⟨a, fun x y h1 h2 => b x y h1 h2 (prng h1 h2).2, fun x1 y1 x2 y2 h1 h2 h3 h4 => ?_⟩
  rw [if_neg (by omega)]
  exact c _ _
theorem PB.nx {K K2 K1 : CX} {x y : Int} (h : PB K K2 K1 x y) (hy : y = Xn K2) : PB K K2 K1 (x + 1) 0 := by
  obtain ⟨a, b, c⟩ := h
  refine ⟨a, b, fun x1 y1 x2 y2 h1 h2 h3 h4 => ?_⟩
  rw [c x1 y1 x2 y2 h1 h2 h3 h4]
  exact ifc (by omega) rfl rfl
theorem PB.z {K K2 K1 : CX} {x y : Int} (h : PB K K2 K1 x y) (hx : 0 ≤ x ∧ x < Xn K) (hy : 0 ≤ y ∧ y < Xn K2) (x2 y2 : Int) (h1 : 0 ≤ x2 ∧ x2 < Xn K) (h2 : 0 ≤ y2 ∧ y2 < Xn K2) : Xe K1 (x * Xn K2 + y) (x2 * Xn K2 + y2) = 0 := by
  rw [h.2.2 x y x2 y2 hx hy h1 h2, if_neg (by omega)]
theorem PB.st {K K2 K1 Ka : CX} {x y : Int} (h : PB K K2 K1 x y) (hs : Xsame K1 Ka) (he : ∀ x1 y1 x2 y2, (0 ≤ x1 ∧ x1 < Xn K) → (0 ≤ y1 ∧ y1 < Xn K2) → (0 ≤ x2 ∧ x2 < Xn K) → (0 ≤ y2 ∧ y2 < Xn K2) → Xe Ka (x1 * Xn K2 + y1) (x2 * Xn K2 + y2) = if x1 = x ∧ y1 = y then Xpe K K2 x y x2 y2 else Xe K1 (x1 * Xn K2 + y1) (x2 * Xn K2 + y2)) : PB K K2 Ka x (y + 1) := by
  obtain ⟨a, b, c⟩ := h
  obtain ⟨s1, s2, s3, s4⟩ := hs
  refine ⟨s1.trans a, fun x y h1 h2 => by rw [s2, s3, s4]; exact b x y h1 h2, fun x1 y1 x2 y2 h1 h2 h3 h4 => ?_⟩
  rw [he x1 y1 x2 y2 h1 h2 h3 h4, c x1 y1 x2 y2 h1 h2 h3 h4]
  by_cases e : x1 = x ∧ y1 = y
  · rw [if_pos e, if_pos (by omega), e.1, e.2]
  · rw [if_neg e]
    exact ifc (by omega) rfl rfl
theorem PB.fin {K K2 K1 : CX} {x : Int} (h : PB K K2 K1 x 0) (hx : x = Xn K) (hz : Nz K1) : isProd K K2 K1 := ⟨hz, h.1, h.2.1, fun x1 y1 x2 y2 h1 h2 h3 h4 => by rw [h.2.2 x1 y1 x2 y2 h1 h2 h3 h4, if_pos (by omega)]⟩

set_option maxRecDepth 20000 in
set_option maxHeartbeats 4000000 in
theorem c_C_becomeProduct (S : mm_S) (b : Int) (hB : mm_isC b) (K : CX) (h : MC S b K) (c : Int) (hC : mm_isC c) (K2 : CX) (h2 : MC S c K2) (hb : 7 < b) (hc : 7 < c) (hV : Vx K) (hV2 : Vx K2) (hf : Xn K * Xn K2 ≤ 12) : Cl 138 [(2, 3), (2, b), (2, c)] S (fun v S' => v = none ∧ ∃ K', MC S' 3 K' ∧ isProd K K2 K' ∧ ∀ e, ¬ (3 ≤ e ∧ e ≤ 7) → S' e = S e) := by
  refine ⟨Nat.le_of_ble_eq_true rfl, ?_⟩
  show Rn k_C_becomeProduct 0 [(2, 3), (2, b), (2, c), (9, 0), (9, 0)] [] S _
  have hR := hV.2.1
  have hR2 := hV2.2.1
  have hnr := h.nr
  have hnr2 := h2.nr
  have hn := h.n
  have hn2 := h2.n
  refine R_lo (nx := 1) rfl rfl rfl rfl ?_
  refine R_call0 (nx := 4) (as := [(2, 3)]) (rest := []) rfl rfl (fun _ _ => rfl) rfl rfl rfl rfl rfl rfl rfl rfl (Cl.mono (c_C_empty S 3 isC_3) ?_)
  rintro _ S1 ⟨rfl, m1, f1⟩
  have m_f1 : MC S1 b K := MC.fr (by first | assumption | exact MC.up (by assumption) (by omega) | exact MC.up (MC.up (by assumption) (by omega)) (by omega) | exact MC.up (MC.up (MC.up (by assumption) (by omega)) (by omega)) (by omega)) (fun c p q => f1 c (by omega))
  have m_f1 : MC S1 c K2 := MC.fr (by first | assumption | exact MC.up (by assumption) (by omega) | exact MC.up (MC.up (by assumption) (by omega)) (by omega) | exact MC.up (MC.up (MC.up (by assumption) (by omega)) (by omega)) (by omega)) (fun c p q => f1 c (by omega))
  refine ⟨rfl, ?_⟩
  refine R_op (nx := 5) rfl rfl rfl ?_
  refine R_lo (nx := 6) (ls' := [(2, 3), (2, b), (2, c), (0, 0), (9, 0)]) rfl rfl rfl rfl ?_
  have L6 : ∀ (f6 : Nat) (S1 : mm_S) (Ka : CX) (x : Int), (Xn K - x).toNat < f6 → (0 ≤ x ∧ x ≤ Xn K) → (MC S1 3 Ka) → (PA K K2 Ka (x * Xn K2)) → (∀ e, ¬ (3 ≤ e ∧ e ≤ 7) → S1 e = S e) → Rn k_C_becomeProduct 6 [(2, 3), (2, b), (2, c), (0, x), (9, 0)] [] S1 (fun v S' => v = none ∧ ∃ K', MC S' 3 K' ∧ isProd K K2 K' ∧ ∀ e, ¬ (3 ≤ e ∧ e ≤ 7) → S' e = S e) := by
    intro f6
    induction f6 with
    | zero => intro S1 Ka x hm6; exact absurd hm6 (Nat.not_lt_zero _)
    | succ f6 ih6 =>
      intro S1 Ka x hm6 hx hM hI hF
      have hb1 : MC S1 b K := h.fr fun e p q => hF e (by omega)
      have hc1 : MC S1 c K2 := h2.fr fun e p q => hF e (by omega)
      have hbn := hb1.n
      have hcn := hc1.n
      refine R_lo (nx := 7) rfl rfl rfl rfl ?_
      refine R_lo (nx := 8) rfl rfl rfl rfl ?_
      refine R_get (nx := 11) (w := (0, (S1 b 0))) rfl rfl (isC_ob hB) rfl ?_
      refine R_icmp (nx := 14) (tg := 83) rfl rfl rfl (mm_cnd_ge _ _) (fun c11 => ?_) (fun c11 => ?_)
      ·
        refine R_op (nx := 84) rfl rfl rfl ?_
        refine R_lo (nx := 85) (ls' := [(2, 3), (2, b), (2, c), (0, 0), (9, 0)]) rfl rfl rfl rfl ?_
        have L85 : ∀ (f85 : Nat) (S1 : mm_S) (Ka : CX) (x : Int), (Xn K - x).toNat < f85 → (0 ≤ x ∧ x ≤ Xn K) → (MC S1 3 Ka) → (PB K K2 Ka x 0) → (∀ e, ¬ (3 ≤ e ∧ e ≤ 7) → S1 e = S e) → Rn k_C_becomeProduct 85 [(2, 3), (2, b), (2, c), (0, x), (9, 0)] [] S1 (fun v S' => v = none ∧ ∃ K', MC S' 3 K' ∧ isProd K K2 K' ∧ ∀ e, ¬ (3 ≤ e ∧ e ≤ 7) → S' e = S e) := by
          intro f85
          induction f85 with
          | zero => intro S1 Ka x hm85; exact absurd hm85 (Nat.not_lt_zero _)
          | succ f85 ih85 =>
            intro S1 Ka x hm85 hx hM hI hF
            have hb1 : MC S1 b K := h.fr fun e p q => hF e (by omega)
            have hc1 : MC S1 c K2 := h2.fr fun e p q => hF e (by omega)
            have hbn := hb1.n
            have hcn := hc1.n
            refine R_lo (nx := 86) rfl rfl rfl rfl ?_
            refine R_lo (nx := 87) rfl rfl rfl rfl ?_
            refine R_get (nx := 90) (w := (0, (S1 b 0))) rfl rfl (isC_ob hB) rfl ?_
            refine R_icmp (nx := 93) (tg := 126) rfl rfl rfl (mm_cnd_ge _ _) (fun c90 => ?_) (fun c90 => ?_)
            ·
              refine R_ret rfl (fun _ _ => rfl) rfl rfl ?_
              exact ⟨rfl, _, hM, hI.fin (by omega) hM.1, hF⟩
            ·
              refine R_op (nx := 94) rfl rfl rfl ?_
              refine R_lo (nx := 96) (ls' := [(2, 3), (2, b), (2, c), (0, x), (0, 0)]) rfl rfl rfl rfl ?_
              have L96 : ∀ (f96 : Nat) (S2 : mm_S) (Kb : CX) (y : Int), (Xn K2 - y).toNat < f96 → (0 ≤ y ∧ y ≤ Xn K2) → (MC S2 3 Kb) → (PB K K2 Kb x y) → (∀ e, ¬ (3 ≤ e ∧ e ≤ 7) → S2 e = S e) → Rn k_C_becomeProduct 96 [(2, 3), (2, b), (2, c), (0, x), (0, y)] [] S2 (fun v S' => v = none ∧ ∃ K', MC S' 3 K' ∧ isProd K K2 K' ∧ ∀ e, ¬ (3 ≤ e ∧ e ≤ 7) → S' e = S e) := by
                intro f96
                induction f96 with
                | zero => intro S2 Kb y hm96; exact absurd hm96 (Nat.not_lt_zero _)
                | succ f96 ih96 =>
                  intro S2 Kb y hm96 hy hN hJ hG
                  have hb2 : MC S2 b K := h.fr fun e p q => hG e (by omega)
                  have hc2 : MC S2 c K2 := h2.fr fun e p q => hG e (by omega)
                  have hbn2 := hb2.n
                  have hcn2 := hc2.n
                  have hxx : 0 ≤ x ∧ x < Xn K := by omega
                  refine R_lo (nx := 98) rfl rfl rfl rfl ?_
                  refine R_lo (nx := 99) rfl rfl rfl rfl ?_
                  refine R_get (nx := 102) (w := (0, (S2 c 0))) rfl rfl (isC_ob hC) rfl ?_
                  refine R_icmp (nx := 105) (tg := 120) rfl rfl rfl (mm_cnd_ge _ _) (fun c102 => ?_) (fun c102 => ?_)
                  ·
                    refine R_iinc (nx := 123) (z := (x + 1)) (ls' := [(2, 3), (2, b), (2, c), (0, (x + 1)), (0, y)]) rfl rfl rfl rfl ⟨by omega, by omega⟩ rfl ?_
                    refine R_op (nx := 126) (pc' := 85) rfl rfl rfl ?_
                    refine Rn.weak (ls' := [(2, 3), (2, b), (2, c), (0, (x + 1)), (9, 0)]) ⟨Or.inl rfl, ⟨Or.inl rfl, ⟨Or.inl rfl, ⟨Or.inl rfl, ⟨Or.inr rfl, trivial⟩⟩⟩⟩⟩ ?_
                    refine ih85 (S2) (Kb) ((x + 1)) ?_ ?_ ?_ ?_ ?_
                    · omega
                    · omega
                    · exact hN
                    · exact hJ.nx (by omega)
                    · exact hG
                  ·
                    refine R_lo (nx := 106) rfl rfl rfl rfl ?_
                    refine R_lo (nx := 107) rfl rfl rfl rfl ?_
                    refine R_lo (nx := 108) rfl rfl rfl rfl ?_
                    refine R_lo (nx := 109) rfl rfl rfl rfl ?_
                    refine R_lo (nx := 111) rfl rfl rfl rfl ?_
                    refine R_call0 (nx := 114) (as := [(2, 3), (2, b), (2, c), (0, x), (0, y)]) (rest := []) rfl rfl (fun _ _ => rfl) rfl rfl rfl rfl rfl rfl rfl rfl (Cl.mono (c_C_setProductEdge S2 b hB K (by first | assumption | exact MC.up (by assumption) (by omega) | exact MC.up (MC.up (by assumption) (by omega)) (by omega) | exact MC.up (MC.up (MC.up (by assumption) (by omega)) (by omega)) (by omega)) c hC K2 (by first | assumption | exact MC.up (by assumption) (by omega) | exact MC.up (MC.up (by assumption) (by omega)) (by omega) | exact MC.up (MC.up (MC.up (by assumption) (by omega)) (by omega)) (by omega)) (by omega) (by omega) (by assumption) (by assumption) (by omega) Kb (by first | assumption | exact MC.up (by assumption) (by omega) | exact MC.up (MC.up (by assumption) (by omega)) (by omega) | exact MC.up (MC.up (MC.up (by assumption) (by omega)) (by omega)) (by omega)) hJ.1 x y (by omega) (by omega) (hJ.z hxx (by omega))) ?_)
                    rintro _ S111 ⟨rfl, K111, m111, q111, z111, f111⟩
                    have m_f111 : MC S111 b K := MC.fr (by first | assumption | exact MC.up (by assumption) (by omega) | exact MC.up (MC.up (by assumption) (by omega)) (by omega) | exact MC.up (MC.up (MC.up (by assumption) (by omega)) (by omega)) (by omega)) (fun c p q => f111 c (by omega))
                    have m_f111 : MC S111 c K2 := MC.fr (by first | assumption | exact MC.up (by assumption) (by omega) | exact MC.up (MC.up (by assumption) (by omega)) (by omega) | exact MC.up (MC.up (MC.up (by assumption) (by omega)) (by omega)) (by omega)) (fun c p q => f111 c (by omega))
                    refine ⟨rfl, ?_⟩
                    refine R_iinc (nx := 117) (z := (y + 1)) (ls' := [(2, 3), (2, b), (2, c), (0, x), (0, (y + 1))]) rfl rfl rfl rfl ⟨by omega, by omega⟩ rfl ?_
                    refine R_op (nx := 120) (pc' := 96) rfl rfl rfl ?_
                    refine Rn.weak (ls' := [(2, 3), (2, b), (2, c), (0, x), (0, (y + 1))]) ⟨Or.inl rfl, ⟨Or.inl rfl, ⟨Or.inl rfl, ⟨Or.inl rfl, ⟨Or.inl rfl, trivial⟩⟩⟩⟩⟩ ?_
                    refine ih96 (S111) (K111) ((y + 1)) ?_ ?_ ?_ ?_ ?_
                    · omega
                    · omega
                    · exact m111
                    · exact hJ.st q111 z111
                    · intro e he; rw [f111 e (by omega)]; exact hG e he
              refine Rn.weak (ls' := [(2, 3), (2, b), (2, c), (0, x), (0, 0)]) ⟨Or.inl rfl, ⟨Or.inl rfl, ⟨Or.inl rfl, ⟨Or.inl rfl, ⟨Or.inl rfl, trivial⟩⟩⟩⟩⟩ ?_
              refine L96 ((Xn K2 - (0)).toNat + 1) (S1) (Ka) (0) (Nat.lt_succ_self _) ?_ ?_ ?_ ?_
              · omega
              · exact hM
              · exact hI
              · exact hF
        refine Rn.weak (ls' := [(2, 3), (2, b), (2, c), (0, 0), (9, 0)]) ⟨Or.inl rfl, ⟨Or.inl rfl, ⟨Or.inl rfl, ⟨Or.inl rfl, ⟨Or.inl rfl, trivial⟩⟩⟩⟩⟩ ?_
        refine L85 ((Xn K - (0)).toNat + 1) (S1) (Ka) (0) (Nat.lt_succ_self _) ?_ ?_ ?_ ?_
        · omega
        · exact hM
        · exact hI.b (by omega)
        · exact hF
      ·
        refine R_op (nx := 15) rfl rfl rfl ?_
        refine R_lo (nx := 17) (ls' := [(2, 3), (2, b), (2, c), (0, x), (0, 0)]) rfl rfl rfl rfl ?_
        have L17 : ∀ (f17 : Nat) (S2 : mm_S) (Kb : CX) (y : Int), (Xn K2 - y).toNat < f17 → (0 ≤ y ∧ y ≤ Xn K2) → (MC S2 3 Kb) → (PA K K2 Kb (x * Xn K2 + y)) → (∀ e, ¬ (3 ≤ e ∧ e ≤ 7) → S2 e = S e) → Rn k_C_becomeProduct 17 [(2, 3), (2, b), (2, c), (0, x), (0, y)] [] S2 (fun v S' => v = none ∧ ∃ K', MC S' 3 K' ∧ isProd K K2 K' ∧ ∀ e, ¬ (3 ≤ e ∧ e ≤ 7) → S' e = S e) := by
          intro f17
          induction f17 with
          | zero => intro S2 Kb y hm17; exact absurd hm17 (Nat.not_lt_zero _)
          | succ f17 ih17 =>
            intro S2 Kb y hm17 hy hN hJ hG
            have hb2 : MC S2 b K := h.fr fun e p q => hG e (by omega)
            have hc2 : MC S2 c K2 := h2.fr fun e p q => hG e (by omega)
            have hbn2 := hb2.n
            have hcn2 := hc2.n
            have hxx : 0 ≤ x ∧ x < Xn K := by omega
            have hpr := fun q => prng (x := x) (y := y) hxx (show 0 ≤ y ∧ y < Xn K2 from q)
            have g1 := hR.1 x
            have g2 := hR2.1 y
            have hKb := hJ.1
            have g3 := hR.l 0 x
            have g4 := hR2.l 0 y
            have g5 := hR.l 1 x
            have g6 := hR2.l 1 y
            refine R_lo (nx := 19) rfl rfl rfl rfl ?_
            refine R_lo (nx := 20) rfl rfl rfl rfl ?_
            refine R_get (nx := 23) (w := (0, (S2 c 0))) rfl rfl (isC_ob hC) rfl ?_
            refine R_icmp (nx := 26) (tg := 77) rfl rfl rfl (mm_cnd_ge _ _) (fun c23 => ?_) (fun c23 => ?_)
            ·
              refine R_iinc (nx := 80) (z := (x + 1)) (ls' := [(2, 3), (2, b), (2, c), (0, (x + 1)), (0, y)]) rfl rfl rfl rfl ⟨by omega, by omega⟩ rfl ?_
              refine R_op (nx := 83) (pc' := 6) rfl rfl rfl ?_
              refine Rn.weak (ls' := [(2, 3), (2, b), (2, c), (0, (x + 1)), (9, 0)]) ⟨Or.inl rfl, ⟨Or.inl rfl, ⟨Or.inl rfl, ⟨Or.inl rfl, ⟨Or.inr rfl, trivial⟩⟩⟩⟩⟩ ?_
              refine ih6 (S2) (Kb) ((x + 1)) ?_ ?_ ?_ ?_ ?_
              · omega
              · omega
              · exact hN
              · exact hJ.nx (by omega)
              · exact hG
            ·
              refine R_lo (nx := 27) rfl rfl rfl rfl ?_
              refine R_lo (nx := 28) rfl rfl rfl rfl ?_
              refine R_lo (nx := 29) rfl rfl rfl rfl ?_
              refine R_call1 (nx := 32) (as := [(2, b), (0, x)]) (rest := [(2, 3)]) rfl rfl (fun _ _ => rfl) rfl rfl rfl rfl rfl rfl (isC_rc hB _) rfl (Cl.mono (c_C_degree S2 b hB K (by first | assumption | exact MC.up (by assumption) (by omega) | exact MC.up (MC.up (by assumption) (by omega)) (by omega) | exact MC.up (MC.up (MC.up (by assumption) (by omega)) (by omega)) (by omega)) x) ?_)
              rintro _ _ ⟨rfl, rfl⟩
              refine ⟨_, rfl, ?_⟩
              refine R_lo (nx := 33) rfl rfl rfl rfl ?_
              refine R_lo (nx := 35) rfl rfl rfl rfl ?_
              refine R_call1 (nx := 38) (as := [(2, c), (0, y)]) (rest := [(0, (Xd K x)), (2, 3)]) rfl rfl (fun _ _ => rfl) rfl rfl rfl rfl rfl rfl (isC_rc hC _) rfl (Cl.mono (c_C_degree S2 c hC K2 (by first | assumption | exact MC.up (by assumption) (by omega) | exact MC.up (MC.up (by assumption) (by omega)) (by omega) | exact MC.up (MC.up (MC.up (by assumption) (by omega)) (by omega)) (by omega)) y) ?_)
              rintro _ _ ⟨rfl, rfl⟩
              refine ⟨_, rfl, ?_⟩
              refine R_iadd (nx := 39) (z := ((Xd K x) + (Xd K2 y))) rfl rfl rfl ⟨by omega, by omega⟩ ?_
              refine R_lo (nx := 40) rfl rfl rfl rfl ?_
              refine R_op (nx := 41) rfl rfl rfl ?_
              refine R_lo (nx := 42) rfl rfl rfl rfl ?_
              refine R_call1 (nx := 45) (as := [(2, b), (0, 0), (0, x)]) (rest := [(0, ((Xd K x) + (Xd K2 y))), (2, 3)]) rfl rfl (fun _ _ => rfl) rfl rfl rfl rfl rfl rfl (isC_rc hB _) rfl (Cl.mono (c_C_level S2 b hB K (by first | assumption | exact MC.up (by assumption) (by omega) | exact MC.up (MC.up (by assumption) (by omega)) (by omega) | exact MC.up (MC.up (MC.up (by assumption) (by omega)) (by omega)) (by omega)) 0 x) ?_)
              rintro _ _ ⟨rfl, rfl⟩
              refine ⟨_, rfl, ?_⟩
              refine R_lo (nx := 46) rfl rfl rfl rfl ?_
              refine R_op (nx := 47) rfl rfl rfl ?_
              refine R_lo (nx := 49) rfl rfl rfl rfl ?_
              refine R_call1 (nx := 52) (as := [(2, c), (0, 0), (0, y)]) (rest := [(0, (Xl K 0 x)), (0, ((Xd K x) + (Xd K2 y))), (2, 3)]) rfl rfl (fun _ _ => rfl) rfl rfl rfl rfl rfl rfl (isC_rc hC _) rfl (Cl.mono (c_C_level S2 c hC K2 (by first | assumption | exact MC.up (by assumption) (by omega) | exact MC.up (MC.up (by assumption) (by omega)) (by omega) | exact MC.up (MC.up (MC.up (by assumption) (by omega)) (by omega)) (by omega)) 0 y) ?_)
              rintro _ _ ⟨rfl, rfl⟩
              refine ⟨_, rfl, ?_⟩
              refine R_iadd (nx := 53) (z := ((Xl K 0 x) + (Xl K2 0 y))) rfl rfl rfl ⟨by omega, by omega⟩ ?_
              refine R_lo (nx := 54) rfl rfl rfl rfl ?_
              refine R_op (nx := 55) rfl rfl rfl ?_
              refine R_lo (nx := 56) rfl rfl rfl rfl ?_
              refine R_call1 (nx := 59) (as := [(2, b), (0, 1), (0, x)]) (rest := [(0, ((Xl K 0 x) + (Xl K2 0 y))), (0, ((Xd K x) + (Xd K2 y))), (2, 3)]) rfl rfl (fun _ _ => rfl) rfl rfl rfl rfl rfl rfl (isC_rc hB _) rfl (Cl.mono (c_C_level S2 b hB K (by first | assumption | exact MC.up (by assumption) (by omega) | exact MC.up (MC.up (by assumption) (by omega)) (by omega) | exact MC.up (MC.up (MC.up (by assumption) (by omega)) (by omega)) (by omega)) 1 x) ?_)
              rintro _ _ ⟨rfl, rfl⟩
              refine ⟨_, rfl, ?_⟩
              refine R_lo (nx := 60) rfl rfl rfl rfl ?_
              refine R_op (nx := 61) rfl rfl rfl ?_
              refine R_lo (nx := 63) rfl rfl rfl rfl ?_
              refine R_call1 (nx := 66) (as := [(2, c), (0, 1), (0, y)]) (rest := [(0, (Xl K 1 x)), (0, ((Xl K 0 x) + (Xl K2 0 y))), (0, ((Xd K x) + (Xd K2 y))), (2, 3)]) rfl rfl (fun _ _ => rfl) rfl rfl rfl rfl rfl rfl (isC_rc hC _) rfl (Cl.mono (c_C_level S2 c hC K2 (by first | assumption | exact MC.up (by assumption) (by omega) | exact MC.up (MC.up (by assumption) (by omega)) (by omega) | exact MC.up (MC.up (MC.up (by assumption) (by omega)) (by omega)) (by omega)) 1 y) ?_)
              rintro _ _ ⟨rfl, rfl⟩
              refine ⟨_, rfl, ?_⟩
              refine R_iadd (nx := 67) (z := ((Xl K 1 x) + (Xl K2 1 y))) rfl rfl rfl ⟨by omega, by omega⟩ ?_
              refine R_call1 (nx := 70) (as := [(2, 3), (0, ((Xd K x) + (Xd K2 y))), (0, ((Xl K 0 x) + (Xl K2 0 y))), (0, ((Xl K 1 x) + (Xl K2 1 y)))]) (rest := []) rfl rfl (fun _ _ => rfl) rfl rfl rfl rfl rfl rfl rfl rfl (Cl.mono (c_C_add S2 3 isC_3 Kb (by first | assumption | exact MC.up (by assumption) (by omega) | exact MC.up (MC.up (by assumption) (by omega)) (by omega) | exact MC.up (MC.up (MC.up (by assumption) (by omega)) (by omega)) (by omega)) ((Xd K x) + (Xd K2 y)) ((Xl K 0 x) + (Xl K2 0 y)) ((Xl K 1 x) + (Xl K2 1 y))) ?_)
              rintro _ S67 (⟨rfl, b67, m67, f67⟩ | ⟨rfl, b67, rfl⟩)
              ·
                have m_f67 : MC S67 b K := MC.fr (by first | assumption | exact MC.up (by assumption) (by omega) | exact MC.up (MC.up (by assumption) (by omega)) (by omega) | exact MC.up (MC.up (MC.up (by assumption) (by omega)) (by omega)) (by omega)) (fun c p q => f67 c (by omega))
                have m_f67 : MC S67 c K2 := MC.fr (by first | assumption | exact MC.up (by assumption) (by omega) | exact MC.up (MC.up (by assumption) (by omega)) (by omega) | exact MC.up (MC.up (MC.up (by assumption) (by omega)) (by omega)) (by omega)) (fun c p q => f67 c (by omega))
                refine ⟨_, rfl, ?_⟩
                refine R_op (nx := 71) rfl rfl rfl ?_
                refine R_iinc (nx := 74) (z := (y + 1)) (ls' := [(2, 3), (2, b), (2, c), (0, x), (0, (y + 1))]) rfl rfl rfl rfl ⟨by omega, by omega⟩ rfl ?_
                refine R_op (nx := 77) (pc' := 17) rfl rfl rfl ?_
                refine Rn.weak (ls' := [(2, 3), (2, b), (2, c), (0, x), (0, (y + 1))]) ⟨Or.inl rfl, ⟨Or.inl rfl, ⟨Or.inl rfl, ⟨Or.inl rfl, ⟨Or.inl rfl, trivial⟩⟩⟩⟩⟩ ?_
                refine ih17 (S67) ((Xadd Kb ((Xd K x) + (Xd K2 y)) ((Xl K 0 x) + (Xl K2 0 y)) ((Xl K 1 x) + (Xl K2 1 y)))) ((y + 1)) ?_ ?_ ?_ ?_ ?_
                · omega
                · omega
                · exact m67
                · exact hJ.add hxx (by omega)
                · intro e he; rw [f67 e (by omega)]; exact hG e he
              ·
                exfalso
                have := hpr ⟨by omega, by omega⟩
                omega
        refine Rn.weak (ls' := [(2, 3), (2, b), (2, c), (0, x), (0, 0)]) ⟨Or.inl rfl, ⟨Or.inl rfl, ⟨Or.inl rfl, ⟨Or.inl rfl, ⟨Or.inl rfl, trivial⟩⟩⟩⟩⟩ ?_
        refine L17 ((Xn K2 - (0)).toNat + 1) (S1) (Ka) (0) (Nat.lt_succ_self _) ?_ ?_ ?_ ?_
        · omega
        · exact hM
        · rw [Int.add_zero]; exact hI
        · exact hF
  refine Rn.weak (ls' := [(2, 3), (2, b), (2, c), (0, 0), (9, 0)]) ⟨Or.inl rfl, ⟨Or.inl rfl, ⟨Or.inl rfl, ⟨Or.inl rfl, ⟨Or.inl rfl, trivial⟩⟩⟩⟩⟩ ?_
  refine L6 ((Xn K - (0)).toNat + 1) (S1) (Xz) (0) (Nat.lt_succ_self _) ?_ ?_ ?_ ?_
  · omega
  · exact m1
  · exact PA.z hnr2.1
  · intro e he; exact f1 e (by omega)
end
section
/-! What is left of a complex up to a level. -/
def rkx (K : CX) (w l x : Int) : Int := sm (fun i => if Xl K w i ≤ l then 1 else 0) x
theorem rkx_0 (K : CX) (w l : Int) : rkx K w l 0 = 0 := rfl
theorem rkx_y {K : CX} {w l x : Int} (h0 : 0 ≤ x) (h : Xl K w x ≤ l) : rkx K w l (x + 1) = rkx K w l x + 1 := by
  unfold rkx; rw [sm_s _ h0, if_pos h]
theorem rkx_n {K : CX} {w l x : Int} (h0 : 0 ≤ x) (h : ¬ Xl K w x ≤ l) : rkx K w l (x + 1) = rkx K w l x := by
  unfold rkx; rw [sm_s _ h0, if_neg h, Int.add_zero]
theorem rkx_b (K : CX) (w l : Int) {x : Int} (h : 0 ≤ x) : 0 ≤ rkx K w l x ∧ rkx K w l x ≤ x := by
  have := sm_b (f := fun i => if Xl K w i ≤ l then 1 else 0) (lo := 0) (hi := 1) h fun i _ _ => by split <;> decide
  unfold rkx; omega
theorem rkx_m (K : CX) (w l : Int) {x : Int} (h : 0 ≤ x) (k : Nat) : rkx K w l x ≤ rkx K w l (x + k) := by
  induction k with
  | zero => simp
  | succ k ih =>
    have e : x + ((k + 1 : Nat) : Int) = x + k + 1 := by omega
    rw [e]
    by_cases c : Xl K w (x + k) ≤ l
    · rw [rkx_y (by omega) c]; omega
    · rw [rkx_n (by omega) c]; exact ih
theorem rkx_le (K : CX) (w l : Int) {x y : Int} (h : 0 ≤ x) (hy : x ≤ y) : rkx K w l x ≤ rkx K w l y := by
  have := rkx_m K w l h (y - x).toNat
  rw [show x + (((y - x).toNat : Nat) : Int) = y by omega] at this
  exact this
theorem rkx_lt {K : CX} {w l x y : Int} (h : 0 ≤ x) (hy : x < y) (hc : Xl K w x ≤ l) : rkx K w l x < rkx K w l y := by
  have := rkx_le K w l (show 0 ≤ x + 1 by omega) (show x + 1 ≤ y by omega)
  rw [rkx_y h hc] at this
  omega
theorem rkx_i {K : CX} {w l x y : Int} (h : 0 ≤ x) (h' : 0 ≤ y) (hc : Xl K w x ≤ l) (hc' : Xl K w y ≤ l) : rkx K w l x = rkx K w l y ↔ x = y := by
  constructor
  · intro q
    by_cases a : x < y
    · have := rkx_lt h a hc; omega
    · by_cases b : y < x
      · have := rkx_lt h' b hc'; omega
      · omega
  · rintro rfl; rfl
theorem rkx_sur {K : CX} {w l : Int} : ∀ (n : Nat) (i : Int), 0 ≤ i → i < rkx K w l n → ∃ x, (0 ≤ x ∧ x < (n : Int)) ∧ Xl K w x ≤ l ∧ i = rkx K w l x
  | 0, i, h0, h => by rw [show ((0 : Nat) : Int) = 0 from rfl, rkx_0] at h; omega
  | n + 1, i, h0, h => by
    have e : ((n + 1 : Nat) : Int) = (n : Int) + 1 := by omega
    rw [e] at h
    by_cases c : Xl K w n ≤ l
    · rw [rkx_y (by omega) c] at h
      by_cases q : i = rkx K w l n
      · exact ⟨n, ⟨by omega, by omega⟩, c, q⟩
      · obtain ⟨x, a, b, d⟩ := rkx_sur (K := K) (w := w) (l := l) n i h0 (by omega)
        exact ⟨x, ⟨a.1, by omega⟩, b, d⟩
    · rw [rkx_n (by omega) c] at h
      obtain ⟨x, a, b, d⟩ := rkx_sur n i h0 h
      exact ⟨x, ⟨a.1, by omega⟩, b, d⟩
def isPart (K : CX) (w l : Int) (K1 : CX) : Prop := Nz K1 ∧ Xn K1 = rkx K w l (Xn K) ∧ (∀ x, (0 ≤ x ∧ x < Xn K) → Xl K w x ≤ l → Xd K1 (rkx K w l x) = Xd K x ∧ X0 K1 (rkx K w l x) = X0 K x ∧ X1 K1 (rkx K w l x) = X1 K x) ∧ ∀ x y, (0 ≤ x ∧ x < Xn K) → (0 ≤ y ∧ y < Xn K) → Xl K w x ≤ l → Xl K w y ≤ l → Xe K1 (rkx K w l x) (rkx K w l y) = Xe K x y
theorem isPart_sur {K : CX} {w l : Int} (hn : 0 ≤ Xn K) {i : Int} (h : 0 ≤ i ∧ i < rkx K w l (Xn K)) : ∃ x, (0 ≤ x ∧ x < Xn K) ∧ Xl K w x ≤ l ∧ i = rkx K w l x := by
  have e : (((Xn K).toNat : Nat) : Int) = Xn K := Int.toNat_of_nonneg hn
  obtain ⟨x, a, b, c⟩ := rkx_sur (K := K) (w := w) (l := l) (Xn K).toNat i h.1 (by rw [e]; exact h.2)
  exact ⟨x, by rw [e] at a; exact a, b, c⟩
theorem isPart_u {K K1 K1' : CX} {w l : Int} (hn : 0 ≤ Xn K) (h : isPart K w l K1) (h' : isPart K w l K1') : K1 = K1' := by
  obtain ⟨z, a, b, c⟩ := h
  obtain ⟨z', a', b', c'⟩ := h'
  have key : ∀ x, (Xd K1 x = Xd K1' x ∧ X0 K1 x = X0 K1' x ∧ X1 K1 x = X1 K1' x) := by
    intro x
    by_cases e : 0 ≤ x ∧ x < Xn K1
    · rw [a] at e
      obtain ⟨p, hp, hc, rfl⟩ := isPart_sur hn e
      obtain ⟨b1, b2, b3⟩ := b p hp hc
      obtain ⟨d1, d2, d3⟩ := b' p hp hc
      rw [b1, b2, b3, d1, d2, d3]
      exact ⟨rfl, rfl, rfl⟩
    · obtain ⟨b1, b2, b3⟩ := z.2.1 x e
      obtain ⟨d1, d2, d3⟩ := z'.2.1 x (by rw [a', ← a]; exact e)
      rw [b1, b2, b3, d1, d2, d3]
      exact ⟨rfl, rfl, rfl⟩
  refine CXext (by rw [a, a']) (fun x => (key x).1) (fun x => (key x).2.1) (fun x => (key x).2.2) fun x y => ?_
  by_cases e : (0 ≤ x ∧ x < Xn K1) ∧ (0 ≤ y ∧ y < Xn K1)
  · rw [a] at e
    obtain ⟨p, hp, hc, rfl⟩ := isPart_sur hn e.1
    obtain ⟨r, hr, hs, rfl⟩ := isPart_sur hn e.2
    rw [c p r hp hr hc hs, c' p r hp hr hc hs]
  · rw [z.e e, z'.e (by rw [a', ← a]; exact e)]
theorem isPart_Vx {K K1 : CX} {w l : Int} (hK : Vx K) (h : isPart K w l K1) : Vx K1 := by
  obtain ⟨z, a, b, c⟩ := h
  have hn := hK.1.1.1
  have ent : ∀ x y, Xe K1 x y ≠ 0 → Xmay K1 x y ∧ -9 ≤ Xe K1 x y ∧ Xe K1 x y ≤ 9 := by
    intro x y hne
    by_cases e : (0 ≤ x ∧ x < Xn K1) ∧ (0 ≤ y ∧ y < Xn K1)
    · have e' := e
      rw [a] at e'
      obtain ⟨p, hp, hc, rfl⟩ := isPart_sur hn e'.1
      obtain ⟨r, hr, hs, rfl⟩ := isPart_sur hn e'.2
      rw [c p r hp hr hc hs] at hne ⊢
      obtain ⟨b1, b2, b3⟩ := b p hp hc
      obtain ⟨d1, d2, d3⟩ := b r hr hs
      have M := hK.2.2 p r hne
      unfold Xmay at M ⊢
      rw [b1, b2, b3, d1, d2, d3]
      exact ⟨⟨e.1, e.2, M.2.2⟩, hK.2.1.e p r⟩
    · exact absurd (z.e e) hne
  refine ⟨z, ⟨fun x => ?_, fun x y => ?_⟩, fun x y hne => (ent x y hne).1⟩
  · by_cases e : 0 ≤ x ∧ x < Xn K1
    · rw [a] at e
      obtain ⟨p, hp, hc, rfl⟩ := isPart_sur hn e
      obtain ⟨b1, b2, b3⟩ := b p hp hc
      rw [b1, b2, b3]
      exact hK.2.1.1 p
    · obtain ⟨b1, b2, b3⟩ := z.2.1 x e
      omega
  · by_cases e : Xe K1 x y = 0
    · rw [e]; exact ⟨by decide, by decide⟩
    · exact (ent x y e).2
theorem rset {K Ka : CX} {w l x y v x1 y1 : Int} (hn : Xn Ka = rkx K w l (Xn K)) (hx : 0 ≤ x ∧ x < Xn K) (hy : 0 ≤ y ∧ y < Xn K) (hcx : Xl K w x ≤ l) (hcy : Xl K w y ≤ l) (hx1 : 0 ≤ x1 ∧ x1 < Xn K) (hy1 : 0 ≤ y1 ∧ y1 < Xn K) (hcx1 : Xl K w x1 ≤ l) (hcy1 : Xl K w y1 ≤ l) : Xe (Xset Ka (rkx K w l x) (rkx K w l y) v) (rkx K w l x1) (rkx K w l y1) = if x1 = x ∧ y1 = y then v else Xe Ka (rkx K w l x1) (rkx K w l y1) := by
  rw [Xset_e]
  exact ifc (by rw [rkx_i hx1.1 hx.1 hcx1 hcx, rkx_i hy1.1 hy.1 hcy1 hcy, hn]; exact ⟨fun q => q.2, fun q => ⟨⟨⟨(rkx_b K w l hx.1).1, rkx_lt hx.1 hx.2 hcx⟩, (rkx_b K w l hy.1).1, rkx_lt hy.1 hy.2 hcy⟩, q⟩⟩) rfl rfl
def QE (K : CX) (w l : Int) (K1 Ka : CX) (x y : Int) : Prop := ∀ x1 y1, (0 ≤ x1 ∧ x1 < Xn K) → (0 ≤ y1 ∧ y1 < Xn K) → Xl K w x1 ≤ l → Xl K w y1 ≤ l → Xe Ka (rkx K w l x1) (rkx K w l y1) = if x1 = x then (if y1 < y then Xe K x y1 else 0) else Xe K1 (rkx K w l x1) (rkx K w l y1)
theorem QE.nx {K K1 Ka : CX} {w l x y : Int} (h : QE K w l K1 Ka x y) (hn : Xn Ka = rkx K w l (Xn K)) (hx : 0 ≤ x ∧ x < Xn K) (hy : 0 ≤ y ∧ y < Xn K) (hcx : Xl K w x ≤ l) (hcy : Xl K w y ≤ l) : QE K w l K1 (Xset Ka (rkx K w l x) (rkx K w l y) (Xe K x y)) x (y + 1) := by
  intro x1 y1 h1 h2 h3 h4
  rw [rset hn hx hy hcx hcy h1 h2 h3 h4, h x1 y1 h1 h2 h3 h4]
  by_cases e : x1 = x ∧ y1 = y
  · rw [if_pos e, if_pos e.1, if_pos (by omega), e.2]
  · rw [if_neg e]
    by_cases e2 : x1 = x
    · rw [if_pos e2, if_pos e2]; exact ifc (by omega) rfl rfl
    · rw [if_neg e2, if_neg e2]
theorem QE.sk {K K1 Ka : CX} {w l x y : Int} (h : QE K w l K1 Ka x y) (hcy : ¬ Xl K w y ≤ l) : QE K w l K1 Ka x (y + 1) := by
  intro x1 y1 h1 h2 h3 h4
  rw [h x1 y1 h1 h2 h3 h4]
  refine ifc Iff.rfl (ifc ?_ rfl rfl) rfl
  have : y1 ≠ y := fun q => hcy (q ▸ h4)
  omega
theorem QE.st {K K1 : CX} {w l x : Int} (hz : ∀ y, (0 ≤ y ∧ y < Xn K) → Xl K w x ≤ l → Xl K w y ≤ l → Xe K1 (rkx K w l x) (rkx K w l y) = 0) : QE K w l K1 K1 x 0 := by
  intro x1 y1 h1 h2 h3 h4
  by_cases e : x1 = x
  · subst e
    rw [if_pos rfl, if_neg (by omega)]; exact hz y1 h2 h3 h4
  · rw [if_neg e]
def QA (K : CX) (w l : Int) (K1 : CX) (x : Int) : Prop := Xn K1 = rkx K w l x ∧ (∀ x1, (0 ≤ x1 ∧ x1 < x) → Xl K w x1 ≤ l → Xd K1 (rkx K w l x1) = Xd K x1 ∧ X0 K1 (rkx K w l x1) = X0 K x1 ∧ X1 K1 (rkx K w l x1) = X1 K x1) ∧ ∀ i j, Xe K1 i j = 0
theorem QA.add {K K1 : CX} {w l x : Int} (h : QA K w l K1 x) (hx : 0 ≤ x) (hc : Xl K w x ≤ l) : QA K w l (Xadd K1 (Xd K x) (Xl K 0 x) (Xl K 1 x)) (x + 1) := by
  obtain ⟨a, b, c⟩ := h
  refine ⟨by rw [Xadd_n, a, rkx_y hx hc], fun x1 h1 h2 => ?_, c⟩
  rw [Xadd_d, Xadd_0, Xadd_1, a]
  by_cases e : x1 = x
  · subst e; rw [if_pos rfl, if_pos rfl, if_pos rfl]; exact ⟨rfl, rfl, rfl⟩
  · have : ¬ rkx K w l x1 = rkx K w l x := fun q => e ((rkx_i h1.1 hx h2 hc).mp q)
    rw [if_neg this, if_neg this, if_neg this]
    exact b x1 (by omega) h2
theorem QA.sk {K K1 : CX} {w l x : Int} (h : QA K w l K1 x) (hx : 0 ≤ x) (hc : ¬ Xl K w x ≤ l) : QA K w l K1 (x + 1) := by
  obtain ⟨a, b, c⟩ := h
  refine ⟨by rw [a, rkx_n hx hc], fun x1 h1 h2 => ?_, c⟩
  have : x1 ≠ x := fun q => hc (q ▸ h2)
  exact b x1 (by omega) h2
theorem QA.z (K : CX) (w l : Int) : QA K w l Xz 0 := ⟨rfl, fun x h => by omega, fun _ _ => rfl⟩
def QB (K : CX) (w l : Int) (K1 : CX) (x : Int) : Prop := Xn K1 = rkx K w l (Xn K) ∧ (∀ x, (0 ≤ x ∧ x < Xn K) → Xl K w x ≤ l → Xd K1 (rkx K w l x) = Xd K x ∧ X0 K1 (rkx K w l x) = X0 K x ∧ X1 K1 (rkx K w l x) = X1 K x) ∧ ∀ x1 y1, (0 ≤ x1 ∧ x1 < Xn K) → (0 ≤ y1 ∧ y1 < Xn K) → Xl K w x1 ≤ l → Xl K w y1 ≤ l → Xe K1 (rkx K w l x1) (rkx K w l y1) = if x1 < x then Xe K x1 y1 else 0
theorem QA.b {K K1 : CX} {w l x : Int} (h : QA K w l K1 x) (hx : x = Xn K) : QB K w l K1 0 := by
  subst hx
  refine ⟨h.1, h.2.1, fun x1 y1 h1 h2 h3 h4 => ?_⟩
  rw [if_neg (by omega)]; exact h.2.2 _ _
theorem QB.z {K K1 : CX} {w l x : Int} (h : QB K w l K1 x) (hx : 0 ≤ x ∧ x < Xn K) (y : Int) (hy : 0 ≤ y ∧ y < Xn K) (hc : Xl K w x ≤ l) (hc2 : Xl K w y ≤ l) : Xe K1 (rkx K w l x) (rkx K w l y) = 0 := by
  rw [h.2.2 x y hx hy hc hc2, if_neg (by omega)]
theorem QB.sk {K K1 : CX} {w l x : Int} (h : QB K w l K1 x) (hc : ¬ Xl K w x ≤ l) : QB K w l K1 (x + 1) := by
  refine ⟨h.1, h.2.1, fun x1 y1 h1 h2 h3 h4 => ?_⟩
  rw [h.2.2 x1 y1 h1 h2 h3 h4]
  have : x1 ≠ x := fun q => hc (q ▸ h3)
  exact ifc (by omega) rfl rfl
theorem QB.st {K K1 Ka : CX} {w l x : Int} (h : QB K w l K1 x) (hs : Xsame K1 Ka) (he : QE K w l K1 Ka x (Xn K)) : QB K w l Ka (x + 1) := by
  obtain ⟨s1, s2, s3, s4⟩ := hs
  refine ⟨s1.trans h.1, fun x1 h1 h2 => by rw [s2, s3, s4]; exact h.2.1 x1 h1 h2, fun x1 y1 h1 h2 h3 h4 => ?_⟩
  rw [he x1 y1 h1 h2 h3 h4, h.2.2 x1 y1 h1 h2 h3 h4]
  by_cases e : x1 = x
  · rw [if_pos e, if_pos (by omega), if_pos (by omega), e]
  · rw [if_neg e]; exact ifc (by omega) rfl rfl
theorem QB.fin {K K1 : CX} {w l x : Int} (h : QB K w l K1 x) (hx : x = Xn K) (hz : Nz K1) : isPart K w l K1 := ⟨hz, h.1, h.2.1, fun x1 y1 h1 h2 h3 h4 => by rw [h.2.2 x1 y1 h1 h2 h3 h4, if_pos (by omega)]⟩

set_option maxRecDepth 20000 in
set_option maxHeartbeats 4000000 in
theorem c_C_setPartEdge (S : mm_S) (b : Int) (hB : mm_isC b) (K : CX) (h : MC S b K) (hb : 7 < b) (w l : Int) (K1 : CX) (h1 : MC S 3 K1) (hn1 : Xn K1 = rkx K w l (Xn K)) (x : Int) (hx : 0 ≤ x ∧ x < Xn K) (hcx : Xl K w x ≤ l) (hz : ∀ y, (0 ≤ y ∧ y < Xn K) → Xl K w x ≤ l → Xl K w y ≤ l → Xe K1 (rkx K w l x) (rkx K w l y) = 0) : Cl 141 [(2, 3), (0, (rkx K w l x)), (2, b), (0, x), (0, w), (0, l)] S (fun v S' => v = none ∧ ∃ K', MC S' 3 K' ∧ Xsame K1 K' ∧ QE K w l K1 K' x (Xn K) ∧ ∀ e, ¬ (3 ≤ e ∧ e ≤ 7) → S' e = S e) := by
  refine ⟨Nat.le_of_ble_eq_true rfl, ?_⟩
  show Rn k_C_setPartEdge 0 [(2, 3), (0, (rkx K w l x)), (2, b), (0, x), (0, w), (0, l), (9, 0), (9, 0)] [] S _
  have hnr := h.nr
  have hn := h.n
  refine R_op (nx := 1) rfl rfl rfl ?_
  refine R_lo (nx := 3) (ls' := [(2, 3), (0, (rkx K w l x)), (2, b), (0, x), (0, w), (0, l), (0, 0), (9, 0)]) rfl rfl rfl rfl ?_
  refine R_op (nx := 4) rfl rfl rfl ?_
  refine R_lo (nx := 6) (ls' := [(2, 3), (0, (rkx K w l x)), (2, b), (0, x), (0, w), (0, l), (0, 0), (0, 0)]) rfl rfl rfl rfl ?_
  have L6 : ∀ (f6 : Nat) (S1 : mm_S) (Ka : CX) (j : Int) (y : Int), (Xn K - y).toNat < f6 → (0 ≤ y ∧ y ≤ Xn K) → (MC S1 3 Ka) → (Xsame K1 Ka) → (QE K w l K1 Ka x y) → (j = rkx K w l y) → (∀ e, ¬ (3 ≤ e ∧ e ≤ 7) → S1 e = S e) → Rn k_C_setPartEdge 6 [(2, 3), (0, (rkx K w l x)), (2, b), (0, x), (0, w), (0, l), (0, j), (0, y)] [] S1 (fun v S' => v = none ∧ ∃ K', MC S' 3 K' ∧ Xsame K1 K' ∧ QE K w l K1 K' x (Xn K) ∧ ∀ e, ¬ (3 ≤ e ∧ e ≤ 7) → S' e = S e) := by
    intro f6
    induction f6 with
    | zero => intro S1 Ka j y hm6; exact absurd hm6 (Nat.not_lt_zero _)
    | succ f6 ih6 =>
      intro S1 Ka j y hm6 hy hM hs hI hj hF
      have hb1 : MC S1 b K := h.fr fun e p q => hF e (by omega)
      have hbn := hb1.n
      have hjb := rkx_b K w l hy.1
      refine R_lo (nx := 8) rfl rfl rfl rfl ?_
      refine R_lo (nx := 9) rfl rfl rfl rfl ?_
      refine R_get (nx := 12) (w := (0, (S1 b 0))) rfl rfl (isC_ob hB) rfl ?_
      refine R_icmp (nx := 15) (tg := 51) rfl rfl rfl (mm_cnd_ge _ _) (fun c12 => ?_) (fun c12 => ?_)
      ·
        refine R_ret rfl (fun _ _ => rfl) rfl rfl ?_
        have e : y = Xn K := by omega
        rw [e] at hI
        exact ⟨rfl, _, hM, hs, hI, hF⟩
      ·
        refine R_lo (nx := 16) rfl rfl rfl rfl ?_
        refine R_lo (nx := 18) rfl rfl rfl rfl ?_
        refine R_lo (nx := 20) rfl rfl rfl rfl ?_
        refine R_call1 (nx := 23) (as := [(2, b), (0, w), (0, y)]) (rest := []) rfl rfl (fun _ _ => rfl) rfl rfl rfl rfl rfl rfl (isC_rc hB _) rfl (Cl.mono (c_C_level S1 b hB K (by first | assumption | exact MC.up (by assumption) (by omega) | exact MC.up (MC.up (by assumption) (by omega)) (by omega) | exact MC.up (MC.up (MC.up (by assumption) (by omega)) (by omega)) (by omega)) w y) ?_)
        rintro _ _ ⟨rfl, rfl⟩
        refine ⟨_, rfl, ?_⟩
        refine R_lo (nx := 25) rfl rfl rfl rfl ?_
        refine R_icmp (nx := 28) (tg := 45) rfl rfl rfl (mm_cnd_gt _ _) (fun c25 => ?_) (fun c25 => ?_)
        ·
          refine R_iinc (nx := 48) (z := (y + 1)) (ls' := [(2, 3), (0, (rkx K w l x)), (2, b), (0, x), (0, w), (0, l), (0, j), (0, (y + 1))]) rfl rfl rfl rfl ⟨by omega, by omega⟩ rfl ?_
          refine R_op (nx := 51) (pc' := 6) rfl rfl rfl ?_
          refine Rn.weak (ls' := [(2, 3), (0, (rkx K w l x)), (2, b), (0, x), (0, w), (0, l), (0, j), (0, (y + 1))]) ⟨Or.inl rfl, ⟨Or.inl rfl, ⟨Or.inl rfl, ⟨Or.inl rfl, ⟨Or.inl rfl, ⟨Or.inl rfl, ⟨Or.inl rfl, ⟨Or.inl rfl, trivial⟩⟩⟩⟩⟩⟩⟩⟩ ?_
          refine ih6 (S1) (Ka) (j) ((y + 1)) ?_ ?_ ?_ ?_ ?_ ?_ ?_
          · omega
          · omega
          · assumption
          · exact hs
          · first | exact hI.sk (by omega) | (rw [hj]; exact hI.nx (hs.1.trans hn1) hx (by omega) hcx (by omega))
          · first | rw [rkx_y hy.1 (by omega), hj] | rw [rkx_n hy.1 (by omega), hj]
          · first | exact hF | (intro e he; rw [f39 e (by omega)]; exact hF e he)
        ·
          refine R_lo (nx := 29) rfl rfl rfl rfl ?_
          refine R_lo (nx := 30) rfl rfl rfl rfl ?_
          refine R_lo (nx := 32) rfl rfl rfl rfl ?_
          refine R_lo (nx := 33) rfl rfl rfl rfl ?_
          refine R_lo (nx := 34) rfl rfl rfl rfl ?_
          refine R_lo (nx := 36) rfl rfl rfl rfl ?_
          refine R_call1 (nx := 39) (as := [(2, b), (0, x), (0, y)]) (rest := [(0, j), (0, (rkx K w l x)), (2, 3)]) rfl rfl (fun _ _ => rfl) rfl rfl rfl rfl rfl rfl (isC_rc hB _) rfl (Cl.mono (c_C_edge S1 b hB K (by first | assumption | exact MC.up (by assumption) (by omega) | exact MC.up (MC.up (by assumption) (by omega)) (by omega) | exact MC.up (MC.up (MC.up (by assumption) (by omega)) (by omega)) (by omega)) x y) ?_)
          rintro _ _ ⟨rfl, rfl⟩
          refine ⟨_, rfl, ?_⟩
          refine R_call0 (nx := 42) (as := [(2, 3), (0, (rkx K w l x)), (0, j), (0, (Xe K x y))]) (rest := []) rfl rfl (fun _ _ => rfl) rfl rfl rfl rfl rfl rfl rfl rfl (Cl.mono (c_C_setEdge S1 3 isC_3 Ka (by first | assumption | exact MC.up (by assumption) (by omega) | exact MC.up (MC.up (by assumption) (by omega)) (by omega) | exact MC.up (MC.up (MC.up (by assumption) (by omega)) (by omega)) (by omega)) (rkx K w l x) j (Xe K x y)) ?_)
          rintro _ S39 ⟨rfl, m39, f39⟩
          have m_f39 : MC S39 b K := MC.fr (by first | assumption | exact MC.up (by assumption) (by omega) | exact MC.up (MC.up (by assumption) (by omega)) (by omega) | exact MC.up (MC.up (MC.up (by assumption) (by omega)) (by omega)) (by omega)) (fun c p q => f39 c (by omega))
          refine ⟨rfl, ?_⟩
          refine R_iinc (nx := 45) (z := (j + 1)) (ls' := [(2, 3), (0, (rkx K w l x)), (2, b), (0, x), (0, w), (0, l), (0, (j + 1)), (0, y)]) rfl rfl rfl rfl ⟨by omega, by omega⟩ rfl ?_
          refine R_iinc (nx := 48) (z := (y + 1)) (ls' := [(2, 3), (0, (rkx K w l x)), (2, b), (0, x), (0, w), (0, l), (0, (j + 1)), (0, (y + 1))]) rfl rfl rfl rfl ⟨by omega, by omega⟩ rfl ?_
          refine R_op (nx := 51) (pc' := 6) rfl rfl rfl ?_
          refine Rn.weak (ls' := [(2, 3), (0, (rkx K w l x)), (2, b), (0, x), (0, w), (0, l), (0, (j + 1)), (0, (y + 1))]) ⟨Or.inl rfl, ⟨Or.inl rfl, ⟨Or.inl rfl, ⟨Or.inl rfl, ⟨Or.inl rfl, ⟨Or.inl rfl, ⟨Or.inl rfl, ⟨Or.inl rfl, trivial⟩⟩⟩⟩⟩⟩⟩⟩ ?_
          refine ih6 (S39) ((Xset Ka (rkx K w l x) j (Xe K x y))) ((j + 1)) ((y + 1)) ?_ ?_ ?_ ?_ ?_ ?_ ?_
          · omega
          · omega
          · assumption
          · exact hs
          · first | exact hI.sk (by omega) | (rw [hj]; exact hI.nx (hs.1.trans hn1) hx (by omega) hcx (by omega))
          · first | rw [rkx_y hy.1 (by omega), hj] | rw [rkx_n hy.1 (by omega), hj]
          · first | exact hF | (intro e he; rw [f39 e (by omega)]; exact hF e he)
  refine Rn.weak (ls' := [(2, 3), (0, (rkx K w l x)), (2, b), (0, x), (0, w), (0, l), (0, 0), (0, 0)]) ⟨Or.inl rfl, ⟨Or.inl rfl, ⟨Or.inl rfl, ⟨Or.inl rfl, ⟨Or.inl rfl, ⟨Or.inl rfl, ⟨Or.inl rfl, ⟨Or.inl rfl, trivial⟩⟩⟩⟩⟩⟩⟩⟩ ?_
  refine L6 ((Xn K - (0)).toNat + 1) (S) (K1) (0) (0) (Nat.lt_succ_self _) ?_ ?_ ?_ ?_ ?_ ?_
  · omega
  · exact h1
  · exact ⟨rfl, fun _ => rfl, fun _ => rfl, fun _ => rfl⟩
  · exact QE.st hz
  · rfl
  · intro e he; rfl

set_option maxRecDepth 20000 in
set_option maxHeartbeats 4000000 in
theorem c_C_becomePart (S : mm_S) (b : Int) (hB : mm_isC b) (K : CX) (h : MC S b K) (hb : 7 < b) (w l : Int) : Cl 140 [(2, 3), (2, b), (0, w), (0, l)] S (fun v S' => v = none ∧ ∃ K', MC S' 3 K' ∧ isPart K w l K' ∧ ∀ e, ¬ (3 ≤ e ∧ e ≤ 7) → S' e = S e) := by
  refine ⟨Nat.le_of_ble_eq_true rfl, ?_⟩
  show Rn k_C_becomePart 0 [(2, 3), (2, b), (0, w), (0, l), (9, 0), (9, 0)] [] S _
  have hnr := h.nr
  have hn := h.n
  refine R_lo (nx := 1) rfl rfl rfl rfl ?_
  refine R_call0 (nx := 4) (as := [(2, 3)]) (rest := []) rfl rfl (fun _ _ => rfl) rfl rfl rfl rfl rfl rfl rfl rfl (Cl.mono (c_C_empty S 3 isC_3) ?_)
  rintro _ S1 ⟨rfl, m1, f1⟩
  have m_f1 : MC S1 b K := MC.fr (by first | assumption | exact MC.up (by assumption) (by omega) | exact MC.up (MC.up (by assumption) (by omega)) (by omega) | exact MC.up (MC.up (MC.up (by assumption) (by omega)) (by omega)) (by omega)) (fun c p q => f1 c (by omega))
  refine ⟨rfl, ?_⟩
  refine R_op (nx := 5) rfl rfl rfl ?_
  refine R_lo (nx := 7) (ls' := [(2, 3), (2, b), (0, w), (0, l), (0, 0), (9, 0)]) rfl rfl rfl rfl ?_
  have L7 : ∀ (f7 : Nat) (S1 : mm_S) (Ka : CX) (x : Int), (Xn K - x).toNat < f7 → (0 ≤ x ∧ x ≤ Xn K) → (MC S1 3 Ka) → (QA K w l Ka x) → (∀ e, ¬ (3 ≤ e ∧ e ≤ 7) → S1 e = S e) → Rn k_C_becomePart 7 [(2, 3), (2, b), (0, w), (0, l), (0, x), (9, 0)] [] S1 (fun v S' => v = none ∧ ∃ K', MC S' 3 K' ∧ isPart K w l K' ∧ ∀ e, ¬ (3 ≤ e ∧ e ≤ 7) → S' e = S e) := by
    intro f7
    induction f7 with
    | zero => intro S1 Ka x hm7; exact absurd hm7 (Nat.not_lt_zero _)
    | succ f7 ih7 =>
      intro S1 Ka x hm7 hx hM hI hF
      have hb1 : MC S1 b K := h.fr fun e p q => hF e (by omega)
      have hbn := hb1.n
      have hKa := hI.1
      have hrb := rkx_b K w l hx.1
      refine R_lo (nx := 9) rfl rfl rfl rfl ?_
      refine R_lo (nx := 10) rfl rfl rfl rfl ?_
      refine R_get (nx := 13) (w := (0, (S1 b 0))) rfl rfl (isC_ob hB) rfl ?_
      refine R_icmp (nx := 16) (tg := 58) rfl rfl rfl (mm_cnd_ge _ _) (fun c13 => ?_) (fun c13 => ?_)
      ·
        refine R_op (nx := 59) rfl rfl rfl ?_
        refine R_lo (nx := 61) (ls' := [(2, 3), (2, b), (0, w), (0, l), (0, 0), (9, 0)]) rfl rfl rfl rfl ?_
        refine R_op (nx := 62) rfl rfl rfl ?_
        refine R_lo (nx := 64) (ls' := [(2, 3), (2, b), (0, w), (0, l), (0, 0), (0, 0)]) rfl rfl rfl rfl ?_
        have L64 : ∀ (f64 : Nat) (S1 : mm_S) (Ka : CX) (i : Int) (x : Int), (Xn K - x).toNat < f64 → (0 ≤ x ∧ x ≤ Xn K) → (MC S1 3 Ka) → (QB K w l Ka x) → (i = rkx K w l x) → (∀ e, ¬ (3 ≤ e ∧ e ≤ 7) → S1 e = S e) → Rn k_C_becomePart 64 [(2, 3), (2, b), (0, w), (0, l), (0, i), (0, x)] [] S1 (fun v S' => v = none ∧ ∃ K', MC S' 3 K' ∧ isPart K w l K' ∧ ∀ e, ¬ (3 ≤ e ∧ e ≤ 7) → S' e = S e) := by
          intro f64
          induction f64 with
          | zero => intro S1 Ka i x hm64; exact absurd hm64 (Nat.not_lt_zero _)
          | succ f64 ih64 =>
            intro S1 Ka i x hm64 hx hM hI hi hF
            have hb1 : MC S1 b K := h.fr fun e p q => hF e (by omega)
            have hbn := hb1.n
            have hrb := rkx_b K w l hx.1
            refine R_lo (nx := 66) rfl rfl rfl rfl ?_
            refine R_lo (nx := 67) rfl rfl rfl rfl ?_
            refine R_get (nx := 70) (w := (0, (S1 b 0))) rfl rfl (isC_ob hB) rfl ?_
            refine R_icmp (nx := 73) (tg := 104) rfl rfl rfl (mm_cnd_ge _ _) (fun c70 => ?_) (fun c70 => ?_)
            ·
              refine R_ret rfl (fun _ _ => rfl) rfl rfl ?_
              exact ⟨rfl, _, hM, hI.fin (by omega) hM.1, hF⟩
            ·
              refine R_lo (nx := 74) rfl rfl rfl rfl ?_
              refine R_lo (nx := 75) rfl rfl rfl rfl ?_
              refine R_lo (nx := 77) rfl rfl rfl rfl ?_
              refine R_call1 (nx := 80) (as := [(2, b), (0, w), (0, x)]) (rest := []) rfl rfl (fun _ _ => rfl) rfl rfl rfl rfl rfl rfl (isC_rc hB _) rfl (Cl.mono (c_C_level S1 b hB K (by first | assumption | exact MC.up (by assumption) (by omega) | exact MC.up (MC.up (by assumption) (by omega)) (by omega) | exact MC.up (MC.up (MC.up (by assumption) (by omega)) (by omega)) (by omega)) w x) ?_)
              rintro _ _ ⟨rfl, rfl⟩
              refine ⟨_, rfl, ?_⟩
              refine R_lo (nx := 81) rfl rfl rfl rfl ?_
              refine R_icmp (nx := 84) (tg := 98) rfl rfl rfl (mm_cnd_gt _ _) (fun c81 => ?_) (fun c81 => ?_)
              ·
                refine R_iinc (nx := 101) (z := (x + 1)) (ls' := [(2, 3), (2, b), (0, w), (0, l), (0, i), (0, (x + 1))]) rfl rfl rfl rfl ⟨by omega, by omega⟩ rfl ?_
                refine R_op (nx := 104) (pc' := 64) rfl rfl rfl ?_
                refine Rn.weak (ls' := [(2, 3), (2, b), (0, w), (0, l), (0, i), (0, (x + 1))]) ⟨Or.inl rfl, ⟨Or.inl rfl, ⟨Or.inl rfl, ⟨Or.inl rfl, ⟨Or.inl rfl, ⟨Or.inl rfl, trivial⟩⟩⟩⟩⟩⟩ ?_
                refine ih64 (S1) (Ka) (i) ((x + 1)) ?_ ?_ ?_ ?_ ?_ ?_
                · omega
                · omega
                · first | exact hM | exact m92
                · first | exact hI.sk (by omega) | exact hI.st q92 z92
                · first | (rw [rkx_y hx.1 (by omega)]; done) | (rw [rkx_n hx.1 (by omega), hi]; done)
                · first | exact hF | (intro e he; rw [f92 e (by omega)]; exact hF e he)
              ·
                subst hi
                refine R_lo (nx := 85) rfl rfl rfl rfl ?_
                refine R_lo (nx := 87) rfl rfl rfl rfl ?_
                refine R_lo (nx := 88) rfl rfl rfl rfl ?_
                refine R_lo (nx := 90) rfl rfl rfl rfl ?_
                refine R_lo (nx := 91) rfl rfl rfl rfl ?_
                refine R_lo (nx := 92) rfl rfl rfl rfl ?_
                refine R_call0 (nx := 95) (as := [(2, 3), (0, (rkx K w l x)), (2, b), (0, x), (0, w), (0, l)]) (rest := []) rfl rfl (fun _ _ => rfl) rfl rfl rfl rfl rfl rfl rfl rfl (Cl.mono (c_C_setPartEdge S1 b hB K (by first | assumption | exact MC.up (by assumption) (by omega) | exact MC.up (MC.up (by assumption) (by omega)) (by omega) | exact MC.up (MC.up (MC.up (by assumption) (by omega)) (by omega)) (by omega)) (by omega) w l Ka (by first | assumption | exact MC.up (by assumption) (by omega) | exact MC.up (MC.up (by assumption) (by omega)) (by omega) | exact MC.up (MC.up (MC.up (by assumption) (by omega)) (by omega)) (by omega)) hI.1 x (by omega) (by omega) (hI.z (by omega))) ?_)
                rintro _ S92 ⟨rfl, K92, m92, q92, z92, f92⟩
                have m_f92 : MC S92 b K := MC.fr (by first | assumption | exact MC.up (by assumption) (by omega) | exact MC.up (MC.up (by assumption) (by omega)) (by omega) | exact MC.up (MC.up (MC.up (by assumption) (by omega)) (by omega)) (by omega)) (fun c p q => f92 c (by omega))
                refine ⟨rfl, ?_⟩
                refine R_iinc (nx := 98) (z := ((rkx K w l x) + 1)) (ls' := [(2, 3), (2, b), (0, w), (0, l), (0, ((rkx K w l x) + 1)), (0, x)]) rfl rfl rfl rfl ⟨by omega, by omega⟩ rfl ?_
                refine R_iinc (nx := 101) (z := (x + 1)) (ls' := [(2, 3), (2, b), (0, w), (0, l), (0, ((rkx K w l x) + 1)), (0, (x + 1))]) rfl rfl rfl rfl ⟨by omega, by omega⟩ rfl ?_
                refine R_op (nx := 104) (pc' := 64) rfl rfl rfl ?_
                refine Rn.weak (ls' := [(2, 3), (2, b), (0, w), (0, l), (0, ((rkx K w l x) + 1)), (0, (x + 1))]) ⟨Or.inl rfl, ⟨Or.inl rfl, ⟨Or.inl rfl, ⟨Or.inl rfl, ⟨Or.inl rfl, ⟨Or.inl rfl, trivial⟩⟩⟩⟩⟩⟩ ?_
                refine ih64 (S92) (K92) (((rkx K w l x) + 1)) ((x + 1)) ?_ ?_ ?_ ?_ ?_ ?_
                · omega
                · omega
                · first | exact hM | exact m92
                · first | exact hI.sk (by omega) | exact hI.st q92 z92
                · first | (rw [rkx_y hx.1 (by omega)]; done) | (rw [rkx_n hx.1 (by omega), hi]; done)
                · first | exact hF | (intro e he; rw [f92 e (by omega)]; exact hF e he)
        refine Rn.weak (ls' := [(2, 3), (2, b), (0, w), (0, l), (0, 0), (0, 0)]) ⟨Or.inl rfl, ⟨Or.inl rfl, ⟨Or.inl rfl, ⟨Or.inl rfl, ⟨Or.inl rfl, ⟨Or.inl rfl, trivial⟩⟩⟩⟩⟩⟩ ?_
        refine L64 ((Xn K - (0)).toNat + 1) (S1) (Ka) (0) (0) (Nat.lt_succ_self _) ?_ ?_ ?_ ?_ ?_
        · omega
        · exact hM
        · exact hI.b (by omega)
        · rfl
        · exact hF
      ·
        refine R_lo (nx := 17) rfl rfl rfl rfl ?_
        refine R_lo (nx := 18) rfl rfl rfl rfl ?_
        refine R_lo (nx := 20) rfl rfl rfl rfl ?_
        refine R_call1 (nx := 23) (as := [(2, b), (0, w), (0, x)]) (rest := []) rfl rfl (fun _ _ => rfl) rfl rfl rfl rfl rfl rfl (isC_rc hB _) rfl (Cl.mono (c_C_level S1 b hB K (by first | assumption | exact MC.up (by assumption) (by omega) | exact MC.up (MC.up (by assumption) (by omega)) (by omega) | exact MC.up (MC.up (MC.up (by assumption) (by omega)) (by omega)) (by omega)) w x) ?_)
        rintro _ _ ⟨rfl, rfl⟩
        refine ⟨_, rfl, ?_⟩
        refine R_lo (nx := 24) rfl rfl rfl rfl ?_
        refine R_icmp (nx := 27) (tg := 52) rfl rfl rfl (mm_cnd_gt _ _) (fun c24 => ?_) (fun c24 => ?_)
        ·
          refine R_iinc (nx := 55) (z := (x + 1)) (ls' := [(2, 3), (2, b), (0, w), (0, l), (0, (x + 1)), (9, 0)]) rfl rfl rfl rfl ⟨by omega, by omega⟩ rfl ?_
          refine R_op (nx := 58) (pc' := 7) rfl rfl rfl ?_
          refine Rn.weak (ls' := [(2, 3), (2, b), (0, w), (0, l), (0, (x + 1)), (9, 0)]) ⟨Or.inl rfl, ⟨Or.inl rfl, ⟨Or.inl rfl, ⟨Or.inl rfl, ⟨Or.inl rfl, ⟨Or.inl rfl, trivial⟩⟩⟩⟩⟩⟩ ?_
          refine ih7 (S1) (Ka) ((x + 1)) ?_ ?_ ?_ ?_ ?_
          · omega
          · omega
          · first | exact hM | exact m48
          · first | exact hI.sk hx.1 (by omega) | exact hI.add hx.1 (by omega)
          · first | exact hF | (intro e he; rw [f48 e (by omega)]; exact hF e he)
        ·
          refine R_lo (nx := 28) rfl rfl rfl rfl ?_
          refine R_lo (nx := 29) rfl rfl rfl rfl ?_
          refine R_lo (nx := 31) rfl rfl rfl rfl ?_
          refine R_call1 (nx := 34) (as := [(2, b), (0, x)]) (rest := [(2, 3)]) rfl rfl (fun _ _ => rfl) rfl rfl rfl rfl rfl rfl (isC_rc hB _) rfl (Cl.mono (c_C_degree S1 b hB K (by first | assumption | exact MC.up (by assumption) (by omega) | exact MC.up (MC.up (by assumption) (by omega)) (by omega) | exact MC.up (MC.up (MC.up (by assumption) (by omega)) (by omega)) (by omega)) x) ?_)
          rintro _ _ ⟨rfl, rfl⟩
          refine ⟨_, rfl, ?_⟩
          refine R_lo (nx := 35) rfl rfl rfl rfl ?_
          refine R_op (nx := 36) rfl rfl rfl ?_
          refine R_lo (nx := 38) rfl rfl rfl rfl ?_
          refine R_call1 (nx := 41) (as := [(2, b), (0, 0), (0, x)]) (rest := [(0, (Xd K x)), (2, 3)]) rfl rfl (fun _ _ => rfl) rfl rfl rfl rfl rfl rfl (isC_rc hB _) rfl (Cl.mono (c_C_level S1 b hB K (by first | assumption | exact MC.up (by assumption) (by omega) | exact MC.up (MC.up (by assumption) (by omega)) (by omega) | exact MC.up (MC.up (MC.up (by assumption) (by omega)) (by omega)) (by omega)) 0 x) ?_)
          rintro _ _ ⟨rfl, rfl⟩
          refine ⟨_, rfl, ?_⟩
          refine R_lo (nx := 42) rfl rfl rfl rfl ?_
          refine R_op (nx := 43) rfl rfl rfl ?_
          refine R_lo (nx := 45) rfl rfl rfl rfl ?_
          refine R_call1 (nx := 48) (as := [(2, b), (0, 1), (0, x)]) (rest := [(0, (Xl K 0 x)), (0, (Xd K x)), (2, 3)]) rfl rfl (fun _ _ => rfl) rfl rfl rfl rfl rfl rfl (isC_rc hB _) rfl (Cl.mono (c_C_level S1 b hB K (by first | assumption | exact MC.up (by assumption) (by omega) | exact MC.up (MC.up (by assumption) (by omega)) (by omega) | exact MC.up (MC.up (MC.up (by assumption) (by omega)) (by omega)) (by omega)) 1 x) ?_)
          rintro _ _ ⟨rfl, rfl⟩
          refine ⟨_, rfl, ?_⟩
          refine R_call1 (nx := 51) (as := [(2, 3), (0, (Xd K x)), (0, (Xl K 0 x)), (0, (Xl K 1 x))]) (rest := []) rfl rfl (fun _ _ => rfl) rfl rfl rfl rfl rfl rfl rfl rfl (Cl.mono (c_C_add S1 3 isC_3 Ka (by first | assumption | exact MC.up (by assumption) (by omega) | exact MC.up (MC.up (by assumption) (by omega)) (by omega) | exact MC.up (MC.up (MC.up (by assumption) (by omega)) (by omega)) (by omega)) (Xd K x) (Xl K 0 x) (Xl K 1 x)) ?_)
          rintro _ S48 (⟨rfl, b48, m48, f48⟩ | ⟨rfl, b48, rfl⟩)
          ·
            have m_f48 : MC S48 b K := MC.fr (by first | assumption | exact MC.up (by assumption) (by omega) | exact MC.up (MC.up (by assumption) (by omega)) (by omega) | exact MC.up (MC.up (MC.up (by assumption) (by omega)) (by omega)) (by omega)) (fun c p q => f48 c (by omega))
            refine ⟨_, rfl, ?_⟩
            refine R_op (nx := 52) rfl rfl rfl ?_
            refine R_iinc (nx := 55) (z := (x + 1)) (ls' := [(2, 3), (2, b), (0, w), (0, l), (0, (x + 1)), (9, 0)]) rfl rfl rfl rfl ⟨by omega, by omega⟩ rfl ?_
            refine R_op (nx := 58) (pc' := 7) rfl rfl rfl ?_
            refine Rn.weak (ls' := [(2, 3), (2, b), (0, w), (0, l), (0, (x + 1)), (9, 0)]) ⟨Or.inl rfl, ⟨Or.inl rfl, ⟨Or.inl rfl, ⟨Or.inl rfl, ⟨Or.inl rfl, ⟨Or.inl rfl, trivial⟩⟩⟩⟩⟩⟩ ?_
            refine ih7 (S48) ((Xadd Ka (Xd K x) (Xl K 0 x) (Xl K 1 x))) ((x + 1)) ?_ ?_ ?_ ?_ ?_
            · omega
            · omega
            · first | exact hM | exact m48
            · first | exact hI.sk hx.1 (by omega) | exact hI.add hx.1 (by omega)
            · first | exact hF | (intro e he; rw [f48 e (by omega)]; exact hF e he)
          ·
            exfalso
            omega
  refine Rn.weak (ls' := [(2, 3), (2, b), (0, w), (0, l), (0, 0), (9, 0)]) ⟨Or.inl rfl, ⟨Or.inl rfl, ⟨Or.inl rfl, ⟨Or.inl rfl, ⟨Or.inl rfl, ⟨Or.inl rfl, trivial⟩⟩⟩⟩⟩⟩ ?_
  refine L7 ((Xn K - (0)).toNat + 1) (S1) (Xz) (0) (Nat.lt_succ_self _) ?_ ?_ ?_ ?_
  · omega
  · exact m1
  · exact QA.z K w l
  · intro e he; exact f1 e (by omega)
end

section
-- ===== PART A: goes FIRST, ahead of the names: the tables' words, and 'selects' of the private methods out of them =====
/-- a private method of a class that the tables say can be made, by its rows of tables_1 -/
def lw_okq (q : MethodName × Nat) : Prop := (q.1.cls ≠ "java/lang/invoke/MethodHandle" ∧ q.1.cls ≠ "java/lang/invoke/VarHandle") ∧ Cond.instantiable q.1.cls q.2 ∈ tables_1 ∧ Cond.privateMethod q.1 ∈ tables_1 ∧ Cond.instanceMethod q.1 ∈ tables_1
theorem lw_p0 : lw_okq (⟨"CornerLabels", "putLabelsAsFound", "()V"⟩, 4) := ⟨⟨by decide +kernel, by decide +kernel⟩, List.mem_of_getElem? (i := 18) (by decide +kernel), List.mem_of_getElem? (i := 241) (by decide +kernel), List.mem_of_getElem? (i := 242) (by decide +kernel)⟩
theorem lw_p1 : lw_okq (⟨"CornerLabels", "findDearest", "()I"⟩, 4) := ⟨⟨by decide +kernel, by decide +kernel⟩, List.mem_of_getElem? (i := 18) (by decide +kernel), List.mem_of_getElem? (i := 312) (by decide +kernel), List.mem_of_getElem? (i := 313) (by decide +kernel)⟩
theorem lw_p2 : lw_okq (⟨"CornerLabels", "number", "(I)I"⟩, 4) := ⟨⟨by decide +kernel, by decide +kernel⟩, List.mem_of_getElem? (i := 18) (by decide +kernel), List.mem_of_getElem? (i := 333) (by decide +kernel), List.mem_of_getElem? (i := 334) (by decide +kernel)⟩
theorem lw_p3 : lw_okq (⟨"CornerLabels", "mixPoints", "(J)J"⟩, 4) := ⟨⟨by decide +kernel, by decide +kernel⟩, List.mem_of_getElem? (i := 18) (by decide +kernel), List.mem_of_getElem? (i := 374) (by decide +kernel), List.mem_of_getElem? (i := 375) (by decide +kernel)⟩
theorem lw_p4 : lw_okq (⟨"CornerLabels", "property", "(II)I"⟩, 4) := ⟨⟨by decide +kernel, by decide +kernel⟩, List.mem_of_getElem? (i := 18) (by decide +kernel), List.mem_of_getElem? (i := 378) (by decide +kernel), List.mem_of_getElem? (i := 379) (by decide +kernel)⟩
theorem lw_p5 : lw_okq (⟨"CornerLabels", "mixPairs", "(J)J"⟩, 4) := ⟨⟨by decide +kernel, by decide +kernel⟩, List.mem_of_getElem? (i := 18) (by decide +kernel), List.mem_of_getElem? (i := 398) (by decide +kernel), List.mem_of_getElem? (i := 399) (by decide +kernel)⟩
theorem lw_p6 : lw_okq (⟨"CornerLabels", "mixBuffer", "(J)J"⟩, 4) := ⟨⟨by decide +kernel, by decide +kernel⟩, List.mem_of_getElem? (i := 18) (by decide +kernel), List.mem_of_getElem? (i := 410) (by decide +kernel), List.mem_of_getElem? (i := 411) (by decide +kernel)⟩
theorem lw_p7 : lw_okq (⟨"java/lang/Throwable", "fillInStackTrace", "(I)Ljava/lang/Throwable;"⟩, 6) := ⟨⟨by decide +kernel, by decide +kernel⟩, List.mem_of_getElem? (i := 474) (by decide +kernel), List.mem_of_getElem? (i := 472) (by decide +kernel), List.mem_of_getElem? (i := 473) (by decide +kernel)⟩
theorem lw_p8 : lw_okq (⟨"CornerLabels", "putLabel", "(II)I"⟩, 4) := ⟨⟨by decide +kernel, by decide +kernel⟩, List.mem_of_getElem? (i := 18) (by decide +kernel), List.mem_of_getElem? (i := 612) (by decide +kernel), List.mem_of_getElem? (i := 613) (by decide +kernel)⟩
theorem lw_p9 : lw_okq (⟨"CornerLabels", "insertTold", "()I"⟩, 4) := ⟨⟨by decide +kernel, by decide +kernel⟩, List.mem_of_getElem? (i := 18) (by decide +kernel), List.mem_of_getElem? (i := 656) (by decide +kernel), List.mem_of_getElem? (i := 657) (by decide +kernel)⟩
theorem lw_p10 : lw_okq (⟨"CornerLabelsModel", "refusesAdd", "(IIIII)I"⟩, 16) := ⟨⟨by decide +kernel, by decide +kernel⟩, List.mem_of_getElem? (i := 734) (by decide +kernel), List.mem_of_getElem? (i := 797) (by decide +kernel), List.mem_of_getElem? (i := 798) (by decide +kernel)⟩
theorem lw_p11 : lw_okq (⟨"CornerLabelsModel", "pointAt", "(II)I"⟩, 16) := ⟨⟨by decide +kernel, by decide +kernel⟩, List.mem_of_getElem? (i := 734) (by decide +kernel), List.mem_of_getElem? (i := 804) (by decide +kernel), List.mem_of_getElem? (i := 805) (by decide +kernel)⟩
theorem lw_p12 : lw_okq (⟨"CornerLabelsModel", "of", "(II)I"⟩, 16) := ⟨⟨by decide +kernel, by decide +kernel⟩, List.mem_of_getElem? (i := 734) (by decide +kernel), List.mem_of_getElem? (i := 808) (by decide +kernel), List.mem_of_getElem? (i := 809) (by decide +kernel)⟩
theorem lw_p13 : lw_okq (⟨"CornerLabelsModel", "saves", "()V"⟩, 16) := ⟨⟨by decide +kernel, by decide +kernel⟩, List.mem_of_getElem? (i := 734) (by decide +kernel), List.mem_of_getElem? (i := 812) (by decide +kernel), List.mem_of_getElem? (i := 813) (by decide +kernel)⟩
theorem lw_p14 : lw_okq (⟨"CornerLabelsModel", "comes", "(IIIII)V"⟩, 16) := ⟨⟨by decide +kernel, by decide +kernel⟩, List.mem_of_getElem? (i := 734) (by decide +kernel), List.mem_of_getElem? (i := 816) (by decide +kernel), List.mem_of_getElem? (i := 817) (by decide +kernel)⟩
theorem lw_p15 : lw_okq (⟨"CornerLabelsModel", "cornerOf", "(I)I"⟩, 16) := ⟨⟨by decide +kernel, by decide +kernel⟩, List.mem_of_getElem? (i := 734) (by decide +kernel), List.mem_of_getElem? (i := 820) (by decide +kernel), List.mem_of_getElem? (i := 821) (by decide +kernel)⟩
def lw_privs_1 : List (MethodName × Nat) := [(⟨"CornerLabels", "putLabelsAsFound", "()V"⟩, 4), (⟨"CornerLabels", "findDearest", "()I"⟩, 4), (⟨"CornerLabels", "number", "(I)I"⟩, 4), (⟨"CornerLabels", "mixPoints", "(J)J"⟩, 4), (⟨"CornerLabels", "property", "(II)I"⟩, 4), (⟨"CornerLabels", "mixPairs", "(J)J"⟩, 4), (⟨"CornerLabels", "mixBuffer", "(J)J"⟩, 4), (⟨"java/lang/Throwable", "fillInStackTrace", "(I)Ljava/lang/Throwable;"⟩, 6), (⟨"CornerLabels", "putLabel", "(II)I"⟩, 4), (⟨"CornerLabels", "insertTold", "()I"⟩, 4), (⟨"CornerLabelsModel", "refusesAdd", "(IIIII)I"⟩, 16), (⟨"CornerLabelsModel", "pointAt", "(II)I"⟩, 16), (⟨"CornerLabelsModel", "of", "(II)I"⟩, 16), (⟨"CornerLabelsModel", "saves", "()V"⟩, 16), (⟨"CornerLabelsModel", "comes", "(IIIII)V"⟩, 16), (⟨"CornerLabelsModel", "cornerOf", "(I)I"⟩, 16)]
theorem lw_r1 : ∀ q ∈ lw_privs_1, lw_okq q := List.forall_mem_cons.mpr ⟨lw_p0, List.forall_mem_cons.mpr ⟨lw_p1, List.forall_mem_cons.mpr ⟨lw_p2, List.forall_mem_cons.mpr ⟨lw_p3, List.forall_mem_cons.mpr ⟨lw_p4, List.forall_mem_cons.mpr ⟨lw_p5, List.forall_mem_cons.mpr ⟨lw_p6, List.forall_mem_cons.mpr ⟨lw_p7, List.forall_mem_cons.mpr ⟨lw_p8, List.forall_mem_cons.mpr ⟨lw_p9, List.forall_mem_cons.mpr ⟨lw_p10, List.forall_mem_cons.mpr ⟨lw_p11, List.forall_mem_cons.mpr ⟨lw_p12, List.forall_mem_cons.mpr ⟨lw_p13, List.forall_mem_cons.mpr ⟨lw_p14, List.forall_mem_cons.mpr ⟨lw_p15, fun _ h => absurd h List.not_mem_nil⟩⟩⟩⟩⟩⟩⟩⟩⟩⟩⟩⟩⟩⟩⟩⟩
theorem lw_p16 : lw_okq (⟨"CornerLabelsModel", "has", "(IIII)Z"⟩, 16) := ⟨⟨by decide +kernel, by decide +kernel⟩, List.mem_of_getElem? (i := 734) (by decide +kernel), List.mem_of_getElem? (i := 824) (by decide +kernel), List.mem_of_getElem? (i := 825) (by decide +kernel)⟩
theorem lw_p17 : lw_okq (⟨"CornerLabelsModel", "left", "(II)I"⟩, 16) := ⟨⟨by decide +kernel, by decide +kernel⟩, List.mem_of_getElem? (i := 734) (by decide +kernel), List.mem_of_getElem? (i := 828) (by decide +kernel), List.mem_of_getElem? (i := 829) (by decide +kernel)⟩
theorem lw_p18 : lw_okq (⟨"CornerLabelsModel", "right", "(II)I"⟩, 16) := ⟨⟨by decide +kernel, by decide +kernel⟩, List.mem_of_getElem? (i := 734) (by decide +kernel), List.mem_of_getElem? (i := 832) (by decide +kernel), List.mem_of_getElem? (i := 833) (by decide +kernel)⟩
theorem lw_p19 : lw_okq (⟨"CornerLabelsModel", "low", "(II)I"⟩, 16) := ⟨⟨by decide +kernel, by decide +kernel⟩, List.mem_of_getElem? (i := 734) (by decide +kernel), List.mem_of_getElem? (i := 836) (by decide +kernel), List.mem_of_getElem? (i := 837) (by decide +kernel)⟩
theorem lw_p20 : lw_okq (⟨"CornerLabelsModel", "high", "(II)I"⟩, 16) := ⟨⟨by decide +kernel, by decide +kernel⟩, List.mem_of_getElem? (i := 734) (by decide +kernel), List.mem_of_getElem? (i := 840) (by decide +kernel), List.mem_of_getElem? (i := 841) (by decide +kernel)⟩
theorem lw_p21 : lw_okq (⟨"CornerLabelsModel", "stands", "(II)V"⟩, 16) := ⟨⟨by decide +kernel, by decide +kernel⟩, List.mem_of_getElem? (i := 734) (by decide +kernel), List.mem_of_getElem? (i := 844) (by decide +kernel), List.mem_of_getElem? (i := 845) (by decide +kernel)⟩
theorem lw_p22 : lw_okq (⟨"CornerLabelsModel", "isPoint", "(I)Z"⟩, 16) := ⟨⟨by decide +kernel, by decide +kernel⟩, List.mem_of_getElem? (i := 734) (by decide +kernel), List.mem_of_getElem? (i := 852) (by decide +kernel), List.mem_of_getElem? (i := 853) (by decide +kernel)⟩
theorem lw_p23 : lw_okq (⟨"CornerLabelsModel", "fails", "(I)I"⟩, 16) := ⟨⟨by decide +kernel, by decide +kernel⟩, List.mem_of_getElem? (i := 734) (by decide +kernel), List.mem_of_getElem? (i := 856) (by decide +kernel), List.mem_of_getElem? (i := 857) (by decide +kernel)⟩
theorem lw_p24 : lw_okq (⟨"CornerLabelsModel", "openMany", "(I)I"⟩, 16) := ⟨⟨by decide +kernel, by decide +kernel⟩, List.mem_of_getElem? (i := 734) (by decide +kernel), List.mem_of_getElem? (i := 860) (by decide +kernel), List.mem_of_getElem? (i := 861) (by decide +kernel)⟩
theorem lw_p25 : lw_okq (⟨"CornerLabelsModel", "openOf", "(I)I"⟩, 16) := ⟨⟨by decide +kernel, by decide +kernel⟩, List.mem_of_getElem? (i := 734) (by decide +kernel), List.mem_of_getElem? (i := 864) (by decide +kernel), List.mem_of_getElem? (i := 865) (by decide +kernel)⟩
theorem lw_p26 : lw_okq (⟨"CornerLabelsModel", "isOpen", "(II)Z"⟩, 16) := ⟨⟨by decide +kernel, by decide +kernel⟩, List.mem_of_getElem? (i := 734) (by decide +kernel), List.mem_of_getElem? (i := 868) (by decide +kernel), List.mem_of_getElem? (i := 869) (by decide +kernel)⟩
theorem lw_p27 : lw_okq (⟨"CornerLabelsModel", "canStand", "(II)Z"⟩, 16) := ⟨⟨by decide +kernel, by decide +kernel⟩, List.mem_of_getElem? (i := 734) (by decide +kernel), List.mem_of_getElem? (i := 887) (by decide +kernel), List.mem_of_getElem? (i := 888) (by decide +kernel)⟩
theorem lw_p28 : lw_okq (⟨"CornerLabelsModel", "common", "(IIII)I"⟩, 16) := ⟨⟨by decide +kernel, by decide +kernel⟩, List.mem_of_getElem? (i := 734) (by decide +kernel), List.mem_of_getElem? (i := 891) (by decide +kernel), List.mem_of_getElem? (i := 892) (by decide +kernel)⟩
theorem lw_p29 : lw_okq (⟨"CornerLabelsModel", "heaviest", "(I)I"⟩, 16) := ⟨⟨by decide +kernel, by decide +kernel⟩, List.mem_of_getElem? (i := 734) (by decide +kernel), List.mem_of_getElem? (i := 909) (by decide +kernel), List.mem_of_getElem? (i := 910) (by decide +kernel)⟩
theorem lw_p30 : lw_okq (⟨"CornerLabelsModel", "searches", "(I)I"⟩, 16) := ⟨⟨by decide +kernel, by decide +kernel⟩, List.mem_of_getElem? (i := 734) (by decide +kernel), List.mem_of_getElem? (i := 913) (by decide +kernel), List.mem_of_getElem? (i := 914) (by decide +kernel)⟩
theorem lw_p31 : lw_okq (⟨"CornerLabelsModel", "looksAt", "()V"⟩, 16) := ⟨⟨by decide +kernel, by decide +kernel⟩, List.mem_of_getElem? (i := 734) (by decide +kernel), List.mem_of_getElem? (i := 917) (by decide +kernel), List.mem_of_getElem? (i := 918) (by decide +kernel)⟩
def lw_privs_2 : List (MethodName × Nat) := [(⟨"CornerLabelsModel", "has", "(IIII)Z"⟩, 16), (⟨"CornerLabelsModel", "left", "(II)I"⟩, 16), (⟨"CornerLabelsModel", "right", "(II)I"⟩, 16), (⟨"CornerLabelsModel", "low", "(II)I"⟩, 16), (⟨"CornerLabelsModel", "high", "(II)I"⟩, 16), (⟨"CornerLabelsModel", "stands", "(II)V"⟩, 16), (⟨"CornerLabelsModel", "isPoint", "(I)Z"⟩, 16), (⟨"CornerLabelsModel", "fails", "(I)I"⟩, 16), (⟨"CornerLabelsModel", "openMany", "(I)I"⟩, 16), (⟨"CornerLabelsModel", "openOf", "(I)I"⟩, 16), (⟨"CornerLabelsModel", "isOpen", "(II)Z"⟩, 16), (⟨"CornerLabelsModel", "canStand", "(II)Z"⟩, 16), (⟨"CornerLabelsModel", "common", "(IIII)I"⟩, 16), (⟨"CornerLabelsModel", "heaviest", "(I)I"⟩, 16), (⟨"CornerLabelsModel", "searches", "(I)I"⟩, 16), (⟨"CornerLabelsModel", "looksAt", "()V"⟩, 16)]
theorem lw_r2 : ∀ q ∈ lw_privs_2, lw_okq q := List.forall_mem_cons.mpr ⟨lw_p16, List.forall_mem_cons.mpr ⟨lw_p17, List.forall_mem_cons.mpr ⟨lw_p18, List.forall_mem_cons.mpr ⟨lw_p19, List.forall_mem_cons.mpr ⟨lw_p20, List.forall_mem_cons.mpr ⟨lw_p21, List.forall_mem_cons.mpr ⟨lw_p22, List.forall_mem_cons.mpr ⟨lw_p23, List.forall_mem_cons.mpr ⟨lw_p24, List.forall_mem_cons.mpr ⟨lw_p25, List.forall_mem_cons.mpr ⟨lw_p26, List.forall_mem_cons.mpr ⟨lw_p27, List.forall_mem_cons.mpr ⟨lw_p28, List.forall_mem_cons.mpr ⟨lw_p29, List.forall_mem_cons.mpr ⟨lw_p30, List.forall_mem_cons.mpr ⟨lw_p31, fun _ h => absurd h List.not_mem_nil⟩⟩⟩⟩⟩⟩⟩⟩⟩⟩⟩⟩⟩⟩⟩⟩
theorem lw_p32 : lw_okq (⟨"CornerLabelsModel", "canBe", "(I)Z"⟩, 16) := ⟨⟨by decide +kernel, by decide +kernel⟩, List.mem_of_getElem? (i := 734) (by decide +kernel), List.mem_of_getElem? (i := 921) (by decide +kernel), List.mem_of_getElem? (i := 922) (by decide +kernel)⟩
theorem lw_p33 : lw_okq (⟨"CornerLabelsModel", "worth", "(I)I"⟩, 16) := ⟨⟨by decide +kernel, by decide +kernel⟩, List.mem_of_getElem? (i := 734) (by decide +kernel), List.mem_of_getElem? (i := 925) (by decide +kernel), List.mem_of_getElem? (i := 926) (by decide +kernel)⟩
theorem lw_p34 : lw_okq (⟨"CornerLabelsModel", "weightFrom", "(I)I"⟩, 16) := ⟨⟨by decide +kernel, by decide +kernel⟩, List.mem_of_getElem? (i := 734) (by decide +kernel), List.mem_of_getElem? (i := 929) (by decide +kernel), List.mem_of_getElem? (i := 930) (by decide +kernel)⟩
theorem lw_p35 : lw_okq (⟨"CornerLabelsModel", "fits", "(I)Z"⟩, 16) := ⟨⟨by decide +kernel, by decide +kernel⟩, List.mem_of_getElem? (i := 734) (by decide +kernel), List.mem_of_getElem? (i := 933) (by decide +kernel), List.mem_of_getElem? (i := 934) (by decide +kernel)⟩
theorem lw_p36 : lw_okq (⟨"CornerLabelsModel", "lays", "()V"⟩, 16) := ⟨⟨by decide +kernel, by decide +kernel⟩, List.mem_of_getElem? (i := 734) (by decide +kernel), List.mem_of_getElem? (i := 937) (by decide +kernel), List.mem_of_getElem? (i := 938) (by decide +kernel)⟩
theorem lw_p37 : lw_okq (⟨"CornerLabelsModel", "makesRoom", "(I)I"⟩, 16) := ⟨⟨by decide +kernel, by decide +kernel⟩, List.mem_of_getElem? (i := 734) (by decide +kernel), List.mem_of_getElem? (i := 945) (by decide +kernel), List.mem_of_getElem? (i := 946) (by decide +kernel)⟩
theorem lw_p38 : lw_okq (⟨"CornerLabelsModel", "standing", "()I"⟩, 16) := ⟨⟨by decide +kernel, by decide +kernel⟩, List.mem_of_getElem? (i := 734) (by decide +kernel), List.mem_of_getElem? (i := 953) (by decide +kernel), List.mem_of_getElem? (i := 954) (by decide +kernel)⟩
theorem lw_p39 : lw_okq (⟨"CornerLabelsModel", "readsAll", "()V"⟩, 16) := ⟨⟨by decide +kernel, by decide +kernel⟩, List.mem_of_getElem? (i := 734) (by decide +kernel), List.mem_of_getElem? (i := 969) (by decide +kernel), List.mem_of_getElem? (i := 970) (by decide +kernel)⟩
theorem lw_p40 : lw_okq (⟨"CornerLabelsModel", "readsPoint", "()V"⟩, 16) := ⟨⟨by decide +kernel, by decide +kernel⟩, List.mem_of_getElem? (i := 734) (by decide +kernel), List.mem_of_getElem? (i := 973) (by decide +kernel), List.mem_of_getElem? (i := 974) (by decide +kernel)⟩
theorem lw_p41 : lw_okq (⟨"CornerLabelsModel", "number", "(II)I"⟩, 16) := ⟨⟨by decide +kernel, by decide +kernel⟩, List.mem_of_getElem? (i := 734) (by decide +kernel), List.mem_of_getElem? (i := 977) (by decide +kernel), List.mem_of_getElem? (i := 978) (by decide +kernel)⟩
theorem lw_p42 : lw_okq (⟨"CornerLabelsModel", "sign", "()I"⟩, 16) := ⟨⟨by decide +kernel, by decide +kernel⟩, List.mem_of_getElem? (i := 734) (by decide +kernel), List.mem_of_getElem? (i := 981) (by decide +kernel), List.mem_of_getElem? (i := 982) (by decide +kernel)⟩
theorem lw_p43 : lw_okq (⟨"CornerLabelsModel", "takes", "(I)Z"⟩, 16) := ⟨⟨by decide +kernel, by decide +kernel⟩, List.mem_of_getElem? (i := 734) (by decide +kernel), List.mem_of_getElem? (i := 985) (by decide +kernel), List.mem_of_getElem? (i := 986) (by decide +kernel)⟩
theorem lw_p44 : lw_okq (⟨"CornerLabelsModel", "tellsPoint", "(II)I"⟩, 16) := ⟨⟨by decide +kernel, by decide +kernel⟩, List.mem_of_getElem? (i := 734) (by decide +kernel), List.mem_of_getElem? (i := 1001) (by decide +kernel), List.mem_of_getElem? (i := 1002) (by decide +kernel)⟩
theorem lw_p45 : lw_okq (⟨"CornerLabelsModel", "freeOf", "(I)I"⟩, 16) := ⟨⟨by decide +kernel, by decide +kernel⟩, List.mem_of_getElem? (i := 734) (by decide +kernel), List.mem_of_getElem? (i := 1005) (by decide +kernel), List.mem_of_getElem? (i := 1006) (by decide +kernel)⟩
theorem lw_p46 : lw_okq (⟨"CornerLabelsModel", "crosses", "(I)I"⟩, 16) := ⟨⟨by decide +kernel, by decide +kernel⟩, List.mem_of_getElem? (i := 734) (by decide +kernel), List.mem_of_getElem? (i := 1009) (by decide +kernel), List.mem_of_getElem? (i := 1010) (by decide +kernel)⟩
theorem lw_p47 : lw_okq (⟨"CornerLabelsModel", "tellsAt", "(II)I"⟩, 16) := ⟨⟨by decide +kernel, by decide +kernel⟩, List.mem_of_getElem? (i := 734) (by decide +kernel), List.mem_of_getElem? (i := 1021) (by decide +kernel), List.mem_of_getElem? (i := 1022) (by decide +kernel)⟩
def lw_privs_3 : List (MethodName × Nat) := [(⟨"CornerLabelsModel", "canBe", "(I)Z"⟩, 16), (⟨"CornerLabelsModel", "worth", "(I)I"⟩, 16), (⟨"CornerLabelsModel", "weightFrom", "(I)I"⟩, 16), (⟨"CornerLabelsModel", "fits", "(I)Z"⟩, 16), (⟨"CornerLabelsModel", "lays", "()V"⟩, 16), (⟨"CornerLabelsModel", "makesRoom", "(I)I"⟩, 16), (⟨"CornerLabelsModel", "standing", "()I"⟩, 16), (⟨"CornerLabelsModel", "readsAll", "()V"⟩, 16), (⟨"CornerLabelsModel", "readsPoint", "()V"⟩, 16), (⟨"CornerLabelsModel", "number", "(II)I"⟩, 16), (⟨"CornerLabelsModel", "sign", "()I"⟩, 16), (⟨"CornerLabelsModel", "takes", "(I)Z"⟩, 16), (⟨"CornerLabelsModel", "tellsPoint", "(II)I"⟩, 16), (⟨"CornerLabelsModel", "freeOf", "(I)I"⟩, 16), (⟨"CornerLabelsModel", "crosses", "(I)I"⟩, 16), (⟨"CornerLabelsModel", "tellsAt", "(II)I"⟩, 16)]
theorem lw_r3 : ∀ q ∈ lw_privs_3, lw_okq q := List.forall_mem_cons.mpr ⟨lw_p32, List.forall_mem_cons.mpr ⟨lw_p33, List.forall_mem_cons.mpr ⟨lw_p34, List.forall_mem_cons.mpr ⟨lw_p35, List.forall_mem_cons.mpr ⟨lw_p36, List.forall_mem_cons.mpr ⟨lw_p37, List.forall_mem_cons.mpr ⟨lw_p38, List.forall_mem_cons.mpr ⟨lw_p39, List.forall_mem_cons.mpr ⟨lw_p40, List.forall_mem_cons.mpr ⟨lw_p41, List.forall_mem_cons.mpr ⟨lw_p42, List.forall_mem_cons.mpr ⟨lw_p43, List.forall_mem_cons.mpr ⟨lw_p44, List.forall_mem_cons.mpr ⟨lw_p45, List.forall_mem_cons.mpr ⟨lw_p46, List.forall_mem_cons.mpr ⟨lw_p47, fun _ h => absurd h List.not_mem_nil⟩⟩⟩⟩⟩⟩⟩⟩⟩⟩⟩⟩⟩⟩⟩⟩
theorem lw_p48 : lw_okq (⟨"CornerLabelsModel", "counts", "(I)I"⟩, 16) := ⟨⟨by decide +kernel, by decide +kernel⟩, List.mem_of_getElem? (i := 734) (by decide +kernel), List.mem_of_getElem? (i := 1029) (by decide +kernel), List.mem_of_getElem? (i := 1030) (by decide +kernel)⟩
theorem lw_p49 : lw_okq (⟨"CornerLabelsModel", "weightOf", "(Z)I"⟩, 16) := ⟨⟨by decide +kernel, by decide +kernel⟩, List.mem_of_getElem? (i := 734) (by decide +kernel), List.mem_of_getElem? (i := 1033) (by decide +kernel), List.mem_of_getElem? (i := 1034) (by decide +kernel)⟩
theorem lw_p50 : lw_okq (⟨"CornerLabelsModel", "squares", "()I"⟩, 16) := ⟨⟨by decide +kernel, by decide +kernel⟩, List.mem_of_getElem? (i := 734) (by decide +kernel), List.mem_of_getElem? (i := 1037) (by decide +kernel), List.mem_of_getElem? (i := 1038) (by decide +kernel)⟩
theorem lw_p51 : lw_okq (⟨"CornerLabelsModel", "closedMany", "()I"⟩, 16) := ⟨⟨by decide +kernel, by decide +kernel⟩, List.mem_of_getElem? (i := 734) (by decide +kernel), List.mem_of_getElem? (i := 1041) (by decide +kernel), List.mem_of_getElem? (i := 1042) (by decide +kernel)⟩
theorem lw_p52 : lw_okq (⟨"CornerLabelsModel", "clashing", "()I"⟩, 16) := ⟨⟨by decide +kernel, by decide +kernel⟩, List.mem_of_getElem? (i := 734) (by decide +kernel), List.mem_of_getElem? (i := 1045) (by decide +kernel), List.mem_of_getElem? (i := 1046) (by decide +kernel)⟩
theorem lw_p53 : lw_okq (⟨"CornerLabelsModel", "mayClash", "(II)Z"⟩, 16) := ⟨⟨by decide +kernel, by decide +kernel⟩, List.mem_of_getElem? (i := 734) (by decide +kernel), List.mem_of_getElem? (i := 1049) (by decide +kernel), List.mem_of_getElem? (i := 1050) (by decide +kernel)⟩
theorem lw_p54 : lw_okq (⟨"CornerLabelsModel", "crossed", "()I"⟩, 16) := ⟨⟨by decide +kernel, by decide +kernel⟩, List.mem_of_getElem? (i := 734) (by decide +kernel), List.mem_of_getElem? (i := 1053) (by decide +kernel), List.mem_of_getElem? (i := 1054) (by decide +kernel)⟩
theorem lw_p55 : lw_okq (⟨"CornerLabelsModel", "bestOf", "(I)I"⟩, 16) := ⟨⟨by decide +kernel, by decide +kernel⟩, List.mem_of_getElem? (i := 734) (by decide +kernel), List.mem_of_getElem? (i := 1061) (by decide +kernel), List.mem_of_getElem? (i := 1062) (by decide +kernel)⟩
theorem lw_p56 : lw_okq (⟨"CornerLabelsModel", "fulls", "()I"⟩, 16) := ⟨⟨by decide +kernel, by decide +kernel⟩, List.mem_of_getElem? (i := 734) (by decide +kernel), List.mem_of_getElem? (i := 1077) (by decide +kernel), List.mem_of_getElem? (i := 1078) (by decide +kernel)⟩
theorem lw_p57 : lw_okq (⟨"CornerLabelsModel", "dear", "()I"⟩, 16) := ⟨⟨by decide +kernel, by decide +kernel⟩, List.mem_of_getElem? (i := 734) (by decide +kernel), List.mem_of_getElem? (i := 1085) (by decide +kernel), List.mem_of_getElem? (i := 1086) (by decide +kernel)⟩
theorem lw_p58 : lw_okq (⟨"CornerLabelsModel", "share", "()D"⟩, 16) := ⟨⟨by decide +kernel, by decide +kernel⟩, List.mem_of_getElem? (i := 734) (by decide +kernel), List.mem_of_getElem? (i := 1093) (by decide +kernel), List.mem_of_getElem? (i := 1094) (by decide +kernel)⟩
theorem lw_p59 : lw_okq (⟨"CornerLabelsModel", "hashes", "(J)V"⟩, 16) := ⟨⟨by decide +kernel, by decide +kernel⟩, List.mem_of_getElem? (i := 734) (by decide +kernel), List.mem_of_getElem? (i := 1102) (by decide +kernel), List.mem_of_getElem? (i := 1103) (by decide +kernel)⟩
def lw_privs_4 : List (MethodName × Nat) := [(⟨"CornerLabelsModel", "counts", "(I)I"⟩, 16), (⟨"CornerLabelsModel", "weightOf", "(Z)I"⟩, 16), (⟨"CornerLabelsModel", "squares", "()I"⟩, 16), (⟨"CornerLabelsModel", "closedMany", "()I"⟩, 16), (⟨"CornerLabelsModel", "clashing", "()I"⟩, 16), (⟨"CornerLabelsModel", "mayClash", "(II)Z"⟩, 16), (⟨"CornerLabelsModel", "crossed", "()I"⟩, 16), (⟨"CornerLabelsModel", "bestOf", "(I)I"⟩, 16), (⟨"CornerLabelsModel", "fulls", "()I"⟩, 16), (⟨"CornerLabelsModel", "dear", "()I"⟩, 16), (⟨"CornerLabelsModel", "share", "()D"⟩, 16), (⟨"CornerLabelsModel", "hashes", "(J)V"⟩, 16)]
theorem lw_r4 : ∀ q ∈ lw_privs_4, lw_okq q := List.forall_mem_cons.mpr ⟨lw_p48, List.forall_mem_cons.mpr ⟨lw_p49, List.forall_mem_cons.mpr ⟨lw_p50, List.forall_mem_cons.mpr ⟨lw_p51, List.forall_mem_cons.mpr ⟨lw_p52, List.forall_mem_cons.mpr ⟨lw_p53, List.forall_mem_cons.mpr ⟨lw_p54, List.forall_mem_cons.mpr ⟨lw_p55, List.forall_mem_cons.mpr ⟨lw_p56, List.forall_mem_cons.mpr ⟨lw_p57, List.forall_mem_cons.mpr ⟨lw_p58, List.forall_mem_cons.mpr ⟨lw_p59, fun _ h => absurd h List.not_mem_nil⟩⟩⟩⟩⟩⟩⟩⟩⟩⟩⟩⟩
def lw_privs : List (MethodName × Nat) := lw_privs_1 ++ (lw_privs_2 ++ (lw_privs_3 ++ (lw_privs_4)))
def lw_tbl : List Cond := k2_sels lw_privs ++ tables_1
theorem lw_privs_ok : ∀ q ∈ lw_privs, lw_okq q := by
  show ∀ q ∈ lw_privs_1 ++ (lw_privs_2 ++ (lw_privs_3 ++ (lw_privs_4))), lw_okq q
  exact List.forall_mem_append.mpr ⟨lw_r1, List.forall_mem_append.mpr ⟨lw_r2, List.forall_mem_append.mpr ⟨lw_r3, lw_r4⟩⟩⟩
/-- the streams that the claim lets the run draw from -/
abbrev lw_cs : List Choice := [Jvm.Choice.named "NaN.bits"]
theorem lw_bits : nanBits ∈ lw_cs := by first | decide | exact List.mem_cons_self | simp [lw_cs, nanBits]
-- ===== end of PART A; then your names; then what follows =====
end
section
/-! ===== BEGIN words of one list among another's, by their places ===== -/
theorem goodIn_r {big : List Cond} (ws : List Cond) (ps : List Nat) (hp : ws = ps.filterMap (fun i => big[i]?)) (h : ws.all goodWord = true) : GoodIn big ws := by
  intro w hw
  have h1 := List.all_eq_true.mp h w hw
  rw [hp] at hw
  obtain ⟨i, -, hi⟩ := List.mem_filterMap.mp hw
  have hm : w ∈ big := by first | exact List.mem_of_getElem? hi | exact List.getElem?_mem hi
  exact ⟨hm, good_of_word h1⟩
theorem goodIn_app {big a b : List Cond} (ha : GoodIn big a) (hb : GoodIn big b) : GoodIn big (a ++ b) := fun w h => (List.mem_append.mp h).elim (ha w) (hb w)
theorem goodIn_ca {big a b : List Cond} {c : Cond} (ha : GoodIn big (c :: a)) (hb : GoodIn big b) : GoodIn big (c :: (a ++ b)) := fun w h => (List.mem_cons.mp h).elim (fun e => ha w (List.mem_cons.mpr (Or.inl e))) (fun h => (List.mem_append.mp h).elim (fun h => ha w (List.mem_cons.mpr (Or.inr h))) (hb w))
theorem goodIn_sub {big ws : List Cond} (hm : ∀ w ∈ ws, w ∈ big) (h : ws.all goodWord = true) : GoodIn big ws := fun w hw => ⟨hm w hw, good_of_word (List.all_eq_true.mp h w hw)⟩
/-! ===== END ===== -/

/-! ===== BEGIN exceptions that leave a method, and their catching by the caller (launches without stack traces) ===== -/
section VXA
/-! The laws vx_back, vx_callV, vx_callS, vx_callSW, vx_throw0, vx_throwS follow proofs of the library, with one case more: JvmDerived/Free/Laws.lean (Back.of_free), Shelf42/LK1.lean (callV, callS), Shelf/KitTraced.lean (throwNew0V, throwNewS). -/
/-- where a method has thrown q: the class by its name, the cell, what was written, the world -/
def vx_T (XC : String → State → State → Prop) (st : State) (q : Addr) (t : State) (mc ms : Nat) (free : Addr → Prop) : Prop :=
  ∃ (E : String) (ce : Cell) (L : List Loc), XC E st t ∧ t.heap[q]? = some ce ∧ ce.vm = .none ∧ st.vm.findClass E = some ce.cls ∧ st.WarmedH t.vm ∧ st.sameButNew ({ t with vm := st.vm } : State) L mc ms ∧ ∀ z ∈ L, free z.base
def vx_Q (Qc : Array Value → State → Outcome → State → Prop) (XC : String → State → State → Prop) (mc ms : Nat) (free : Addr → Prop) : Array Value → State → Outcome → State → Prop := fun a st o t =>
  (Qc a st o t ∧ ∃ L, FrameEnd st o t L mc ms ∧ ∀ q ∈ L, free q.base) ∨ ∃ q, o = .threw q ∧ vx_T XC st q t mc ms free
/-- a callee that returns or throws -/
def vx_Met (l : Launch) (y : MethodName) (ws : List Cond) (rm : Room) (Pc : Array Value → State → Prop) (Qc : Array Value → State → Outcome → State → Prop) (XC : String → State → State → Prop) (mc ms : Nat) (free : Addr → Prop) : Prop :=
  MetFree l y (headSpec ws rm) Pc (fun _ _ _ _ _ => True) (vx_Q Qc XC mc ms free)
def vx_Post (XC : String → State → State → Prop) (mc ms : Nat) (free : Addr → Prop) : Pt → Array Value → Addr → Pt → Prop := fun A a q B =>
  ∃ (g : JFrame) (mk : MethodId) (t : State) (L : List Loc) (E : String) (ce : Cell), B.U.heap = t.heap ∧ B.U.vm = t.vm ∧ XC E (A.U.calling g mk a) t ∧ t.heap[q]? = some ce ∧ ce.vm = .none ∧ A.U.vm.findClass E = some ce.cls ∧ B.locs = A.locs ++ L ∧ (∀ z ∈ L, free z.base) ∧ B.cells = A.cells + mc ∧ B.slots = A.slots + ms
def vx_Back (l : Launch) (R : Room) (p : Program) (e : Env) (below : List Frame) (s : State) (sargs : Array Value) (y : MethodName) (len W9 : Nat)
    (Pre : Pt → Array Value → Prop) (Post : Pt → Array Value → Option Value → Pt → Prop) (PostX : Pt → Array Value → Addr → Pt → Prop) : Prop :=
  ∀ (m : MethodId) (meth : Method) (c : Code) (A : Pt) (g : JFrame) (ig : Instr) (mk : MethodId) (a : Array Value),
    Stand p l e R s m sargs below meth c A.U A.locs A.cells A.slots → g.method = m → g.locals.size = c.maxLocals → decode c.code g.pc = .ok (ig, len) →
    2 * g.monitorRoom + (g.stack.map fun v => v.category).sum ≤ W9 → A.U.methodNamed? y = some mk → Pre A a →
    (∃ (v : Option Value) (B : Pt), Stand p l e R s m sargs below meth c B.U B.locs B.cells B.slots ∧ Post A a v B ∧
      Steps p.tables e below (doInvoke e (A.U.setTop g) [] mk a).1 (B.U.setTop { g with pc := g.pc + len, stack := v.toList ++ g.stack })) ∨
    (∃ (q : Addr) (B : Pt), Stand p l e R s m sargs below meth c B.U B.locs B.cells B.slots ∧ PostX A a q B ∧
      Steps p.tables e below (doInvoke e (A.U.setTop g) [] mk a).1 ((B.U.setTop g).pushFrame (.throwing q)))
section Payer
variable {l : Launch} {R : Room} {p : Program} {e : Env} {below : List Frame} {s : State} {sargs : Array Value} {y : MethodName} {len W9 : Nat}
theorem vx_back {ws : List Cond} {rm : Room} {Pc : Array Value → State → Prop} {Qc : Array Value → State → Outcome → State → Prop} {XC : String → State → State → Prop} {mc ms : Nat} {free : Addr → Prop} {bytes : ByteArray} {maxL : Nat} {ret : Option FieldType}
    (hM : vx_Met l y ws rm Pc Qc XC mc ms free) (hblind : FrameBlind Pc) (hrc : rm.cells = mc) (hrs : rm.slots = ms)
    (hframes : rm.frames + 1 ≤ R.frames) (hlocals : W9 + (maxL + 11) + rm.locals ≤ R.locals)
    (hws : ∀ w ∈ ws, ∀ a' U, s.WarmedH U.vm → w.before a' U = true) (hcode : Cond.code y bytes maxL ret ∈ ws) (hinit : ∀ a' U, s.WarmedH U.vm → (Cond.initialized y.cls).before a' U = true) :
    vx_Back l R p e below s sargs y len W9 (PreOf R mc ms Pc) (PostOf Qc mc ms free) (vx_Post XC mc ms free) := by
  intro m meth c A g ig mk a X hg hsize hdg hW hn hp
  have h1 : (headSpec ws rm).pre.before a A.U = true := atoms_intro fun w hw => hws w hw _ _ X.warmed
  have h2 : (Cond.code y bytes maxL ret).before a A.U = true := hws _ hcode _ _ X.warmed
  have h3 : (Cond.initialized y.cls).before a A.U = true := hinit _ _ X.warmed
  have h4 : A.cells + (headSpec ws rm).room.cells ≤ R.cells := by rw [show (headSpec ws rm).room.cells = mc from hrc]; exact hp.1
  have h5 : A.slots + (headSpec ws rm).room.slots ≤ R.slots := by rw [show (headSpec ws rm).room.slots = ms from hrs]; exact hp.2.1
  have hPc : Pc a (A.U.calling g mk a) := hblind _ _ _ _ hp.2.2
  obtain ⟨U, Ls, c0, s0⟩ := A
  dsimp only [Pt.U, Pt.locs, Pt.cells, Pt.slots] at h1 h2 h3 h4 h5 X hn hPc ⊢
  obtain ⟨methY, cY, hmY, hcY, -, hlY, -, -, -, -⟩ := Cond.code_spec hn h2
  obtain ⟨kY, hkY, -⟩ := className_of_methodNamed hn
  have hinitY : kY.init = .initialized := Cond.initialized_spec (findClass_of_methodNamed hn) hkY h3
  have h : At U g.method c below := by rw [hg]; exact X.here
  have hlocals9 : W9 + (maxL + 11) + (headSpec ws rm).room.locals ≤ R.locals := hlocals
  have happ : (headSpec ws rm).appliesLoose y e.platform (U.calling g mk a) = true :=
    Spec.appliesLoose_calling (g := g) h hdg hn hkY hinitY
      (X.room_calling (g := g) (R' := (headSpec ws rm).room) hsize hmY hcY hframes (by rw [hlY]; omega) h4 h5) h1
  obtain ⟨mid, hmid⟩ := h.above
  have hfr : (U.setTop g).frames = (.java g :: mid) ++ below := by rw [State.frames_setTop' g h.top, hmid]; rfl
  obtain ⟨o, s₂, hsteps, -, hend, hq⟩ := Steps.callFree hM p X.admits X.cas X.clock (acts := []) hfr happ hPc trivial
  have hq' : vx_Q Qc XC mc ms free a (U.calling g mk a) o s₂ := hq
  rw [State.frames_setTop' g h.top] at hend
  obtain ⟨g₀, hg0⟩ := Option.isSome_iff_exists.mp h.top
  obtain ⟨r, hr⟩ := State.topJava?_eq_some.mp hg0
  have hr' : (({ U with heap := s₂.heap, slotsUsed := s₂.slotsUsed } : State).setVm s₂.vm).frames = .java g₀ :: r := hr
  rcases hq' with ⟨hqc, L, hfe, hL⟩ | ⟨q, rfl, E, ce, L, hx, hce, hcv, hcl, hW₂, hsm, hL⟩
  · obtain ⟨⟨v, rfl⟩, hW₂, e2, q2, q3, q4, q5, q6⟩ := id hfe
    have e3 : s₂ = ({ (U.calling g mk a).setFrames s₂.frames with heap := s₂.heap, slotsUsed := s₂.slotsUsed } : State).setVm s₂.vm := by
      have : s₂ = ({ s₂ with vm := (U.calling g mk a).vm } : State).setVm s₂.vm := rfl
      rw [e2] at this
      exact this
    obtain ⟨c₂, i₂, len₂, hc₂, hd₂, hf₂⟩ := hend
    have hW' : U.WarmedH s₂.vm := hW₂
    have hcc : c₂ = c := by
      have h1 : s₂.code? g.method = U.code? g.method := by
        rw [State.code?_eq, State.code?_eq, hW'.alike.method?]
      exact Option.some.inj (hc₂.symm.trans (h1.trans h.code))
    subst hcc
    have hlen : len₂ = len := by rw [hdg] at hd₂; cases hd₂; rfl
    subst hlen
    have hs₂ : s₂ = (({ U with heap := s₂.heap, slotsUsed := s₂.slotsUsed } : State).setVm s₂.vm).setTop { g with pc := g.pc + len₂, stack := v.toList ++ g.stack } := by
      refine e3.trans ?_
      rw [hf₂, State.calling_eq h.top, State.setFrames_setFrames, State.setTop_of_frames _ hr', hr]
      rfl
    have hsame : U.sameButNew ({ U with heap := s₂.heap, slotsUsed := s₂.slotsUsed } : State) L mc ms := by
      refine ⟨?_, q2, q3, q4, q5, q6⟩
      obtain ⟨t, ht, -⟩ := State.frames_cons hr
      show ({ U with heap := s₂.heap, slotsUsed := s₂.slotsUsed } : State) = { U.setFrames U.frames with heap := s₂.heap, slotsUsed := s₂.slotsUsed }
      rw [State.setFrames_self ht]
    subst hg
    refine Or.inl ⟨v, ⟨(({ U with heap := s₂.heap, slotsUsed := s₂.slotsUsed } : State).setVm s₂.vm), Ls ++ L, c0 + mc, s0 + ms⟩,
      ⟨X.admits, X.cas, X.clock, X.frames, X.room, X.hears, X.method, X.code, (X.here.setHeapUsed s₂.heap s₂.slotsUsed).setVm hW'.alike, X.tail, State.WarmedH.trans X.warmed hW', X.limits, X.bytes, X.same.trans (hsame.setVm s.vm)⟩,
      ⟨g, mk, s₂, L, rfl, rfl, hqc, rfl, hL, rfl, rfl⟩, ?_⟩
    show Steps p.tables e below _ ((({ U with heap := s₂.heap, slotsUsed := s₂.slotsUsed } : State).setVm s₂.vm).setTop { g with pc := g.pc + len₂, stack := v.toList ++ g.stack })
    rw [← hs₂]
    exact hsteps
  · obtain ⟨e2, q2, q3, q4, q5, q6⟩ := id hsm
    have e3 : s₂ = ({ (U.calling g mk a).setFrames s₂.frames with heap := s₂.heap, slotsUsed := s₂.slotsUsed } : State).setVm s₂.vm := by
      have : s₂ = ({ s₂ with vm := (U.calling g mk a).vm } : State).setVm s₂.vm := rfl
      rw [e2] at this
      exact this
    have hf₂ : s₂.frames = .throwing q :: .java g :: U.frames.tail := hend
    have hW' : U.WarmedH s₂.vm := hW₂
    have hs₂ : s₂ = ((({ U with heap := s₂.heap, slotsUsed := s₂.slotsUsed } : State).setVm s₂.vm).setTop g).pushFrame (.throwing q) := by
      refine e3.trans ?_
      rw [hf₂, State.calling_eq h.top, State.setFrames_setFrames, State.pushFrame, State.frames_setTop _ hr', State.setTop_of_frames _ hr', State.setFrames_setFrames, hr]
      rfl
    have hsame : U.sameButNew ({ U with heap := s₂.heap, slotsUsed := s₂.slotsUsed } : State) L mc ms := by
      refine ⟨?_, q2, q3, q4, q5, q6⟩
      obtain ⟨t, ht, -⟩ := State.frames_cons hr
      show ({ U with heap := s₂.heap, slotsUsed := s₂.slotsUsed } : State) = { U.setFrames U.frames with heap := s₂.heap, slotsUsed := s₂.slotsUsed }
      rw [State.setFrames_self ht]
    subst hg
    refine Or.inr ⟨q, ⟨(({ U with heap := s₂.heap, slotsUsed := s₂.slotsUsed } : State).setVm s₂.vm), Ls ++ L, c0 + mc, s0 + ms⟩,
      ⟨X.admits, X.cas, X.clock, X.frames, X.room, X.hears, X.method, X.code, (X.here.setHeapUsed s₂.heap s₂.slotsUsed).setVm hW'.alike, X.tail, State.WarmedH.trans X.warmed hW', X.limits, X.bytes, X.same.trans (hsame.setVm s.vm)⟩,
      ⟨g, mk, s₂, L, E, ce, rfl, rfl, hx, hce, hcv, hcl, rfl, hL, rfl, rfl⟩, ?_⟩
    show Steps p.tables e below _ (((({ U with heap := s₂.heap, slotsUsed := s₂.slotsUsed } : State).setVm s₂.vm).setTop g).pushFrame (.throwing q))
    rw [← hs₂]
    exact hsteps
end Payer
section Calls
variable {p : Program} {l : Launch} {e : Env} {R : Room} {s : State} {m : MethodId} {args : Array Value} {below : List Frame} {meth : Method} {c : Code} {T : State} {locs : List Loc} {cells slots : Nat}
theorem vx_callV (X : Stand p l e R s m args below meth c T locs cells slots) (hexec : p.tables.exec = Jvm.exec) {own C : String} {index : Nat} {y : MethodName} {bytes : ByteArray} {maxL : Nat} {ret : Option FieldType}
    (hown : s.vm.findClass own = some m.cls) (hlink : (Cond.methodLink own index y).before args s = true) (hinst : (Cond.instanceMethod y).before args s = true) (hsel : (Cond.selects C y y).before args s = true)
    (hcode : (Cond.code y bytes maxL ret).before args s = true) (hy : y.cls ≠ "java/lang/invoke/MethodHandle" ∧ y.cls ≠ "java/lang/invoke/VarHandle")
    {W9 : Nat} {Pre : Pt → Array Value → Prop} {Post : Pt → Array Value → Option Value → Pt → Prop} {PostX : Pt → Array Value → Addr → Pt → Prop} (hK : vx_Back l R p e below s args y 3 W9 Pre Post PostX)
    {b : Addr} {cellB : Cell} (hcell : T.heap[b]? = some cellB) (hobj : cellB.vm.isStatics = false) (hcls : s.vm.findClass C = some cellB.cls)
    {g : JFrame} (hg : g.method = m) (hsize : g.locals.size = c.maxLocals) {argsL rest : List Value} (hlen : ∀ sig, parseMethodDescriptor y.desc = some sig → argsL.length = sig.parameters.length)
    (hstack : g.stack = argsL.reverse ++ .ref b :: rest) (hW : 2 * g.monitorRoom + (rest.map fun v => v.category).sum ≤ W9) (hdg : decode c.code g.pc = .ok (.invokevirtual index, 3))
    (hpre : ∀ vm₁, s.WarmedH vm₁ → Pre ⟨T.setVm vm₁, locs, cells, slots⟩ (Value.ref b :: argsL).toArray) :
    (∃ (v : Option Value) (vm₁ : Vm) (B : Pt), s.WarmedH vm₁ ∧ Stand p l e R s m args below meth c B.U B.locs B.cells B.slots ∧ Post ⟨T.setVm vm₁, locs, cells, slots⟩ (Value.ref b :: argsL).toArray v B ∧
      ∀ target, Steps p.tables e below (B.U.setTop { g with pc := g.pc + 3, stack := v.toList ++ rest }) target → Steps p.tables e below (T.setTop g) target) ∨
    (∃ (q : Addr) (vm₁ : Vm) (B : Pt), s.WarmedH vm₁ ∧ Stand p l e R s m args below meth c B.U B.locs B.cells B.slots ∧ PostX ⟨T.setVm vm₁, locs, cells, slots⟩ (Value.ref b :: argsL).toArray q B ∧
      Steps p.tables e below (T.setTop g) ((B.U.setTop { g with stack := rest }).pushFrame (.throwing q))) := by
  obtain ⟨mk, methM, hnamed, hmethM, hstM, habM⟩ := Cond.instanceMethod_spec hinst
  obtain ⟨methM', cM, hmethM', -, -, -, -, -, -, hsigM⟩ := Cond.code_spec hnamed hcode
  cases hmethM.symm.trans hmethM'
  obtain ⟨c2, r2, m2, q1, q2, q3, q4, kP, hkP, hkPi⟩ := Cond.selects_spec hsel
  cases hcls.symm.trans q1
  cases (State.methodFound?_of_named hnamed hy).symm.trans q2
  cases hnamed.symm.trans q3
  have hselP : selectMethod e.platform s.vm cellB.cls mk = .method mk := by rw [Launch.admits_selectMethod X.admits]; exact q4
  obtain ⟨vm₁, X₁, hstep₁⟩ := X.invokevirtual hexec hown hlink hnamed hmethM hstM hkP hkPi hy (a := b) (cell := cellB) hcell
    (fun z h => by rw [h] at hobj; cases hobj) hselP hmethM habM hkP hkPi (g := g) hg (argsL := argsL) (rest := rest) (hlen _ hsigM) hstack hdg
  rcases hK m meth c ⟨T.setVm vm₁, locs, cells, slots⟩ { g with stack := rest } (.invokevirtual index) mk (Value.ref b :: argsL).toArray X₁ hg hsize hdg hW (X₁.named hnamed) (hpre vm₁ X₁.warmed) with ⟨v, B, X', hpost, hsteps⟩ | ⟨q, B, X', hpost, hsteps⟩
  · exact Or.inl ⟨v, vm₁, B, X₁.warmed, X', hpost, fun target h => hstep₁ _ fun acts => by rw [doInvoke_state]; exact hsteps.trans h⟩
  · exact Or.inr ⟨q, vm₁, B, X₁.warmed, X', hpost, hstep₁ _ fun acts => by rw [doInvoke_state]; exact hsteps⟩
theorem vx_callS (X : Stand p l e R s m args below meth c T locs cells slots) (hexec : p.tables.exec = Jvm.exec) {own : String} {index : Nat} {y : MethodName} {bytes : ByteArray} {maxL : Nat} {ret : Option FieldType}
    (hown : s.vm.findClass own = some m.cls) (hlink : (Cond.methodLink own index y).before args s = true) (hstat : (Cond.static y).before args s = true) (hinit : (Cond.initialized y.cls).before args s = true)
    (hcode : (Cond.code y bytes maxL ret).before args s = true) (hy : y.cls ≠ "java/lang/invoke/MethodHandle" ∧ y.cls ≠ "java/lang/invoke/VarHandle")
    {W9 : Nat} {Pre : Pt → Array Value → Prop} {Post : Pt → Array Value → Option Value → Pt → Prop} {PostX : Pt → Array Value → Addr → Pt → Prop} (hK : vx_Back l R p e below s args y 3 W9 Pre Post PostX)
    {g : JFrame} (hg : g.method = m) (hsize : g.locals.size = c.maxLocals) {argsL rest : List Value} (hlen : ∀ sig, parseMethodDescriptor y.desc = some sig → argsL.length = sig.parameters.length)
    (hstack : g.stack = argsL.reverse ++ rest) (hW : 2 * g.monitorRoom + (rest.map fun v => v.category).sum ≤ W9) (hdg : decode c.code g.pc = .ok (.invokestatic index, 3))
    (hpre : ∀ vm₁, s.WarmedH vm₁ → Pre ⟨T.setVm vm₁, locs, cells, slots⟩ argsL.toArray) :
    (∃ (v : Option Value) (vm₁ : Vm) (B : Pt), s.WarmedH vm₁ ∧ Stand p l e R s m args below meth c B.U B.locs B.cells B.slots ∧ Post ⟨T.setVm vm₁, locs, cells, slots⟩ argsL.toArray v B ∧
      ∀ target, Steps p.tables e below (B.U.setTop { g with pc := g.pc + 3, stack := v.toList ++ rest }) target → Steps p.tables e below (T.setTop g) target) ∨
    (∃ (q : Addr) (vm₁ : Vm) (B : Pt), s.WarmedH vm₁ ∧ Stand p l e R s m args below meth c B.U B.locs B.cells B.slots ∧ PostX ⟨T.setVm vm₁, locs, cells, slots⟩ argsL.toArray q B ∧
      Steps p.tables e below (T.setTop g) ((B.U.setTop { g with stack := rest }).pushFrame (.throwing q))) := by
  obtain ⟨mk, hnamed⟩ := Cond.code_named hcode
  obtain ⟨methM, cM, hmethM, -, -, -, -, -, -, hsigM⟩ := Cond.code_spec hnamed hcode
  have hstatic : methM.isStatic = true := Cond.static_spec hnamed hmethM hstat
  obtain ⟨kP, hkP, -⟩ := className_of_methodNamed hnamed
  have hinitP : kP.init = .initialized := Cond.initialized_spec (findClass_of_methodNamed hnamed) hkP hinit
  obtain ⟨vm₁, X₁, hstep₁⟩ := X.invokestatic hexec hown hlink hnamed hmethM hstatic hkP hinitP hy (g := g) hg (argsL := argsL) (rest := rest) (hlen _ hsigM) hstack hdg
  rcases hK m meth c ⟨T.setVm vm₁, locs, cells, slots⟩ { g with stack := rest } (.invokestatic index) mk argsL.toArray X₁ hg hsize hdg hW (X₁.named hnamed) (hpre vm₁ X₁.warmed) with ⟨v, B, X', hpost, hsteps⟩ | ⟨q, B, X', hpost, hsteps⟩
  · exact Or.inl ⟨v, vm₁, B, X₁.warmed, X', hpost, fun target h => hstep₁ _ fun acts => by rw [doInvoke_state]; exact hsteps.trans h⟩
  · exact Or.inr ⟨q, vm₁, B, X₁.warmed, X', hpost, hstep₁ _ fun acts => by rw [doInvoke_state]; exact hsteps⟩
end Calls
theorem vx_cls {s : State} {T : State} {vm₁ : Vm} {E : String} {k : ClassId} (hW : s.WarmedH vm₁) (h : (T.setVm vm₁).vm.findClass E = some k) : s.vm.findClass E = some k := by
  have h1 : vm₁.findClass E = some k := h
  rw [hW.alike.findClass] at h1
  exact h1
/-- the method's frame g, with q thrown over it -/
def vx_W (p : Program) (l : Launch) (e : Env) (R : Room) (s : State) (m : MethodId) (args : Array Value) (below : List Frame) (meth : Method) (c : Code) (H : Heap) (locs : List Loc) (cells slots : Nat) (Q : State → Prop) (g : JFrame) (q : Addr) : Prop :=
  ∀ T : State, T.heap = H → Stand p l e R s m args below meth c T locs cells slots → ∃ t, Steps p.tables e below ((T.setTop g).pushFrame (.throwing q)) t ∧ Q t
def vx_Run (p : Program) (l : Launch) (e : Env) (R : Room) (s : State) (m : MethodId) (args : Array Value) (below : List Frame) (meth : Method) (c : Code) (H : Heap) (locs : List Loc) (cells slots mc ms : Nat) (g : JFrame) (rest : List Value) (Qa : State → Outcome → State → Prop) (XC : String → State → State → Prop) (free : Addr → Prop) : Prop :=
  ∀ T : State, T.heap = H → Stand p l e R s m args below meth c T locs cells slots →
    (∃ (v : Option Value) (st₀ t T' : State) (L : List Loc), st₀.heap = H ∧ Stand p l e R s m args below meth c T' (locs ++ L) (cells + mc) (slots + ms) ∧ (∀ q ∈ L, free q.base) ∧ T'.heap = t.heap ∧ T'.vm = t.vm ∧ Qa st₀ (.returned v) t ∧
      Goes p e below T g T' { g with pc := g.pc + 3, stack := v.toList ++ rest }) ∨
    (∃ (q : Addr) (st₀ t T' : State) (L : List Loc) (E : String) (ce : Cell), st₀.heap = H ∧ Stand p l e R s m args below meth c T' (locs ++ L) (cells + mc) (slots + ms) ∧ (∀ z ∈ L, free z.base) ∧ T'.heap = t.heap ∧ T'.vm = t.vm ∧ XC E st₀ t ∧ t.heap[q]? = some ce ∧ ce.vm = .none ∧ s.vm.findClass E = some ce.cls ∧
      Steps p.tables e below (T.setTop g) ((T'.setTop { g with stack := rest }).pushFrame (.throwing q)))
def vx_X {S : Type} (px : S → Prop) (B : String → S → State → Prop) (A : Nat → Prop) : String → State → State → Prop := fun E st t => ∃ u : S, px u ∧ B E u t ∧ va_F A st t
section Runs
variable {p : Program} {l : Launch} {e : Env} {R : Room} {s : State} {m : MethodId} {args : Array Value} {below : List Frame} {meth : Method} {c : Code} {H : Heap} {locs : List Loc} {cells slots : Nat}
variable {y : MethodName} {bytes cc : ByteArray} {maxL nL mc ms n index : Nat} {ret : Option FieldType} {ws : List Cond} {rm : Room} {Pc : Array Value → State → Prop} {Qc : Array Value → State → Outcome → State → Prop} {XC : String → State → State → Prop} {free : Addr → Prop} {Ts : List Cond} {own C : String} {b : Addr} {As rest : List Value} {g : JFrame}
theorem vx_callBack (cb : CallB R s args own index y bytes maxL ret ws rm mc ms n) (hM : vx_Met l y ws rm Pc Qc XC mc ms free) (hbl : FrameBlind Pc) : vx_Back l R p e below s args y 3 8 (PreOf R mc ms Pc) (PostOf Qc mc ms free) (vx_Post XC mc ms free) := by
  obtain ⟨hrc, hrs, hfr, hlo, hws, hcw, -, hini, -⟩ := cb
  exact vx_back (bytes := bytes) (maxL := maxL) (ret := ret) hM hbl hrc hrs hfr hlo hws hcw (fun a' U hW => word_at hW (Or.inl (by first | rfl | simp [Cond.onTables, Cond.keeps, Cond.steady])) hini)
theorem vx_runV (S : CallFix p m c cc nL s args Ts own) (hM : vx_Met l y ws rm Pc Qc XC mc ms free) (cw : CallW R s args own C index y bytes maxL ret ws rm mc ms n) (hp : PreV s H C b Pc As)
    (hg : g.method = m) (hn : As.length = n) (hsize : g.locals.size = nL) (hstack : g.stack = As.reverse ++ .ref b :: rest) (hW : 2 * g.monitorRoom + (rest.map fun v => v.category).sum ≤ 8) (hdg : decode cc g.pc = .ok (.invokevirtual index, 3)) (hf : cells + mc ≤ R.cells ∧ slots + ms ≤ R.slots) :
    vx_Run p l e R s m args below meth c H locs cells slots mc ms g rest (Qc (Value.ref b :: As).toArray) XC free := by
  have hK : vx_Back l R p e below s args y 3 8 (PreOf R mc ms Pc) (PostOf Qc mc ms free) (vx_Post XC mc ms free) := vx_callBack cw.1 hM hp.1
  obtain ⟨⟨-, -, -, -, -, -, hcode, -, hy, hlen, hl⟩, hin, hse⟩ := cw
  obtain ⟨hx, hb, hml, ho, -⟩ := S
  obtain ⟨-, ⟨cellB, hcB, hoB, hclB⟩, hPc⟩ := hp
  intro T hT X
  rcases vx_callV X hx (C := C) (bytes := bytes) (maxL := maxL) (ret := ret) ho hl hin hse hcode hy hK (by rw [hT]; exact hcB) hoB hclB hg (hsize.trans hml.symm) (argsL := As) (rest := rest) (fun sig h => hn.trans (hlen sig h)) hstack hW (by rw [hb]; exact hdg)
    (fun vm₁ hW₁ => ⟨hf.1, hf.2, hPc (T.setVm vm₁) hT hW₁⟩) with ⟨v, vm₁, ⟨U', l2, c2, s2⟩, hW₁, X', ⟨g', mk, t, L, e1, e2, hq, h1, hL, h2, h3⟩, st⟩ | ⟨q, vm₁, ⟨U', l2, c2, s2⟩, hW₁, X', ⟨g', mk, t, L, E, ce, e1, e2, hq, hce, hcv, hcl, h1, hL, h2, h3⟩, st⟩
  · dsimp only [Pt.U, Pt.locs, Pt.cells, Pt.slots] at X' e1 e2 h1 h2 h3 st
    subst h1; subst h2; subst h3
    exact Or.inl ⟨v, (T.setVm vm₁).calling g' mk (Value.ref b :: As).toArray, t, U', L, hT, X', hL, e1, e2, hq, st⟩
  · dsimp only [Pt.U, Pt.locs, Pt.cells, Pt.slots] at X' e1 e2 h1 h2 h3 st hcl
    subst h1; subst h2; subst h3
    exact Or.inr ⟨q, (T.setVm vm₁).calling g' mk (Value.ref b :: As).toArray, t, U', L, E, ce, hT, X', hL, e1, e2, hq, hce, hcv, vx_cls hW₁ hcl, st⟩
theorem vx_runS (S : CallFix p m c cc nL s args Ts own) (hM : vx_Met l y ws rm Pc Qc XC mc ms free) (cw : CallB R s args own index y bytes maxL ret ws rm mc ms n ∧ (Cond.static y).before args s = true) (hp : PreS s H Pc As)
    (hg : g.method = m) (hn : As.length = n) (hsize : g.locals.size = nL) (hstack : g.stack = As.reverse ++ rest) (hW : 2 * g.monitorRoom + (rest.map fun v => v.category).sum ≤ 8) (hdg : decode cc g.pc = .ok (.invokestatic index, 3)) (hf : cells + mc ≤ R.cells ∧ slots + ms ≤ R.slots) :
    vx_Run p l e R s m args below meth c H locs cells slots mc ms g rest (Qc As.toArray) XC free := by
  have hK : vx_Back l R p e below s args y 3 8 (PreOf R mc ms Pc) (PostOf Qc mc ms free) (vx_Post XC mc ms free) := vx_callBack cw.1 hM hp.1
  obtain ⟨⟨-, -, -, -, -, -, hcode, hini, hy, hlen, hl⟩, hstt⟩ := cw
  obtain ⟨hx, hb, hml, ho, -⟩ := S
  intro T hT X
  rcases vx_callS X hx (bytes := bytes) (maxL := maxL) (ret := ret) ho hl hstt hini hcode hy hK hg (hsize.trans hml.symm) (argsL := As) (rest := rest) (fun sig h => hn.trans (hlen sig h)) hstack hW (by rw [hb]; exact hdg)
    (fun vm₁ hW₁ => ⟨hf.1, hf.2, hp.2 (T.setVm vm₁) hT hW₁⟩) with ⟨v, vm₁, ⟨U', l2, c2, s2⟩, hW₁, X', ⟨g', mk, t, L, e1, e2, hq, h1, hL, h2, h3⟩, st⟩ | ⟨q, vm₁, ⟨U', l2, c2, s2⟩, hW₁, X', ⟨g', mk, t, L, E, ce, e1, e2, hq, hce, hcv, hcl, h1, hL, h2, h3⟩, st⟩
  · dsimp only [Pt.U, Pt.locs, Pt.cells, Pt.slots] at X' e1 e2 h1 h2 h3 st
    subst h1; subst h2; subst h3
    exact Or.inl ⟨v, (T.setVm vm₁).calling g' mk As.toArray, t, U', L, hT, X', hL, e1, e2, hq, st⟩
  · dsimp only [Pt.U, Pt.locs, Pt.cells, Pt.slots] at X' e1 e2 h1 h2 h3 st hcl
    subst h1; subst h2; subst h3
    exact Or.inr ⟨q, (T.setVm vm₁).calling g' mk As.toArray, t, U', L, E, ce, hT, X', hL, e1, e2, hq, hce, hcv, vx_cls hW₁ hcl, st⟩
end Runs
section Rows
variable {p : Program} {l : Launch} {e : Env} {R : Room} {s : State} {m : MethodId} {args : Array Value} {below : List Frame} {meth : Method} {c : Code} {H : Heap} {locs : List Loc} {cells slots : Nat} {Q : State → Prop}
variable {mc ms : Nat} {free : Addr → Prop} {A0 A1 : Nat → Prop} {H0 : Heap} {a : Array Value} {pc : Nat} {ls : Array Slot} {st0 rest : List Value}
theorem vx_keep {st₀ t T' : State} {L : List Loc} (h0 : st₀.heap = H) (e1 : T'.heap = t.heap) (hS : va_S A0 H0 H locs) (hA : ∀ q, q < H.size → A1 q → A0 q) (hf : ∀ q, free q → A0 q) (hL : ∀ q ∈ L, free q.base) (hF : va_F A1 st₀ t) :
    H.size ≤ T'.heap.size ∧ (∀ q : Nat, q < H.size → ¬ A1 q → T'.heap[q]? = H[q]?) ∧ va_S A0 H0 T'.heap (locs ++ L) := by
  obtain ⟨hz, hk⟩ := hF
  rw [h0] at hz hk
  exact ⟨by rw [e1]; exact hz, fun q h1 h2 => by rw [e1]; exact hk q h1 h2,
    ⟨Nat.le_trans hS.1 (by rw [e1]; exact hz), fun q h1 h2 => by rw [e1, hk q (Nat.lt_of_lt_of_le h1 hS.1) (fun z => h2 (hA q (Nat.lt_of_lt_of_le h1 hS.1) z))]; exact hS.2.1 q h1 h2, fun q hq => by
      rcases List.mem_append.mp hq with h | h
      · exact hS.2.2 q h
      · exact hf _ (hL q h)⟩⟩
theorem vx_calli {S SX : Type} {post : Int32 → S → Prop} {px : SX → Prop} {B : S → State → Prop} {BX : String → SX → State → Prop} {AX : Nat → Prop} (hr : vx_Run p l e R s m args below meth c H locs cells slots mc ms (F0 m pc ls st0) rest (va_Qi post B A1 a) (vx_X px BX AX) free) (hS : va_S A0 H0 H locs) (hA : ∀ q, q < H.size → A1 q → A0 q) (hf : ∀ q, free q → A0 q) (hAX : ∀ q, q < H.size → AX q → A0 q)
    (kx : ∀ (E : String) (ce : Cell) (q9 : Addr) (u : SX) (t : State) (H1 : Heap) (locs1 : List Loc), t.heap = H1 → s.vm.Alike t.vm → px u → BX E u t → H.size ≤ H1.size → (∀ q : Nat, q < H.size → ¬ AX q → H1[q]? = H[q]?) → va_S A0 H0 H1 locs1 → H1[q9]? = some ce → ce.vm = .none → s.vm.findClass E = some ce.cls → vx_W p l e R s m args below meth c H1 locs1 (cells + mc) (slots + ms) Q (F0 m pc ls rest) q9)
    (kk : ∀ (r : Int32) (u : S) (t : State) (H1 : Heap) (locs1 : List Loc), t.heap = H1 → s.vm.Alike t.vm → post r u → B u t → H.size ≤ H1.size → (∀ q : Nat, q < H.size → ¬ A1 q → H1[q]? = H[q]?) → va_S A0 H0 H1 locs1 → W p l e R s m args below meth c H1 locs1 (cells + mc) (slots + ms) Q (F0 m (pc + 3) ls (.int r :: rest))) : W p l e R s m args below meth c H locs cells slots Q (F0 m pc ls st0) := by
  intro T hT X
  rcases hr T hT X with ⟨v, st₀, t, T', L, h0, X', hL, e1, e2, ⟨⟨r, u, hv, hp, hb⟩, hF⟩, st⟩ | ⟨q, st₀, t, T', L, E, ce, h0, X', hL, e1, e2, ⟨u, hp, hb, hF⟩, hce, hcv, hcl, st⟩
  · cases hv
    obtain ⟨k1, k2, k3⟩ := vx_keep h0 e1 hS hA hf hL hF
    obtain ⟨t2, a1, b1⟩ := kk r u t T'.heap (locs ++ L) e1.symm (by rw [← e2]; exact X'.warmed.alike) hp hb k1 k2 k3 T' rfl X'
    exact ⟨t2, st t2 a1, b1⟩
  · obtain ⟨k1, k2, k3⟩ := vx_keep h0 e1 hS hAX hf hL hF
    obtain ⟨t2, a1, b1⟩ := kx E ce q u t T'.heap (locs ++ L) e1.symm (by rw [← e2]; exact X'.warmed.alike) hp hb k1 k2 k3 (by rw [e1]; exact hce) hcv hcl T' rfl X'
    exact ⟨t2, st.trans a1, b1⟩
theorem vx_calll {S SX : Type} {post : Int64 → S → Prop} {px : SX → Prop} {B : S → State → Prop} {BX : String → SX → State → Prop} {AX : Nat → Prop} (hr : vx_Run p l e R s m args below meth c H locs cells slots mc ms (F0 m pc ls st0) rest (va_Ql post B A1 a) (vx_X px BX AX) free) (hS : va_S A0 H0 H locs) (hA : ∀ q, q < H.size → A1 q → A0 q) (hf : ∀ q, free q → A0 q) (hAX : ∀ q, q < H.size → AX q → A0 q)
    (kx : ∀ (E : String) (ce : Cell) (q9 : Addr) (u : SX) (t : State) (H1 : Heap) (locs1 : List Loc), t.heap = H1 → s.vm.Alike t.vm → px u → BX E u t → H.size ≤ H1.size → (∀ q : Nat, q < H.size → ¬ AX q → H1[q]? = H[q]?) → va_S A0 H0 H1 locs1 → H1[q9]? = some ce → ce.vm = .none → s.vm.findClass E = some ce.cls → vx_W p l e R s m args below meth c H1 locs1 (cells + mc) (slots + ms) Q (F0 m pc ls rest) q9)
    (kk : ∀ (r : Int64) (u : S) (t : State) (H1 : Heap) (locs1 : List Loc), t.heap = H1 → s.vm.Alike t.vm → post r u → B u t → H.size ≤ H1.size → (∀ q : Nat, q < H.size → ¬ A1 q → H1[q]? = H[q]?) → va_S A0 H0 H1 locs1 → W p l e R s m args below meth c H1 locs1 (cells + mc) (slots + ms) Q (F0 m (pc + 3) ls (.long r :: rest))) : W p l e R s m args below meth c H locs cells slots Q (F0 m pc ls st0) := by
  intro T hT X
  rcases hr T hT X with ⟨v, st₀, t, T', L, h0, X', hL, e1, e2, ⟨⟨r, u, hv, hp, hb⟩, hF⟩, st⟩ | ⟨q, st₀, t, T', L, E, ce, h0, X', hL, e1, e2, ⟨u, hp, hb, hF⟩, hce, hcv, hcl, st⟩
  · cases hv
    obtain ⟨k1, k2, k3⟩ := vx_keep h0 e1 hS hA hf hL hF
    obtain ⟨t2, a1, b1⟩ := kk r u t T'.heap (locs ++ L) e1.symm (by rw [← e2]; exact X'.warmed.alike) hp hb k1 k2 k3 T' rfl X'
    exact ⟨t2, st t2 a1, b1⟩
  · obtain ⟨k1, k2, k3⟩ := vx_keep h0 e1 hS hAX hf hL hF
    obtain ⟨t2, a1, b1⟩ := kx E ce q u t T'.heap (locs ++ L) e1.symm (by rw [← e2]; exact X'.warmed.alike) hp hb k1 k2 k3 (by rw [e1]; exact hce) hcv hcl T' rfl X'
    exact ⟨t2, st.trans a1, b1⟩
theorem vx_callf {S SX : Type} {post : UInt32 → S → Prop} {px : SX → Prop} {B : S → State → Prop} {BX : String → SX → State → Prop} {AX : Nat → Prop} (hr : vx_Run p l e R s m args below meth c H locs cells slots mc ms (F0 m pc ls st0) rest (va_Qf post B A1 a) (vx_X px BX AX) free) (hS : va_S A0 H0 H locs) (hA : ∀ q, q < H.size → A1 q → A0 q) (hf : ∀ q, free q → A0 q) (hAX : ∀ q, q < H.size → AX q → A0 q)
    (kx : ∀ (E : String) (ce : Cell) (q9 : Addr) (u : SX) (t : State) (H1 : Heap) (locs1 : List Loc), t.heap = H1 → s.vm.Alike t.vm → px u → BX E u t → H.size ≤ H1.size → (∀ q : Nat, q < H.size → ¬ AX q → H1[q]? = H[q]?) → va_S A0 H0 H1 locs1 → H1[q9]? = some ce → ce.vm = .none → s.vm.findClass E = some ce.cls → vx_W p l e R s m args below meth c H1 locs1 (cells + mc) (slots + ms) Q (F0 m pc ls rest) q9)
    (kk : ∀ (r : UInt32) (u : S) (t : State) (H1 : Heap) (locs1 : List Loc), t.heap = H1 → s.vm.Alike t.vm → post r u → B u t → H.size ≤ H1.size → (∀ q : Nat, q < H.size → ¬ A1 q → H1[q]? = H[q]?) → va_S A0 H0 H1 locs1 → W p l e R s m args below meth c H1 locs1 (cells + mc) (slots + ms) Q (F0 m (pc + 3) ls (.float r :: rest))) : W p l e R s m args below meth c H locs cells slots Q (F0 m pc ls st0) := by
  intro T hT X
  rcases hr T hT X with ⟨v, st₀, t, T', L, h0, X', hL, e1, e2, ⟨⟨r, u, hv, hp, hb⟩, hF⟩, st⟩ | ⟨q, st₀, t, T', L, E, ce, h0, X', hL, e1, e2, ⟨u, hp, hb, hF⟩, hce, hcv, hcl, st⟩
  · cases hv
    obtain ⟨k1, k2, k3⟩ := vx_keep h0 e1 hS hA hf hL hF
    obtain ⟨t2, a1, b1⟩ := kk r u t T'.heap (locs ++ L) e1.symm (by rw [← e2]; exact X'.warmed.alike) hp hb k1 k2 k3 T' rfl X'
    exact ⟨t2, st t2 a1, b1⟩
  · obtain ⟨k1, k2, k3⟩ := vx_keep h0 e1 hS hAX hf hL hF
    obtain ⟨t2, a1, b1⟩ := kx E ce q u t T'.heap (locs ++ L) e1.symm (by rw [← e2]; exact X'.warmed.alike) hp hb k1 k2 k3 (by rw [e1]; exact hce) hcv hcl T' rfl X'
    exact ⟨t2, st.trans a1, b1⟩
theorem vx_calld {S SX : Type} {post : UInt64 → S → Prop} {px : SX → Prop} {B : S → State → Prop} {BX : String → SX → State → Prop} {AX : Nat → Prop} (hr : vx_Run p l e R s m args below meth c H locs cells slots mc ms (F0 m pc ls st0) rest (va_Qd post B A1 a) (vx_X px BX AX) free) (hS : va_S A0 H0 H locs) (hA : ∀ q, q < H.size → A1 q → A0 q) (hf : ∀ q, free q → A0 q) (hAX : ∀ q, q < H.size → AX q → A0 q)
    (kx : ∀ (E : String) (ce : Cell) (q9 : Addr) (u : SX) (t : State) (H1 : Heap) (locs1 : List Loc), t.heap = H1 → s.vm.Alike t.vm → px u → BX E u t → H.size ≤ H1.size → (∀ q : Nat, q < H.size → ¬ AX q → H1[q]? = H[q]?) → va_S A0 H0 H1 locs1 → H1[q9]? = some ce → ce.vm = .none → s.vm.findClass E = some ce.cls → vx_W p l e R s m args below meth c H1 locs1 (cells + mc) (slots + ms) Q (F0 m pc ls rest) q9)
    (kk : ∀ (r : UInt64) (u : S) (t : State) (H1 : Heap) (locs1 : List Loc), t.heap = H1 → s.vm.Alike t.vm → post r u → B u t → H.size ≤ H1.size → (∀ q : Nat, q < H.size → ¬ A1 q → H1[q]? = H[q]?) → va_S A0 H0 H1 locs1 → W p l e R s m args below meth c H1 locs1 (cells + mc) (slots + ms) Q (F0 m (pc + 3) ls (.double r :: rest))) : W p l e R s m args below meth c H locs cells slots Q (F0 m pc ls st0) := by
  intro T hT X
  rcases hr T hT X with ⟨v, st₀, t, T', L, h0, X', hL, e1, e2, ⟨⟨r, u, hv, hp, hb⟩, hF⟩, st⟩ | ⟨q, st₀, t, T', L, E, ce, h0, X', hL, e1, e2, ⟨u, hp, hb, hF⟩, hce, hcv, hcl, st⟩
  · cases hv
    obtain ⟨k1, k2, k3⟩ := vx_keep h0 e1 hS hA hf hL hF
    obtain ⟨t2, a1, b1⟩ := kk r u t T'.heap (locs ++ L) e1.symm (by rw [← e2]; exact X'.warmed.alike) hp hb k1 k2 k3 T' rfl X'
    exact ⟨t2, st t2 a1, b1⟩
  · obtain ⟨k1, k2, k3⟩ := vx_keep h0 e1 hS hAX hf hL hF
    obtain ⟨t2, a1, b1⟩ := kx E ce q u t T'.heap (locs ++ L) e1.symm (by rw [← e2]; exact X'.warmed.alike) hp hb k1 k2 k3 (by rw [e1]; exact hce) hcv hcl T' rfl X'
    exact ⟨t2, st.trans a1, b1⟩
theorem vx_callv {S SX : Type} {post : S → Prop} {px : SX → Prop} {B : S → State → Prop} {BX : String → SX → State → Prop} {AX : Nat → Prop} (hr : vx_Run p l e R s m args below meth c H locs cells slots mc ms (F0 m pc ls st0) rest (va_Qv post B A1 a) (vx_X px BX AX) free) (hS : va_S A0 H0 H locs) (hA : ∀ q, q < H.size → A1 q → A0 q) (hf : ∀ q, free q → A0 q) (hAX : ∀ q, q < H.size → AX q → A0 q)
    (kx : ∀ (E : String) (ce : Cell) (q9 : Addr) (u : SX) (t : State) (H1 : Heap) (locs1 : List Loc), t.heap = H1 → s.vm.Alike t.vm → px u → BX E u t → H.size ≤ H1.size → (∀ q : Nat, q < H.size → ¬ AX q → H1[q]? = H[q]?) → va_S A0 H0 H1 locs1 → H1[q9]? = some ce → ce.vm = .none → s.vm.findClass E = some ce.cls → vx_W p l e R s m args below meth c H1 locs1 (cells + mc) (slots + ms) Q (F0 m pc ls rest) q9)
    (kk : ∀ (u : S) (t : State) (H1 : Heap) (locs1 : List Loc), t.heap = H1 → s.vm.Alike t.vm → post u → B u t → H.size ≤ H1.size → (∀ q : Nat, q < H.size → ¬ A1 q → H1[q]? = H[q]?) → va_S A0 H0 H1 locs1 → W p l e R s m args below meth c H1 locs1 (cells + mc) (slots + ms) Q (F0 m (pc + 3) ls (rest))) : W p l e R s m args below meth c H locs cells slots Q (F0 m pc ls st0) := by
  intro T hT X
  rcases hr T hT X with ⟨v, st₀, t, T', L, h0, X', hL, e1, e2, ⟨⟨u, hv, hp, hb⟩, hF⟩, st⟩ | ⟨q, st₀, t, T', L, E, ce, h0, X', hL, e1, e2, ⟨u, hp, hb, hF⟩, hce, hcv, hcl, st⟩
  · cases hv
    obtain ⟨k1, k2, k3⟩ := vx_keep h0 e1 hS hA hf hL hF
    obtain ⟨t2, a1, b1⟩ := kk u t T'.heap (locs ++ L) e1.symm (by rw [← e2]; exact X'.warmed.alike) hp hb k1 k2 k3 T' rfl X'
    exact ⟨t2, st t2 a1, b1⟩
  · obtain ⟨k1, k2, k3⟩ := vx_keep h0 e1 hS hAX hf hL hF
    obtain ⟨t2, a1, b1⟩ := kx E ce q u t T'.heap (locs ++ L) e1.symm (by rw [← e2]; exact X'.warmed.alike) hp hb k1 k2 k3 (by rw [e1]; exact hce) hcv hcl T' rfl X'
    exact ⟨t2, st.trans a1, b1⟩
/-- caught by the row x of this method's table; the rows ahead don't take it -/
theorem vx_catch {own name : String} {E : String} {ce : Cell} {q : Addr} (hown : s.vm.findClass own = some m.cls) (pre : List ExceptionTableEntry) (x : ExceptionTableEntry) (suf : List ExceptionTableEntry) (hsplit : c.exceptionTable.toList = pre ++ x :: suf)
    (hpass : ∀ z ∈ pre, covers z pc = false ∨ (z.catchType ≠ 0 ∧ ∃ nm : String, (Cond.classLink own z.catchType nm).before args s = true ∧ va_Nc E nm s)) (hx : covers x pc = true) (h0 : x.catchType ≠ 0)
    (hlink : (Cond.classLink own x.catchType name).before args s = true) (hcast : (Cond.castable E name).before args s = true) (hcell : H[q]? = some ce) (hv : ce.vm = .none) (hcl : s.vm.findClass E = some ce.cls)
    (kk : W p l e R s m args below meth c H locs cells slots Q (F0 m x.handlerPc ls [.ref q])) : vx_W p l e R s m args below meth c H locs cells slots Q (F0 m pc ls rest) q := by
  intro T hT X
  have hpl : e.platform.magicAccessors = ({} : Platform).magicAccessors := by rw [X.admits.platform]
  obtain ⟨c3, c4, hc3, hc4, hasg⟩ := Cond.castable_spec hcast
  cases Option.some.inj (hc3.symm.trans hcl)
  obtain ⟨c5, hc5, hcl5⟩ := Cond.classLink_spec hown hlink e.platform hpl
  cases Option.some.inj (hc4.symm.trans hc5)
  obtain ⟨vm', X', st⟩ := X.thenCaughtThrough q (g := F0 m pc ls rest) rfl (Steps.refl _) (by rw [hT]; exact hcell) (by rw [hv]; rfl) (by obtain ⟨k9, h9, -⟩ := Vm.findClass_spec hcl; exact ⟨k9, h9⟩) pre x suf hsplit
    (fun z hz => by
      rcases hpass z hz with h | ⟨hz0, nm, hl1, hn1⟩
      · exact Or.inl h
      · obtain ⟨c6, hc6, hcl6⟩ := Cond.classLink_spec hown hl1 e.platform hpl
        obtain ⟨a8, b8, h1, h2, h3⟩ := hn1
        cases Option.some.inj (h1.symm.trans hcl)
        cases Option.some.inj (h2.symm.trans hc6)
        exact Or.inr ⟨hz0, _, hcl6, h3⟩) hx (Or.inr ⟨h0, c4, hcl5, hasg⟩)
  obtain ⟨t, a1, b1⟩ := kk (T.setVm vm') hT X'
  exact ⟨t, st.trans a1, b1⟩
end Rows
section Ends
variable {p : Program} {l : Launch} {e : Env} {R : Room} {s : State} {m : MethodId} {args : Array Value} {below : List Frame} {meth : Method} {c : Code} {H : Heap} {locs : List Loc} {cells slots : Nat} {Q : State → Prop}
variable {mc ms : Nat} {free : Addr → Prop} {A0 A1 : Nat → Prop} {H0 : Heap} {a : Array Value} {ls : Array Slot} {st0 rest : List Value}
variable {Qc : Array Value → State → Outcome → State → Prop} {XC : String → State → State → Prop}
/-- what a body that may throw owes at its end -/
def vx_MQ (below : List Frame) (Qc : Array Value → State → Outcome → State → Prop) (XC : String → State → State → Prop) (a : Array Value) (s : State) (mc ms : Nat) (free : Addr → Prop) : State → Prop := fun t =>
  ∃ o, t.status = .running ∧ Ended t below o ∧ vx_Q Qc XC mc ms free a s o t
theorem vx_ret {g : JFrame} {mc ms : Nat} (k : W p l e R s m args below meth c H locs cells slots (MQ below Qc args s mc ms free) g) : W p l e R s m args below meth c H locs cells slots (vx_MQ below Qc XC args s mc ms free) g := by
  intro T hT X
  obtain ⟨t, a1, o, b1, b2, b3, b4⟩ := k T hT X
  exact ⟨t, a1, o, b1, b2, Or.inl ⟨b3, b4⟩⟩
/-- not caught here: it goes on to the caller -/
theorem vx_widen {g : JFrame} {q : Addr} {k n : Nat} (h1 : cells ≤ k) (h2 : slots ≤ n) (kk : vx_W p l e R s m args below meth c H locs k n Q g q) : vx_W p l e R s m args below meth c H locs cells slots Q g q := fun T hT X => kk T hT (stand_widen X h1 h2)
theorem vx_out {pc : Nat} {E : String} {ce : Cell} {q : Addr} {mc ms : Nat} (hout : ∀ x ∈ c.exceptionTable.toList, covers x pc = false) (hlocks : meth.locks = false) (hcell : H[q]? = some ce) (hv : ce.vm = .none) (hcl : s.vm.findClass E = some ce.cls)
    (hx : ∀ t : State, t.heap = H → s.vm.Alike t.vm → XC E s t) (hf : ∀ z ∈ locs, free z.base) (hc : cells ≤ mc) (hs : slots ≤ ms) :
    vx_W p l e R s m args below meth c H locs cells slots (vx_MQ below Qc XC args s mc ms free) (F0 m pc ls rest) q := by
  intro T hT X
  obtain ⟨st1, hrun, hend, hW, hsm⟩ := X.leaveThrown q (g := F0 m pc ls rest) rfl rfl rfl hout hlocks
  have hcell9 : (T.setFrames (.throwing q :: below)).heap[q]? = some ce := by
    show T.heap[q]? = some ce
    rw [hT]; exact hcell
  exact ⟨_, st1, .threw q, hrun, hend, Or.inr ⟨q, rfl, E, ce, locs, hx _ hT hW.alike, hcell9, hv, hcl, hW, hsm.mono hc hs, hf⟩⟩
theorem vx_frame {U : State} {k n : Nat} (h : s.sameButNew ({ U with vm := s.vm } : State) locs k n) : s.heap.size ≤ U.heap.size ∧ ∀ q : Nat, q < s.heap.size → (∀ z ∈ locs, z.base ≠ q) → U.heap[q]? = s.heap[q]? := by
  obtain ⟨-, h2, -, -, -, h6⟩ := h
  refine ⟨h2, fun q hq hz => ?_⟩
  obtain ⟨c9, e1, e2, e3, e4⟩ := h6 q _ (Array.getElem?_eq_getElem hq)
  have hs : c9.slots = (s.heap[q]).slots := Array.ext_getElem? fun i => e4 i fun hm => hz _ hm rfl
  have h9 : c9 = s.heap[q] := by
    rw [hs] at e2
    exact e2
  have e5 : U.heap[q]? = some c9 := e1
  rw [e5, h9, Array.getElem?_eq_getElem hq]
/-- the words of a throw but the four that speak of the heap -/
def vx_no (w : Cond) : Bool := decide (w ≠ .isRef (.static Bundle.tN "UNASSIGNED_STACK" Bundle.steD)) && decide (w ≠ .isRef (.static Bundle.tN "SUPPRESSED_SENTINEL" Bundle.listD)) && decide (w ≠ .laysStatic Bundle.tN "UNASSIGNED_STACK" Bundle.steD) && decide (w ≠ .laysStatic Bundle.tN "SUPPRESSED_SENTINEL" Bundle.listD)
def vx_at0 (own : String) (ic : Nat) (X : String) (names : List String) : List Cond := (Bundle.ownAtoms0 own ic X names).filter vx_no
def vx_atS (own : String) (ic : Nat) (X : String) (names : List String) : List Cond := (Bundle.ownAtoms own ic X names).filter vx_no
/-- a word that the tables alone decide, or a good one -/
def vx_ot (w : Cond) : Bool := w.onTables || goodWord w
theorem vx_ot_at {args a' : Array Value} {s U : State} {w : Cond} (hW : s.WarmedH U.vm) (hvm : s.vm = U.vm) (hg : vx_ot w = true) (h : w.before args s = true) : w.before a' U = true := by
  simp only [vx_ot, Bool.or_eq_true] at hg
  rcases hg with hg | hg
  · exact va_tabs hg hvm h
  · exact word_at hW (good_of_word hg) h
/-- a list's words: the good ones out of the method's own list, the others by premises of their own -/
theorem vx_hat {args : Array Value} {s : State} {L B : List Cond} (h1 : ∀ w ∈ L.filter goodWord, w.before args s = true) (h2 : ∀ w ∈ L.filter (fun w => !goodWord w), w ∈ B) (h3 : ∀ w ∈ B, w.before args s = true) : ∀ w ∈ L, w.before args s = true := by
  intro w hw
  by_cases g : goodWord w = true
  · exact h1 w (List.mem_filter.mpr ⟨hw, g⟩)
  · refine h3 w (h2 w (List.mem_filter.mpr ⟨hw, ?_⟩))
    show (!goodWord w) = true
    cases hgw : goodWord w
    · rfl
    · exact absurd hgw g
theorem vx_c {args : Array Value} {s : State} {w : Cond} {B : List Cond} (h : w.before args s = true) (t : ∀ w ∈ B, w.before args s = true) : ∀ w' ∈ w :: B, w'.before args s = true := fun w' h' => (List.mem_cons.mp h').elim (fun e => by rw [e]; exact h) (t w')
theorem vx_n {args : Array Value} {s : State} : ∀ w ∈ ([] : List Cond), w.before args s = true := fun _ h => nomatch h
theorem vx_own {args : Array Value} {s : State} {L : List Cond} (h1 : ∀ w ∈ L.filter vx_no, w.before args s = true)
    (hU : (Cond.isRef (.static Bundle.tN "UNASSIGNED_STACK" Bundle.steD)).before args s = true) (hN : (Cond.isRef (.static Bundle.tN "SUPPRESSED_SENTINEL" Bundle.listD)).before args s = true)
    (lU : (Cond.laysStatic Bundle.tN "UNASSIGNED_STACK" Bundle.steD).before args s = true) (lN : (Cond.laysStatic Bundle.tN "SUPPRESSED_SENTINEL" Bundle.listD).before args s = true) : ∀ w ∈ L, w.before args s = true := by
  intro w hw
  by_cases e1 : w = .isRef (.static Bundle.tN "UNASSIGNED_STACK" Bundle.steD)
  · rw [e1]; exact hU
  · by_cases e2 : w = .isRef (.static Bundle.tN "SUPPRESSED_SENTINEL" Bundle.listD)
    · rw [e2]; exact hN
    · by_cases e3 : w = .laysStatic Bundle.tN "UNASSIGNED_STACK" Bundle.steD
      · rw [e3]; exact lU
      · by_cases e4 : w = .laysStatic Bundle.tN "SUPPRESSED_SENTINEL" Bundle.listD
        · rw [e4]; exact lN
        · exact h1 w (List.mem_filter.mpr ⟨hw, by unfold vx_no; rw [decide_eq_true e1, decide_eq_true e2, decide_eq_true e3, decide_eq_true e4]; rfl⟩)
/-- where a static field lies, its class's statics cell in H -/
def vx_L (C n d : String) (A : Nat → Prop) (U : State) (H : Heap) : Prop := ∃ (c : ClassId) (k : Class) (i : Nat) (f : Field) (a : Nat) (cell : Cell), U.vm.findClass C = some c ∧ U.fieldFound? C n d = some (c, k, i, f) ∧ f.isStatic = true ∧ k.statics = some a ∧ H[a]? = some cell ∧ cell.vm.isStatics = true ∧ cell.cls = c ∧ f.slot < cell.slots.size ∧ k.staticTypes[f.slot]? = some f.type ∧ ¬ A a
theorem vx_L.moved {C n d : String} {A : Nat → Prop} {u U : State} {H : Heap} (hvm : u.vm.Alike U.vm) (h : vx_L C n d A u H) : vx_L C n d A U H := by
  obtain ⟨c, k, i, f, a, cell, h1, h2, h3, h4, h5, h6, h7, h8, h9, h10⟩ := h
  obtain ⟨k', hi', he⟩ := State.fieldFound?_setVm hvm h2
  exact ⟨c, k', i, f, a, cell, by rw [hvm.findClass]; exact h1, hi', h3, by rw [he]; exact h4, h5, h6, h7, h8, by rw [he]; exact h9, h10⟩
theorem vx_L.kept {C n d : String} {A : Nat → Prop} {U : State} {H H1 : Heap} (h : vx_L C n d A U H) (hq : ∀ a : Nat, a < H.size → ¬ A a → H1[a]? = H[a]?) : vx_L C n d A U H1 := by
  obtain ⟨c, k, i, f, a, cell, h1, h2, h3, h4, h5, h6, h7, h8, h9, h10⟩ := h
  exact ⟨c, k, i, f, a, cell, h1, h2, h3, h4, by rw [hq a (Array.getElem?_eq_some_iff.mp h5).1 h10]; exact h5, h6, h7, h8, h9, h10⟩
theorem vx_L.narrow {C n d : String} {A B : Nat → Prop} {U : State} {H : Heap} (h : vx_L C n d A U H) (hAB : ∀ q, B q → A q) : vx_L C n d B U H := by
  obtain ⟨c, k, i, f, a, cell, h1, h2, h3, h4, h5, h6, h7, h8, h9, h10⟩ := h
  exact ⟨c, k, i, f, a, cell, h1, h2, h3, h4, h5, h6, h7, h8, h9, fun z => h10 (hAB _ z)⟩
theorem vx_L.word {C n d : String} {A : Nat → Prop} {s : State} {args : Array Value} (h : vx_L C n d A s s.heap) : (Cond.laysStatic C n d).before args s = true := by
  obtain ⟨c, k, i, f, a, cell, h1, h2, h3, h4, h5, h6, h7, h8, h9, -⟩ := h
  show (Cond.laysStatic C n d).holds args s none s [] = true
  exact Cond.laysStatic_of h1 h2 h3 h4 h5 h6 h7 h8 h9
/-- .. and what it holds: null or some reference -/
def vx_Zq (C n d : String) (A : Nat → Prop) (U : State) (H : Heap) : Prop := va_Zq C n d A U H ∧ vx_L C n d A U H
theorem vx_Zq.moved {C n d : String} {A : Nat → Prop} {u U : State} {H : Heap} (hvm : u.vm.Alike U.vm) (h : vx_Zq C n d A u H) : vx_Zq C n d A U H := ⟨va_Zq.moved hvm h.1, vx_L.moved hvm h.2⟩
theorem vx_Zq.kept {C n d : String} {A : Nat → Prop} {U : State} {H H1 : Heap} (h : vx_Zq C n d A U H) (hq : ∀ a : Nat, a < H.size → ¬ A a → H1[a]? = H[a]?) : vx_Zq C n d A U H1 := ⟨va_Zq.kept h.1 hq, vx_L.kept h.2 hq⟩
theorem vx_Zq.narrow {C n d : String} {A B : Nat → Prop} {U : State} {H : Heap} (h : vx_Zq C n d A U H) (hAB : ∀ q, B q → A q) : vx_Zq C n d B U H := ⟨va_Zq.narrow h.1 hAB, vx_L.narrow h.2 hAB⟩
theorem vx_Zqof {args : Array Value} {s : State} {C n d : String} {A : Nat → Prop} (hl : (Cond.laysStatic C n d).before args s = true) (hini : (Cond.initialized C).before args s = true) (h : (Cond.isRef (.static C n d)).before args s = true) (hA : ∀ a : Nat, a < s.heap.size → ¬ A a) : vx_Zq C n d A s s.heap := by
  refine ⟨va_Zqof hl hini h hA, ?_⟩
  obtain ⟨c, k, i, f, a, cell, h1, h2, h3, h4, h5, h6, h7, h8, h9⟩ := Cond.laysStatic_spec hl
  exact ⟨c, k, i, f, a, cell, h1, h2, h3, h4, h5, h6, h7, h8, h9, hA a (Array.getElem?_eq_some_iff.mp h5).1⟩
theorem vx_isRef {C n d : String} {v : Value} {A : Nat → Prop} {s : State} {args : Array Value} (h : va_Z C n d v A s s.heap) (hv : v.isRef = true) : (Cond.isRef (.static C n d)).before args s = true := by
  obtain ⟨cf, kf, fi, f, a, cell, h1, h2, h3, h4, h5, h6, h7, -⟩ := h
  have he : (Term.static C n d).eval args s none [] s = some v := by
    simp [Term.eval, State.fieldNamed?, h1, h2, h4, h5, h6, h7]
  simp only [Cond.before, Cond.holds, Cond.value, he]
  cases v <;> simp_all [Value.isRef]
theorem vx_isRefq {C n d : String} {A : Nat → Prop} {s : State} {args : Array Value} (h : va_Zq C n d A s s.heap) : (Cond.isRef (.static C n d)).before args s = true := by
  rcases h with h | ⟨t, h⟩
  · exact vx_isRef h rfl
  · exact vx_isRef h rfl
/-- the same frame, seen from here: as if the method were called anew in this heap -/
theorem vx_rebase {T : State} (X : Stand p l e R s m args below meth c T locs cells slots) {R' : Room} (hf : R'.frames ≤ R.frames) (hl : R'.locals ≤ R.locals) (hc : cells + R'.cells ≤ R.cells) (hs : slots + R'.slots ≤ R.slots) :
    Stand p l e R' ((T.setVm s.vm).setFrames (.invoking m args :: below)) m args below meth c T [] 0 0 := by
  have htop : (T.setVm s.vm).topJava?.isSome := X.here.top
  have hF : ((T.setVm s.vm).setFrames (.invoking m args :: below)).frames = .invoking m args :: below := State.frames_setFrames _ (State.cur_lt_of_top htop)
  obtain ⟨g₀, hg0⟩ := Option.isSome_iff_exists.mp htop
  obtain ⟨r, hr⟩ := State.topJava?_eq_some.mp hg0
  have hl9 : e.platform.stackLimits (T.setVm s.vm).me = e.platform.stackLimits s.me := X.limits
  have hb9 : (T.setVm s.vm).me.stackBytes = s.me.stackBytes := X.bytes
  refine ⟨X.admits, X.cas, X.clock, hF, ?_, X.hears, X.method, X.code, X.here, X.tail, X.warmed, ?_, ?_, ?_⟩
  · have h := X.room
    have hU : ((T.setVm s.vm).setFrames (.invoking m args :: below)).localsInUse = s.localsInUse := by
      rw [State.localsInUse_invoking hF (meth := meth) (c := c) X.method X.code, State.localsInUse_invoking X.frames X.method X.code]
    simp only [State.hasRoom, Bool.and_eq_true, decide_eq_true_eq] at h ⊢
    obtain ⟨⟨⟨⟨h1, h2, h3, h4, h5, h6⟩, h7⟩, h8⟩, h9⟩ := h
    rw [X.frames, List.length_cons] at h2 h3
    have q1 := X.heapSize
    have q2 := X.used
    simp only [hF, hU, List.length_cons, State.stackLimits_setFrames, State.stackBytes_setFrames, hl9, hb9]
    refine ⟨⟨⟨⟨by omega, by omega, by omega, by omega, by omega, h6⟩, ?_⟩, ?_⟩, X.book⟩
    · show T.heap.size + R'.cells ≤ e.platform.maxCells
      omega
    · show T.slotsUsed + R'.slots ≤ e.platform.maxSlots
      omega
  · rw [State.stackLimits_setFrames]; rfl
  · rw [State.stackBytes_setFrames]; rfl
  · refine ⟨?_, Nat.le_refl _, Nat.le_refl _, ?_, ?_, fun a c9 h9 => ⟨c9, h9, rfl, rfl, fun _ _ => rfl⟩⟩
    · obtain ⟨t, ht, -⟩ := State.frames_cons hr
      show T.setVm s.vm = { ((T.setVm s.vm).setFrames (.invoking m args :: below)).setFrames (T.setVm s.vm).frames with heap := T.heap, slotsUsed := T.slotsUsed }
      rw [State.setFrames_setFrames, State.setFrames_self ht]
      rfl
    · show T.slotsUsed = T.slotsUsed + ((T.heap.toList.drop T.heap.size).map (·.slots.size)).sum
      rw [List.drop_eq_nil_of_le (Nat.le_of_eq Array.length_toList)]
      rfl
    · show ((T.heap.toList.drop T.heap.size).map (·.slots.size)).sum ≤ 0
      rw [List.drop_eq_nil_of_le (Nat.le_of_eq Array.length_toList)]
      exact Nat.le_refl _
/-- 'throw new E()': new; dup; invokespecial; athrow -/
theorem vx_throw0 {cc : ByteArray} {pc : Nat} (hexec : p.tables.exec = Jvm.exec) (hb : c.code = cc) (hl : l.stackTraces = false) {own cls : String} {names : List String} {ik ic mc ms : Nat} {A : Nat → Prop}
    (hown : s.vm.findClass own = some m.cls) (hcls : Bundle.fit cls = true) (hnames : ∀ n ∈ names, Bundle.fit n = true)
    (hk : (Cond.classLink own ik cls).before args s = true) (hini : (Cond.initialized cls).before args s = true) (hat : ∀ w ∈ vx_at0 own ic cls names, w.before args s = true)
    (hgood : ∀ w ∈ Cond.classLink own ik cls :: Cond.initialized cls :: vx_at0 own ic cls names, vx_ot w = true)
    (hU : vx_Zq Bundle.tN "UNASSIGNED_STACK" Bundle.steD A s s.heap) (hN : vx_Zq Bundle.tN "SUPPRESSED_SENTINEL" Bundle.listD A s s.heap) (hS : va_S A s.heap H locs) (hsize : ls.size = c.maxLocals)
    (d0 : decode cc pc = .ok (.new ik, 3)) (d3 : decode cc (pc + 3) = .ok (.dup, 1)) (d4 : decode cc (pc + 4) = .ok (.invokespecial ic, 3)) (d7 : decode cc (pc + 7) = .ok (.athrow, 1))
    (hout : ∀ x ∈ c.exceptionTable.toList, covers x (pc + 7) = false)
    (hRframes : names.length + 3 < R.frames) (hRlocals : (rest.map fun v => v.category).sum + (13 * (names.length + 1) + 42) ≤ R.locals) (hRcells : cells + 1 ≤ R.cells) (hRslots : slots + 6 ≤ R.slots) (hlocks : meth.locks = false)
    (hx : ∀ t : State, s.vm.Alike t.vm → H.size ≤ t.heap.size → (∀ q : Nat, q < H.size → t.heap[q]? = H[q]?) → XC cls s t)
    (hf : ∀ z ∈ locs, free z.base) (hc : cells + 1 ≤ mc) (hs : slots + 6 ≤ ms) :
    W p l e R s m args below meth c H locs cells slots (vx_MQ below Qc XC args s mc ms free) (F0 m pc ls rest) := by
  intro T hT X
  have htr : e.platform.stackTraces = false := (show e.platform.stackTraces = l.stackTraces by rw [X.admits.platform]).trans hl
  have Y := vx_rebase X (R' := { frames := R.frames, locals := R.locals, cells := 1, slots := 6 }) (Nat.le_refl _) (Nat.le_refl _) hRcells hRslots
  obtain ⟨s', hA⟩ : ∃ z, z = (T.setVm s.vm).setFrames (.invoking m args :: below) := ⟨_, rfl⟩
  rw [← hA] at Y
  have hvm : s'.vm = s.vm := by rw [hA]; rfl
  have hhp : s'.heap = H := by rw [hA]; exact hT
  have hW0 : s.WarmedH s'.vm := by rw [hvm]; exact State.WarmedH.refl s
  have hat' : ∀ w ∈ vx_at0 own ic cls names, w.before args s' = true := fun w hw => vx_ot_at hW0 hvm.symm (hgood w (List.mem_cons_of_mem _ (List.mem_cons_of_mem _ hw))) (hat w hw)
  have hk' : (Cond.classLink own ik cls).before args s' = true := vx_ot_at hW0 hvm.symm (hgood _ List.mem_cons_self) hk
  have hini' : (Cond.initialized cls).before args s' = true := vx_ot_at hW0 hvm.symm (hgood _ (List.mem_cons_of_mem _ List.mem_cons_self)) hini
  have hU' : vx_Zq Bundle.tN "UNASSIGNED_STACK" Bundle.steD A s' s'.heap := by rw [hhp]; exact vx_Zq.moved hW0.alike (hU.kept hS.2.1)
  have hN' : vx_Zq Bundle.tN "SUPPRESSED_SENTINEL" Bundle.listD A s' s'.heap := by rw [hhp]; exact vx_Zq.moved hW0.alike (hN.kept hS.2.1)
  have h : ∀ w ∈ Bundle.ownAtoms0 own ic cls names, w.before args s' = true := vx_own hat' (vx_isRefq hU'.1) (vx_isRefq hN'.1) hU'.2.word hN'.2.word
  have hown' : s'.vm.findClass own = some m.cls := by rw [hvm]; exact hown
  have hins : (Cond.instantiable cls 6).before args s' = true := h _ (by simp [Bundle.ownAtoms0])
  obtain ⟨vm₁, cX, kX, hfX, hkX, -, -, X₁, st1⟩ := Y.newCold hexec (own := own) (C := cls) (index := ik) (n := 6) hown' hk' hins hini'
    (g := F0 m pc ls rest) rfl (by rw [hb]; exact d0) (Nat.le_refl _) (Nat.le_refl _)
  generalize hT1 : (T.setVm vm₁).pushCell { cls := cX, slots := kX.instanceTypes.map defaultValue, vm := .none } = T1 at X₁ st1
  have hcat : (Value.ref T.heap.size).category = 1 := rfl
  have hcellA : T1.heap[T.heap.size]? = some (freshCell cX kX) := by rw [← hT1]; exact State.heap_pushCell_size _ _
  have d3' : decode c.code (pc + 3) = .ok (.dup, 1) := by rw [hb]; exact d3
  obtain ⟨U, hsteps, hrun, hend, hW, hsame, ce, hce, hO⟩ := X₁.ctorThrow0 hexec htr (own := own) (cls := cls) (names := names) (ic := ic) hown' hcls hnames h (fun x hx => nomatch hx) hfX hkX hcellA (by rw [hhp, hT]; exact Nat.le_refl _)
    (g := { method := m, pc := pc + 4, locals := ls, stack := .ref T.heap.size :: .ref T.heap.size :: rest, locked := none }) rfl hsize rfl rfl (rest := rest) rfl
    (by rw [hb]; exact d4) (by rw [hb]; exact d7) hout hRframes (by simp only [List.map_cons, List.sum_cons, hcat]; omega) hlocks
  obtain ⟨f1, f2⟩ := vx_frame hsame
  rw [hhp] at f1 f2
  have hWs : s.WarmedH U.vm := State.WarmedH.trans hW0 hW
  have hcl : s.vm.findClass cls = some ce.cls := by
    have h9 := hO.cls
    rw [hvm] at h9
    exact h9
  have hall : s.sameButNew ({ U with vm := s.vm } : State) locs mc ms := by
    subst hA
    obtain ⟨e1, e2⟩ := hsame
    rw [State.setFrames_setFrames] at e1
    have h2 : (T.setVm s.vm).sameButNew ({ U with vm := s.vm } : State) [] (0 + 1) (0 + 6) := ⟨e1, e2⟩
    have h3 := X.same.trans h2
    rw [List.append_nil] at h3
    exact h3.mono hc hs
  refine ⟨U, ?_, .threw T.heap.size, hrun, hend, Or.inr ⟨T.heap.size, rfl, cls, ce, locs, hx U hWs.alike f1 (fun q hq => f2 q hq (fun z hz => nomatch hz)), hce, hO.vm, hcl, hWs, hall, hf⟩⟩
  refine st1 _ ?_
  show Steps p.tables e below (T1.setTop { method := m, pc := pc + 3, locals := ls, stack := .ref T.heap.size :: rest, locked := none }) _
  jvm_step X₁.here [X₁.here.top, hexec, d3', Value.category]
  exact hsteps
/-- 'throw new E("text")': new; dup; ldc; invokespecial; athrow -/
theorem vx_throwS {cc : ByteArray} {pc : Nat} (hexec : p.tables.exec = Jvm.exec) (hb : c.code = cc) (hl : l.stackTraces = false) {own cls text : String} {names : List String} {ik is ic mc ms sa : Nat} {A : Nat → Prop}
    (hown : s.vm.findClass own = some m.cls) (hcls : Bundle.fit cls = true) (hnames : ∀ n ∈ names, Bundle.fit n = true)
    (hk : (Cond.classLink own ik cls).before args s = true) (hini : (Cond.initialized cls).before args s = true) (hstr : vk_R own is text sa s) (hat : ∀ w ∈ vx_atS own ic cls names, w.before args s = true)
    (hgood : ∀ w ∈ Cond.classLink own ik cls :: Cond.initialized cls :: vx_atS own ic cls names, vx_ot w = true)
    (hU : vx_Zq Bundle.tN "UNASSIGNED_STACK" Bundle.steD A s s.heap) (hN : vx_Zq Bundle.tN "SUPPRESSED_SENTINEL" Bundle.listD A s s.heap) (hS : va_S A s.heap H locs) (hsize : ls.size = c.maxLocals)
    (d0 : decode cc pc = .ok (.new ik, 3)) (d3 : decode cc (pc + 3) = .ok (.dup, 1)) (d4 : decode cc (pc + 4) = .ok (.ldc is, 2)) (d6 : decode cc (pc + 6) = .ok (.invokespecial ic, 3)) (d9 : decode cc (pc + 9) = .ok (.athrow, 1))
    (hout : ∀ x ∈ c.exceptionTable.toList, covers x (pc + 9) = false)
    (hRframes : names.length + 3 < R.frames) (hRlocals : (rest.map fun v => v.category).sum + (13 * (names.length + 1) + 43) ≤ R.locals) (hRcells : cells + 1 ≤ R.cells) (hRslots : slots + 6 ≤ R.slots) (hlocks : meth.locks = false)
    (hx : ∀ t : State, s.vm.Alike t.vm → H.size ≤ t.heap.size → (∀ q : Nat, q < H.size → t.heap[q]? = H[q]?) → XC cls s t)
    (hf : ∀ z ∈ locs, free z.base) (hc : cells + 1 ≤ mc) (hs : slots + 6 ≤ ms) :
    W p l e R s m args below meth c H locs cells slots (vx_MQ below Qc XC args s mc ms free) (F0 m pc ls rest) := by
  intro T hT X
  have htr : e.platform.stackTraces = false := (show e.platform.stackTraces = l.stackTraces by rw [X.admits.platform]).trans hl
  have Y := vx_rebase X (R' := { frames := R.frames, locals := R.locals, cells := 1, slots := 6 }) (Nat.le_refl _) (Nat.le_refl _) hRcells hRslots
  obtain ⟨s', hA⟩ : ∃ z, z = (T.setVm s.vm).setFrames (.invoking m args :: below) := ⟨_, rfl⟩
  rw [← hA] at Y
  have hvm : s'.vm = s.vm := by rw [hA]; rfl
  have hhp : s'.heap = H := by rw [hA]; exact hT
  have hW0 : s.WarmedH s'.vm := by rw [hvm]; exact State.WarmedH.refl s
  have hat' : ∀ w ∈ vx_atS own ic cls names, w.before args s' = true := fun w hw => vx_ot_at hW0 hvm.symm (hgood w (List.mem_cons_of_mem _ (List.mem_cons_of_mem _ hw))) (hat w hw)
  have hk' : (Cond.classLink own ik cls).before args s' = true := vx_ot_at hW0 hvm.symm (hgood _ List.mem_cons_self) hk
  have hini' : (Cond.initialized cls).before args s' = true := vx_ot_at hW0 hvm.symm (hgood _ (List.mem_cons_of_mem _ List.mem_cons_self)) hini
  have hU' : vx_Zq Bundle.tN "UNASSIGNED_STACK" Bundle.steD A s' s'.heap := by rw [hhp]; exact vx_Zq.moved hW0.alike (hU.kept hS.2.1)
  have hN' : vx_Zq Bundle.tN "SUPPRESSED_SENTINEL" Bundle.listD A s' s'.heap := by rw [hhp]; exact vx_Zq.moved hW0.alike (hN.kept hS.2.1)
  have h : ∀ w ∈ Bundle.ownAtoms own ic cls names, w.before args s' = true := vx_own hat' (vx_isRefq hU'.1) (vx_isRefq hN'.1) hU'.2.word hN'.2.word
  have hown' : s'.vm.findClass own = some m.cls := by rw [hvm]; exact hown
  have hins : (Cond.instantiable cls 6).before args s' = true := h _ (by simp [Bundle.ownAtoms])
  obtain ⟨vm₁, cX, kX, hfX, hkX, -, -, X₁, st1⟩ := Y.newCold hexec (own := own) (C := cls) (index := ik) (n := 6) hown' hk' hins hini'
    (g := F0 m pc ls rest) rfl (by rw [hb]; exact d0) (Nat.le_refl _) (Nat.le_refl _)
  generalize hT1 : (T.setVm vm₁).pushCell { cls := cX, slots := kX.instanceTypes.map defaultValue, vm := .none } = T1 at X₁ st1
  have hcat : (Value.ref T.heap.size).category = 1 := rfl
  have hcellA : T1.heap[T.heap.size]? = some (freshCell cX kX) := by rw [← hT1]; exact State.heap_pushCell_size _ _
  have d3' : decode c.code (pc + 3) = .ok (.dup, 1) := by rw [hb]; exact d3
  have d4' : decode c.code (pc + 4) = .ok (.ldc is, 2) := by rw [hb]; exact d4
  have hstr' : vk_R own is text sa s' := vk_R.warm hW0 hstr
  obtain ⟨U, hsteps, hrun, hend, hW, hsame, ce, hce, hO⟩ := X₁.ctorThrowS hexec htr (own := own) (cls := cls) (names := names) (ic := ic) hown' hcls hnames h (fun x hx => nomatch hx) hfX hkX hcellA (by rw [hhp, hT]; exact Nat.le_refl _) (msg := .ref sa) rfl
    (g := { method := m, pc := pc + 6, locals := ls, stack := .ref sa :: .ref T.heap.size :: .ref T.heap.size :: rest, locked := none }) rfl hsize rfl rfl (rest := rest) rfl
    (by rw [hb]; exact d6) (by rw [hb]; exact d9) hout hRframes (by simp only [List.map_cons, List.sum_cons, hcat]; omega) hlocks
  obtain ⟨f1, f2⟩ := vx_frame hsame
  rw [hhp] at f1 f2
  have hWs : s.WarmedH U.vm := State.WarmedH.trans hW0 hW
  have hcl : s.vm.findClass cls = some ce.cls := by
    have h9 := hO.cls
    rw [hvm] at h9
    exact h9
  have hall : s.sameButNew ({ U with vm := s.vm } : State) locs mc ms := by
    subst hA
    obtain ⟨e1, e2⟩ := hsame
    rw [State.setFrames_setFrames] at e1
    have h2 : (T.setVm s.vm).sameButNew ({ U with vm := s.vm } : State) [] (0 + 1) (0 + 6) := ⟨e1, e2⟩
    have h3 := X.same.trans h2
    rw [List.append_nil] at h3
    exact h3.mono hc hs
  refine ⟨U, ?_, .threw T.heap.size, hrun, hend, Or.inr ⟨T.heap.size, rfl, cls, ce, locs, hx U hWs.alike f1 (fun q hq => f2 q hq (fun z hz => nomatch hz)), hce, hO.vm, hcl, hWs, hall, hf⟩⟩
  refine st1 _ ?_
  show Steps p.tables e below (T1.setTop { method := m, pc := pc + 3, locals := ls, stack := .ref T.heap.size :: rest, locked := none }) _
  jvm_step X₁.here [X₁.here.top, hexec, d3', Value.category]
  exact X₁.ldcString hexec (own := own) (text := text) (index := is) (a := sa) hown' hstr'.1 hstr'.2
    (g := { method := m, pc := pc + 4, locals := ls, stack := .ref T.heap.size :: .ref T.heap.size :: rest, locked := none }) rfl d4' _ hsteps
/-- 'throw new E("text")', the text by a wide index -/
theorem vx_throwSW {cc : ByteArray} {pc : Nat} (hexec : p.tables.exec = Jvm.exec) (hb : c.code = cc) (hl : l.stackTraces = false) {own cls text : String} {names : List String} {ik is ic mc ms sa : Nat} {A : Nat → Prop}
    (hown : s.vm.findClass own = some m.cls) (hcls : Bundle.fit cls = true) (hnames : ∀ n ∈ names, Bundle.fit n = true)
    (hk : (Cond.classLink own ik cls).before args s = true) (hini : (Cond.initialized cls).before args s = true) (hstr : vk_R own is text sa s) (hat : ∀ w ∈ vx_atS own ic cls names, w.before args s = true)
    (hgood : ∀ w ∈ Cond.classLink own ik cls :: Cond.initialized cls :: vx_atS own ic cls names, vx_ot w = true)
    (hU : vx_Zq Bundle.tN "UNASSIGNED_STACK" Bundle.steD A s s.heap) (hN : vx_Zq Bundle.tN "SUPPRESSED_SENTINEL" Bundle.listD A s s.heap) (hS : va_S A s.heap H locs) (hsize : ls.size = c.maxLocals)
    (d0 : decode cc pc = .ok (.new ik, 3)) (d3 : decode cc (pc + 3) = .ok (.dup, 1)) (d4 : decode cc (pc + 4) = .ok (.ldc_w is, 3)) (d7 : decode cc (pc + 7) = .ok (.invokespecial ic, 3)) (d10 : decode cc (pc + 10) = .ok (.athrow, 1))
    (hout : ∀ x ∈ c.exceptionTable.toList, covers x (pc + 10) = false)
    (hRframes : names.length + 3 < R.frames) (hRlocals : (rest.map fun v => v.category).sum + (13 * (names.length + 1) + 43) ≤ R.locals) (hRcells : cells + 1 ≤ R.cells) (hRslots : slots + 6 ≤ R.slots) (hlocks : meth.locks = false)
    (hx : ∀ t : State, s.vm.Alike t.vm → H.size ≤ t.heap.size → (∀ q : Nat, q < H.size → t.heap[q]? = H[q]?) → XC cls s t)
    (hf : ∀ z ∈ locs, free z.base) (hc : cells + 1 ≤ mc) (hs : slots + 6 ≤ ms) :
    W p l e R s m args below meth c H locs cells slots (vx_MQ below Qc XC args s mc ms free) (F0 m pc ls rest) := by
  intro T hT X
  have htr : e.platform.stackTraces = false := (show e.platform.stackTraces = l.stackTraces by rw [X.admits.platform]).trans hl
  have Y := vx_rebase X (R' := { frames := R.frames, locals := R.locals, cells := 1, slots := 6 }) (Nat.le_refl _) (Nat.le_refl _) hRcells hRslots
  obtain ⟨s', hA⟩ : ∃ z, z = (T.setVm s.vm).setFrames (.invoking m args :: below) := ⟨_, rfl⟩
  rw [← hA] at Y
  have hvm : s'.vm = s.vm := by rw [hA]; rfl
  have hhp : s'.heap = H := by rw [hA]; exact hT
  have hW0 : s.WarmedH s'.vm := by rw [hvm]; exact State.WarmedH.refl s
  have hat' : ∀ w ∈ vx_atS own ic cls names, w.before args s' = true := fun w hw => vx_ot_at hW0 hvm.symm (hgood w (List.mem_cons_of_mem _ (List.mem_cons_of_mem _ hw))) (hat w hw)
  have hk' : (Cond.classLink own ik cls).before args s' = true := vx_ot_at hW0 hvm.symm (hgood _ List.mem_cons_self) hk
  have hini' : (Cond.initialized cls).before args s' = true := vx_ot_at hW0 hvm.symm (hgood _ (List.mem_cons_of_mem _ List.mem_cons_self)) hini
  have hU' : vx_Zq Bundle.tN "UNASSIGNED_STACK" Bundle.steD A s' s'.heap := by rw [hhp]; exact vx_Zq.moved hW0.alike (hU.kept hS.2.1)
  have hN' : vx_Zq Bundle.tN "SUPPRESSED_SENTINEL" Bundle.listD A s' s'.heap := by rw [hhp]; exact vx_Zq.moved hW0.alike (hN.kept hS.2.1)
  have h : ∀ w ∈ Bundle.ownAtoms own ic cls names, w.before args s' = true := vx_own hat' (vx_isRefq hU'.1) (vx_isRefq hN'.1) hU'.2.word hN'.2.word
  have hown' : s'.vm.findClass own = some m.cls := by rw [hvm]; exact hown
  have hins : (Cond.instantiable cls 6).before args s' = true := h _ (by simp [Bundle.ownAtoms])
  obtain ⟨vm₁, cX, kX, hfX, hkX, -, -, X₁, st1⟩ := Y.newCold hexec (own := own) (C := cls) (index := ik) (n := 6) hown' hk' hins hini'
    (g := F0 m pc ls rest) rfl (by rw [hb]; exact d0) (Nat.le_refl _) (Nat.le_refl _)
  generalize hT1 : (T.setVm vm₁).pushCell { cls := cX, slots := kX.instanceTypes.map defaultValue, vm := .none } = T1 at X₁ st1
  have hcat : (Value.ref T.heap.size).category = 1 := rfl
  have hcellA : T1.heap[T.heap.size]? = some (freshCell cX kX) := by rw [← hT1]; exact State.heap_pushCell_size _ _
  have d3' : decode c.code (pc + 3) = .ok (.dup, 1) := by rw [hb]; exact d3
  have d4' : decode c.code (pc + 4) = .ok (.ldc_w is, 3) := by rw [hb]; exact d4
  have hstr' : vk_R own is text sa s' := vk_R.warm hW0 hstr
  obtain ⟨U, hsteps, hrun, hend, hW, hsame, ce, hce, hO⟩ := X₁.ctorThrowS hexec htr (own := own) (cls := cls) (names := names) (ic := ic) hown' hcls hnames h (fun x hx => nomatch hx) hfX hkX hcellA (by rw [hhp, hT]; exact Nat.le_refl _) (msg := .ref sa) rfl
    (g := { method := m, pc := pc + 7, locals := ls, stack := .ref sa :: .ref T.heap.size :: .ref T.heap.size :: rest, locked := none }) rfl hsize rfl rfl (rest := rest) rfl
    (by rw [hb]; exact d7) (by rw [hb]; exact d10) hout hRframes (by simp only [List.map_cons, List.sum_cons, hcat]; omega) hlocks
  obtain ⟨f1, f2⟩ := vx_frame hsame
  rw [hhp] at f1 f2
  have hWs : s.WarmedH U.vm := State.WarmedH.trans hW0 hW
  have hcl : s.vm.findClass cls = some ce.cls := by
    have h9 := hO.cls
    rw [hvm] at h9
    exact h9
  have hall : s.sameButNew ({ U with vm := s.vm } : State) locs mc ms := by
    subst hA
    obtain ⟨e1, e2⟩ := hsame
    rw [State.setFrames_setFrames] at e1
    have h2 : (T.setVm s.vm).sameButNew ({ U with vm := s.vm } : State) [] (0 + 1) (0 + 6) := ⟨e1, e2⟩
    have h3 := X.same.trans h2
    rw [List.append_nil] at h3
    exact h3.mono hc hs
  refine ⟨U, ?_, .threw T.heap.size, hrun, hend, Or.inr ⟨T.heap.size, rfl, cls, ce, locs, hx U hWs.alike f1 (fun q hq => f2 q hq (fun z hz => nomatch hz)), hce, hO.vm, hcl, hWs, hall, hf⟩⟩
  refine st1 _ ?_
  show Steps p.tables e below (T1.setTop { method := m, pc := pc + 3, locals := ls, stack := .ref T.heap.size :: rest, locked := none }) _
  jvm_step X₁.here [X₁.here.top, hexec, d3', Value.category]
  exact X₁.ldcStringW hexec (own := own) (text := text) (index := is) (a := sa) hown' hstr'.1 hstr'.2
    (g := { method := m, pc := pc + 4, locals := ls, stack := .ref T.heap.size :: .ref T.heap.size :: rest, locked := none }) rfl d4' _ hsteps
end Ends
section Bodies
variable {l : Launch}
theorem vx_ofW {y : MethodName} {ws ws' : List Cond} {rm : Room} {Pc : Array Value → State → Prop} {Qc : Array Value → State → Outcome → State → Prop} {XC : String → State → State → Prop} {mc ms : Nat} {free : Addr → Prop} {cc : ByteArray} {maxL : Nat} {ret : Option FieldType}
    (hy : plainName y.cls = true) (hw : ws = Cond.code y cc maxL ret :: ws')
    (body : ∀ p e s m args below meth c s₁, BodyLoose p l y (headSpec ws rm) cc maxL ret e s m args below meth c s₁ → c.maxLocals = maxL → (∀ x ∈ c.exceptionTable.toList, False) → Pc args s →
      W p l e (headSpec ws rm).room s m args below meth c s.heap [] 0 0 (vx_MQ below Qc XC args s mc ms free) (entryFrame m args maxL)) : vx_Met l y ws rm Pc Qc XC mc ms free := by
  refine MetFree.of_bodyS (code := cc) (maxLocals := maxL) (ret := ret) hy ?_ ?_
  · intro args s m h hn
    obtain ⟨meth, c, h1, h2, h3, h4, h5, h6, -, -⟩ := Cond.code_spec hn (atoms_spec (ws := ws) h _ (by rw [hw]; exact List.mem_cons_self))
    exact ⟨meth, c, h1, h2, h3, h4, h5, h6⟩
  · intro p e s m args below meth c s₁ B hml hP _
    have hh0 : s₁.heap = s.heap := by rw [B.state]; rfl
    have ht : ∀ x ∈ c.exceptionTable.toList, False := by
      obtain ⟨meth9, c9, h1, h2, -, -, -, -, h7, -⟩ := Cond.code_spec B.named (atoms_spec (ws := ws) B.pre _ (by rw [hw]; exact List.mem_cons_self))
      cases Option.some.inj (h1.symm.trans B.method)
      cases Option.some.inj (h2.symm.trans (Stand.of_body B).code)
      intro x hx
      rw [Array.isEmpty_iff.mp h7] at hx
      cases hx
    obtain ⟨t, a1, o, b1, b2, b3⟩ := body p e s m args below meth c s₁ B hml ht hP s₁ hh0 (Stand.of_body B)
    exact ⟨t, o, a1, b1, b2, b3⟩
/-- the table of a body with handlers -/
theorem vx_table {p : Program} {x y : MethodName} {S : Spec} {cc bytes : ByteArray} {maxL maxL' : Nat} {ret ret' : Option FieldType} {e : Env} {s s₁ : State} {m : MethodId} {args : Array Value} {below : List Frame} {meth : Method} {c : Code} {hh : List (Nat × Nat × Nat × Nat)}
    (B : BodyLoose p l y S cc maxL ret e s m args below meth c s₁) (h : (Cond.codeWith y bytes maxL' ret' hh).before args s = true) : c.exceptionTable.toList = tableOf hh := by
  obtain ⟨m9, meth9, c9, hn9, h1, h2, -, -, h6, -⟩ := Cond.codeWith_spec h
  cases Option.some.inj (hn9.symm.trans B.named)
  cases Option.some.inj (h1.symm.trans B.method)
  cases Option.some.inj (h2.symm.trans (Stand.of_body B).code)
  rw [← h6, table_eq]
end Bodies
end VXA
/-! ===== END ===== -/
/-! ===== BEGIN a static call of a method with an exception table ===== -/
section VXS
variable {p : Program} {l : Launch} {e : Env} {R : Room} {s : State} {m : MethodId} {args : Array Value} {below : List Frame} {meth : Method} {c : Code} {T : State} {H : Heap} {locs : List Loc} {cells slots : Nat}
abbrev vx_CSW (R : Room) (s : State) (args : Array Value) (own : String) (index : Nat) (y : MethodName) (bytes : ByteArray) (maxL : Nat) (ret : Option FieldType) (hh : List (Nat × Nat × Nat × Nat)) (ws : List Cond) (rm : Room) (mc ms n : Nat) : Prop :=
  (rm.cells = mc ∧ rm.slots = ms ∧ rm.frames + 1 ≤ R.frames ∧ 8 + (maxL + 11) + rm.locals ≤ R.locals ∧ (∀ w ∈ ws, ∀ (a' : Array Value) (U : State), s.WarmedH U.vm → w.before a' U = true) ∧ Cond.codeWith y bytes maxL ret hh ∈ ws) ∧
  (Cond.codeWith y bytes maxL ret hh).before args s = true ∧ (Cond.initialized y.cls).before args s = true ∧ (y.cls ≠ "java/lang/invoke/MethodHandle" ∧ y.cls ≠ "java/lang/invoke/VarHandle") ∧
  (∀ sig, parseMethodDescriptor y.desc = some sig → n = sig.parameters.length) ∧ (Cond.methodLink own index y).before args s = true ∧ (Cond.static y).before args s = true
theorem vx_cwSW {own : String} {index maxL mc ms : Nat} {y : MethodName} {bytes : ByteArray} {ret : Option FieldType} {hh : List (Nat × Nat × Nat × Nat)} {Ts ws ws' : List Cond} {rm : Room} (n : Nat) (ht : ∀ w ∈ Ts, w.before args s = true) (hT : GoodIn Ts (va_wsS own index y ws)) (hw : ws = Cond.codeWith y bytes maxL ret hh :: ws') (hrc : rm.cells = mc) (hrs : rm.slots = ms)
    (hd : y.cls ≠ "java/lang/invoke/MethodHandle" ∧ y.cls ≠ "java/lang/invoke/VarHandle" ∧ (parseMethodDescriptor y.desc).map (fun d => d.parameters.length) = some n) (hR : rm.frames + 1 ≤ R.frames ∧ 8 + (maxL + 11) + rm.locals ≤ R.locals) :
    vx_CSW R s args own index y bytes maxL ret hh ws rm mc ms n := by
  have ok : ∀ w ∈ va_wsS own index y ws, w.before args s = true := fun w h => ht w (hT w h).1
  have hG : GoodIn Ts ws := fun w h => hT w (by unfold va_wsS; exact List.mem_append_right _ h)
  have hc : Cond.codeWith y bytes maxL ret hh ∈ ws := by rw [hw]; exact List.mem_cons_self
  refine ⟨⟨hrc, hrs, hR.1, hR.2, pay_in ht hG, hc⟩, ht _ (hG _ hc).1, ok _ (by simp [va_wsS]), ⟨hd.1, hd.2.1⟩, fun sig h => ?_, ok _ (by simp [va_wsS]), ok _ (by simp [va_wsS])⟩
  have h2 := hd.2.2
  rw [h] at h2
  exact (Option.some.inj h2).symm
theorem vx_callSW (X : Stand p l e R s m args below meth c T locs cells slots) (hexec : p.tables.exec = Jvm.exec) {own : String} {index : Nat} {y : MethodName} {bytes : ByteArray} {maxL : Nat} {ret : Option FieldType} {hh : List (Nat × Nat × Nat × Nat)}
    (hown : s.vm.findClass own = some m.cls) (hlink : (Cond.methodLink own index y).before args s = true) (hstat : (Cond.static y).before args s = true) (hinit : (Cond.initialized y.cls).before args s = true)
    (hcode : (Cond.codeWith y bytes maxL ret hh).before args s = true) (hy : y.cls ≠ "java/lang/invoke/MethodHandle" ∧ y.cls ≠ "java/lang/invoke/VarHandle")
    {W9 : Nat} {Pre : Pt → Array Value → Prop} {Post : Pt → Array Value → Option Value → Pt → Prop} (hK : Back l R p e below s args y 3 W9 Pre Post)
    {g : JFrame} (hg : g.method = m) (hsize : g.locals.size = c.maxLocals) {argsL rest : List Value} (hlen : ∀ sig, parseMethodDescriptor y.desc = some sig → argsL.length = sig.parameters.length)
    (hstack : g.stack = argsL.reverse ++ rest) (hW : 2 * g.monitorRoom + (rest.map fun v => v.category).sum ≤ W9) (hdg : decode c.code g.pc = .ok (.invokestatic index, 3))
    (hpre : ∀ vm₁, s.WarmedH vm₁ → Pre ⟨T.setVm vm₁, locs, cells, slots⟩ argsL.toArray) :
    ∃ (v : Option Value) (vm₁ : Vm) (B : Pt), s.WarmedH vm₁ ∧ Stand p l e R s m args below meth c B.U B.locs B.cells B.slots ∧ Post ⟨T.setVm vm₁, locs, cells, slots⟩ argsL.toArray v B ∧
      ∀ target, Steps p.tables e below (B.U.setTop { g with pc := g.pc + 3, stack := v.toList ++ rest }) target → Steps p.tables e below (T.setTop g) target := by
  obtain ⟨mk, methM, cM, hnamed, hmethM, -, -, -, -, -, -, hsigM⟩ := Cond.codeWith_spec hcode
  have hstatic : methM.isStatic = true := Cond.static_spec hnamed hmethM hstat
  obtain ⟨kP, hkP, -⟩ := className_of_methodNamed hnamed
  have hinitP : kP.init = .initialized := Cond.initialized_spec (findClass_of_methodNamed hnamed) hkP hinit
  obtain ⟨vm₁, X₁, hstep₁⟩ := X.invokestatic hexec hown hlink hnamed hmethM hstatic hkP hinitP hy (g := g) hg (argsL := argsL) (rest := rest) (hlen _ hsigM) hstack hdg
  obtain ⟨v, B, X', hpost, hsteps⟩ := hK m meth c ⟨T.setVm vm₁, locs, cells, slots⟩ { g with stack := rest } (.invokestatic index) mk argsL.toArray X₁ hg hsize hdg hW (X₁.named hnamed) (hpre vm₁ X₁.warmed)
  exact ⟨v, vm₁, B, X₁.warmed, X', hpost, fun target h => hstep₁ _ fun acts => by rw [doInvoke_state]; exact hsteps.trans h⟩
theorem vx_runSW {y : MethodName} {bytes cc : ByteArray} {maxL nL mc ms n index : Nat} {ret : Option FieldType} {hh : List (Nat × Nat × Nat × Nat)} {ws : List Cond} {rm : Room} {Pc : Array Value → State → Prop} {Qc : Array Value → State → Outcome → State → Prop} {free : Addr → Prop} {Ts : List Cond} {own : String} {As rest : List Value} {g : JFrame}
    (S : CallFix p m c cc nL s args Ts own) (hM : Met l y ws rm Pc Qc mc ms free) (cw : vx_CSW R s args own index y bytes maxL ret hh ws rm mc ms n) (hp : PreS s H Pc As)
    (hg : g.method = m) (hn : As.length = n) (hsize : g.locals.size = nL) (hstack : g.stack = As.reverse ++ rest) (hW : 2 * g.monitorRoom + (rest.map fun v => v.category).sum ≤ 8) (hdg : decode cc g.pc = .ok (.invokestatic index, 3)) (hf : cells + mc ≤ R.cells ∧ slots + ms ≤ R.slots) :
    va_Run p l e R s m args below meth c H locs cells slots mc ms g rest (Qc As.toArray) (free) := by
  obtain ⟨⟨hrc, hrs, hfr, hlo, hws, hcw⟩, hcode, hini, hy, hlen, hl, hstt⟩ := cw
  have hK : Back l R p e below s args y 3 8 (PreOf R mc ms Pc) (PostOf Qc mc ms free) := va_backW (hh := hh) (bytes := bytes) (maxL := maxL) (ret := ret) hM hp.1 hrc hrs hfr hlo hws hcw (fun a' U hW => word_at hW (Or.inl (by first | rfl | simp [Cond.onTables, Cond.keeps, Cond.steady])) hini)
  obtain ⟨hx, hb, hml, ho, -⟩ := S
  intro T hT X
  obtain ⟨v, vm₁, ⟨U', l2, c2, s2⟩, hW₁, X', ⟨g', mk, t, L, e1, e2, hq, h1, hL, h2, h3⟩, st⟩ := vx_callSW X hx (hh := hh) (bytes := bytes) (maxL := maxL) (ret := ret) ho hl hstt hini hcode hy hK hg (hsize.trans hml.symm) (argsL := As) (rest := rest) (fun sig h => hn.trans (hlen sig h)) hstack hW (by rw [hb]; exact hdg)
    (fun vm₁ hW₁ => ⟨hf.1, hf.2, hp.2 (T.setVm vm₁) hT hW₁⟩)
  dsimp only [Pt.U, Pt.locs, Pt.cells, Pt.slots] at X' e1 e2 h1 h2 h3 st
  subst h1; subst h2; subst h3
  exact ⟨v, (T.setVm vm₁).calling g' mk As.toArray, t, U', L, hT, X', hL, e1, e2, hq, st⟩
/-- not caught here, past rows that name other classes: it goes on to the caller -/
theorem vx_outP {p : Program} {l : Launch} {e : Env} {R : Room} {s : State} {m : MethodId} {args : Array Value} {below : List Frame} {meth : Method} {c : Code} {H : Heap} {locs : List Loc} {cells slots : Nat} {free : Addr → Prop} {ls : Array Slot} {rest : List Value} {Qc : Array Value → State → Outcome → State → Prop} {XC : String → State → State → Prop}
    {pc : Nat} {own E : String} {ce : Cell} {q : Addr} {mc ms : Nat} (hown : s.vm.findClass own = some m.cls) (hlocks : meth.locks = false)
    (hpass : ∀ z ∈ c.exceptionTable.toList, covers z pc = false ∨ (z.catchType ≠ 0 ∧ ∃ nm : String, (Cond.classLink own z.catchType nm).before args s = true ∧ va_Nc E nm s)) (hcell : H[q]? = some ce) (hv : ce.vm = .none) (hcl : s.vm.findClass E = some ce.cls)
    (hx : ∀ t : State, t.heap = H → s.vm.Alike t.vm → XC E s t) (hf : ∀ z ∈ locs, free z.base) (hc : cells ≤ mc) (hs : slots ≤ ms) :
    vx_W p l e R s m args below meth c H locs cells slots (vx_MQ below Qc XC args s mc ms free) (F0 m pc ls rest) q := by
  intro T hT X
  have hpl : e.platform.magicAccessors = ({} : Platform).magicAccessors := by rw [X.admits.platform]
  obtain ⟨vm', hW', X', st⟩ := X.outThrough hlocks q (g := F0 m pc ls rest) rfl rfl rfl (cell := ce) (by rw [hT]; exact hcell) (by rw [hv]; rfl)
    (by obtain ⟨k9, h9, -⟩ := Vm.findClass_spec hcl; exact ⟨k9, h9⟩) (fun z hz => by
      rcases hpass z hz with h | ⟨hz0, nm, hl1, hn1⟩
      · exact Or.inl h
      · obtain ⟨c6, hc6, hcl6⟩ := Cond.classLink_spec hown hl1 e.platform hpl
        obtain ⟨a8, b8, h1, h2, h3⟩ := hn1
        cases Option.some.inj (h1.symm.trans hcl)
        cases Option.some.inj (h2.symm.trans hc6)
        exact Or.inr ⟨hz0, _, hcl6, h3⟩)
  obtain ⟨g₀, hfr⟩ := X'.frames_eq
  have hcell9 : ((T.setVm vm').setFrames (.throwing q :: below)).heap[q]? = some ce := by
    show T.heap[q]? = some ce
    rw [hT]; exact hcell
  have hend : Ended ((T.setVm vm').setFrames (.throwing q :: below)) below (.threw q) := State.frames_setFrames _ (State.cur_lt_of_frames hfr)
  refine ⟨(T.setVm vm').setFrames (.throwing q :: below), ?_, .threw q, X'.here.running, hend, Or.inr ⟨q, rfl, E, ce, locs, hx _ hT (X'.ends _).1.alike, hcell9, hv, hcl, (X'.ends _).1, (X'.ends _).2.mono hc hs, hf⟩⟩
  rw [X.pushThrowing_eq]
  exact st
/-- a thing of a world lies in the heap -/
theorem vx_lt {D : va_G} {cl : List vw_C} {ws : va_W} {H1 : Heap} (h : va_P D cl ws H1) {k : Nat} {q : Nat × va_E} (hk : ws[k]? = some q) : q.1 < H1.size := (h k q hk).lt
end VXS
/-! ===== END ===== -/
/-! ===== BEGIN methods with a table of their own: called by a name, returning or throwing ===== -/
section VXH
/-! vx_backW, vx_callVX, vx_callSX, vx_callVW, vx_runVW, vx_runVX, vx_runSX, vx_ofWH follow the same proofs as their sisters above (Free/Laws.lean, Shelf42/LK1.lean); vx_outP calls Shelf42/NT130.lean (outThrough). -/
section
variable {l : Launch} {R : Room} {p : Program} {e : Env} {below : List Frame} {s : State} {sargs : Array Value} {y : MethodName} {len W9 : Nat}
theorem vx_backW {ws : List Cond} {rm : Room} {Pc : Array Value → State → Prop} {Qc : Array Value → State → Outcome → State → Prop} {XC : String → State → State → Prop} {mc ms : Nat} {free : Addr → Prop} {bytes : ByteArray} {maxL : Nat} {ret : Option FieldType} {hh : List (Nat × Nat × Nat × Nat)}
    (hM : vx_Met l y ws rm Pc Qc XC mc ms free) (hblind : FrameBlind Pc) (hrc : rm.cells = mc) (hrs : rm.slots = ms)
    (hframes : rm.frames + 1 ≤ R.frames) (hlocals : W9 + (maxL + 11) + rm.locals ≤ R.locals)
    (hws : ∀ w ∈ ws, ∀ a' U, s.WarmedH U.vm → w.before a' U = true) (hcode : Cond.codeWith y bytes maxL ret hh ∈ ws) (hinit : ∀ a' U, s.WarmedH U.vm → (Cond.initialized y.cls).before a' U = true) :
    vx_Back l R p e below s sargs y len W9 (PreOf R mc ms Pc) (PostOf Qc mc ms free) (vx_Post XC mc ms free) := by
  intro m meth c A g ig mk a X hg hsize hdg hW hn hp
  have h1 : (headSpec ws rm).pre.before a A.U = true := atoms_intro fun w hw => hws w hw _ _ X.warmed
  have h2 : (Cond.codeWith y bytes maxL ret hh).before a A.U = true := hws _ hcode _ _ X.warmed
  have h3 : (Cond.initialized y.cls).before a A.U = true := hinit _ _ X.warmed
  have h4 : A.cells + (headSpec ws rm).room.cells ≤ R.cells := by rw [show (headSpec ws rm).room.cells = mc from hrc]; exact hp.1
  have h5 : A.slots + (headSpec ws rm).room.slots ≤ R.slots := by rw [show (headSpec ws rm).room.slots = ms from hrs]; exact hp.2.1
  have hPc : Pc a (A.U.calling g mk a) := hblind _ _ _ _ hp.2.2
  obtain ⟨U, Ls, c0, s0⟩ := A
  dsimp only [Pt.U, Pt.locs, Pt.cells, Pt.slots] at h1 h2 h3 h4 h5 X hn hPc ⊢
  obtain ⟨m9, methY, cY, hn9, hmY, hcY, -, hlY, -⟩ := Cond.codeWith_spec h2
  cases Option.some.inj (hn9.symm.trans hn)
  obtain ⟨kY, hkY, -⟩ := className_of_methodNamed hn
  have hinitY : kY.init = .initialized := Cond.initialized_spec (findClass_of_methodNamed hn) hkY h3
  have h : At U g.method c below := by rw [hg]; exact X.here
  have hlocals9 : W9 + (maxL + 11) + (headSpec ws rm).room.locals ≤ R.locals := hlocals
  have happ : (headSpec ws rm).appliesLoose y e.platform (U.calling g mk a) = true :=
    Spec.appliesLoose_calling (g := g) h hdg hn hkY hinitY
      (X.room_calling (g := g) (R' := (headSpec ws rm).room) hsize hmY hcY hframes (by rw [hlY]; omega) h4 h5) h1
  obtain ⟨mid, hmid⟩ := h.above
  have hfr : (U.setTop g).frames = (.java g :: mid) ++ below := by rw [State.frames_setTop' g h.top, hmid]; rfl
  obtain ⟨o, s₂, hsteps, -, hend, hq⟩ := Steps.callFree hM p X.admits X.cas X.clock (acts := []) hfr happ hPc trivial
  have hq' : vx_Q Qc XC mc ms free a (U.calling g mk a) o s₂ := hq
  rw [State.frames_setTop' g h.top] at hend
  obtain ⟨g₀, hg0⟩ := Option.isSome_iff_exists.mp h.top
  obtain ⟨r, hr⟩ := State.topJava?_eq_some.mp hg0
  have hr' : (({ U with heap := s₂.heap, slotsUsed := s₂.slotsUsed } : State).setVm s₂.vm).frames = .java g₀ :: r := hr
  rcases hq' with ⟨hqc, L, hfe, hL⟩ | ⟨q, rfl, E, ce, L, hx, hce, hcv, hcl, hW₂, hsm, hL⟩
  · obtain ⟨⟨v, rfl⟩, hW₂, e2, q2, q3, q4, q5, q6⟩ := id hfe
    have e3 : s₂ = ({ (U.calling g mk a).setFrames s₂.frames with heap := s₂.heap, slotsUsed := s₂.slotsUsed } : State).setVm s₂.vm := by
      have : s₂ = ({ s₂ with vm := (U.calling g mk a).vm } : State).setVm s₂.vm := rfl
      rw [e2] at this
      exact this
    obtain ⟨c₂, i₂, len₂, hc₂, hd₂, hf₂⟩ := hend
    have hW' : U.WarmedH s₂.vm := hW₂
    have hcc : c₂ = c := by
      have h1 : s₂.code? g.method = U.code? g.method := by
        rw [State.code?_eq, State.code?_eq, hW'.alike.method?]
      exact Option.some.inj (hc₂.symm.trans (h1.trans h.code))
    subst hcc
    have hlen : len₂ = len := by rw [hdg] at hd₂; cases hd₂; rfl
    subst hlen
    have hs₂ : s₂ = (({ U with heap := s₂.heap, slotsUsed := s₂.slotsUsed } : State).setVm s₂.vm).setTop { g with pc := g.pc + len₂, stack := v.toList ++ g.stack } := by
      refine e3.trans ?_
      rw [hf₂, State.calling_eq h.top, State.setFrames_setFrames, State.setTop_of_frames _ hr', hr]
      rfl
    have hsame : U.sameButNew ({ U with heap := s₂.heap, slotsUsed := s₂.slotsUsed } : State) L mc ms := by
      refine ⟨?_, q2, q3, q4, q5, q6⟩
      obtain ⟨t, ht, -⟩ := State.frames_cons hr
      show ({ U with heap := s₂.heap, slotsUsed := s₂.slotsUsed } : State) = { U.setFrames U.frames with heap := s₂.heap, slotsUsed := s₂.slotsUsed }
      rw [State.setFrames_self ht]
    subst hg
    refine Or.inl ⟨v, ⟨(({ U with heap := s₂.heap, slotsUsed := s₂.slotsUsed } : State).setVm s₂.vm), Ls ++ L, c0 + mc, s0 + ms⟩,
      ⟨X.admits, X.cas, X.clock, X.frames, X.room, X.hears, X.method, X.code, (X.here.setHeapUsed s₂.heap s₂.slotsUsed).setVm hW'.alike, X.tail, State.WarmedH.trans X.warmed hW', X.limits, X.bytes, X.same.trans (hsame.setVm s.vm)⟩,
      ⟨g, mk, s₂, L, rfl, rfl, hqc, rfl, hL, rfl, rfl⟩, ?_⟩
    show Steps p.tables e below _ ((({ U with heap := s₂.heap, slotsUsed := s₂.slotsUsed } : State).setVm s₂.vm).setTop { g with pc := g.pc + len₂, stack := v.toList ++ g.stack })
    rw [← hs₂]
    exact hsteps
  · obtain ⟨e2, q2, q3, q4, q5, q6⟩ := id hsm
    have e3 : s₂ = ({ (U.calling g mk a).setFrames s₂.frames with heap := s₂.heap, slotsUsed := s₂.slotsUsed } : State).setVm s₂.vm := by
      have : s₂ = ({ s₂ with vm := (U.calling g mk a).vm } : State).setVm s₂.vm := rfl
      rw [e2] at this
      exact this
    have hf₂ : s₂.frames = .throwing q :: .java g :: U.frames.tail := hend
    have hW' : U.WarmedH s₂.vm := hW₂
    have hs₂ : s₂ = ((({ U with heap := s₂.heap, slotsUsed := s₂.slotsUsed } : State).setVm s₂.vm).setTop g).pushFrame (.throwing q) := by
      refine e3.trans ?_
      rw [hf₂, State.calling_eq h.top, State.setFrames_setFrames, State.pushFrame, State.frames_setTop _ hr', State.setTop_of_frames _ hr', State.setFrames_setFrames, hr]
      rfl
    have hsame : U.sameButNew ({ U with heap := s₂.heap, slotsUsed := s₂.slotsUsed } : State) L mc ms := by
      refine ⟨?_, q2, q3, q4, q5, q6⟩
      obtain ⟨t, ht, -⟩ := State.frames_cons hr
      show ({ U with heap := s₂.heap, slotsUsed := s₂.slotsUsed } : State) = { U.setFrames U.frames with heap := s₂.heap, slotsUsed := s₂.slotsUsed }
      rw [State.setFrames_self ht]
    subst hg
    refine Or.inr ⟨q, ⟨(({ U with heap := s₂.heap, slotsUsed := s₂.slotsUsed } : State).setVm s₂.vm), Ls ++ L, c0 + mc, s0 + ms⟩,
      ⟨X.admits, X.cas, X.clock, X.frames, X.room, X.hears, X.method, X.code, (X.here.setHeapUsed s₂.heap s₂.slotsUsed).setVm hW'.alike, X.tail, State.WarmedH.trans X.warmed hW', X.limits, X.bytes, X.same.trans (hsame.setVm s.vm)⟩,
      ⟨g, mk, s₂, L, E, ce, rfl, rfl, hx, hce, hcv, hcl, rfl, hL, rfl, rfl⟩, ?_⟩
    show Steps p.tables e below _ (((({ U with heap := s₂.heap, slotsUsed := s₂.slotsUsed } : State).setVm s₂.vm).setTop g).pushFrame (.throwing q))
    rw [← hs₂]
    exact hsteps
end
variable {p : Program} {l : Launch} {e : Env} {R : Room} {s : State} {m : MethodId} {args : Array Value} {below : List Frame} {meth : Method} {c : Code} {T : State} {H : Heap} {locs : List Loc} {cells slots : Nat}
theorem vx_callVX (X : Stand p l e R s m args below meth c T locs cells slots) (hexec : p.tables.exec = Jvm.exec) {own C : String} {index : Nat} {y : MethodName} {bytes : ByteArray} {maxL : Nat} {ret : Option FieldType} {hh : List (Nat × Nat × Nat × Nat)}
    (hown : s.vm.findClass own = some m.cls) (hlink : (Cond.methodLink own index y).before args s = true) (hinst : (Cond.instanceMethod y).before args s = true) (hsel : (Cond.selects C y y).before args s = true)
    (hcode : (Cond.codeWith y bytes maxL ret hh).before args s = true) (hy : y.cls ≠ "java/lang/invoke/MethodHandle" ∧ y.cls ≠ "java/lang/invoke/VarHandle")
    {W9 : Nat} {Pre : Pt → Array Value → Prop} {Post : Pt → Array Value → Option Value → Pt → Prop} {PostX : Pt → Array Value → Addr → Pt → Prop} (hK : vx_Back l R p e below s args y 3 W9 Pre Post PostX)
    {b : Addr} {cellB : Cell} (hcell : T.heap[b]? = some cellB) (hobj : cellB.vm.isStatics = false) (hcls : s.vm.findClass C = some cellB.cls)
    {g : JFrame} (hg : g.method = m) (hsize : g.locals.size = c.maxLocals) {argsL rest : List Value} (hlen : ∀ sig, parseMethodDescriptor y.desc = some sig → argsL.length = sig.parameters.length)
    (hstack : g.stack = argsL.reverse ++ .ref b :: rest) (hW : 2 * g.monitorRoom + (rest.map fun v => v.category).sum ≤ W9) (hdg : decode c.code g.pc = .ok (.invokevirtual index, 3))
    (hpre : ∀ vm₁, s.WarmedH vm₁ → Pre ⟨T.setVm vm₁, locs, cells, slots⟩ (Value.ref b :: argsL).toArray) :
    (∃ (v : Option Value) (vm₁ : Vm) (B : Pt), s.WarmedH vm₁ ∧ Stand p l e R s m args below meth c B.U B.locs B.cells B.slots ∧ Post ⟨T.setVm vm₁, locs, cells, slots⟩ (Value.ref b :: argsL).toArray v B ∧
      ∀ target, Steps p.tables e below (B.U.setTop { g with pc := g.pc + 3, stack := v.toList ++ rest }) target → Steps p.tables e below (T.setTop g) target) ∨
    (∃ (q : Addr) (vm₁ : Vm) (B : Pt), s.WarmedH vm₁ ∧ Stand p l e R s m args below meth c B.U B.locs B.cells B.slots ∧ PostX ⟨T.setVm vm₁, locs, cells, slots⟩ (Value.ref b :: argsL).toArray q B ∧
      Steps p.tables e below (T.setTop g) ((B.U.setTop { g with stack := rest }).pushFrame (.throwing q))) := by
  obtain ⟨mk, methM, hnamed, hmethM, hstM, habM⟩ := Cond.instanceMethod_spec hinst
  obtain ⟨m8, methM', cM, hn8, hmethM', -, -, -, -, -, -, hsigM⟩ := Cond.codeWith_spec hcode
  cases Option.some.inj (hn8.symm.trans hnamed)
  cases hmethM.symm.trans hmethM'
  obtain ⟨c2, r2, m2, q1, q2, q3, q4, kP, hkP, hkPi⟩ := Cond.selects_spec hsel
  cases hcls.symm.trans q1
  cases (State.methodFound?_of_named hnamed hy).symm.trans q2
  cases hnamed.symm.trans q3
  have hselP : selectMethod e.platform s.vm cellB.cls mk = .method mk := by rw [Launch.admits_selectMethod X.admits]; exact q4
  obtain ⟨vm₁, X₁, hstep₁⟩ := X.invokevirtual hexec hown hlink hnamed hmethM hstM hkP hkPi hy (a := b) (cell := cellB) hcell
    (fun z h => by rw [h] at hobj; cases hobj) hselP hmethM habM hkP hkPi (g := g) hg (argsL := argsL) (rest := rest) (hlen _ hsigM) hstack hdg
  rcases hK m meth c ⟨T.setVm vm₁, locs, cells, slots⟩ { g with stack := rest } (.invokevirtual index) mk (Value.ref b :: argsL).toArray X₁ hg hsize hdg hW (X₁.named hnamed) (hpre vm₁ X₁.warmed) with ⟨v, B, X', hpost, hsteps⟩ | ⟨q, B, X', hpost, hsteps⟩
  · exact Or.inl ⟨v, vm₁, B, X₁.warmed, X', hpost, fun target h => hstep₁ _ fun acts => by rw [doInvoke_state]; exact hsteps.trans h⟩
  · exact Or.inr ⟨q, vm₁, B, X₁.warmed, X', hpost, hstep₁ _ fun acts => by rw [doInvoke_state]; exact hsteps⟩
theorem vx_callSX (X : Stand p l e R s m args below meth c T locs cells slots) (hexec : p.tables.exec = Jvm.exec) {own : String} {index : Nat} {y : MethodName} {bytes : ByteArray} {maxL : Nat} {ret : Option FieldType} {hh : List (Nat × Nat × Nat × Nat)}
    (hown : s.vm.findClass own = some m.cls) (hlink : (Cond.methodLink own index y).before args s = true) (hstat : (Cond.static y).before args s = true) (hinit : (Cond.initialized y.cls).before args s = true)
    (hcode : (Cond.codeWith y bytes maxL ret hh).before args s = true) (hy : y.cls ≠ "java/lang/invoke/MethodHandle" ∧ y.cls ≠ "java/lang/invoke/VarHandle")
    {W9 : Nat} {Pre : Pt → Array Value → Prop} {Post : Pt → Array Value → Option Value → Pt → Prop} {PostX : Pt → Array Value → Addr → Pt → Prop} (hK : vx_Back l R p e below s args y 3 W9 Pre Post PostX)
    {g : JFrame} (hg : g.method = m) (hsize : g.locals.size = c.maxLocals) {argsL rest : List Value} (hlen : ∀ sig, parseMethodDescriptor y.desc = some sig → argsL.length = sig.parameters.length)
    (hstack : g.stack = argsL.reverse ++ rest) (hW : 2 * g.monitorRoom + (rest.map fun v => v.category).sum ≤ W9) (hdg : decode c.code g.pc = .ok (.invokestatic index, 3))
    (hpre : ∀ vm₁, s.WarmedH vm₁ → Pre ⟨T.setVm vm₁, locs, cells, slots⟩ argsL.toArray) :
    (∃ (v : Option Value) (vm₁ : Vm) (B : Pt), s.WarmedH vm₁ ∧ Stand p l e R s m args below meth c B.U B.locs B.cells B.slots ∧ Post ⟨T.setVm vm₁, locs, cells, slots⟩ argsL.toArray v B ∧
      ∀ target, Steps p.tables e below (B.U.setTop { g with pc := g.pc + 3, stack := v.toList ++ rest }) target → Steps p.tables e below (T.setTop g) target) ∨
    (∃ (q : Addr) (vm₁ : Vm) (B : Pt), s.WarmedH vm₁ ∧ Stand p l e R s m args below meth c B.U B.locs B.cells B.slots ∧ PostX ⟨T.setVm vm₁, locs, cells, slots⟩ argsL.toArray q B ∧
      Steps p.tables e below (T.setTop g) ((B.U.setTop { g with stack := rest }).pushFrame (.throwing q))) := by
  obtain ⟨mk, methM, cM, hnamed, hmethM, -, -, -, -, -, -, hsigM⟩ := Cond.codeWith_spec hcode
  have hstatic : methM.isStatic = true := Cond.static_spec hnamed hmethM hstat
  obtain ⟨kP, hkP, -⟩ := className_of_methodNamed hnamed
  have hinitP : kP.init = .initialized := Cond.initialized_spec (findClass_of_methodNamed hnamed) hkP hinit
  obtain ⟨vm₁, X₁, hstep₁⟩ := X.invokestatic hexec hown hlink hnamed hmethM hstatic hkP hinitP hy (g := g) hg (argsL := argsL) (rest := rest) (hlen _ hsigM) hstack hdg
  rcases hK m meth c ⟨T.setVm vm₁, locs, cells, slots⟩ { g with stack := rest } (.invokestatic index) mk argsL.toArray X₁ hg hsize hdg hW (X₁.named hnamed) (hpre vm₁ X₁.warmed) with ⟨v, B, X', hpost, hsteps⟩ | ⟨q, B, X', hpost, hsteps⟩
  · exact Or.inl ⟨v, vm₁, B, X₁.warmed, X', hpost, fun target h => hstep₁ _ fun acts => by rw [doInvoke_state]; exact hsteps.trans h⟩
  · exact Or.inr ⟨q, vm₁, B, X₁.warmed, X', hpost, hstep₁ _ fun acts => by rw [doInvoke_state]; exact hsteps⟩
theorem vx_callVW (X : Stand p l e R s m args below meth c T locs cells slots) (hexec : p.tables.exec = Jvm.exec) {own C : String} {index : Nat} {y : MethodName} {bytes : ByteArray} {maxL : Nat} {ret : Option FieldType} {hh : List (Nat × Nat × Nat × Nat)}
    (hown : s.vm.findClass own = some m.cls) (hlink : (Cond.methodLink own index y).before args s = true) (hinst : (Cond.instanceMethod y).before args s = true) (hsel : (Cond.selects C y y).before args s = true)
    (hcode : (Cond.codeWith y bytes maxL ret hh).before args s = true) (hy : y.cls ≠ "java/lang/invoke/MethodHandle" ∧ y.cls ≠ "java/lang/invoke/VarHandle")
    {W9 : Nat} {Pre : Pt → Array Value → Prop} {Post : Pt → Array Value → Option Value → Pt → Prop} (hK : Back l R p e below s args y 3 W9 Pre Post)
    {b : Addr} {cellB : Cell} (hcell : T.heap[b]? = some cellB) (hobj : cellB.vm.isStatics = false) (hcls : s.vm.findClass C = some cellB.cls)
    {g : JFrame} (hg : g.method = m) (hsize : g.locals.size = c.maxLocals) {argsL rest : List Value} (hlen : ∀ sig, parseMethodDescriptor y.desc = some sig → argsL.length = sig.parameters.length)
    (hstack : g.stack = argsL.reverse ++ .ref b :: rest) (hW : 2 * g.monitorRoom + (rest.map fun v => v.category).sum ≤ W9) (hdg : decode c.code g.pc = .ok (.invokevirtual index, 3))
    (hpre : ∀ vm₁, s.WarmedH vm₁ → Pre ⟨T.setVm vm₁, locs, cells, slots⟩ (Value.ref b :: argsL).toArray) :
    ∃ (v : Option Value) (vm₁ : Vm) (B : Pt), s.WarmedH vm₁ ∧ Stand p l e R s m args below meth c B.U B.locs B.cells B.slots ∧ Post ⟨T.setVm vm₁, locs, cells, slots⟩ (Value.ref b :: argsL).toArray v B ∧
      ∀ target, Steps p.tables e below (B.U.setTop { g with pc := g.pc + 3, stack := v.toList ++ rest }) target → Steps p.tables e below (T.setTop g) target := by
  obtain ⟨mk, methM, hnamed, hmethM, hstM, habM⟩ := Cond.instanceMethod_spec hinst
  obtain ⟨m8, methM', cM, hn8, hmethM', -, -, -, -, -, -, hsigM⟩ := Cond.codeWith_spec hcode
  cases Option.some.inj (hn8.symm.trans hnamed)
  cases hmethM.symm.trans hmethM'
  obtain ⟨c2, r2, m2, q1, q2, q3, q4, kP, hkP, hkPi⟩ := Cond.selects_spec hsel
  cases hcls.symm.trans q1
  cases (State.methodFound?_of_named hnamed hy).symm.trans q2
  cases hnamed.symm.trans q3
  have hselP : selectMethod e.platform s.vm cellB.cls mk = .method mk := by rw [Launch.admits_selectMethod X.admits]; exact q4
  obtain ⟨vm₁, X₁, hstep₁⟩ := X.invokevirtual hexec hown hlink hnamed hmethM hstM hkP hkPi hy (a := b) (cell := cellB) hcell
    (fun z h => by rw [h] at hobj; cases hobj) hselP hmethM habM hkP hkPi (g := g) hg (argsL := argsL) (rest := rest) (hlen _ hsigM) hstack hdg
  obtain ⟨v, B, X', hpost, hsteps⟩ := hK m meth c ⟨T.setVm vm₁, locs, cells, slots⟩ { g with stack := rest } (.invokevirtual index) mk (Value.ref b :: argsL).toArray X₁ hg hsize hdg hW (X₁.named hnamed) (hpre vm₁ X₁.warmed)
  exact ⟨v, vm₁, B, X₁.warmed, X', hpost, fun target h => hstep₁ _ fun acts => by rw [doInvoke_state]; exact hsteps.trans h⟩
abbrev vx_CVW (R : Room) (s : State) (args : Array Value) (own C : String) (index : Nat) (y : MethodName) (bytes : ByteArray) (maxL : Nat) (ret : Option FieldType) (hh : List (Nat × Nat × Nat × Nat)) (ws : List Cond) (rm : Room) (mc ms n : Nat) : Prop :=
  (rm.cells = mc ∧ rm.slots = ms ∧ rm.frames + 1 ≤ R.frames ∧ 8 + (maxL + 11) + rm.locals ≤ R.locals ∧ (∀ w ∈ ws, ∀ (a' : Array Value) (U : State), s.WarmedH U.vm → w.before a' U = true) ∧ Cond.codeWith y bytes maxL ret hh ∈ ws) ∧
  (Cond.codeWith y bytes maxL ret hh).before args s = true ∧ (Cond.initialized y.cls).before args s = true ∧ (y.cls ≠ "java/lang/invoke/MethodHandle" ∧ y.cls ≠ "java/lang/invoke/VarHandle") ∧
  (∀ sig, parseMethodDescriptor y.desc = some sig → n = sig.parameters.length) ∧ (Cond.methodLink own index y).before args s = true ∧ (Cond.instanceMethod y).before args s = true ∧ (Cond.selects C y y).before args s = true
theorem vx_cwVW {own C : String} {index maxL mc ms : Nat} {y : MethodName} {bytes : ByteArray} {ret : Option FieldType} {hh : List (Nat × Nat × Nat × Nat)} {Ts ws ws' : List Cond} {rm : Room} (n : Nat) (ht : ∀ w ∈ Ts, w.before args s = true) (hT : GoodIn Ts (wsV own index C y ws)) (hw : ws = Cond.codeWith y bytes maxL ret hh :: ws') (hrc : rm.cells = mc) (hrs : rm.slots = ms)
    (hd : y.cls = C ∧ y.cls ≠ "java/lang/invoke/MethodHandle" ∧ y.cls ≠ "java/lang/invoke/VarHandle" ∧ (parseMethodDescriptor y.desc).map (fun d => d.parameters.length) = some n) (hR : rm.frames + 1 ≤ R.frames ∧ 8 + (maxL + 11) + rm.locals ≤ R.locals) :
    vx_CVW R s args own C index y bytes maxL ret hh ws rm mc ms n := by
  obtain ⟨hC, hd⟩ := hd
  subst hC
  have ok : ∀ w ∈ wsV own index y.cls y ws, w.before args s = true := fun w h => ht w (hT w h).1
  have hG : GoodIn Ts ws := fun w h => hT w (by unfold wsV; exact List.mem_append_right _ h)
  have hc : Cond.codeWith y bytes maxL ret hh ∈ ws := by rw [hw]; exact List.mem_cons_self
  refine ⟨⟨hrc, hrs, hR.1, hR.2, pay_in ht hG, hc⟩, ht _ (hG _ hc).1, ok _ (by simp [wsV]), ⟨hd.1, hd.2.1⟩, fun sig h => ?_, ok _ (by simp [wsV]), ok _ (by simp [wsV]), ok _ (by simp [wsV])⟩
  have h2 := hd.2.2
  rw [h] at h2
  exact (Option.some.inj h2).symm
theorem vx_runVW {y : MethodName} {bytes cc : ByteArray} {maxL nL mc ms n index : Nat} {ret : Option FieldType} {hh : List (Nat × Nat × Nat × Nat)} {ws : List Cond} {rm : Room} {Pc : Array Value → State → Prop} {Qc : Array Value → State → Outcome → State → Prop} {free : Addr → Prop} {Ts : List Cond} {own C : String} {b : Addr} {As rest : List Value} {g : JFrame}
    (S : CallFix p m c cc nL s args Ts own) (hM : Met l y ws rm Pc Qc mc ms free) (cw : vx_CVW R s args own C index y bytes maxL ret hh ws rm mc ms n) (hp : PreV s H C b Pc As)
    (hg : g.method = m) (hn : As.length = n) (hsize : g.locals.size = nL) (hstack : g.stack = As.reverse ++ .ref b :: rest) (hW : 2 * g.monitorRoom + (rest.map fun v => v.category).sum ≤ 8) (hdg : decode cc g.pc = .ok (.invokevirtual index, 3)) (hf : cells + mc ≤ R.cells ∧ slots + ms ≤ R.slots) :
    va_Run p l e R s m args below meth c H locs cells slots mc ms g rest (Qc (Value.ref b :: As).toArray) free := by
  obtain ⟨⟨hrc, hrs, hfr, hlo, hws, hcw⟩, hcode, hini, hy, hlen, hl, hin, hse⟩ := cw
  have hK : Back l R p e below s args y 3 8 (PreOf R mc ms Pc) (PostOf Qc mc ms free) := va_backW (hh := hh) (bytes := bytes) (maxL := maxL) (ret := ret) hM hp.1 hrc hrs hfr hlo hws hcw (fun a' U hW => word_at hW (Or.inl (by first | rfl | simp [Cond.onTables, Cond.keeps, Cond.steady])) hini)
  obtain ⟨hx, hb, hml, ho, -⟩ := S
  obtain ⟨-, ⟨cellB, hcB, hoB, hclB⟩, hPc⟩ := hp
  intro T hT X
  obtain ⟨v, vm₁, ⟨U', l2, c2, s2⟩, hW₁, X', ⟨g', mk, t, L, e1, e2, hq, h1, hL, h2, h3⟩, st⟩ := vx_callVW X hx (C := C) (hh := hh) (bytes := bytes) (maxL := maxL) (ret := ret) ho hl hin hse hcode hy hK (by rw [hT]; exact hcB) hoB hclB hg (hsize.trans hml.symm) (argsL := As) (rest := rest) (fun sig h => hn.trans (hlen sig h)) hstack hW (by rw [hb]; exact hdg)
    (fun vm₁ hW₁ => ⟨hf.1, hf.2, hPc (T.setVm vm₁) hT hW₁⟩)
  dsimp only [Pt.U, Pt.locs, Pt.cells, Pt.slots] at X' e1 e2 h1 h2 h3 st
  subst h1; subst h2; subst h3
  exact ⟨v, (T.setVm vm₁).calling g' mk (Value.ref b :: As).toArray, t, U', L, hT, X', hL, e1, e2, hq, st⟩
section
variable {y : MethodName} {bytes cc : ByteArray} {maxL nL mc ms n index : Nat} {ret : Option FieldType} {ws : List Cond} {rm : Room} {Pc : Array Value → State → Prop} {Qc : Array Value → State → Outcome → State → Prop} {XC : String → State → State → Prop} {free : Addr → Prop} {Ts : List Cond} {own C : String} {b : Addr} {As rest : List Value} {g : JFrame}
theorem vx_runVX {hh : List (Nat × Nat × Nat × Nat)} (S : CallFix p m c cc nL s args Ts own) (hM : vx_Met l y ws rm Pc Qc XC mc ms free) (cw : vx_CVW R s args own C index y bytes maxL ret hh ws rm mc ms n) (hp : PreV s H C b Pc As)
    (hg : g.method = m) (hn : As.length = n) (hsize : g.locals.size = nL) (hstack : g.stack = As.reverse ++ .ref b :: rest) (hW : 2 * g.monitorRoom + (rest.map fun v => v.category).sum ≤ 8) (hdg : decode cc g.pc = .ok (.invokevirtual index, 3)) (hf : cells + mc ≤ R.cells ∧ slots + ms ≤ R.slots) :
    vx_Run p l e R s m args below meth c H locs cells slots mc ms g rest (Qc (Value.ref b :: As).toArray) XC free := by
  obtain ⟨⟨hrc, hrs, hfr, hlo, hws, hcw⟩, hcode, hini, hy, hlen, hl, hin, hse⟩ := cw
  have hK : vx_Back l R p e below s args y 3 8 (PreOf R mc ms Pc) (PostOf Qc mc ms free) (vx_Post XC mc ms free) := vx_backW (hh := hh) (bytes := bytes) (maxL := maxL) (ret := ret) hM hp.1 hrc hrs hfr hlo hws hcw (fun a' U hW => word_at hW (Or.inl (by first | rfl | simp [Cond.onTables, Cond.keeps, Cond.steady])) hini)
  obtain ⟨hx, hb, hml, ho, -⟩ := S
  obtain ⟨-, ⟨cellB, hcB, hoB, hclB⟩, hPc⟩ := hp
  intro T hT X
  rcases vx_callVX X hx (C := C) (hh := hh) (bytes := bytes) (maxL := maxL) (ret := ret) ho hl hin hse hcode hy hK (by rw [hT]; exact hcB) hoB hclB hg (hsize.trans hml.symm) (argsL := As) (rest := rest) (fun sig h => hn.trans (hlen sig h)) hstack hW (by rw [hb]; exact hdg)
    (fun vm₁ hW₁ => ⟨hf.1, hf.2, hPc (T.setVm vm₁) hT hW₁⟩) with ⟨v, vm₁, ⟨U', l2, c2, s2⟩, hW₁, X', ⟨g', mk, t, L, e1, e2, hq, h1, hL, h2, h3⟩, st⟩ | ⟨q, vm₁, ⟨U', l2, c2, s2⟩, hW₁, X', ⟨g', mk, t, L, E, ce, e1, e2, hq, hce, hcv, hcl, h1, hL, h2, h3⟩, st⟩
  · dsimp only [Pt.U, Pt.locs, Pt.cells, Pt.slots] at X' e1 e2 h1 h2 h3 st
    subst h1; subst h2; subst h3
    exact Or.inl ⟨v, (T.setVm vm₁).calling g' mk (Value.ref b :: As).toArray, t, U', L, hT, X', hL, e1, e2, hq, st⟩
  · dsimp only [Pt.U, Pt.locs, Pt.cells, Pt.slots] at X' e1 e2 h1 h2 h3 st hcl
    subst h1; subst h2; subst h3
    exact Or.inr ⟨q, (T.setVm vm₁).calling g' mk (Value.ref b :: As).toArray, t, U', L, E, ce, hT, X', hL, e1, e2, hq, hce, hcv, vx_cls hW₁ hcl, st⟩
theorem vx_runSX {hh : List (Nat × Nat × Nat × Nat)} (S : CallFix p m c cc nL s args Ts own) (hM : vx_Met l y ws rm Pc Qc XC mc ms free) (cw : vx_CSW R s args own index y bytes maxL ret hh ws rm mc ms n) (hp : PreS s H Pc As)
    (hg : g.method = m) (hn : As.length = n) (hsize : g.locals.size = nL) (hstack : g.stack = As.reverse ++ rest) (hW : 2 * g.monitorRoom + (rest.map fun v => v.category).sum ≤ 8) (hdg : decode cc g.pc = .ok (.invokestatic index, 3)) (hf : cells + mc ≤ R.cells ∧ slots + ms ≤ R.slots) :
    vx_Run p l e R s m args below meth c H locs cells slots mc ms g rest (Qc As.toArray) XC free := by
  obtain ⟨⟨hrc, hrs, hfr, hlo, hws, hcw⟩, hcode, hini, hy, hlen, hl, hstt⟩ := cw
  have hK : vx_Back l R p e below s args y 3 8 (PreOf R mc ms Pc) (PostOf Qc mc ms free) (vx_Post XC mc ms free) := vx_backW (hh := hh) (bytes := bytes) (maxL := maxL) (ret := ret) hM hp.1 hrc hrs hfr hlo hws hcw (fun a' U hW => word_at hW (Or.inl (by first | rfl | simp [Cond.onTables, Cond.keeps, Cond.steady])) hini)
  obtain ⟨hx, hb, hml, ho, -⟩ := S
  intro T hT X
  rcases vx_callSX X hx (hh := hh) (bytes := bytes) (maxL := maxL) (ret := ret) ho hl hstt hini hcode hy hK hg (hsize.trans hml.symm) (argsL := As) (rest := rest) (fun sig h => hn.trans (hlen sig h)) hstack hW (by rw [hb]; exact hdg)
    (fun vm₁ hW₁ => ⟨hf.1, hf.2, hp.2 (T.setVm vm₁) hT hW₁⟩) with ⟨v, vm₁, ⟨U', l2, c2, s2⟩, hW₁, X', ⟨g', mk, t, L, e1, e2, hq, h1, hL, h2, h3⟩, st⟩ | ⟨q, vm₁, ⟨U', l2, c2, s2⟩, hW₁, X', ⟨g', mk, t, L, E, ce, e1, e2, hq, hce, hcv, hcl, h1, hL, h2, h3⟩, st⟩
  · dsimp only [Pt.U, Pt.locs, Pt.cells, Pt.slots] at X' e1 e2 h1 h2 h3 st
    subst h1; subst h2; subst h3
    exact Or.inl ⟨v, (T.setVm vm₁).calling g' mk As.toArray, t, U', L, hT, X', hL, e1, e2, hq, st⟩
  · dsimp only [Pt.U, Pt.locs, Pt.cells, Pt.slots] at X' e1 e2 h1 h2 h3 st hcl
    subst h1; subst h2; subst h3
    exact Or.inr ⟨q, (T.setVm vm₁).calling g' mk As.toArray, t, U', L, E, ce, hT, X', hL, e1, e2, hq, hce, hcv, vx_cls hW₁ hcl, st⟩
end
end VXH
theorem vx_ofWH {l : Launch} {y : MethodName} {ws ws' : List Cond} {rm : Room} {Pc : Array Value → State → Prop} {Qc : Array Value → State → Outcome → State → Prop} {XC : String → State → State → Prop} {mc ms : Nat} {free : Addr → Prop} {cc : ByteArray} {maxL : Nat} {ret : Option FieldType} {hh : List (Nat × Nat × Nat × Nat)}
    (hy : plainName y.cls = true) (hw : ws = Cond.codeWith y cc maxL ret hh :: ws')
    (body : ∀ p e s m args below meth c s₁, BodyLoose p l y (headSpec ws rm) cc maxL ret e s m args below meth c s₁ → c.maxLocals = maxL → Pc args s →
      W p l e (headSpec ws rm).room s m args below meth c s.heap [] 0 0 (vx_MQ below Qc XC args s mc ms free) (entryFrame m args maxL)) : vx_Met l y ws rm Pc Qc XC mc ms free := by
  refine MetFree.of_bodyS (code := cc) (maxLocals := maxL) (ret := ret) hy ?_ ?_
  · intro args s m h hn
    obtain ⟨m9, meth, c, hn9, h1, h2, h3, h4, -, h5, h6, -⟩ := Cond.codeWith_spec (atoms_spec (ws := ws) h _ (by rw [hw]; exact List.mem_cons_self))
    cases hn.symm.trans hn9
    exact ⟨meth, c, h1, h2, h3, h4, h5, h6⟩
  · intro p e s m args below meth c s₁ B hml hP _
    have hh0 : s₁.heap = s.heap := by rw [B.state]; rfl
    obtain ⟨t, a1, o, b1, b2, b3⟩ := body p e s m args below meth c s₁ B hml hP s₁ hh0 (Stand.of_body B)
    exact ⟨t, o, a1, b1, b2, b3⟩
/-! ===== END ===== -/
end
section
/-! ===== BEGIN printed: names, fields, word lists, decode rows ===== -/
def RX0 : String := "CornerLabels$Board"
def TX0 : u_T := fun k => match k with
  | 0 => ("CornerLabels$Board", "cells", "[I", true)
  | _ => ("CornerLabels$Board", "points", "I", false)
def tyX0 : Nat → FieldType := fun k => match k with
  | 0 => .array .int
  | _ => .int
abbrev wsX00 : List Cond := u_ws RX0 TX0 2
theorem nmX0 : ∀ a, a < 2 → ∀ b, b < 2 → a ≠ b → (TX0 a).2.1 ≠ (TX0 b).2.1 := by decide +kernel
theorem tyX0_ok : ∀ k, k < 2 → parseFieldDescriptor (TX0 k).2.2.1 = some (tyX0 k) := by decide +kernel
abbrev cX0_init : ByteArray := prog_2_method_1_code
def yX0_init : MethodName := ⟨RX0, "<init>", "()V"⟩
abbrev cX0_has : ByteArray := prog_2_method_2_code
def yX0_has : MethodName := ⟨RX0, "has", "(I)Z"⟩
abbrev cX0_stands : ByteArray := prog_2_method_3_code
def yX0_stands : MethodName := ⟨RX0, "stands", "(I)Z"⟩
abbrev cX0_takesPointOn : ByteArray := prog_2_method_4_code
def yX0_takesPointOn : MethodName := ⟨RX0, "takesPointOn", "(II)Z"⟩
abbrev cX0_insert : ByteArray := prog_2_method_5_code
def yX0_insert : MethodName := ⟨RX0, "insert", "(IIIII)I"⟩
abbrev cX0_takeOut : ByteArray := prog_2_method_6_code
def yX0_takeOut : MethodName := ⟨RX0, "takeOut", "(I)V"⟩
abbrev cX0_flip : ByteArray := prog_2_method_7_code
def yX0_flip : MethodName := ⟨RX0, "flip", "()V"⟩
abbrev cX0_left : ByteArray := prog_2_method_8_code
def yX0_left : MethodName := ⟨RX0, "left", "(II)I"⟩
abbrev cX0_top : ByteArray := prog_2_method_9_code
def yX0_top : MethodName := ⟨RX0, "top", "(II)I"⟩
abbrev cX0_covers : ByteArray := prog_2_method_10_code
def yX0_covers : MethodName := ⟨RX0, "covers", "(IIII)Z"⟩
abbrev cX0_pointOn : ByteArray := prog_2_method_11_code
def yX0_pointOn : MethodName := ⟨RX0, "pointOn", "(II)I"⟩
abbrev cX0_labelOn : ByteArray := prog_2_method_12_code
def yX0_labelOn : MethodName := ⟨RX0, "labelOn", "(II)I"⟩
abbrev cX0_isOpen : ByteArray := prog_2_method_13_code
def yX0_isOpen : MethodName := ⟨RX0, "isOpen", "(II)Z"⟩
abbrev cX0_openMask : ByteArray := prog_2_method_14_code
def yX0_openMask : MethodName := ⟨RX0, "openMask", "(I)I"⟩
abbrev cX0_openCornersBeside : ByteArray := prog_2_method_15_code
def yX0_openCornersBeside : MethodName := ⟨RX0, "openCornersBeside", "(I)I"⟩
abbrev cX0_sharedSquares : ByteArray := prog_2_method_16_code
def yX0_sharedSquares : MethodName := ⟨RX0, "sharedSquares", "(IIII)I"⟩
abbrev cX0_sharedLength : ByteArray := prog_2_method_17_code
def yX0_sharedLength : MethodName := ⟨RX0, "sharedLength", "(IIII)I"⟩
abbrev cX0_clashesWithStanding : ByteArray := prog_2_method_18_code
def yX0_clashesWithStanding : MethodName := ⟨RX0, "clashesWithStanding", "(II)Z"⟩
abbrev cX0_freeMask : ByteArray := prog_2_method_19_code
def yX0_freeMask : MethodName := ⟨RX0, "freeMask", "(I)I"⟩
abbrev cX0_leaderCrossings : ByteArray := prog_2_method_20_code
def yX0_leaderCrossings : MethodName := ⟨RX0, "leaderCrossings", "(I)I"⟩
abbrev cX0_isPointOnLeader : ByteArray := prog_2_method_21_code
def yX0_isPointOnLeader : MethodName := ⟨RX0, "isPointOnLeader", "(II)Z"⟩
abbrev cX0_isLabelOnLeader : ByteArray := prog_2_method_22_code
def yX0_isLabelOnLeader : MethodName := ⟨RX0, "isLabelOnLeader", "(II)Z"⟩
abbrev cX0_standingLabels : ByteArray := prog_2_method_23_code
def yX0_standingLabels : MethodName := ⟨RX0, "standingLabels", "()I"⟩
abbrev cX0_standingWeight : ByteArray := prog_2_method_24_code
def yX0_standingWeight : MethodName := ⟨RX0, "standingWeight", "()I"⟩
abbrev cX0_allWeight : ByteArray := prog_2_method_25_code
def yX0_allWeight : MethodName := ⟨RX0, "allWeight", "()I"⟩
abbrev cX0_standingSquares : ByteArray := prog_2_method_26_code
def yX0_standingSquares : MethodName := ⟨RX0, "standingSquares", "()I"⟩
abbrev cX0_pointsWithoutOpenCorner : ByteArray := prog_2_method_27_code
def yX0_pointsWithoutOpenCorner : MethodName := ⟨RX0, "pointsWithoutOpenCorner", "()I"⟩
abbrev cX0_crossingsOfDropped : ByteArray := prog_2_method_28_code
def yX0_crossingsOfDropped : MethodName := ⟨RX0, "crossingsOfDropped", "()I"⟩
def RX1 : String := "CornerLabels$History"
def TX1 : u_T := fun k => match k with
  | 0 => ("CornerLabels$History", "cells", "[I", true)
  | 1 => ("CornerLabels$History", "points", "[I", true)
  | _ => ("CornerLabels$History", "states", "I", false)
def tyX1 : Nat → FieldType := fun k => match k with
  | 0 => .array .int
  | 1 => .array .int
  | _ => .int
abbrev wsX10 : List Cond := u_ws RX1 TX1 3
theorem nmX1 : ∀ a, a < 3 → ∀ b, b < 3 → a ≠ b → (TX1 a).2.1 ≠ (TX1 b).2.1 := by decide +kernel
theorem tyX1_ok : ∀ k, k < 3 → parseFieldDescriptor (TX1 k).2.2.1 = some (tyX1 k) := by decide +kernel
abbrev cX1_init : ByteArray := prog_3_method_1_code
def yX1_init : MethodName := ⟨RX1, "<init>", "()V"⟩
abbrev cX1_save : ByteArray := prog_3_method_2_code
def yX1_save : MethodName := ⟨RX1, "save", "(LCornerLabels$Board;)V"⟩
abbrev cX1_forgetOldest : ByteArray := prog_3_method_3_code
def yX1_forgetOldest : MethodName := ⟨RX1, "forgetOldest", "()V"⟩
abbrev cX1_restore : ByteArray := prog_3_method_4_code
def yX1_restore : MethodName := ⟨RX1, "restore", "(LCornerLabels$Board;)V"⟩
def RX2 : String := "CornerLabels$Plans"
def TX2 : u_T := fun k => match k with
  | 0 => ("CornerLabels$Plans", "points", "I", false)
  | 1 => ("CornerLabels$Plans", "open", "[I", true)
  | 2 => ("CornerLabels$Plans", "weight", "[I", true)
  | 3 => ("CornerLabels$Plans", "now", "[I", true)
  | 4 => ("CornerLabels$Plans", "clashing", "[I", true)
  | 5 => ("CornerLabels$Plans", "allowed", "[I", true)
  | 6 => ("CornerLabels$Plans", "allowedSpots", "I", false)
  | 7 => ("CornerLabels$Plans", "mayDrop", "[Z", true)
  | 8 => ("CornerLabels$Plans", "gain", "[I", true)
  | 9 => ("CornerLabels$Plans", "mostGain", "[I", true)
  | 10 => ("CornerLabels$Plans", "hope", "[I", true)
  | 11 => ("CornerLabels$Plans", "trial", "[I", true)
  | 12 => ("CornerLabels$Plans", "found", "[I", true)
  | 13 => ("CornerLabels$Plans", "foundScore", "I", false)
  | 14 => ("CornerLabels$Plans", "bestCorners", "[I", true)
  | 15 => ("CornerLabels$Plans", "topWeight", "I", false)
  | _ => ("CornerLabels$Plans", "weightsWithout", "[I", true)
def tyX2 : Nat → FieldType := fun k => match k with
  | 0 => .int
  | 1 => .array .int
  | 2 => .array .int
  | 3 => .array .int
  | 4 => .array .int
  | 5 => .array .int
  | 6 => .int
  | 7 => .array .boolean
  | 8 => .array .int
  | 9 => .array .int
  | 10 => .array .int
  | 11 => .array .int
  | 12 => .array .int
  | 13 => .int
  | 14 => .array .int
  | 15 => .int
  | _ => .array .int
abbrev wsX20 : List Cond := u_ws RX2 TX2 17
theorem nmX2 : ∀ a, a < 17 → ∀ b, b < 17 → a ≠ b → (TX2 a).2.1 ≠ (TX2 b).2.1 := by decide +kernel
theorem tyX2_ok : ∀ k, k < 17 → parseFieldDescriptor (TX2 k).2.2.1 = some (tyX2 k) := by decide +kernel
abbrev cX2_init : ByteArray := prog_4_method_1_code
def yX2_init : MethodName := ⟨RX2, "<init>", "()V"⟩
abbrev cX2_look : ByteArray := prog_4_method_2_code
def yX2_look : MethodName := ⟨RX2, "look", "(LCornerLabels$Board;)V"⟩
abbrev cX2_laterClashes : ByteArray := prog_4_method_3_code
def yX2_laterClashes : MethodName := ⟨RX2, "laterClashes", "(LCornerLabels$Board;II)I"⟩
abbrev cX2_clashingPairs : ByteArray := prog_4_method_4_code
def yX2_clashingPairs : MethodName := ⟨RX2, "clashingPairs", "()I"⟩
abbrev cX2_findHeaviest : ByteArray := prog_4_method_5_code
def yX2_findHeaviest : MethodName := ⟨RX2, "findHeaviest", "(I)I"⟩
abbrev cX2_findBest : ByteArray := prog_4_method_6_code
def yX2_findBest : MethodName := ⟨RX2, "findBest", "()V"⟩
abbrev cX2_findWithoutEach : ByteArray := prog_4_method_7_code
def yX2_findWithoutEach : MethodName := ⟨RX2, "findWithoutEach", "()V"⟩
abbrev cX2_findRoom : ByteArray := prog_4_method_8_code
def yX2_findRoom : MethodName := ⟨RX2, "findRoom", "(I)I"⟩
abbrev cX2_findTop : ByteArray := prog_4_method_9_code
def yX2_findTop : MethodName := ⟨RX2, "findTop", "()I"⟩
abbrev cX2_findMostGain : ByteArray := prog_4_method_10_code
def yX2_findMostGain : MethodName := ⟨RX2, "findMostGain", "(I)I"⟩
abbrev cX2_seek : ByteArray := prog_4_method_11_code
def yX2_seek : MethodName := ⟨RX2, "seek", "(LCornerLabels$Plans;III)V"⟩
abbrev cX2_keepTrial : ByteArray := prog_4_method_12_code
def yX2_keepTrial : MethodName := ⟨RX2, "keepTrial", "(I)V"⟩
abbrev cX2_fullOnes : ByteArray := prog_4_method_13_code
def yX2_fullOnes : MethodName := ⟨RX2, "fullOnes", "()I"⟩
abbrev cX2_tally : ByteArray := prog_4_method_14_code
def yX2_tally : MethodName := ⟨RX2, "tally", "(LCornerLabels$Plans;II)I"⟩
def RX3 : String := "CornerLabels$Typed"
def TX3 : u_T := fun k => match k with
  | 0 => ("CornerLabels$Typed", "codes", "[I", true)
  | 1 => ("CornerLabels$Typed", "length", "I", false)
  | 2 => ("CornerLabels$Typed", "told", "[I", true)
  | 3 => ("CornerLabels$Typed", "reading", "I", false)
  | 4 => ("CornerLabels$Typed", "part", "I", false)
  | _ => ("CornerLabels$Typed", "value", "I", false)
def tyX3 : Nat → FieldType := fun k => match k with
  | 0 => .array .int
  | 1 => .int
  | 2 => .array .int
  | 3 => .int
  | 4 => .int
  | _ => .int
abbrev wsX30 : List Cond := u_ws RX3 TX3 6
theorem nmX3 : ∀ a, a < 6 → ∀ b, b < 6 → a ≠ b → (TX3 a).2.1 ≠ (TX3 b).2.1 := by decide +kernel
theorem tyX3_ok : ∀ k, k < 6 → parseFieldDescriptor (TX3 k).2.2.1 = some (tyX3 k) := by decide +kernel
abbrev cX3_init : ByteArray := prog_5_method_1_code
def yX3_init : MethodName := ⟨RX3, "<init>", "()V"⟩
abbrev cX3_write : ByteArray := prog_5_method_2_code
def yX3_write : MethodName := ⟨RX3, "write", "(I)V"⟩
abbrev cX3_code : ByteArray := prog_5_method_3_code
def yX3_code : MethodName := ⟨RX3, "code", "(I)I"⟩
abbrev cX3_endsWithPoint : ByteArray := prog_5_method_4_code
def yX3_endsWithPoint : MethodName := ⟨RX3, "endsWithPoint", "()Z"⟩
abbrev cX3_pointsTold : ByteArray := prog_5_method_5_code
def yX3_pointsTold : MethodName := ⟨RX3, "pointsTold", "()I"⟩
abbrev cX3_part : ByteArray := prog_5_method_6_code
def yX3_part : MethodName := ⟨RX3, "part", "(II)I"⟩
abbrev cX3_scan : ByteArray := prog_5_method_7_code
def yX3_scan : MethodName := ⟨RX3, "scan", "()I"⟩
abbrev cX3_take : ByteArray := prog_5_method_8_code
def yX3_take : MethodName := ⟨RX3, "take", "(I)Z"⟩
abbrev cX3_takeDigit : ByteArray := prog_5_method_9_code
def yX3_takeDigit : MethodName := ⟨RX3, "takeDigit", "(I)Z"⟩
abbrev cX3_beginPoint : ByteArray := prog_5_method_10_code
def yX3_beginPoint : MethodName := ⟨RX3, "beginPoint", "()Z"⟩
abbrev cX3_partAfter : ByteArray := prog_5_method_11_code
def yX3_partAfter : MethodName := ⟨RX3, "partAfter", "(II)I"⟩
def RX4 : String := "CornerLabels"
def TX4 : u_T := fun k => match k with
  | 0 => ("CornerLabels", "board", "LCornerLabels$Board;", true)
  | 1 => ("CornerLabels", "history", "LCornerLabels$History;", true)
  | 2 => ("CornerLabels", "typed", "LCornerLabels$Typed;", true)
  | _ => ("CornerLabels", "plans", "LCornerLabels$Plans;", true)
def tyX4 : Nat → FieldType := fun k => match k with
  | 0 => .object "CornerLabels$Board"
  | 1 => .object "CornerLabels$History"
  | 2 => .object "CornerLabels$Typed"
  | _ => .object "CornerLabels$Plans"
abbrev wsX40 : List Cond := u_ws RX4 TX4 4
theorem nmX4 : ∀ a, a < 4 → ∀ b, b < 4 → a ≠ b → (TX4 a).2.1 ≠ (TX4 b).2.1 := by decide +kernel
theorem tyX4_ok : ∀ k, k < 4 → parseFieldDescriptor (TX4 k).2.2.1 = some (tyX4 k) := by decide +kernel
abbrev cX4_init : ByteArray := prog_1_method_1_code
def yX4_init : MethodName := ⟨RX4, "<init>", "()V"⟩
abbrev cX4_add : ByteArray := prog_1_method_2_code
def yX4_add : MethodName := ⟨RX4, "add", "(IIIII)I"⟩
abbrev cX4_remove : ByteArray := prog_1_method_3_code
def yX4_remove : MethodName := ⟨RX4, "remove", "(I)I"⟩
abbrev cX4_weigh : ByteArray := prog_1_method_4_code
def yX4_weigh : MethodName := ⟨RX4, "weigh", "(II)I"⟩
abbrev cX4_resize : ByteArray := prog_1_method_5_code
def yX4_resize : MethodName := ⟨RX4, "resize", "(III)I"⟩
abbrev cX4_place : ByteArray := prog_1_method_6_code
def yX4_place : MethodName := ⟨RX4, "place", "(II)I"⟩
abbrev cX4_drop : ByteArray := prog_1_method_7_code
def yX4_drop : MethodName := ⟨RX4, "drop", "(I)I"⟩
abbrev cX4_solve : ByteArray := prog_1_method_8_code
def yX4_solve : MethodName := ⟨RX4, "solve", "()I"⟩
abbrev cX4_push : ByteArray := prog_1_method_9_code
def yX4_push : MethodName := ⟨RX4, "push", "(I)I"⟩
abbrev cX4_mirror : ByteArray := prog_1_method_10_code
def yX4_mirror : MethodName := ⟨RX4, "mirror", "()I"⟩
abbrev cX4_append : ByteArray := prog_1_method_11_code
def yX4_append : MethodName := ⟨RX4, "append", "(I)I"⟩
abbrev cX4_clearBuffer : ByteArray := prog_1_method_12_code
def yX4_clearBuffer : MethodName := ⟨RX4, "clearBuffer", "()I"⟩
abbrev cX4_firstError : ByteArray := prog_1_method_13_code
def yX4_firstError : MethodName := ⟨RX4, "firstError", "()I"⟩
abbrev cX4_read : ByteArray := prog_1_method_14_code
def yX4_read : MethodName := ⟨RX4, "read", "()I"⟩
abbrev cX4_undo : ByteArray := prog_1_method_15_code
def yX4_undo : MethodName := ⟨RX4, "undo", "()I"⟩
abbrev cX4_point : ByteArray := prog_1_method_16_code
def yX4_point : MethodName := ⟨RX4, "point", "(II)I"⟩
abbrev cX4_clash : ByteArray := prog_1_method_17_code
def yX4_clash : MethodName := ⟨RX4, "clash", "(IIII)I"⟩
abbrev cX4_at : ByteArray := prog_1_method_18_code
def yX4_at : MethodName := ⟨RX4, "at", "(II)I"⟩
abbrev cX4_count : ByteArray := prog_1_method_19_code
def yX4_count : MethodName := ⟨RX4, "count", "(I)I"⟩
abbrev cX4_best : ByteArray := prog_1_method_20_code
def yX4_best : MethodName := ⟨RX4, "best", "(I)I"⟩
abbrev cX4_bestWeight : ByteArray := prog_1_method_21_code
def yX4_bestWeight : MethodName := ⟨RX4, "bestWeight", "(I)I"⟩
abbrev cX4_ifPushed : ByteArray := prog_1_method_22_code
def yX4_ifPushed : MethodName := ⟨RX4, "ifPushed", "(I)I"⟩
abbrev cX4_fullPlans : ByteArray := prog_1_method_23_code
def yX4_fullPlans : MethodName := ⟨RX4, "fullPlans", "()I"⟩
abbrev cX4_dearest : ByteArray := prog_1_method_24_code
def yX4_dearest : MethodName := ⟨RX4, "dearest", "()I"⟩
abbrev cX4_standingShare : ByteArray := prog_1_method_25_code
def yX4_standingShare : MethodName := ⟨RX4, "standingShare", "()D"⟩
abbrev cX4_digest : ByteArray := prog_1_method_26_code
def yX4_digest : MethodName := ⟨RX4, "digest", "()J"⟩
abbrev cX4_isSquare : ByteArray := prog_1_method_27_code
def yX4_isSquare : MethodName := ⟨RX4, "isSquare", "(II)Z"⟩
abbrev cX4_isSize : ByteArray := prog_1_method_28_code
def yX4_isSize : MethodName := ⟨RX4, "isSize", "(II)Z"⟩
abbrev cX4_isWeight : ByteArray := prog_1_method_29_code
def yX4_isWeight : MethodName := ⟨RX4, "isWeight", "(I)Z"⟩
abbrev cX4_isCorner : ByteArray := prog_1_method_30_code
def yX4_isCorner : MethodName := ⟨RX4, "isCorner", "(I)Z"⟩
abbrev cX4_hasBit : ByteArray := prog_1_method_31_code
def yX4_hasBit : MethodName := ⟨RX4, "hasBit", "(II)Z"⟩
abbrev cX4_putLabel : ByteArray := prog_1_method_32_code
def yX4_putLabel : MethodName := ⟨RX4, "putLabel", "(II)I"⟩
abbrev cX4_putLabelsAsFound : ByteArray := prog_1_method_33_code
def yX4_putLabelsAsFound : MethodName := ⟨RX4, "putLabelsAsFound", "()V"⟩
abbrev cX4_insertTold : ByteArray := prog_1_method_34_code
def yX4_insertTold : MethodName := ⟨RX4, "insertTold", "()I"⟩
abbrev cX4_property : ByteArray := prog_1_method_35_code
def yX4_property : MethodName := ⟨RX4, "property", "(II)I"⟩
abbrev cX4_number : ByteArray := prog_1_method_36_code
def yX4_number : MethodName := ⟨RX4, "number", "(I)I"⟩
abbrev cX4_findDearest : ByteArray := prog_1_method_37_code
def yX4_findDearest : MethodName := ⟨RX4, "findDearest", "()I"⟩
abbrev cX4_mix : ByteArray := prog_1_method_38_code
def yX4_mix : MethodName := ⟨RX4, "mix", "(JJ)J"⟩
abbrev cX4_mixPoints : ByteArray := prog_1_method_39_code
def yX4_mixPoints : MethodName := ⟨RX4, "mixPoints", "(J)J"⟩
abbrev cX4_mixPairs : ByteArray := prog_1_method_40_code
def yX4_mixPairs : MethodName := ⟨RX4, "mixPairs", "(J)J"⟩
abbrev cX4_mixBuffer : ByteArray := prog_1_method_41_code
def yX4_mixBuffer : MethodName := ⟨RX4, "mixBuffer", "(J)J"⟩
abbrev cX4_bitsOf : ByteArray := prog_1_method_42_code
def yX4_bitsOf : MethodName := ⟨RX4, "bitsOf", "(D)J"⟩
def RX5 : String := "CornerLabelsModel"
def TX5 : u_T := fun k => match k with
  | 0 => ("CornerLabelsModel", "thrown", "I", false)
  | 1 => ("CornerLabelsModel", "s", "[I", true)
  | 2 => ("CornerLabelsModel", "saved", "[I", true)
  | 3 => ("CornerLabelsModel", "savedMany", "I", false)
  | 4 => ("CornerLabelsModel", "buffer", "[I", true)
  | 5 => ("CornerLabelsModel", "length", "I", false)
  | 6 => ("CornerLabelsModel", "told", "[I", true)
  | 7 => ("CornerLabelsModel", "allowed", "[I", true)
  | 8 => ("CornerLabelsModel", "plan", "[I", true)
  | 9 => ("CornerLabelsModel", "best", "I", false)
  | 10 => ("CornerLabelsModel", "looksFor", "I", false)
  | 11 => ("CornerLabelsModel", "at", "I", false)
  | 12 => ("CornerLabelsModel", "isWell", "Z", false)
  | 13 => ("CornerLabelsModel", "read", "[I", true)
  | 14 => ("CornerLabelsModel", "readMany", "I", false)
  | _ => ("CornerLabelsModel", "hash", "J", false)
def tyX5 : Nat → FieldType := fun k => match k with
  | 0 => .int
  | 1 => .array .int
  | 2 => .array .int
  | 3 => .int
  | 4 => .array .int
  | 5 => .int
  | 6 => .array .int
  | 7 => .array .int
  | 8 => .array .int
  | 9 => .int
  | 10 => .int
  | 11 => .int
  | 12 => .boolean
  | 13 => .array .int
  | 14 => .int
  | _ => .long
abbrev wsX50 : List Cond := u_ws RX5 TX5 16
theorem nmX5 : ∀ a, a < 16 → ∀ b, b < 16 → a ≠ b → (TX5 a).2.1 ≠ (TX5 b).2.1 := by decide +kernel
theorem tyX5_ok : ∀ k, k < 16 → parseFieldDescriptor (TX5 k).2.2.1 = some (tyX5 k) := by decide +kernel
abbrev cX5_init : ByteArray := prog_7_method_1_code
def yX5_init : MethodName := ⟨RX5, "<init>", "()V"⟩
abbrev cX5_thrown : ByteArray := prog_7_method_2_code
def yX5_thrown : MethodName := ⟨RX5, "thrown", "()I"⟩
abbrev cX5_in : ByteArray := prog_7_method_3_code
def yX5_in : MethodName := ⟨RX5, "in", "(III)Z"⟩
abbrev cX5_fails : ByteArray := prog_7_method_4_code
def yX5_fails : MethodName := ⟨RX5, "fails", "(I)I"⟩
abbrev cX5_isPoint : ByteArray := prog_7_method_5_code
def yX5_isPoint : MethodName := ⟨RX5, "isPoint", "(I)Z"⟩
abbrev cX5_of : ByteArray := prog_7_method_6_code
def yX5_of : MethodName := ⟨RX5, "of", "(II)I"⟩
abbrev cX5_stands : ByteArray := prog_7_method_7_code
def yX5_stands : MethodName := ⟨RX5, "stands", "(II)V"⟩
abbrev cX5_cornerOf : ByteArray := prog_7_method_8_code
def yX5_cornerOf : MethodName := ⟨RX5, "cornerOf", "(I)I"⟩
abbrev cX5_saves : ByteArray := prog_7_method_9_code
def yX5_saves : MethodName := ⟨RX5, "saves", "()V"⟩
abbrev cX5_left : ByteArray := prog_7_method_10_code
def yX5_left : MethodName := ⟨RX5, "left", "(II)I"⟩
abbrev cX5_right : ByteArray := prog_7_method_11_code
def yX5_right : MethodName := ⟨RX5, "right", "(II)I"⟩
abbrev cX5_low : ByteArray := prog_7_method_12_code
def yX5_low : MethodName := ⟨RX5, "low", "(II)I"⟩
abbrev cX5_high : ByteArray := prog_7_method_13_code
def yX5_high : MethodName := ⟨RX5, "high", "(II)I"⟩
abbrev cX5_has : ByteArray := prog_7_method_14_code
def yX5_has : MethodName := ⟨RX5, "has", "(IIII)Z"⟩
abbrev cX5_isOpen : ByteArray := prog_7_method_15_code
def yX5_isOpen : MethodName := ⟨RX5, "isOpen", "(II)Z"⟩
abbrev cX5_openOf : ByteArray := prog_7_method_16_code
def yX5_openOf : MethodName := ⟨RX5, "openOf", "(I)I"⟩
abbrev cX5_lesser : ByteArray := prog_7_method_17_code
def yX5_lesser : MethodName := ⟨RX5, "lesser", "(II)I"⟩
abbrev cX5_greater : ByteArray := prog_7_method_18_code
def yX5_greater : MethodName := ⟨RX5, "greater", "(II)I"⟩
abbrev cX5_common : ByteArray := prog_7_method_19_code
def yX5_common : MethodName := ⟨RX5, "common", "(IIII)I"⟩
abbrev cX5_canStand : ByteArray := prog_7_method_20_code
def yX5_canStand : MethodName := ⟨RX5, "canStand", "(II)Z"⟩
abbrev cX5_ones : ByteArray := prog_7_method_21_code
def yX5_ones : MethodName := ⟨RX5, "ones", "(I)I"⟩
abbrev cX5_fits : ByteArray := prog_7_method_22_code
def yX5_fits : MethodName := ⟨RX5, "fits", "(I)Z"⟩
abbrev cX5_worth : ByteArray := prog_7_method_23_code
def yX5_worth : MethodName := ⟨RX5, "worth", "(I)I"⟩
abbrev cX5_weightFrom : ByteArray := prog_7_method_24_code
def yX5_weightFrom : MethodName := ⟨RX5, "weightFrom", "(I)I"⟩
abbrev cX5_canBe : ByteArray := prog_7_method_25_code
def yX5_canBe : MethodName := ⟨RX5, "canBe", "(I)Z"⟩
abbrev cX5_looksAt : ByteArray := prog_7_method_26_code
def yX5_looksAt : MethodName := ⟨RX5, "looksAt", "()V"⟩
abbrev cX5_searches : ByteArray := prog_7_method_27_code
def yX5_searches : MethodName := ⟨RX5, "searches", "(I)I"⟩
abbrev cX5_heaviest : ByteArray := prog_7_method_28_code
def yX5_heaviest : MethodName := ⟨RX5, "heaviest", "(I)I"⟩
abbrev cX5_makesRoom : ByteArray := prog_7_method_29_code
def yX5_makesRoom : MethodName := ⟨RX5, "makesRoom", "(I)I"⟩
abbrev cX5_fulls : ByteArray := prog_7_method_30_code
def yX5_fulls : MethodName := ⟨RX5, "fulls", "()I"⟩
abbrev cX5_lays : ByteArray := prog_7_method_31_code
def yX5_lays : MethodName := ⟨RX5, "lays", "()V"⟩
abbrev cX5_pointAt : ByteArray := prog_7_method_32_code
def yX5_pointAt : MethodName := ⟨RX5, "pointAt", "(II)I"⟩
abbrev cX5_refusesAdd : ByteArray := prog_7_method_33_code
def yX5_refusesAdd : MethodName := ⟨RX5, "refusesAdd", "(IIIII)I"⟩
abbrev cX5_comes : ByteArray := prog_7_method_34_code
def yX5_comes : MethodName := ⟨RX5, "comes", "(IIIII)V"⟩
abbrev cX5_add : ByteArray := prog_7_method_35_code
def yX5_add : MethodName := ⟨RX5, "add", "(IIIII)I"⟩
abbrev cX5_openMany : ByteArray := prog_7_method_36_code
def yX5_openMany : MethodName := ⟨RX5, "openMany", "(I)I"⟩
abbrev cX5_remove : ByteArray := prog_7_method_37_code
def yX5_remove : MethodName := ⟨RX5, "remove", "(I)I"⟩
abbrev cX5_weigh : ByteArray := prog_7_method_38_code
def yX5_weigh : MethodName := ⟨RX5, "weigh", "(II)I"⟩
abbrev cX5_resize : ByteArray := prog_7_method_39_code
def yX5_resize : MethodName := ⟨RX5, "resize", "(III)I"⟩
abbrev cX5_place : ByteArray := prog_7_method_40_code
def yX5_place : MethodName := ⟨RX5, "place", "(II)I"⟩
abbrev cX5_drop : ByteArray := prog_7_method_41_code
def yX5_drop : MethodName := ⟨RX5, "drop", "(I)I"⟩
abbrev cX5_solve : ByteArray := prog_7_method_42_code
def yX5_solve : MethodName := ⟨RX5, "solve", "()I"⟩
abbrev cX5_push : ByteArray := prog_7_method_43_code
def yX5_push : MethodName := ⟨RX5, "push", "(I)I"⟩
abbrev cX5_standing : ByteArray := prog_7_method_44_code
def yX5_standing : MethodName := ⟨RX5, "standing", "()I"⟩
abbrev cX5_mirror : ByteArray := prog_7_method_45_code
def yX5_mirror : MethodName := ⟨RX5, "mirror", "()I"⟩
abbrev cX5_append : ByteArray := prog_7_method_46_code
def yX5_append : MethodName := ⟨RX5, "append", "(I)I"⟩
abbrev cX5_clearBuffer : ByteArray := prog_7_method_47_code
def yX5_clearBuffer : MethodName := ⟨RX5, "clearBuffer", "()I"⟩
abbrev cX5_sign : ByteArray := prog_7_method_48_code
def yX5_sign : MethodName := ⟨RX5, "sign", "()I"⟩
abbrev cX5_takes : ByteArray := prog_7_method_49_code
def yX5_takes : MethodName := ⟨RX5, "takes", "(I)Z"⟩
abbrev cX5_number : ByteArray := prog_7_method_50_code
def yX5_number : MethodName := ⟨RX5, "number", "(II)I"⟩
abbrev cX5_readsPoint : ByteArray := prog_7_method_51_code
def yX5_readsPoint : MethodName := ⟨RX5, "readsPoint", "()V"⟩
abbrev cX5_readsAll : ByteArray := prog_7_method_52_code
def yX5_readsAll : MethodName := ⟨RX5, "readsAll", "()V"⟩
abbrev cX5_firstError : ByteArray := prog_7_method_53_code
def yX5_firstError : MethodName := ⟨RX5, "firstError", "()I"⟩
abbrev cX5_read : ByteArray := prog_7_method_54_code
def yX5_read : MethodName := ⟨RX5, "read", "()I"⟩
abbrev cX5_undo : ByteArray := prog_7_method_55_code
def yX5_undo : MethodName := ⟨RX5, "undo", "()I"⟩
abbrev cX5_freeOf : ByteArray := prog_7_method_56_code
def yX5_freeOf : MethodName := ⟨RX5, "freeOf", "(I)I"⟩
abbrev cX5_crosses : ByteArray := prog_7_method_57_code
def yX5_crosses : MethodName := ⟨RX5, "crosses", "(I)I"⟩
abbrev cX5_tellsPoint : ByteArray := prog_7_method_58_code
def yX5_tellsPoint : MethodName := ⟨RX5, "tellsPoint", "(II)I"⟩
abbrev cX5_point : ByteArray := prog_7_method_59_code
def yX5_point : MethodName := ⟨RX5, "point", "(II)I"⟩
abbrev cX5_clash : ByteArray := prog_7_method_60_code
def yX5_clash : MethodName := ⟨RX5, "clash", "(IIII)I"⟩
abbrev cX5_tellsAt : ByteArray := prog_7_method_61_code
def yX5_tellsAt : MethodName := ⟨RX5, "tellsAt", "(II)I"⟩
abbrev cX5_at : ByteArray := prog_7_method_62_code
def yX5_at : MethodName := ⟨RX5, "at", "(II)I"⟩
abbrev cX5_weightOf : ByteArray := prog_7_method_63_code
def yX5_weightOf : MethodName := ⟨RX5, "weightOf", "(Z)I"⟩
abbrev cX5_squares : ByteArray := prog_7_method_64_code
def yX5_squares : MethodName := ⟨RX5, "squares", "()I"⟩
abbrev cX5_closedMany : ByteArray := prog_7_method_65_code
def yX5_closedMany : MethodName := ⟨RX5, "closedMany", "()I"⟩
abbrev cX5_mayClash : ByteArray := prog_7_method_66_code
def yX5_mayClash : MethodName := ⟨RX5, "mayClash", "(II)Z"⟩
abbrev cX5_clashing : ByteArray := prog_7_method_67_code
def yX5_clashing : MethodName := ⟨RX5, "clashing", "()I"⟩
abbrev cX5_crossed : ByteArray := prog_7_method_68_code
def yX5_crossed : MethodName := ⟨RX5, "crossed", "()I"⟩
abbrev cX5_counts : ByteArray := prog_7_method_69_code
def yX5_counts : MethodName := ⟨RX5, "counts", "(I)I"⟩
abbrev cX5_count : ByteArray := prog_7_method_70_code
def yX5_count : MethodName := ⟨RX5, "count", "(I)I"⟩
abbrev cX5_bestOf : ByteArray := prog_7_method_71_code
def yX5_bestOf : MethodName := ⟨RX5, "bestOf", "(I)I"⟩
abbrev cX5_best : ByteArray := prog_7_method_72_code
def yX5_best : MethodName := ⟨RX5, "best", "(I)I"⟩
abbrev cX5_bestWeight : ByteArray := prog_7_method_73_code
def yX5_bestWeight : MethodName := ⟨RX5, "bestWeight", "(I)I"⟩
abbrev cX5_ifPushed : ByteArray := prog_7_method_74_code
def yX5_ifPushed : MethodName := ⟨RX5, "ifPushed", "(I)I"⟩
abbrev cX5_fullPlans : ByteArray := prog_7_method_75_code
def yX5_fullPlans : MethodName := ⟨RX5, "fullPlans", "()I"⟩
abbrev cX5_dear : ByteArray := prog_7_method_76_code
def yX5_dear : MethodName := ⟨RX5, "dear", "()I"⟩
abbrev cX5_dearest : ByteArray := prog_7_method_77_code
def yX5_dearest : MethodName := ⟨RX5, "dearest", "()I"⟩
abbrev cX5_share : ByteArray := prog_7_method_78_code
def yX5_share : MethodName := ⟨RX5, "share", "()D"⟩
abbrev cX5_standingShare : ByteArray := prog_7_method_79_code
def yX5_standingShare : MethodName := ⟨RX5, "standingShare", "()D"⟩
abbrev cX5_hashes : ByteArray := prog_7_method_80_code
def yX5_hashes : MethodName := ⟨RX5, "hashes", "(J)V"⟩
abbrev cX5_digest : ByteArray := prog_7_method_81_code
def yX5_digest : MethodName := ⟨RX5, "digest", "()J"⟩
def RJxe99ae : String := "java/lang/Double"
def TJxe99ae : u_T := fun k => match k with
  | _ => ("", "", "", false)
def tyJxe99ae : Nat → FieldType := fun k => match k with
  | _ => .int
abbrev wsJxe99ae0 : List Cond := u_ws RJxe99ae TJxe99ae 0
theorem nmJxe99ae : ∀ a, a < 0 → ∀ b, b < 0 → a ≠ b → (TJxe99ae a).2.1 ≠ (TJxe99ae b).2.1 := by decide +kernel
theorem tyJxe99ae_ok : ∀ k, k < 0 → parseFieldDescriptor (TJxe99ae k).2.2.1 = some (tyJxe99ae k) := by decide +kernel
abbrev cJxe99ae_isNaN_b9ae7 : ByteArray := prog_8_method_6_code
def yJxe99ae_isNaN_b9ae7 : MethodName := ⟨RJxe99ae, "isNaN", "(D)Z"⟩
abbrev cJxe99ae_doubleToLongBits_ccdee : ByteArray := prog_8_method_23_code
def yJxe99ae_doubleToLongBits_ccdee : MethodName := ⟨RJxe99ae, "doubleToLongBits", "(D)J"⟩
def RJ6 : String := "java/lang/Integer"
def TJ6 : u_T := fun k => match k with
  | _ => ("", "", "", false)
def tyJ6 : Nat → FieldType := fun k => match k with
  | _ => .int
abbrev wsJ60 : List Cond := u_ws RJ6 TJ6 0
theorem nmJ6 : ∀ a, a < 0 → ∀ b, b < 0 → a ≠ b → (TJ6 a).2.1 ≠ (TJ6 b).2.1 := by decide +kernel
theorem tyJ6_ok : ∀ k, k < 0 → parseFieldDescriptor (TJ6 k).2.2.1 = some (tyJ6 k) := by decide +kernel
abbrev cJ6_bitCount_0f7a4 : ByteArray := prog_13_method_49_code
def yJ6_bitCount_0f7a4 : MethodName := ⟨RJ6, "bitCount", "(I)I"⟩
def RJ9 : String := "java/lang/Math"
def TJ9 : u_T := fun k => match k with
  | _ => ("", "", "", false)
def tyJ9 : Nat → FieldType := fun k => match k with
  | _ => .int
abbrev wsJ90 : List Cond := u_ws RJ9 TJ9 0
theorem nmJ9 : ∀ a, a < 0 → ∀ b, b < 0 → a ≠ b → (TJ9 a).2.1 ≠ (TJ9 b).2.1 := by decide +kernel
theorem tyJ9_ok : ∀ k, k < 0 → parseFieldDescriptor (TJ9 k).2.2.1 = some (tyJ9 k) := by decide +kernel
abbrev cJ9_max_7cf53 : ByteArray := prog_14_method_65_code
def yJ9_max_7cf53 : MethodName := ⟨RJ9, "max", "(II)I"⟩
abbrev cJ9_min_7cf53 : ByteArray := prog_14_method_69_code
def yJ9_min_7cf53 : MethodName := ⟨RJ9, "min", "(II)I"⟩
def RJ0 : String := "java/lang/String"
def TJ0 : u_T := fun k => match k with
  | _ => ("", "", "", false)
def tyJ0 : Nat → FieldType := fun k => match k with
  | _ => .int
abbrev wsJ00 : List Cond := u_ws RJ0 TJ0 0
theorem nmJ0 : ∀ a, a < 0 → ∀ b, b < 0 → a ≠ b → (TJ0 a).2.1 ≠ (TJ0 b).2.1 := by decide +kernel
theorem tyJ0_ok : ∀ k, k < 0 → parseFieldDescriptor (TJ0 k).2.2.1 = some (tyJ0 k) := by decide +kernel
def RJ10 : String := "java/lang/System"
def TJ10 : u_T := fun k => match k with
  | _ => ("", "", "", false)
def tyJ10 : Nat → FieldType := fun k => match k with
  | _ => .int
abbrev wsJ100 : List Cond := u_ws RJ10 TJ10 0
theorem nmJ10 : ∀ a, a < 0 → ∀ b, b < 0 → a ≠ b → (TJ10 a).2.1 ≠ (TJ10 b).2.1 := by decide +kernel
theorem tyJ10_ok : ∀ k, k < 0 → parseFieldDescriptor (TJ10 k).2.2.1 = some (tyJ10 k) := by decide +kernel
def RL : String := "CornerLabelsLaw"
abbrev cL_add : ByteArray := method_3_code
def yL_add : MethodName := ⟨RL, "add", "(LCornerLabels;IIIII[J)I"⟩
abbrev cL_remove : ByteArray := method_4_code
def yL_remove : MethodName := ⟨RL, "remove", "(LCornerLabels;I[J)I"⟩
abbrev cL_weigh : ByteArray := method_5_code
def yL_weigh : MethodName := ⟨RL, "weigh", "(LCornerLabels;II[J)I"⟩
abbrev cL_resize : ByteArray := method_6_code
def yL_resize : MethodName := ⟨RL, "resize", "(LCornerLabels;III[J)I"⟩
abbrev cL_place : ByteArray := method_7_code
def yL_place : MethodName := ⟨RL, "place", "(LCornerLabels;II[J)I"⟩
abbrev cL_drop : ByteArray := method_8_code
def yL_drop : MethodName := ⟨RL, "drop", "(LCornerLabels;I[J)I"⟩
abbrev cL_push : ByteArray := method_9_code
def yL_push : MethodName := ⟨RL, "push", "(LCornerLabels;I[J)I"⟩
abbrev cL_append : ByteArray := method_10_code
def yL_append : MethodName := ⟨RL, "append", "(LCornerLabels;I[J)I"⟩
abbrev cL_read : ByteArray := method_11_code
def yL_read : MethodName := ⟨RL, "read", "(LCornerLabels;[J)I"⟩
abbrev cL_undo : ByteArray := method_12_code
def yL_undo : MethodName := ⟨RL, "undo", "(LCornerLabels;[J)I"⟩
abbrev cL_point : ByteArray := method_13_code
def yL_point : MethodName := ⟨RL, "point", "(LCornerLabels;II[J)I"⟩
abbrev cL_clash : ByteArray := method_14_code
def yL_clash : MethodName := ⟨RL, "clash", "(LCornerLabels;IIII[J)I"⟩
abbrev cL_at : ByteArray := method_15_code
def yL_at : MethodName := ⟨RL, "at", "(LCornerLabels;II[J)I"⟩
abbrev cL_count : ByteArray := method_16_code
def yL_count : MethodName := ⟨RL, "count", "(LCornerLabels;I[J)I"⟩
abbrev cL_best : ByteArray := method_17_code
def yL_best : MethodName := ⟨RL, "best", "(LCornerLabels;I[J)I"⟩
abbrev cL_bestWeight : ByteArray := method_18_code
def yL_bestWeight : MethodName := ⟨RL, "bestWeight", "(LCornerLabels;I[J)I"⟩
abbrev cL_ifPushed : ByteArray := method_19_code
def yL_ifPushed : MethodName := ⟨RL, "ifPushed", "(LCornerLabels;I[J)I"⟩
abbrev cL_law : ByteArray := code
def yL_law : MethodName := ⟨RL, "law", "([I)Z"⟩
def wsX0_init : List Cond := .code yX0_init cX0_init 1 none :: ([.methodLink RX0 3 objectInit, .instanceMethod objectInit, .code objectInit ⟨#[0xb1]⟩ 1 none, .arrayClass .int, .fieldLink RX0 11 "CornerLabels$Board" "cells" "[I", .fieldLink RX0 15 "CornerLabels$Board" "points" "I"] ++ wsX00)
def wsX0_has : List Cond := .code yX0_has cX0_has 2 (some .boolean) :: ([.fieldLink RX0 15 "CornerLabels$Board" "points" "I"] ++ wsX00)
def wsX0_stands : List Cond := .code yX0_stands cX0_stands 2 (some .boolean) :: ([.fieldLink RX0 11 "CornerLabels$Board" "cells" "[I"] ++ wsX00)
def wsX0_pointOn : List Cond := .code yX0_pointOn cX0_pointOn 4 (some .int) :: ([.fieldLink RX0 15 "CornerLabels$Board" "points" "I", .fieldLink RX0 11 "CornerLabels$Board" "cells" "[I"] ++ wsX00)
def wsX0_takesPointOn : List Cond := .code yX0_takesPointOn cX0_takesPointOn 3 (some .boolean) :: ([.fieldLink RX0 15 "CornerLabels$Board" "points" "I", .methodLink RX0 19 yX0_pointOn, .instanceMethod yX0_pointOn, .selects RX0 yX0_pointOn yX0_pointOn, .initialized RX0, .code yX0_pointOn cX0_pointOn 4 (some .int), .fieldLink RX0 11 "CornerLabels$Board" "cells" "[I"] ++ wsX00)
def wsX0_left : List Cond := .code yX0_left cX0_left 4 (some .int) :: ([.fieldLink RX0 11 "CornerLabels$Board" "cells" "[I"] ++ wsX00)
def wsX0_top : List Cond := .code yX0_top cX0_top 4 (some .int) :: ([.fieldLink RX0 11 "CornerLabels$Board" "cells" "[I"] ++ wsX00)
def wsX0_covers : List Cond := .code yX0_covers cX0_covers 7 (some .boolean) :: ([.fieldLink RX0 11 "CornerLabels$Board" "cells" "[I", .methodLink RX0 30 yX0_left, .instanceMethod yX0_left, .selects RX0 yX0_left yX0_left, .initialized RX0, .code yX0_left cX0_left 4 (some .int), .methodLink RX0 33 yX0_top, .instanceMethod yX0_top, .selects RX0 yX0_top yX0_top, .code yX0_top cX0_top 4 (some .int)] ++ wsX00)
def wsX0_labelOn : List Cond := .code yX0_labelOn cX0_labelOn 4 (some .int) :: ([.fieldLink RX0 15 "CornerLabels$Board" "points" "I", .fieldLink RX0 11 "CornerLabels$Board" "cells" "[I", .methodLink RX0 26 yX0_stands, .instanceMethod yX0_stands, .selects RX0 yX0_stands yX0_stands, .initialized RX0, .code yX0_stands cX0_stands 2 (some .boolean), .methodLink RX0 36 yX0_covers, .instanceMethod yX0_covers, .selects RX0 yX0_covers yX0_covers, .code yX0_covers cX0_covers 7 (some .boolean), .methodLink RX0 30 yX0_left, .instanceMethod yX0_left, .selects RX0 yX0_left yX0_left, .code yX0_left cX0_left 4 (some .int), .methodLink RX0 33 yX0_top, .instanceMethod yX0_top, .selects RX0 yX0_top yX0_top, .code yX0_top cX0_top 4 (some .int)] ++ wsX00)
def wsX0_insert : List Cond := .code yX0_insert cX0_insert 8 (some .int) :: ([.fieldLink RX0 11 "CornerLabels$Board" "cells" "[I", .fieldLink RX0 15 "CornerLabels$Board" "points" "I", .methodLink RX0 23 yX0_labelOn, .instanceMethod yX0_labelOn, .selects RX0 yX0_labelOn yX0_labelOn, .initialized RX0, .code yX0_labelOn cX0_labelOn 4 (some .int), .methodLink RX0 26 yX0_stands, .instanceMethod yX0_stands, .selects RX0 yX0_stands yX0_stands, .code yX0_stands cX0_stands 2 (some .boolean), .methodLink RX0 36 yX0_covers, .instanceMethod yX0_covers, .selects RX0 yX0_covers yX0_covers, .code yX0_covers cX0_covers 7 (some .boolean), .methodLink RX0 30 yX0_left, .instanceMethod yX0_left, .selects RX0 yX0_left yX0_left, .code yX0_left cX0_left 4 (some .int), .methodLink RX0 33 yX0_top, .instanceMethod yX0_top, .selects RX0 yX0_top yX0_top, .code yX0_top cX0_top 4 (some .int)] ++ wsX00)
def wsX0_takeOut : List Cond := .code yX0_takeOut cX0_takeOut 4 none :: ([.fieldLink RX0 15 "CornerLabels$Board" "points" "I", .fieldLink RX0 11 "CornerLabels$Board" "cells" "[I"] ++ wsX00)
def wsX0_flip : List Cond := .code yX0_flip cX0_flip 2 none :: ([.fieldLink RX0 15 "CornerLabels$Board" "points" "I", .fieldLink RX0 11 "CornerLabels$Board" "cells" "[I", .methodLink RX0 26 yX0_stands, .instanceMethod yX0_stands, .selects RX0 yX0_stands yX0_stands, .initialized RX0, .code yX0_stands cX0_stands 2 (some .boolean)] ++ wsX00)
def wsX0_isOpen : List Cond := .code yX0_isOpen cX0_isOpen 10 (some .boolean) :: ([.fieldLink RX0 11 "CornerLabels$Board" "cells" "[I", .fieldLink RX0 15 "CornerLabels$Board" "points" "I", .methodLink RX0 30 yX0_left, .instanceMethod yX0_left, .selects RX0 yX0_left yX0_left, .initialized RX0, .code yX0_left cX0_left 4 (some .int), .methodLink RX0 33 yX0_top, .instanceMethod yX0_top, .selects RX0 yX0_top yX0_top, .code yX0_top cX0_top 4 (some .int)] ++ wsX00)
def wsX0_openMask : List Cond := .code yX0_openMask cX0_openMask 4 (some .int) :: ([.methodLink RX0 40 yX0_isOpen, .instanceMethod yX0_isOpen, .selects RX0 yX0_isOpen yX0_isOpen, .initialized RX0, .code yX0_isOpen cX0_isOpen 10 (some .boolean), .fieldLink RX0 11 "CornerLabels$Board" "cells" "[I", .fieldLink RX0 15 "CornerLabels$Board" "points" "I", .methodLink RX0 30 yX0_left, .instanceMethod yX0_left, .selects RX0 yX0_left yX0_left, .code yX0_left cX0_left 4 (some .int), .methodLink RX0 33 yX0_top, .instanceMethod yX0_top, .selects RX0 yX0_top yX0_top, .code yX0_top cX0_top 4 (some .int)] ++ wsX00)
def wsJ6_bitCount_0f7a4 : List Cond := .code yJ6_bitCount_0f7a4 cJ6_bitCount_0f7a4 1 (some .int) :: ([.constant RJ6 265 (1431655765), .constant RJ6 266 (858993459), .constant RJ6 267 (252645135)])
def wsX0_openCornersBeside_r1 : List Cond := [Cond.fieldLink RX0 15 "CornerLabels$Board" "points" "I", Cond.methodLink RX0 44 yX0_openMask, Cond.instanceMethod yX0_openMask, Cond.selects RX0 yX0_openMask yX0_openMask, Cond.initialized RX0, Cond.code yX0_openMask cX0_openMask 4 (some .int), Cond.methodLink RX0 40 yX0_isOpen, Cond.instanceMethod yX0_isOpen, Cond.selects RX0 yX0_isOpen yX0_isOpen, Cond.code yX0_isOpen cX0_isOpen 10 (some .boolean), Cond.fieldLink RX0 11 "CornerLabels$Board" "cells" "[I", Cond.methodLink RX0 30 yX0_left, Cond.instanceMethod yX0_left, Cond.selects RX0 yX0_left yX0_left, Cond.code yX0_left cX0_left 4 (some .int), Cond.methodLink RX0 33 yX0_top, Cond.instanceMethod yX0_top, Cond.selects RX0 yX0_top yX0_top, Cond.code yX0_top cX0_top 4 (some .int), Cond.methodLink RX0 48 yJ6_bitCount_0f7a4, Cond.static yJ6_bitCount_0f7a4, Cond.initialized RJ6, Cond.code yJ6_bitCount_0f7a4 cJ6_bitCount_0f7a4 1 (some .int), Cond.constant RJ6 265 (1431655765)]
def wsX0_openCornersBeside_r2 : List Cond := [Cond.constant RJ6 266 (858993459), Cond.constant RJ6 267 (252645135)]
def wsX0_openCornersBeside : List Cond := .code yX0_openCornersBeside cX0_openCornersBeside 4 (some .int) :: ((wsX0_openCornersBeside_r1 ++ wsX0_openCornersBeside_r2) ++ wsX00)
def wsX0_sharedLength : List Cond := .code yX0_sharedLength cX0_sharedLength 6 (some .int) :: ([.methodLink RX0 57 Lib.Math.max.name, .static Lib.Math.max.name, .initialized "java/lang/Math", .code Lib.Math.max.name Lib.Math.max.code 2 (some .int), .methodLink RX0 62 Lib.Math.min.name, .static Lib.Math.min.name, .code Lib.Math.min.name Lib.Math.min.code 2 (some .int)])
def wsX0_sharedSquares : List Cond := .code yX0_sharedSquares cX0_sharedSquares 7 (some .int) :: ([.fieldLink RX0 11 "CornerLabels$Board" "cells" "[I", .methodLink RX0 30 yX0_left, .instanceMethod yX0_left, .selects RX0 yX0_left yX0_left, .initialized RX0, .code yX0_left cX0_left 4 (some .int), .methodLink RX0 53 yX0_sharedLength, .static yX0_sharedLength, .code yX0_sharedLength cX0_sharedLength 6 (some .int), .methodLink RX0 57 Lib.Math.max.name, .static Lib.Math.max.name, .initialized "java/lang/Math", .code Lib.Math.max.name Lib.Math.max.code 2 (some .int), .methodLink RX0 62 Lib.Math.min.name, .static Lib.Math.min.name, .code Lib.Math.min.name Lib.Math.min.code 2 (some .int), .methodLink RX0 33 yX0_top, .instanceMethod yX0_top, .selects RX0 yX0_top yX0_top, .code yX0_top cX0_top 4 (some .int)] ++ wsX00)
def wsX0_clashesWithStanding_r1 : List Cond := [Cond.fieldLink RX0 15 "CornerLabels$Board" "points" "I", Cond.fieldLink RX0 11 "CornerLabels$Board" "cells" "[I", Cond.methodLink RX0 26 yX0_stands, Cond.instanceMethod yX0_stands, Cond.selects RX0 yX0_stands yX0_stands, Cond.initialized RX0, Cond.code yX0_stands cX0_stands 2 (some .boolean), Cond.methodLink RX0 65 yX0_sharedSquares, Cond.instanceMethod yX0_sharedSquares, Cond.selects RX0 yX0_sharedSquares yX0_sharedSquares, Cond.code yX0_sharedSquares cX0_sharedSquares 7 (some .int), Cond.methodLink RX0 30 yX0_left, Cond.instanceMethod yX0_left, Cond.selects RX0 yX0_left yX0_left, Cond.code yX0_left cX0_left 4 (some .int), Cond.methodLink RX0 53 yX0_sharedLength, Cond.static yX0_sharedLength, Cond.code yX0_sharedLength cX0_sharedLength 6 (some .int), Cond.methodLink RX0 57 Lib.Math.max.name, Cond.static Lib.Math.max.name, Cond.initialized "java/lang/Math", Cond.code Lib.Math.max.name Lib.Math.max.code 2 (some .int), Cond.methodLink RX0 62 Lib.Math.min.name, Cond.static Lib.Math.min.name]
def wsX0_clashesWithStanding_r2 : List Cond := [Cond.code Lib.Math.min.name Lib.Math.min.code 2 (some .int), Cond.methodLink RX0 33 yX0_top, Cond.instanceMethod yX0_top, Cond.selects RX0 yX0_top yX0_top, Cond.code yX0_top cX0_top 4 (some .int)]
def wsX0_clashesWithStanding : List Cond := .code yX0_clashesWithStanding cX0_clashesWithStanding 4 (some .boolean) :: ((wsX0_clashesWithStanding_r1 ++ wsX0_clashesWithStanding_r2) ++ wsX00)
def wsX4_hasBit : List Cond := .code yX4_hasBit cX4_hasBit 2 (some .boolean) :: ([])
def wsX0_freeMask_r1 : List Cond := [Cond.methodLink RX0 44 yX0_openMask, Cond.instanceMethod yX0_openMask, Cond.selects RX0 yX0_openMask yX0_openMask, Cond.initialized RX0, Cond.code yX0_openMask cX0_openMask 4 (some .int), Cond.methodLink RX0 40 yX0_isOpen, Cond.instanceMethod yX0_isOpen, Cond.selects RX0 yX0_isOpen yX0_isOpen, Cond.code yX0_isOpen cX0_isOpen 10 (some .boolean), Cond.fieldLink RX0 11 "CornerLabels$Board" "cells" "[I", Cond.fieldLink RX0 15 "CornerLabels$Board" "points" "I", Cond.methodLink RX0 30 yX0_left, Cond.instanceMethod yX0_left, Cond.selects RX0 yX0_left yX0_left, Cond.code yX0_left cX0_left 4 (some .int), Cond.methodLink RX0 33 yX0_top, Cond.instanceMethod yX0_top, Cond.selects RX0 yX0_top yX0_top, Cond.code yX0_top cX0_top 4 (some .int), Cond.static yX4_hasBit, Cond.initialized RX4, Cond.code yX4_hasBit cX4_hasBit 2 (some .boolean), Cond.methodLink RX0 71 yX0_clashesWithStanding, Cond.instanceMethod yX0_clashesWithStanding]
def wsX0_freeMask_r2 : List Cond := [Cond.selects RX0 yX0_clashesWithStanding yX0_clashesWithStanding, Cond.code yX0_clashesWithStanding cX0_clashesWithStanding 4 (some .boolean), Cond.methodLink RX0 26 yX0_stands, Cond.instanceMethod yX0_stands, Cond.selects RX0 yX0_stands yX0_stands, Cond.code yX0_stands cX0_stands 2 (some .boolean), Cond.methodLink RX0 65 yX0_sharedSquares, Cond.instanceMethod yX0_sharedSquares, Cond.selects RX0 yX0_sharedSquares yX0_sharedSquares, Cond.code yX0_sharedSquares cX0_sharedSquares 7 (some .int), Cond.methodLink RX0 53 yX0_sharedLength, Cond.static yX0_sharedLength, Cond.code yX0_sharedLength cX0_sharedLength 6 (some .int), Cond.methodLink RX0 57 Lib.Math.max.name, Cond.static Lib.Math.max.name, Cond.initialized "java/lang/Math", Cond.code Lib.Math.max.name Lib.Math.max.code 2 (some .int), Cond.methodLink RX0 62 Lib.Math.min.name, Cond.static Lib.Math.min.name, Cond.code Lib.Math.min.name Lib.Math.min.code 2 (some .int)]
def wsX0_freeMask : List Cond := .code yX0_freeMask cX0_freeMask 4 (some .int) :: ((wsX0_freeMask_r1 ++ wsX0_freeMask_r2) ++ wsX00)
def wsX0_isPointOnLeader : List Cond := .code yX0_isPointOnLeader cX0_isPointOnLeader 3 (some .boolean) :: ([.fieldLink RX0 11 "CornerLabels$Board" "cells" "[I"] ++ wsX00)
def wsX0_isLabelOnLeader : List Cond := .code yX0_isLabelOnLeader cX0_isLabelOnLeader 7 (some .boolean) :: ([.fieldLink RX0 11 "CornerLabels$Board" "cells" "[I", .methodLink RX0 26 yX0_stands, .instanceMethod yX0_stands, .selects RX0 yX0_stands yX0_stands, .initialized RX0, .code yX0_stands cX0_stands 2 (some .boolean), .methodLink RX0 30 yX0_left, .instanceMethod yX0_left, .selects RX0 yX0_left yX0_left, .code yX0_left cX0_left 4 (some .int), .methodLink RX0 33 yX0_top, .instanceMethod yX0_top, .selects RX0 yX0_top yX0_top, .code yX0_top cX0_top 4 (some .int)] ++ wsX00)
def wsX0_leaderCrossings : List Cond := .code yX0_leaderCrossings cX0_leaderCrossings 4 (some .int) :: ([.fieldLink RX0 15 "CornerLabels$Board" "points" "I", .methodLink RX0 74 yX0_isPointOnLeader, .instanceMethod yX0_isPointOnLeader, .selects RX0 yX0_isPointOnLeader yX0_isPointOnLeader, .initialized RX0, .code yX0_isPointOnLeader cX0_isPointOnLeader 3 (some .boolean), .fieldLink RX0 11 "CornerLabels$Board" "cells" "[I", .methodLink RX0 77 yX0_isLabelOnLeader, .instanceMethod yX0_isLabelOnLeader, .selects RX0 yX0_isLabelOnLeader yX0_isLabelOnLeader, .code yX0_isLabelOnLeader cX0_isLabelOnLeader 7 (some .boolean), .methodLink RX0 26 yX0_stands, .instanceMethod yX0_stands, .selects RX0 yX0_stands yX0_stands, .code yX0_stands cX0_stands 2 (some .boolean), .methodLink RX0 30 yX0_left, .instanceMethod yX0_left, .selects RX0 yX0_left yX0_left, .code yX0_left cX0_left 4 (some .int), .methodLink RX0 33 yX0_top, .instanceMethod yX0_top, .selects RX0 yX0_top yX0_top, .code yX0_top cX0_top 4 (some .int)] ++ wsX00)
def wsX0_standingLabels : List Cond := .code yX0_standingLabels cX0_standingLabels 3 (some .int) :: ([.fieldLink RX0 15 "CornerLabels$Board" "points" "I", .methodLink RX0 26 yX0_stands, .instanceMethod yX0_stands, .selects RX0 yX0_stands yX0_stands, .initialized RX0, .code yX0_stands cX0_stands 2 (some .boolean), .fieldLink RX0 11 "CornerLabels$Board" "cells" "[I"] ++ wsX00)
def wsX0_standingWeight : List Cond := .code yX0_standingWeight cX0_standingWeight 3 (some .int) :: ([.fieldLink RX0 15 "CornerLabels$Board" "points" "I", .fieldLink RX0 11 "CornerLabels$Board" "cells" "[I", .methodLink RX0 26 yX0_stands, .instanceMethod yX0_stands, .selects RX0 yX0_stands yX0_stands, .initialized RX0, .code yX0_stands cX0_stands 2 (some .boolean)] ++ wsX00)
def wsX0_allWeight : List Cond := .code yX0_allWeight cX0_allWeight 3 (some .int) :: ([.fieldLink RX0 15 "CornerLabels$Board" "points" "I", .fieldLink RX0 11 "CornerLabels$Board" "cells" "[I"] ++ wsX00)
def wsX0_standingSquares : List Cond := .code yX0_standingSquares cX0_standingSquares 3 (some .int) :: ([.fieldLink RX0 15 "CornerLabels$Board" "points" "I", .fieldLink RX0 11 "CornerLabels$Board" "cells" "[I", .methodLink RX0 26 yX0_stands, .instanceMethod yX0_stands, .selects RX0 yX0_stands yX0_stands, .initialized RX0, .code yX0_stands cX0_stands 2 (some .boolean)] ++ wsX00)
def wsX0_pointsWithoutOpenCorner : List Cond := .code yX0_pointsWithoutOpenCorner cX0_pointsWithoutOpenCorner 3 (some .int) :: ([.fieldLink RX0 15 "CornerLabels$Board" "points" "I", .methodLink RX0 44 yX0_openMask, .instanceMethod yX0_openMask, .selects RX0 yX0_openMask yX0_openMask, .initialized RX0, .code yX0_openMask cX0_openMask 4 (some .int), .methodLink RX0 40 yX0_isOpen, .instanceMethod yX0_isOpen, .selects RX0 yX0_isOpen yX0_isOpen, .code yX0_isOpen cX0_isOpen 10 (some .boolean), .fieldLink RX0 11 "CornerLabels$Board" "cells" "[I", .methodLink RX0 30 yX0_left, .instanceMethod yX0_left, .selects RX0 yX0_left yX0_left, .code yX0_left cX0_left 4 (some .int), .methodLink RX0 33 yX0_top, .instanceMethod yX0_top, .selects RX0 yX0_top yX0_top, .code yX0_top cX0_top 4 (some .int)] ++ wsX00)
def wsX0_crossingsOfDropped_r1 : List Cond := [Cond.fieldLink RX0 15 "CornerLabels$Board" "points" "I", Cond.methodLink RX0 26 yX0_stands, Cond.instanceMethod yX0_stands, Cond.selects RX0 yX0_stands yX0_stands, Cond.initialized RX0, Cond.code yX0_stands cX0_stands 2 (some .boolean), Cond.fieldLink RX0 11 "CornerLabels$Board" "cells" "[I", Cond.methodLink RX0 80 yX0_leaderCrossings, Cond.instanceMethod yX0_leaderCrossings, Cond.selects RX0 yX0_leaderCrossings yX0_leaderCrossings, Cond.code yX0_leaderCrossings cX0_leaderCrossings 4 (some .int), Cond.methodLink RX0 74 yX0_isPointOnLeader, Cond.instanceMethod yX0_isPointOnLeader, Cond.selects RX0 yX0_isPointOnLeader yX0_isPointOnLeader, Cond.code yX0_isPointOnLeader cX0_isPointOnLeader 3 (some .boolean), Cond.methodLink RX0 77 yX0_isLabelOnLeader, Cond.instanceMethod yX0_isLabelOnLeader, Cond.selects RX0 yX0_isLabelOnLeader yX0_isLabelOnLeader, Cond.code yX0_isLabelOnLeader cX0_isLabelOnLeader 7 (some .boolean), Cond.methodLink RX0 30 yX0_left, Cond.instanceMethod yX0_left, Cond.selects RX0 yX0_left yX0_left, Cond.code yX0_left cX0_left 4 (some .int), Cond.methodLink RX0 33 yX0_top]
def wsX0_crossingsOfDropped_r2 : List Cond := [Cond.instanceMethod yX0_top, Cond.selects RX0 yX0_top yX0_top, Cond.code yX0_top cX0_top 4 (some .int)]
def wsX0_crossingsOfDropped : List Cond := .code yX0_crossingsOfDropped cX0_crossingsOfDropped 3 (some .int) :: ((wsX0_crossingsOfDropped_r1 ++ wsX0_crossingsOfDropped_r2) ++ wsX00)
def wsX1_init : List Cond := .code yX1_init cX1_init 1 none :: ([.methodLink RX1 3 objectInit, .instanceMethod objectInit, .code objectInit ⟨#[0xb1]⟩ 1 none, .arrayClass .int, .fieldLink RX1 11 "CornerLabels$History" "cells" "[I", .fieldLink RX1 17 "CornerLabels$History" "points" "[I", .fieldLink RX1 20 "CornerLabels$History" "states" "I"] ++ wsX10)
def wsX1_forgetOldest : List Cond := .code yX1_forgetOldest cX1_forgetOldest 1 none :: ([.fieldLink RX1 11 "CornerLabels$History" "cells" "[I", .methodLink RX1 28 arraycopyName, .native arraycopyName, .static arraycopyName, .initialized "java/lang/System", .fieldLink RX1 17 "CornerLabels$History" "points" "[I", .fieldLink RX1 20 "CornerLabels$History" "states" "I"] ++ wsX10)
def wsX1_save : List Cond := .code yX1_save cX1_save 2 none :: ([.fieldLink RX1 20 "CornerLabels$History" "states" "I", .fieldLink RX1 27 "CornerLabels$Board" "cells" "[I", .fieldLink RX1 11 "CornerLabels$History" "cells" "[I", .methodLink RX1 28 arraycopyName, .native arraycopyName, .static arraycopyName, .initialized "java/lang/System", .fieldLink RX1 17 "CornerLabels$History" "points" "[I", .fieldLink RX1 34 "CornerLabels$Board" "points" "I", .methodLink RX1 24 yX1_forgetOldest, .instanceMethod yX1_forgetOldest, .selects RX1 yX1_forgetOldest yX1_forgetOldest, .initialized RX1, .code yX1_forgetOldest cX1_forgetOldest 1 none] ++ wsX10 ++ wsX00)
def wsX1_restore : List Cond := .code yX1_restore cX1_restore 2 none :: ([.fieldLink RX1 20 "CornerLabels$History" "states" "I", .fieldLink RX1 11 "CornerLabels$History" "cells" "[I", .fieldLink RX1 27 "CornerLabels$Board" "cells" "[I", .methodLink RX1 28 arraycopyName, .native arraycopyName, .static arraycopyName, .initialized "java/lang/System", .fieldLink RX1 17 "CornerLabels$History" "points" "[I", .fieldLink RX1 34 "CornerLabels$Board" "points" "I"] ++ wsX10 ++ wsX00)
def wsX2_init : List Cond := .code yX2_init cX2_init 1 none :: ([.methodLink RX2 3 objectInit, .instanceMethod objectInit, .code objectInit ⟨#[0xb1]⟩ 1 none, .fieldLink RX2 9 "CornerLabels$Plans" "points" "I", .arrayClass .int, .fieldLink RX2 15 "CornerLabels$Plans" "open" "[I", .fieldLink RX2 19 "CornerLabels$Plans" "weight" "[I", .fieldLink RX2 22 "CornerLabels$Plans" "now" "[I", .fieldLink RX2 25 "CornerLabels$Plans" "clashing" "[I", .fieldLink RX2 28 "CornerLabels$Plans" "allowed" "[I", .fieldLink RX2 31 "CornerLabels$Plans" "allowedSpots" "I", .arrayClass .boolean, .fieldLink RX2 34 "CornerLabels$Plans" "mayDrop" "[Z", .fieldLink RX2 38 "CornerLabels$Plans" "gain" "[I", .fieldLink RX2 41 "CornerLabels$Plans" "mostGain" "[I", .fieldLink RX2 44 "CornerLabels$Plans" "hope" "[I", .fieldLink RX2 47 "CornerLabels$Plans" "trial" "[I", .fieldLink RX2 50 "CornerLabels$Plans" "found" "[I", .fieldLink RX2 53 "CornerLabels$Plans" "foundScore" "I", .fieldLink RX2 56 "CornerLabels$Plans" "bestCorners" "[I", .fieldLink RX2 59 "CornerLabels$Plans" "topWeight" "I", .fieldLink RX2 62 "CornerLabels$Plans" "weightsWithout" "[I"] ++ wsX20)
def wsX2_laterClashes_r1 : List Cond := [Cond.fieldLink RX2 15 "CornerLabels$Plans" "open" "[I", Cond.fieldLink RX2 9 "CornerLabels$Plans" "points" "I", Cond.static yX4_hasBit, Cond.initialized RX4, Cond.code yX4_hasBit cX4_hasBit 2 (some .boolean), Cond.methodLink RX2 83 yX0_sharedSquares, Cond.instanceMethod yX0_sharedSquares, Cond.selects RX0 yX0_sharedSquares yX0_sharedSquares, Cond.initialized RX0, Cond.code yX0_sharedSquares cX0_sharedSquares 7 (some .int), Cond.fieldLink RX0 11 "CornerLabels$Board" "cells" "[I", Cond.methodLink RX0 30 yX0_left, Cond.instanceMethod yX0_left, Cond.selects RX0 yX0_left yX0_left, Cond.code yX0_left cX0_left 4 (some .int), Cond.methodLink RX0 53 yX0_sharedLength, Cond.static yX0_sharedLength, Cond.code yX0_sharedLength cX0_sharedLength 6 (some .int), Cond.methodLink RX0 57 Lib.Math.max.name, Cond.static Lib.Math.max.name, Cond.initialized "java/lang/Math", Cond.code Lib.Math.max.name Lib.Math.max.code 2 (some .int), Cond.methodLink RX0 62 Lib.Math.min.name, Cond.static Lib.Math.min.name]
def wsX2_laterClashes_r2 : List Cond := [Cond.code Lib.Math.min.name Lib.Math.min.code 2 (some .int), Cond.methodLink RX0 33 yX0_top, Cond.instanceMethod yX0_top, Cond.selects RX0 yX0_top yX0_top, Cond.code yX0_top cX0_top 4 (some .int)]
def wsX2_laterClashes : List Cond := .code yX2_laterClashes cX2_laterClashes 7 (some .int) :: ((wsX2_laterClashes_r1 ++ wsX2_laterClashes_r2) ++ wsX20 ++ wsX00)
def wsX2_look_r1 : List Cond := [Cond.fieldLink RX2 65 "CornerLabels$Board" "points" "I", Cond.fieldLink RX2 9 "CornerLabels$Plans" "points" "I", Cond.fieldLink RX2 15 "CornerLabels$Plans" "open" "[I", Cond.fieldLink RX2 19 "CornerLabels$Plans" "weight" "[I", Cond.fieldLink RX2 72 "CornerLabels$Board" "cells" "[I", Cond.fieldLink RX2 22 "CornerLabels$Plans" "now" "[I", Cond.fieldLink RX2 25 "CornerLabels$Plans" "clashing" "[I", Cond.methodLink RX2 68 yX0_openMask, Cond.instanceMethod yX0_openMask, Cond.selects RX0 yX0_openMask yX0_openMask, Cond.initialized RX0, Cond.code yX0_openMask cX0_openMask 4 (some .int), Cond.methodLink RX0 40 yX0_isOpen, Cond.instanceMethod yX0_isOpen, Cond.selects RX0 yX0_isOpen yX0_isOpen, Cond.code yX0_isOpen cX0_isOpen 10 (some .boolean), Cond.fieldLink RX0 11 "CornerLabels$Board" "cells" "[I", Cond.fieldLink RX0 15 "CornerLabels$Board" "points" "I", Cond.methodLink RX0 30 yX0_left, Cond.instanceMethod yX0_left, Cond.selects RX0 yX0_left yX0_left, Cond.code yX0_left cX0_left 4 (some .int), Cond.methodLink RX0 33 yX0_top, Cond.instanceMethod yX0_top]
def wsX2_look_r2 : List Cond := [Cond.selects RX0 yX0_top yX0_top, Cond.code yX0_top cX0_top 4 (some .int), Cond.methodLink RX2 75 yX2_laterClashes, Cond.instanceMethod yX2_laterClashes, Cond.selects RX2 yX2_laterClashes yX2_laterClashes, Cond.initialized RX2, Cond.code yX2_laterClashes cX2_laterClashes 7 (some .int), Cond.static yX4_hasBit, Cond.initialized RX4, Cond.code yX4_hasBit cX4_hasBit 2 (some .boolean), Cond.methodLink RX2 83 yX0_sharedSquares, Cond.instanceMethod yX0_sharedSquares, Cond.selects RX0 yX0_sharedSquares yX0_sharedSquares, Cond.code yX0_sharedSquares cX0_sharedSquares 7 (some .int), Cond.methodLink RX0 53 yX0_sharedLength, Cond.static yX0_sharedLength, Cond.code yX0_sharedLength cX0_sharedLength 6 (some .int), Cond.methodLink RX0 57 Lib.Math.max.name, Cond.static Lib.Math.max.name, Cond.initialized "java/lang/Math", Cond.code Lib.Math.max.name Lib.Math.max.code 2 (some .int), Cond.methodLink RX0 62 Lib.Math.min.name, Cond.static Lib.Math.min.name, Cond.code Lib.Math.min.name Lib.Math.min.code 2 (some .int)]
def wsX2_look : List Cond := .code yX2_look cX2_look 4 none :: ((wsX2_look_r1 ++ wsX2_look_r2) ++ wsX00 ++ wsX20)
def wsX2_clashingPairs : List Cond := .code yX2_clashingPairs cX2_clashingPairs 5 (some .int) :: ([.fieldLink RX2 9 "CornerLabels$Plans" "points" "I", .fieldLink RX2 25 "CornerLabels$Plans" "clashing" "[I"] ++ wsX20)
def wsX2_findMostGain : List Cond := .code yX2_findMostGain cX2_findMostGain 4 (some .int) :: ([.fieldLink RX2 28 "CornerLabels$Plans" "allowed" "[I", .fieldLink RX2 38 "CornerLabels$Plans" "gain" "[I", .methodLink RX2 107 Lib.Math.max.name, .static Lib.Math.max.name, .initialized "java/lang/Math", .code Lib.Math.max.name Lib.Math.max.code 2 (some .int), .static yX4_hasBit, .initialized RX4, .code yX4_hasBit cX4_hasBit 2 (some .boolean)] ++ wsX20)
def wsX2_keepTrial : List Cond := .code yX2_keepTrial cX2_keepTrial 2 none :: ([.fieldLink RX2 53 "CornerLabels$Plans" "foundScore" "I", .fieldLink RX2 47 "CornerLabels$Plans" "trial" "[I", .fieldLink RX2 50 "CornerLabels$Plans" "found" "[I", .methodLink RX2 94 arraycopyName, .native arraycopyName, .static arraycopyName, .initialized "java/lang/System"] ++ wsX20)
def wsX2_seek_r1 : List Cond := [Cond.fieldLink RX2 9 "CornerLabels$Plans" "points" "I", Cond.fieldLink RX2 44 "CornerLabels$Plans" "hope" "[I", Cond.fieldLink RX2 53 "CornerLabels$Plans" "foundScore" "I", Cond.fieldLink RX2 28 "CornerLabels$Plans" "allowed" "[I", Cond.fieldLink RX2 25 "CornerLabels$Plans" "clashing" "[I", Cond.fieldLink RX2 31 "CornerLabels$Plans" "allowedSpots" "I", Cond.fieldLink RX2 47 "CornerLabels$Plans" "trial" "[I", Cond.fieldLink RX2 38 "CornerLabels$Plans" "gain" "[I", Cond.fieldLink RX2 41 "CornerLabels$Plans" "mostGain" "[I", Cond.fieldLink RX2 34 "CornerLabels$Plans" "mayDrop" "[Z", Cond.methodLink RX2 113 yX2_keepTrial, Cond.instanceMethod yX2_keepTrial, Cond.selects RX2 yX2_keepTrial yX2_keepTrial, Cond.initialized RX2, Cond.code yX2_keepTrial cX2_keepTrial 2 none, Cond.fieldLink RX2 50 "CornerLabels$Plans" "found" "[I", Cond.methodLink RX2 94 arraycopyName, Cond.native arraycopyName, Cond.static arraycopyName, Cond.initialized "java/lang/System", Cond.static yX4_hasBit, Cond.initialized RX4, Cond.code yX4_hasBit cX4_hasBit 2 (some .boolean), Cond.methodLink RX2 103 yX2_seek]
def wsX2_seek_r2 : List Cond := [Cond.static yX2_seek]
def wsX2_seek : List Cond := .code yX2_seek cX2_seek 8 none :: ((wsX2_seek_r1 ++ wsX2_seek_r2) ++ wsX20)
def wsX2_findTop_r1 : List Cond := [Cond.fieldLink RX2 44 "CornerLabels$Plans" "hope" "[I", Cond.fieldLink RX2 9 "CornerLabels$Plans" "points" "I", Cond.fieldLink RX2 31 "CornerLabels$Plans" "allowedSpots" "I", Cond.fieldLink RX2 41 "CornerLabels$Plans" "mostGain" "[I", Cond.fieldLink RX2 28 "CornerLabels$Plans" "allowed" "[I", Cond.fieldLink RX2 53 "CornerLabels$Plans" "foundScore" "I", Cond.methodLink RX2 100 yX2_findMostGain, Cond.instanceMethod yX2_findMostGain, Cond.selects RX2 yX2_findMostGain yX2_findMostGain, Cond.initialized RX2, Cond.code yX2_findMostGain cX2_findMostGain 4 (some .int), Cond.fieldLink RX2 38 "CornerLabels$Plans" "gain" "[I", Cond.methodLink RX2 107 Lib.Math.max.name, Cond.static Lib.Math.max.name, Cond.initialized "java/lang/Math", Cond.code Lib.Math.max.name Lib.Math.max.code 2 (some .int), Cond.static yX4_hasBit, Cond.initialized RX4, Cond.code yX4_hasBit cX4_hasBit 2 (some .boolean), Cond.methodLink RX2 103 yX2_seek, Cond.static yX2_seek, Cond.code yX2_seek cX2_seek 8 none, Cond.fieldLink RX2 25 "CornerLabels$Plans" "clashing" "[I", Cond.fieldLink RX2 47 "CornerLabels$Plans" "trial" "[I"]
def wsX2_findTop_r2 : List Cond := [Cond.fieldLink RX2 34 "CornerLabels$Plans" "mayDrop" "[Z", Cond.methodLink RX2 113 yX2_keepTrial, Cond.instanceMethod yX2_keepTrial, Cond.selects RX2 yX2_keepTrial yX2_keepTrial, Cond.code yX2_keepTrial cX2_keepTrial 2 none, Cond.fieldLink RX2 50 "CornerLabels$Plans" "found" "[I", Cond.methodLink RX2 94 arraycopyName, Cond.native arraycopyName, Cond.static arraycopyName, Cond.initialized "java/lang/System"]
def wsX2_findTop : List Cond := .code yX2_findTop cX2_findTop 2 (some .int) :: ((wsX2_findTop_r1 ++ wsX2_findTop_r2) ++ wsX20)
def wsX2_findHeaviest_r1 : List Cond := [Cond.fieldLink RX2 9 "CornerLabels$Plans" "points" "I", Cond.fieldLink RX2 28 "CornerLabels$Plans" "allowed" "[I", Cond.fieldLink RX2 15 "CornerLabels$Plans" "open" "[I", Cond.fieldLink RX2 34 "CornerLabels$Plans" "mayDrop" "[Z", Cond.fieldLink RX2 38 "CornerLabels$Plans" "gain" "[I", Cond.fieldLink RX2 19 "CornerLabels$Plans" "weight" "[I", Cond.methodLink RX2 87 yX2_findTop, Cond.instanceMethod yX2_findTop, Cond.selects RX2 yX2_findTop yX2_findTop, Cond.initialized RX2, Cond.code yX2_findTop cX2_findTop 2 (some .int), Cond.fieldLink RX2 44 "CornerLabels$Plans" "hope" "[I", Cond.fieldLink RX2 31 "CornerLabels$Plans" "allowedSpots" "I", Cond.fieldLink RX2 41 "CornerLabels$Plans" "mostGain" "[I", Cond.fieldLink RX2 53 "CornerLabels$Plans" "foundScore" "I", Cond.methodLink RX2 100 yX2_findMostGain, Cond.instanceMethod yX2_findMostGain, Cond.selects RX2 yX2_findMostGain yX2_findMostGain, Cond.code yX2_findMostGain cX2_findMostGain 4 (some .int), Cond.methodLink RX2 107 Lib.Math.max.name, Cond.static Lib.Math.max.name, Cond.initialized "java/lang/Math", Cond.code Lib.Math.max.name Lib.Math.max.code 2 (some .int), Cond.static yX4_hasBit]
def wsX2_findHeaviest_r2 : List Cond := [Cond.initialized RX4, Cond.code yX4_hasBit cX4_hasBit 2 (some .boolean), Cond.methodLink RX2 103 yX2_seek, Cond.static yX2_seek, Cond.code yX2_seek cX2_seek 8 none, Cond.fieldLink RX2 25 "CornerLabels$Plans" "clashing" "[I", Cond.fieldLink RX2 47 "CornerLabels$Plans" "trial" "[I", Cond.methodLink RX2 113 yX2_keepTrial, Cond.instanceMethod yX2_keepTrial, Cond.selects RX2 yX2_keepTrial yX2_keepTrial, Cond.code yX2_keepTrial cX2_keepTrial 2 none, Cond.fieldLink RX2 50 "CornerLabels$Plans" "found" "[I", Cond.methodLink RX2 94 arraycopyName, Cond.native arraycopyName, Cond.static arraycopyName, Cond.initialized "java/lang/System"]
def wsX2_findHeaviest : List Cond := .code yX2_findHeaviest cX2_findHeaviest 4 (some .int) :: ((wsX2_findHeaviest_r1 ++ wsX2_findHeaviest_r2) ++ wsX20)
def wsX2_findBest_r1 : List Cond := [Cond.fieldLink RX2 59 "CornerLabels$Plans" "topWeight" "I", Cond.fieldLink RX2 50 "CornerLabels$Plans" "found" "[I", Cond.fieldLink RX2 56 "CornerLabels$Plans" "bestCorners" "[I", Cond.methodLink RX2 94 arraycopyName, Cond.native arraycopyName, Cond.static arraycopyName, Cond.initialized "java/lang/System", Cond.methodLink RX2 91 yX2_findHeaviest, Cond.instanceMethod yX2_findHeaviest, Cond.selects RX2 yX2_findHeaviest yX2_findHeaviest, Cond.initialized RX2, Cond.code yX2_findHeaviest cX2_findHeaviest 4 (some .int), Cond.fieldLink RX2 9 "CornerLabels$Plans" "points" "I", Cond.fieldLink RX2 28 "CornerLabels$Plans" "allowed" "[I", Cond.fieldLink RX2 15 "CornerLabels$Plans" "open" "[I", Cond.fieldLink RX2 34 "CornerLabels$Plans" "mayDrop" "[Z", Cond.fieldLink RX2 38 "CornerLabels$Plans" "gain" "[I", Cond.fieldLink RX2 19 "CornerLabels$Plans" "weight" "[I", Cond.methodLink RX2 87 yX2_findTop, Cond.instanceMethod yX2_findTop, Cond.selects RX2 yX2_findTop yX2_findTop, Cond.code yX2_findTop cX2_findTop 2 (some .int), Cond.fieldLink RX2 44 "CornerLabels$Plans" "hope" "[I", Cond.fieldLink RX2 31 "CornerLabels$Plans" "allowedSpots" "I"]
def wsX2_findBest_r2 : List Cond := [Cond.fieldLink RX2 41 "CornerLabels$Plans" "mostGain" "[I", Cond.fieldLink RX2 53 "CornerLabels$Plans" "foundScore" "I", Cond.methodLink RX2 100 yX2_findMostGain, Cond.instanceMethod yX2_findMostGain, Cond.selects RX2 yX2_findMostGain yX2_findMostGain, Cond.code yX2_findMostGain cX2_findMostGain 4 (some .int), Cond.methodLink RX2 107 Lib.Math.max.name, Cond.static Lib.Math.max.name, Cond.initialized "java/lang/Math", Cond.code Lib.Math.max.name Lib.Math.max.code 2 (some .int), Cond.static yX4_hasBit, Cond.initialized RX4, Cond.code yX4_hasBit cX4_hasBit 2 (some .boolean), Cond.methodLink RX2 103 yX2_seek, Cond.static yX2_seek, Cond.code yX2_seek cX2_seek 8 none, Cond.fieldLink RX2 25 "CornerLabels$Plans" "clashing" "[I", Cond.fieldLink RX2 47 "CornerLabels$Plans" "trial" "[I", Cond.methodLink RX2 113 yX2_keepTrial, Cond.instanceMethod yX2_keepTrial, Cond.selects RX2 yX2_keepTrial yX2_keepTrial, Cond.code yX2_keepTrial cX2_keepTrial 2 none]
def wsX2_findBest : List Cond := .code yX2_findBest cX2_findBest 1 none :: ((wsX2_findBest_r1 ++ wsX2_findBest_r2) ++ wsX20)
def wsX2_findWithoutEach_r1 : List Cond := [Cond.fieldLink RX2 9 "CornerLabels$Plans" "points" "I", Cond.fieldLink RX2 62 "CornerLabels$Plans" "weightsWithout" "[I", Cond.methodLink RX2 91 yX2_findHeaviest, Cond.instanceMethod yX2_findHeaviest, Cond.selects RX2 yX2_findHeaviest yX2_findHeaviest, Cond.initialized RX2, Cond.code yX2_findHeaviest cX2_findHeaviest 4 (some .int), Cond.fieldLink RX2 28 "CornerLabels$Plans" "allowed" "[I", Cond.fieldLink RX2 15 "CornerLabels$Plans" "open" "[I", Cond.fieldLink RX2 34 "CornerLabels$Plans" "mayDrop" "[Z", Cond.fieldLink RX2 38 "CornerLabels$Plans" "gain" "[I", Cond.fieldLink RX2 19 "CornerLabels$Plans" "weight" "[I", Cond.methodLink RX2 87 yX2_findTop, Cond.instanceMethod yX2_findTop, Cond.selects RX2 yX2_findTop yX2_findTop, Cond.code yX2_findTop cX2_findTop 2 (some .int), Cond.fieldLink RX2 44 "CornerLabels$Plans" "hope" "[I", Cond.fieldLink RX2 31 "CornerLabels$Plans" "allowedSpots" "I", Cond.fieldLink RX2 41 "CornerLabels$Plans" "mostGain" "[I", Cond.fieldLink RX2 53 "CornerLabels$Plans" "foundScore" "I", Cond.methodLink RX2 100 yX2_findMostGain, Cond.instanceMethod yX2_findMostGain, Cond.selects RX2 yX2_findMostGain yX2_findMostGain, Cond.code yX2_findMostGain cX2_findMostGain 4 (some .int)]
def wsX2_findWithoutEach_r2 : List Cond := [Cond.methodLink RX2 107 Lib.Math.max.name, Cond.static Lib.Math.max.name, Cond.initialized "java/lang/Math", Cond.code Lib.Math.max.name Lib.Math.max.code 2 (some .int), Cond.static yX4_hasBit, Cond.initialized RX4, Cond.code yX4_hasBit cX4_hasBit 2 (some .boolean), Cond.methodLink RX2 103 yX2_seek, Cond.static yX2_seek, Cond.code yX2_seek cX2_seek 8 none, Cond.fieldLink RX2 25 "CornerLabels$Plans" "clashing" "[I", Cond.fieldLink RX2 47 "CornerLabels$Plans" "trial" "[I", Cond.methodLink RX2 113 yX2_keepTrial, Cond.instanceMethod yX2_keepTrial, Cond.selects RX2 yX2_keepTrial yX2_keepTrial, Cond.code yX2_keepTrial cX2_keepTrial 2 none, Cond.fieldLink RX2 50 "CornerLabels$Plans" "found" "[I", Cond.methodLink RX2 94 arraycopyName, Cond.native arraycopyName, Cond.static arraycopyName, Cond.initialized "java/lang/System"]
def wsX2_findWithoutEach : List Cond := .code yX2_findWithoutEach cX2_findWithoutEach 2 none :: ((wsX2_findWithoutEach_r1 ++ wsX2_findWithoutEach_r2) ++ wsX20)
def wsX2_findRoom_r1 : List Cond := [Cond.fieldLink RX2 22 "CornerLabels$Plans" "now" "[I", Cond.fieldLink RX2 9 "CornerLabels$Plans" "points" "I", Cond.fieldLink RX2 28 "CornerLabels$Plans" "allowed" "[I", Cond.fieldLink RX2 15 "CornerLabels$Plans" "open" "[I", Cond.fieldLink RX2 34 "CornerLabels$Plans" "mayDrop" "[Z", Cond.fieldLink RX2 38 "CornerLabels$Plans" "gain" "[I", Cond.methodLink RX2 87 yX2_findTop, Cond.instanceMethod yX2_findTop, Cond.selects RX2 yX2_findTop yX2_findTop, Cond.initialized RX2, Cond.code yX2_findTop cX2_findTop 2 (some .int), Cond.fieldLink RX2 44 "CornerLabels$Plans" "hope" "[I", Cond.fieldLink RX2 31 "CornerLabels$Plans" "allowedSpots" "I", Cond.fieldLink RX2 41 "CornerLabels$Plans" "mostGain" "[I", Cond.fieldLink RX2 53 "CornerLabels$Plans" "foundScore" "I", Cond.methodLink RX2 100 yX2_findMostGain, Cond.instanceMethod yX2_findMostGain, Cond.selects RX2 yX2_findMostGain yX2_findMostGain, Cond.code yX2_findMostGain cX2_findMostGain 4 (some .int), Cond.methodLink RX2 107 Lib.Math.max.name, Cond.static Lib.Math.max.name, Cond.initialized "java/lang/Math", Cond.code Lib.Math.max.name Lib.Math.max.code 2 (some .int), Cond.static yX4_hasBit]
def wsX2_findRoom_r2 : List Cond := [Cond.initialized RX4, Cond.code yX4_hasBit cX4_hasBit 2 (some .boolean), Cond.methodLink RX2 103 yX2_seek, Cond.static yX2_seek, Cond.code yX2_seek cX2_seek 8 none, Cond.fieldLink RX2 25 "CornerLabels$Plans" "clashing" "[I", Cond.fieldLink RX2 47 "CornerLabels$Plans" "trial" "[I", Cond.methodLink RX2 113 yX2_keepTrial, Cond.instanceMethod yX2_keepTrial, Cond.selects RX2 yX2_keepTrial yX2_keepTrial, Cond.code yX2_keepTrial cX2_keepTrial 2 none, Cond.fieldLink RX2 50 "CornerLabels$Plans" "found" "[I", Cond.methodLink RX2 94 arraycopyName, Cond.native arraycopyName, Cond.static arraycopyName, Cond.initialized "java/lang/System"]
def wsX2_findRoom : List Cond := .code yX2_findRoom cX2_findRoom 6 (some .int) :: ((wsX2_findRoom_r1 ++ wsX2_findRoom_r2) ++ wsX20)
def wsX2_tally : List Cond := .code yX2_tally cX2_tally 8 (some .int) :: ([.fieldLink RX2 9 "CornerLabels$Plans" "points" "I", .fieldLink RX2 15 "CornerLabels$Plans" "open" "[I", .fieldLink RX2 25 "CornerLabels$Plans" "clashing" "[I", .methodLink RX2 117 yX2_tally, .static yX2_tally, .initialized RX2, .static yX4_hasBit, .initialized RX4, .code yX4_hasBit cX4_hasBit 2 (some .boolean)] ++ wsX20)
def wsX2_fullOnes : List Cond := .code yX2_fullOnes cX2_fullOnes 1 (some .int) :: ([.methodLink RX2 117 yX2_tally, .static yX2_tally, .initialized RX2, .code yX2_tally cX2_tally 8 (some .int), .fieldLink RX2 9 "CornerLabels$Plans" "points" "I", .fieldLink RX2 15 "CornerLabels$Plans" "open" "[I", .fieldLink RX2 25 "CornerLabels$Plans" "clashing" "[I", .static yX4_hasBit, .initialized RX4, .code yX4_hasBit cX4_hasBit 2 (some .boolean)] ++ wsX20)
def wsX3_init : List Cond := .code yX3_init cX3_init 1 none :: ([.methodLink RX3 3 objectInit, .instanceMethod objectInit, .code objectInit ⟨#[0xb1]⟩ 1 none, .arrayClass .int, .fieldLink RX3 9 "CornerLabels$Typed" "codes" "[I", .fieldLink RX3 15 "CornerLabels$Typed" "length" "I", .fieldLink RX3 19 "CornerLabels$Typed" "told" "[I", .fieldLink RX3 22 "CornerLabels$Typed" "reading" "I", .fieldLink RX3 25 "CornerLabels$Typed" "part" "I", .fieldLink RX3 28 "CornerLabels$Typed" "value" "I"] ++ wsX30)
def wsX3_write : List Cond := .code yX3_write cX3_write 2 none :: ([.fieldLink RX3 9 "CornerLabels$Typed" "codes" "[I", .fieldLink RX3 15 "CornerLabels$Typed" "length" "I"] ++ wsX30)
def wsX3_code : List Cond := .code yX3_code cX3_code 2 (some .int) :: ([.fieldLink RX3 9 "CornerLabels$Typed" "codes" "[I"] ++ wsX30)
def wsX3_endsWithPoint : List Cond := .code yX3_endsWithPoint cX3_endsWithPoint 1 (some .boolean) :: ([.fieldLink RX3 28 "CornerLabels$Typed" "value" "I", .fieldLink RX3 25 "CornerLabels$Typed" "part" "I"] ++ wsX30)
def wsX3_pointsTold : List Cond := .code yX3_pointsTold cX3_pointsTold 1 (some .int) :: ([.fieldLink RX3 22 "CornerLabels$Typed" "reading" "I"] ++ wsX30)
def wsX3_part : List Cond := .code yX3_part cX3_part 3 (some .int) :: ([.fieldLink RX3 19 "CornerLabels$Typed" "told" "[I"] ++ wsX30)
def wsX3_beginPoint : List Cond := .code yX3_beginPoint cX3_beginPoint 1 (some .boolean) :: ([.fieldLink RX3 22 "CornerLabels$Typed" "reading" "I", .fieldLink RX3 19 "CornerLabels$Typed" "told" "[I", .fieldLink RX3 25 "CornerLabels$Typed" "part" "I", .fieldLink RX3 28 "CornerLabels$Typed" "value" "I"] ++ wsX30)
def wsX3_takeDigit : List Cond := .code yX3_takeDigit cX3_takeDigit 3 (some .boolean) :: ([.fieldLink RX3 28 "CornerLabels$Typed" "value" "I", .fieldLink RX3 46 "CornerLabels$Typed" "LEAST" "[I", .fieldLink RX3 25 "CornerLabels$Typed" "part" "I", .fieldLink RX3 49 "CornerLabels$Typed" "MOST" "[I", .fieldLink RX3 19 "CornerLabels$Typed" "told" "[I", .fieldLink RX3 22 "CornerLabels$Typed" "reading" "I"] ++ wsX30)
def wsX3_partAfter : List Cond := .code yX3_partAfter cX3_partAfter 2 (some .int) :: ([])
def wsX3_take : List Cond := .code yX3_take cX3_take 3 (some .boolean) :: ([.fieldLink RX3 28 "CornerLabels$Typed" "value" "I", .fieldLink RX3 25 "CornerLabels$Typed" "part" "I", .methodLink RX3 39 yX3_takeDigit, .instanceMethod yX3_takeDigit, .selects RX3 yX3_takeDigit yX3_takeDigit, .initialized RX3, .code yX3_takeDigit cX3_takeDigit 3 (some .boolean), .fieldLink RX3 46 "CornerLabels$Typed" "LEAST" "[I", .fieldLink RX3 49 "CornerLabels$Typed" "MOST" "[I", .fieldLink RX3 19 "CornerLabels$Typed" "told" "[I", .fieldLink RX3 22 "CornerLabels$Typed" "reading" "I", .methodLink RX3 42 yX3_partAfter, .static yX3_partAfter, .code yX3_partAfter cX3_partAfter 2 (some .int), .methodLink RX3 31 yX3_beginPoint, .instanceMethod yX3_beginPoint, .selects RX3 yX3_beginPoint yX3_beginPoint, .code yX3_beginPoint cX3_beginPoint 1 (some .boolean)] ++ wsX30)
def wsX3_scan : List Cond := .code yX3_scan cX3_scan 2 (some .int) :: ([.fieldLink RX3 22 "CornerLabels$Typed" "reading" "I", .fieldLink RX3 15 "CornerLabels$Typed" "length" "I", .fieldLink RX3 9 "CornerLabels$Typed" "codes" "[I", .methodLink RX3 31 yX3_beginPoint, .instanceMethod yX3_beginPoint, .selects RX3 yX3_beginPoint yX3_beginPoint, .initialized RX3, .code yX3_beginPoint cX3_beginPoint 1 (some .boolean), .fieldLink RX3 19 "CornerLabels$Typed" "told" "[I", .fieldLink RX3 25 "CornerLabels$Typed" "part" "I", .fieldLink RX3 28 "CornerLabels$Typed" "value" "I", .methodLink RX3 35 yX3_take, .instanceMethod yX3_take, .selects RX3 yX3_take yX3_take, .code yX3_take cX3_take 3 (some .boolean), .methodLink RX3 39 yX3_takeDigit, .instanceMethod yX3_takeDigit, .selects RX3 yX3_takeDigit yX3_takeDigit, .code yX3_takeDigit cX3_takeDigit 3 (some .boolean), .fieldLink RX3 46 "CornerLabels$Typed" "LEAST" "[I", .fieldLink RX3 49 "CornerLabels$Typed" "MOST" "[I", .methodLink RX3 42 yX3_partAfter, .static yX3_partAfter, .code yX3_partAfter cX3_partAfter 2 (some .int)] ++ wsX30)
def wsX4_init_r1 : List Cond := [Cond.methodLink RX4 1 objectInit, Cond.instanceMethod objectInit, Cond.code objectInit ⟨#[0xb1]⟩ 1 none, Cond.classLink RX4 7 RX0, Cond.instantiable RX0 2, Cond.initialized RX0, Cond.fieldLink RX4 10 "CornerLabels" "board" "LCornerLabels$Board;", Cond.classLink RX4 16 RX1, Cond.instantiable RX1 3, Cond.initialized RX1, Cond.fieldLink RX4 19 "CornerLabels" "history" "LCornerLabels$History;", Cond.classLink RX4 23 RX3, Cond.instantiable RX3 6, Cond.initialized RX3, Cond.fieldLink RX4 26 "CornerLabels" "typed" "LCornerLabels$Typed;", Cond.classLink RX4 30 RX2, Cond.instantiable RX2 17, Cond.initialized RX2, Cond.fieldLink RX4 33 "CornerLabels" "plans" "LCornerLabels$Plans;", Cond.instanceMethod yX0_init, Cond.code yX0_init cX0_init 1 none, Cond.methodLink RX0 3 objectInit, Cond.arrayClass .int, Cond.fieldLink RX0 11 "CornerLabels$Board" "cells" "[I"]
def wsX4_init_r2 : List Cond := [Cond.fieldLink RX0 15 "CornerLabels$Board" "points" "I", Cond.instanceMethod yX1_init, Cond.code yX1_init cX1_init 1 none, Cond.methodLink RX1 3 objectInit, Cond.fieldLink RX1 11 "CornerLabels$History" "cells" "[I", Cond.fieldLink RX1 17 "CornerLabels$History" "points" "[I", Cond.fieldLink RX1 20 "CornerLabels$History" "states" "I", Cond.instanceMethod yX3_init, Cond.code yX3_init cX3_init 1 none, Cond.methodLink RX3 3 objectInit, Cond.fieldLink RX3 9 "CornerLabels$Typed" "codes" "[I", Cond.fieldLink RX3 15 "CornerLabels$Typed" "length" "I", Cond.fieldLink RX3 19 "CornerLabels$Typed" "told" "[I", Cond.fieldLink RX3 22 "CornerLabels$Typed" "reading" "I", Cond.fieldLink RX3 25 "CornerLabels$Typed" "part" "I", Cond.fieldLink RX3 28 "CornerLabels$Typed" "value" "I", Cond.instanceMethod yX2_init, Cond.code yX2_init cX2_init 1 none, Cond.methodLink RX2 3 objectInit, Cond.fieldLink RX2 9 "CornerLabels$Plans" "points" "I", Cond.fieldLink RX2 15 "CornerLabels$Plans" "open" "[I", Cond.fieldLink RX2 19 "CornerLabels$Plans" "weight" "[I", Cond.fieldLink RX2 22 "CornerLabels$Plans" "now" "[I", Cond.fieldLink RX2 25 "CornerLabels$Plans" "clashing" "[I"]
def wsX4_init_r3 : List Cond := [Cond.fieldLink RX2 28 "CornerLabels$Plans" "allowed" "[I", Cond.fieldLink RX2 31 "CornerLabels$Plans" "allowedSpots" "I", Cond.arrayClass .boolean, Cond.fieldLink RX2 34 "CornerLabels$Plans" "mayDrop" "[Z", Cond.fieldLink RX2 38 "CornerLabels$Plans" "gain" "[I", Cond.fieldLink RX2 41 "CornerLabels$Plans" "mostGain" "[I", Cond.fieldLink RX2 44 "CornerLabels$Plans" "hope" "[I", Cond.fieldLink RX2 47 "CornerLabels$Plans" "trial" "[I", Cond.fieldLink RX2 50 "CornerLabels$Plans" "found" "[I", Cond.fieldLink RX2 53 "CornerLabels$Plans" "foundScore" "I", Cond.fieldLink RX2 56 "CornerLabels$Plans" "bestCorners" "[I", Cond.fieldLink RX2 59 "CornerLabels$Plans" "topWeight" "I", Cond.fieldLink RX2 62 "CornerLabels$Plans" "weightsWithout" "[I"]
def wsX4_init : List Cond := .code yX4_init cX4_init 1 none :: ((wsX4_init_r1 ++ (wsX4_init_r2 ++ wsX4_init_r3)) ++ wsX00 ++ wsX40 ++ wsX10 ++ wsX30 ++ wsX20)
def wsX4_isSquare : List Cond := .code yX4_isSquare cX4_isSquare 2 (some .boolean) :: ([])
def wsX4_isSize : List Cond := .code yX4_isSize cX4_isSize 2 (some .boolean) :: ([])
def wsX4_isWeight : List Cond := .code yX4_isWeight cX4_isWeight 1 (some .boolean) :: ([])
def wsX4_add_r1 : List Cond := [Cond.classLink RX4 48 "java/lang/IllegalArgumentException", Cond.initialized "java/lang/IllegalArgumentException", Cond.classLink RX4 58 "java/lang/IllegalStateException", Cond.initialized "java/lang/IllegalStateException", Cond.fieldLink RX4 10 "CornerLabels" "board" "LCornerLabels$Board;", Cond.fieldLink RX4 19 "CornerLabels" "history" "LCornerLabels$History;", Cond.methodLink RX4 37 yX4_isSquare, Cond.static yX4_isSquare, Cond.initialized RX4, Cond.code yX4_isSquare cX4_isSquare 2 (some .boolean), Cond.methodLink RX4 41 yX4_isSize, Cond.static yX4_isSize, Cond.code yX4_isSize cX4_isSize 2 (some .boolean), Cond.methodLink RX4 44 yX4_isWeight, Cond.static yX4_isWeight, Cond.code yX4_isWeight cX4_isWeight 1 (some .boolean), Cond.methodLink RX4 55 yX0_takesPointOn, Cond.instanceMethod yX0_takesPointOn, Cond.selects RX0 yX0_takesPointOn yX0_takesPointOn, Cond.initialized RX0, Cond.code yX0_takesPointOn cX0_takesPointOn 3 (some .boolean), Cond.fieldLink RX0 15 "CornerLabels$Board" "points" "I", Cond.methodLink RX0 19 yX0_pointOn, Cond.instanceMethod yX0_pointOn]
def wsX4_add_r2 : List Cond := [Cond.selects RX0 yX0_pointOn yX0_pointOn, Cond.code yX0_pointOn cX0_pointOn 4 (some .int), Cond.fieldLink RX0 11 "CornerLabels$Board" "cells" "[I", Cond.methodLink RX4 63 yX1_save, Cond.instanceMethod yX1_save, Cond.selects RX1 yX1_save yX1_save, Cond.initialized RX1, Cond.code yX1_save cX1_save 2 none, Cond.fieldLink RX1 20 "CornerLabels$History" "states" "I", Cond.fieldLink RX1 27 "CornerLabels$Board" "cells" "[I", Cond.fieldLink RX1 11 "CornerLabels$History" "cells" "[I", Cond.methodLink RX1 28 arraycopyName, Cond.native arraycopyName, Cond.static arraycopyName, Cond.initialized "java/lang/System", Cond.fieldLink RX1 17 "CornerLabels$History" "points" "[I", Cond.fieldLink RX1 34 "CornerLabels$Board" "points" "I", Cond.methodLink RX1 24 yX1_forgetOldest, Cond.instanceMethod yX1_forgetOldest, Cond.selects RX1 yX1_forgetOldest yX1_forgetOldest, Cond.code yX1_forgetOldest cX1_forgetOldest 1 none, Cond.methodLink RX4 67 yX0_insert, Cond.instanceMethod yX0_insert, Cond.selects RX0 yX0_insert yX0_insert]
def wsX4_add_r3 : List Cond := [Cond.code yX0_insert cX0_insert 8 (some .int), Cond.methodLink RX0 23 yX0_labelOn, Cond.instanceMethod yX0_labelOn, Cond.selects RX0 yX0_labelOn yX0_labelOn, Cond.code yX0_labelOn cX0_labelOn 4 (some .int), Cond.methodLink RX0 26 yX0_stands, Cond.instanceMethod yX0_stands, Cond.selects RX0 yX0_stands yX0_stands, Cond.code yX0_stands cX0_stands 2 (some .boolean), Cond.methodLink RX0 36 yX0_covers, Cond.instanceMethod yX0_covers, Cond.selects RX0 yX0_covers yX0_covers, Cond.code yX0_covers cX0_covers 7 (some .boolean), Cond.methodLink RX0 30 yX0_left, Cond.instanceMethod yX0_left, Cond.selects RX0 yX0_left yX0_left, Cond.code yX0_left cX0_left 4 (some .int), Cond.methodLink RX0 33 yX0_top, Cond.instanceMethod yX0_top, Cond.selects RX0 yX0_top yX0_top, Cond.code yX0_top cX0_top 4 (some .int)]
def wsX4_add : List Cond := .code yX4_add cX4_add 6 (some .int) :: ((wsX4_add_r1 ++ (wsX4_add_r2 ++ wsX4_add_r3)) ++ wsX40 ++ wsX00 ++ wsX10 ++ (vx_atS RX4 52 "java/lang/IllegalArgumentException" ["java/lang/RuntimeException", "java/lang/Exception"]).filter goodWord ++ (vx_atS RX4 62 "java/lang/IllegalStateException" ["java/lang/RuntimeException", "java/lang/Exception"]).filter goodWord)
def wsX4_remove_r1 : List Cond := [Cond.classLink RX4 74 "java/lang/IndexOutOfBoundsException", Cond.initialized "java/lang/IndexOutOfBoundsException", Cond.fieldLink RX4 10 "CornerLabels" "board" "LCornerLabels$Board;", Cond.fieldLink RX4 19 "CornerLabels" "history" "LCornerLabels$History;", Cond.methodLink RX4 71 yX0_has, Cond.instanceMethod yX0_has, Cond.selects RX0 yX0_has yX0_has, Cond.initialized RX0, Cond.code yX0_has cX0_has 2 (some .boolean), Cond.fieldLink RX0 15 "CornerLabels$Board" "points" "I", Cond.methodLink RX4 63 yX1_save, Cond.instanceMethod yX1_save, Cond.selects RX1 yX1_save yX1_save, Cond.initialized RX1, Cond.code yX1_save cX1_save 2 none, Cond.fieldLink RX1 20 "CornerLabels$History" "states" "I", Cond.fieldLink RX1 27 "CornerLabels$Board" "cells" "[I", Cond.fieldLink RX1 11 "CornerLabels$History" "cells" "[I", Cond.methodLink RX1 28 arraycopyName, Cond.native arraycopyName, Cond.static arraycopyName, Cond.initialized "java/lang/System", Cond.fieldLink RX1 17 "CornerLabels$History" "points" "[I", Cond.fieldLink RX1 34 "CornerLabels$Board" "points" "I"]
def wsX4_remove_r2 : List Cond := [Cond.methodLink RX1 24 yX1_forgetOldest, Cond.instanceMethod yX1_forgetOldest, Cond.selects RX1 yX1_forgetOldest yX1_forgetOldest, Cond.code yX1_forgetOldest cX1_forgetOldest 1 none, Cond.methodLink RX4 79 yX0_openCornersBeside, Cond.instanceMethod yX0_openCornersBeside, Cond.selects RX0 yX0_openCornersBeside yX0_openCornersBeside, Cond.code yX0_openCornersBeside cX0_openCornersBeside 4 (some .int), Cond.methodLink RX0 44 yX0_openMask, Cond.instanceMethod yX0_openMask, Cond.selects RX0 yX0_openMask yX0_openMask, Cond.code yX0_openMask cX0_openMask 4 (some .int), Cond.methodLink RX0 40 yX0_isOpen, Cond.instanceMethod yX0_isOpen, Cond.selects RX0 yX0_isOpen yX0_isOpen, Cond.code yX0_isOpen cX0_isOpen 10 (some .boolean), Cond.fieldLink RX0 11 "CornerLabels$Board" "cells" "[I", Cond.methodLink RX0 30 yX0_left, Cond.instanceMethod yX0_left, Cond.selects RX0 yX0_left yX0_left, Cond.code yX0_left cX0_left 4 (some .int), Cond.methodLink RX0 33 yX0_top, Cond.instanceMethod yX0_top, Cond.selects RX0 yX0_top yX0_top]
def wsX4_remove_r3 : List Cond := [Cond.code yX0_top cX0_top 4 (some .int), Cond.methodLink RX0 48 yJ6_bitCount_0f7a4, Cond.static yJ6_bitCount_0f7a4, Cond.initialized RJ6, Cond.code yJ6_bitCount_0f7a4 cJ6_bitCount_0f7a4 1 (some .int), Cond.constant RJ6 265 (1431655765), Cond.constant RJ6 266 (858993459), Cond.constant RJ6 267 (252645135), Cond.methodLink RX4 83 yX0_takeOut, Cond.instanceMethod yX0_takeOut, Cond.selects RX0 yX0_takeOut yX0_takeOut, Cond.code yX0_takeOut cX0_takeOut 4 none]
def wsX4_remove : List Cond := .code yX4_remove cX4_remove 3 (some .int) :: ((wsX4_remove_r1 ++ (wsX4_remove_r2 ++ wsX4_remove_r3)) ++ wsX40 ++ wsX00 ++ wsX10 ++ (vx_atS RX4 78 "java/lang/IndexOutOfBoundsException" ["java/lang/RuntimeException", "java/lang/Exception"]).filter goodWord)
def wsX4_weigh_r1 : List Cond := [Cond.classLink RX4 74 "java/lang/IndexOutOfBoundsException", Cond.initialized "java/lang/IndexOutOfBoundsException", Cond.classLink RX4 48 "java/lang/IllegalArgumentException", Cond.initialized "java/lang/IllegalArgumentException", Cond.fieldLink RX4 10 "CornerLabels" "board" "LCornerLabels$Board;", Cond.fieldLink RX4 19 "CornerLabels" "history" "LCornerLabels$History;", Cond.fieldLink RX4 89 "CornerLabels$Board" "cells" "[I", Cond.methodLink RX4 71 yX0_has, Cond.instanceMethod yX0_has, Cond.selects RX0 yX0_has yX0_has, Cond.initialized RX0, Cond.code yX0_has cX0_has 2 (some .boolean), Cond.fieldLink RX0 15 "CornerLabels$Board" "points" "I", Cond.methodLink RX4 44 yX4_isWeight, Cond.static yX4_isWeight, Cond.initialized RX4, Cond.code yX4_isWeight cX4_isWeight 1 (some .boolean), Cond.methodLink RX4 63 yX1_save, Cond.instanceMethod yX1_save, Cond.selects RX1 yX1_save yX1_save, Cond.initialized RX1, Cond.code yX1_save cX1_save 2 none, Cond.fieldLink RX1 20 "CornerLabels$History" "states" "I", Cond.fieldLink RX1 27 "CornerLabels$Board" "cells" "[I"]
def wsX4_weigh_r2 : List Cond := [Cond.fieldLink RX1 11 "CornerLabels$History" "cells" "[I", Cond.methodLink RX1 28 arraycopyName, Cond.native arraycopyName, Cond.static arraycopyName, Cond.initialized "java/lang/System", Cond.fieldLink RX1 17 "CornerLabels$History" "points" "[I", Cond.fieldLink RX1 34 "CornerLabels$Board" "points" "I", Cond.methodLink RX1 24 yX1_forgetOldest, Cond.instanceMethod yX1_forgetOldest, Cond.selects RX1 yX1_forgetOldest yX1_forgetOldest, Cond.code yX1_forgetOldest cX1_forgetOldest 1 none]
def wsX4_weigh : List Cond := .code yX4_weigh cX4_weigh 4 (some .int) :: ((wsX4_weigh_r1 ++ wsX4_weigh_r2) ++ wsX40 ++ wsX00 ++ wsX10 ++ (vx_atS RX4 78 "java/lang/IndexOutOfBoundsException" ["java/lang/RuntimeException", "java/lang/Exception"]).filter goodWord ++ (vx_atS RX4 52 "java/lang/IllegalArgumentException" ["java/lang/RuntimeException", "java/lang/Exception"]).filter goodWord)
def wsX4_resize_r1 : List Cond := [Cond.classLink RX4 74 "java/lang/IndexOutOfBoundsException", Cond.initialized "java/lang/IndexOutOfBoundsException", Cond.classLink RX4 48 "java/lang/IllegalArgumentException", Cond.initialized "java/lang/IllegalArgumentException", Cond.fieldLink RX4 10 "CornerLabels" "board" "LCornerLabels$Board;", Cond.fieldLink RX4 19 "CornerLabels" "history" "LCornerLabels$History;", Cond.fieldLink RX4 89 "CornerLabels$Board" "cells" "[I", Cond.methodLink RX4 71 yX0_has, Cond.instanceMethod yX0_has, Cond.selects RX0 yX0_has yX0_has, Cond.initialized RX0, Cond.code yX0_has cX0_has 2 (some .boolean), Cond.fieldLink RX0 15 "CornerLabels$Board" "points" "I", Cond.methodLink RX4 41 yX4_isSize, Cond.static yX4_isSize, Cond.initialized RX4, Cond.code yX4_isSize cX4_isSize 2 (some .boolean), Cond.methodLink RX4 63 yX1_save, Cond.instanceMethod yX1_save, Cond.selects RX1 yX1_save yX1_save, Cond.initialized RX1, Cond.code yX1_save cX1_save 2 none, Cond.fieldLink RX1 20 "CornerLabels$History" "states" "I", Cond.fieldLink RX1 27 "CornerLabels$Board" "cells" "[I"]
def wsX4_resize_r2 : List Cond := [Cond.fieldLink RX1 11 "CornerLabels$History" "cells" "[I", Cond.methodLink RX1 28 arraycopyName, Cond.native arraycopyName, Cond.static arraycopyName, Cond.initialized "java/lang/System", Cond.fieldLink RX1 17 "CornerLabels$History" "points" "[I", Cond.fieldLink RX1 34 "CornerLabels$Board" "points" "I", Cond.methodLink RX1 24 yX1_forgetOldest, Cond.instanceMethod yX1_forgetOldest, Cond.selects RX1 yX1_forgetOldest yX1_forgetOldest, Cond.code yX1_forgetOldest cX1_forgetOldest 1 none, Cond.methodLink RX4 95 yX0_openMask, Cond.instanceMethod yX0_openMask, Cond.selects RX0 yX0_openMask yX0_openMask, Cond.code yX0_openMask cX0_openMask 4 (some .int), Cond.methodLink RX0 40 yX0_isOpen, Cond.instanceMethod yX0_isOpen, Cond.selects RX0 yX0_isOpen yX0_isOpen, Cond.code yX0_isOpen cX0_isOpen 10 (some .boolean), Cond.fieldLink RX0 11 "CornerLabels$Board" "cells" "[I", Cond.methodLink RX0 30 yX0_left, Cond.instanceMethod yX0_left, Cond.selects RX0 yX0_left yX0_left, Cond.code yX0_left cX0_left 4 (some .int)]
def wsX4_resize_r3 : List Cond := [Cond.methodLink RX0 33 yX0_top, Cond.instanceMethod yX0_top, Cond.selects RX0 yX0_top yX0_top, Cond.code yX0_top cX0_top 4 (some .int), Cond.methodLink RX4 98 yJ6_bitCount_0f7a4, Cond.static yJ6_bitCount_0f7a4, Cond.initialized RJ6, Cond.code yJ6_bitCount_0f7a4 cJ6_bitCount_0f7a4 1 (some .int), Cond.constant RJ6 265 (1431655765), Cond.constant RJ6 266 (858993459), Cond.constant RJ6 267 (252645135)]
def wsX4_resize : List Cond := .code yX4_resize cX4_resize 4 (some .int) :: ((wsX4_resize_r1 ++ (wsX4_resize_r2 ++ wsX4_resize_r3)) ++ wsX40 ++ wsX00 ++ wsX10 ++ (vx_atS RX4 78 "java/lang/IndexOutOfBoundsException" ["java/lang/RuntimeException", "java/lang/Exception"]).filter goodWord ++ (vx_atS RX4 52 "java/lang/IllegalArgumentException" ["java/lang/RuntimeException", "java/lang/Exception"]).filter goodWord)
def wsX4_isCorner : List Cond := .code yX4_isCorner cX4_isCorner 1 (some .boolean) :: ([])
def wsX4_putLabel : List Cond := .code yX4_putLabel cX4_putLabel 4 (some .int) :: ([.fieldLink RX4 10 "CornerLabels" "board" "LCornerLabels$Board;", .fieldLink RX4 89 "CornerLabels$Board" "cells" "[I"] ++ wsX40 ++ wsX00)
def wsX4_place_r1 : List Cond := [Cond.classLink RX4 74 "java/lang/IndexOutOfBoundsException", Cond.initialized "java/lang/IndexOutOfBoundsException", Cond.classLink RX4 48 "java/lang/IllegalArgumentException", Cond.initialized "java/lang/IllegalArgumentException", Cond.classLink RX4 58 "java/lang/IllegalStateException", Cond.initialized "java/lang/IllegalStateException", Cond.fieldLink RX4 10 "CornerLabels" "board" "LCornerLabels$Board;", Cond.fieldLink RX4 19 "CornerLabels" "history" "LCornerLabels$History;", Cond.methodLink RX4 71 yX0_has, Cond.instanceMethod yX0_has, Cond.selects RX0 yX0_has yX0_has, Cond.initialized RX0, Cond.code yX0_has cX0_has 2 (some .boolean), Cond.fieldLink RX0 15 "CornerLabels$Board" "points" "I", Cond.methodLink RX4 103 yX4_isCorner, Cond.static yX4_isCorner, Cond.initialized RX4, Cond.code yX4_isCorner cX4_isCorner 1 (some .boolean), Cond.methodLink RX4 108 yX0_freeMask, Cond.instanceMethod yX0_freeMask, Cond.selects RX0 yX0_freeMask yX0_freeMask, Cond.code yX0_freeMask cX0_freeMask 4 (some .int), Cond.methodLink RX0 44 yX0_openMask, Cond.instanceMethod yX0_openMask]
def wsX4_place_r2 : List Cond := [Cond.selects RX0 yX0_openMask yX0_openMask, Cond.code yX0_openMask cX0_openMask 4 (some .int), Cond.methodLink RX0 40 yX0_isOpen, Cond.instanceMethod yX0_isOpen, Cond.selects RX0 yX0_isOpen yX0_isOpen, Cond.code yX0_isOpen cX0_isOpen 10 (some .boolean), Cond.fieldLink RX0 11 "CornerLabels$Board" "cells" "[I", Cond.methodLink RX0 30 yX0_left, Cond.instanceMethod yX0_left, Cond.selects RX0 yX0_left yX0_left, Cond.code yX0_left cX0_left 4 (some .int), Cond.methodLink RX0 33 yX0_top, Cond.instanceMethod yX0_top, Cond.selects RX0 yX0_top yX0_top, Cond.code yX0_top cX0_top 4 (some .int), Cond.static yX4_hasBit, Cond.code yX4_hasBit cX4_hasBit 2 (some .boolean), Cond.methodLink RX0 71 yX0_clashesWithStanding, Cond.instanceMethod yX0_clashesWithStanding, Cond.selects RX0 yX0_clashesWithStanding yX0_clashesWithStanding, Cond.code yX0_clashesWithStanding cX0_clashesWithStanding 4 (some .boolean), Cond.methodLink RX0 26 yX0_stands, Cond.instanceMethod yX0_stands, Cond.selects RX0 yX0_stands yX0_stands]
def wsX4_place_r3 : List Cond := [Cond.code yX0_stands cX0_stands 2 (some .boolean), Cond.methodLink RX0 65 yX0_sharedSquares, Cond.instanceMethod yX0_sharedSquares, Cond.selects RX0 yX0_sharedSquares yX0_sharedSquares, Cond.code yX0_sharedSquares cX0_sharedSquares 7 (some .int), Cond.methodLink RX0 53 yX0_sharedLength, Cond.static yX0_sharedLength, Cond.code yX0_sharedLength cX0_sharedLength 6 (some .int), Cond.methodLink RX0 57 Lib.Math.max.name, Cond.static Lib.Math.max.name, Cond.initialized "java/lang/Math", Cond.code Lib.Math.max.name Lib.Math.max.code 2 (some .int), Cond.methodLink RX0 62 Lib.Math.min.name, Cond.static Lib.Math.min.name, Cond.code Lib.Math.min.name Lib.Math.min.code 2 (some .int), Cond.methodLink RX4 111 yX4_hasBit, Cond.methodLink RX4 63 yX1_save, Cond.instanceMethod yX1_save, Cond.selects RX1 yX1_save yX1_save, Cond.initialized RX1, Cond.code yX1_save cX1_save 2 none, Cond.fieldLink RX1 20 "CornerLabels$History" "states" "I", Cond.fieldLink RX1 27 "CornerLabels$Board" "cells" "[I", Cond.fieldLink RX1 11 "CornerLabels$History" "cells" "[I"]
def wsX4_place_r4 : List Cond := [Cond.methodLink RX1 28 arraycopyName, Cond.native arraycopyName, Cond.static arraycopyName, Cond.initialized "java/lang/System", Cond.fieldLink RX1 17 "CornerLabels$History" "points" "[I", Cond.fieldLink RX1 34 "CornerLabels$Board" "points" "I", Cond.methodLink RX1 24 yX1_forgetOldest, Cond.instanceMethod yX1_forgetOldest, Cond.selects RX1 yX1_forgetOldest yX1_forgetOldest, Cond.code yX1_forgetOldest cX1_forgetOldest 1 none, Cond.methodLink RX4 116 yX4_putLabel, Cond.instanceMethod yX4_putLabel, Cond.selects RX4 yX4_putLabel yX4_putLabel, Cond.code yX4_putLabel cX4_putLabel 4 (some .int), Cond.fieldLink RX4 89 "CornerLabels$Board" "cells" "[I"]
def wsX4_place : List Cond := .code yX4_place cX4_place 3 (some .int) :: ((wsX4_place_r1 ++ (wsX4_place_r2 ++ (wsX4_place_r3 ++ wsX4_place_r4))) ++ wsX40 ++ wsX00 ++ wsX10 ++ (vx_atS RX4 78 "java/lang/IndexOutOfBoundsException" ["java/lang/RuntimeException", "java/lang/Exception"]).filter goodWord ++ (vx_atS RX4 52 "java/lang/IllegalArgumentException" ["java/lang/RuntimeException", "java/lang/Exception"]).filter goodWord ++ (vx_atS RX4 62 "java/lang/IllegalStateException" ["java/lang/RuntimeException", "java/lang/Exception"]).filter goodWord)
def wsX4_drop_r1 : List Cond := [Cond.classLink RX4 74 "java/lang/IndexOutOfBoundsException", Cond.initialized "java/lang/IndexOutOfBoundsException", Cond.fieldLink RX4 10 "CornerLabels" "board" "LCornerLabels$Board;", Cond.fieldLink RX4 19 "CornerLabels" "history" "LCornerLabels$History;", Cond.methodLink RX4 71 yX0_has, Cond.instanceMethod yX0_has, Cond.selects RX0 yX0_has yX0_has, Cond.initialized RX0, Cond.code yX0_has cX0_has 2 (some .boolean), Cond.fieldLink RX0 15 "CornerLabels$Board" "points" "I", Cond.methodLink RX4 63 yX1_save, Cond.instanceMethod yX1_save, Cond.selects RX1 yX1_save yX1_save, Cond.initialized RX1, Cond.code yX1_save cX1_save 2 none, Cond.fieldLink RX1 20 "CornerLabels$History" "states" "I", Cond.fieldLink RX1 27 "CornerLabels$Board" "cells" "[I", Cond.fieldLink RX1 11 "CornerLabels$History" "cells" "[I", Cond.methodLink RX1 28 arraycopyName, Cond.native arraycopyName, Cond.static arraycopyName, Cond.initialized "java/lang/System", Cond.fieldLink RX1 17 "CornerLabels$History" "points" "[I", Cond.fieldLink RX1 34 "CornerLabels$Board" "points" "I"]
def wsX4_drop_r2 : List Cond := [Cond.methodLink RX1 24 yX1_forgetOldest, Cond.instanceMethod yX1_forgetOldest, Cond.selects RX1 yX1_forgetOldest yX1_forgetOldest, Cond.code yX1_forgetOldest cX1_forgetOldest 1 none, Cond.methodLink RX4 116 yX4_putLabel, Cond.instanceMethod yX4_putLabel, Cond.selects RX4 yX4_putLabel yX4_putLabel, Cond.initialized RX4, Cond.code yX4_putLabel cX4_putLabel 4 (some .int), Cond.fieldLink RX4 89 "CornerLabels$Board" "cells" "[I"]
def wsX4_drop : List Cond := .code yX4_drop cX4_drop 2 (some .int) :: ((wsX4_drop_r1 ++ wsX4_drop_r2) ++ wsX40 ++ wsX00 ++ wsX10 ++ (vx_atS RX4 78 "java/lang/IndexOutOfBoundsException" ["java/lang/RuntimeException", "java/lang/Exception"]).filter goodWord)
def wsX4_putLabelsAsFound : List Cond := .code yX4_putLabelsAsFound cX4_putLabelsAsFound 2 none :: ([.fieldLink RX4 10 "CornerLabels" "board" "LCornerLabels$Board;", .fieldLink RX4 242 "CornerLabels$Board" "points" "I", .fieldLink RX4 89 "CornerLabels$Board" "cells" "[I", .fieldLink RX4 33 "CornerLabels" "plans" "LCornerLabels$Plans;", .fieldLink RX4 245 "CornerLabels$Plans" "found" "[I"] ++ wsX40 ++ wsX00 ++ wsX20)
def wsX4_solve_r1 : List Cond := [Cond.fieldLink RX4 19 "CornerLabels" "history" "LCornerLabels$History;", Cond.fieldLink RX4 10 "CornerLabels" "board" "LCornerLabels$Board;", Cond.fieldLink RX4 33 "CornerLabels" "plans" "LCornerLabels$Plans;", Cond.methodLink RX4 63 yX1_save, Cond.instanceMethod yX1_save, Cond.selects RX1 yX1_save yX1_save, Cond.initialized RX1, Cond.code yX1_save cX1_save 2 none, Cond.fieldLink RX1 20 "CornerLabels$History" "states" "I", Cond.fieldLink RX1 27 "CornerLabels$Board" "cells" "[I", Cond.fieldLink RX1 11 "CornerLabels$History" "cells" "[I", Cond.methodLink RX1 28 arraycopyName, Cond.native arraycopyName, Cond.static arraycopyName, Cond.initialized "java/lang/System", Cond.fieldLink RX1 17 "CornerLabels$History" "points" "[I", Cond.fieldLink RX1 34 "CornerLabels$Board" "points" "I", Cond.methodLink RX1 24 yX1_forgetOldest, Cond.instanceMethod yX1_forgetOldest, Cond.selects RX1 yX1_forgetOldest yX1_forgetOldest, Cond.code yX1_forgetOldest cX1_forgetOldest 1 none, Cond.methodLink RX4 120 yX2_look, Cond.instanceMethod yX2_look, Cond.selects RX2 yX2_look yX2_look]
def wsX4_solve_r2 : List Cond := [Cond.initialized RX2, Cond.code yX2_look cX2_look 4 none, Cond.fieldLink RX2 65 "CornerLabels$Board" "points" "I", Cond.fieldLink RX2 9 "CornerLabels$Plans" "points" "I", Cond.fieldLink RX2 15 "CornerLabels$Plans" "open" "[I", Cond.fieldLink RX2 19 "CornerLabels$Plans" "weight" "[I", Cond.fieldLink RX2 72 "CornerLabels$Board" "cells" "[I", Cond.fieldLink RX2 22 "CornerLabels$Plans" "now" "[I", Cond.fieldLink RX2 25 "CornerLabels$Plans" "clashing" "[I", Cond.methodLink RX2 68 yX0_openMask, Cond.instanceMethod yX0_openMask, Cond.selects RX0 yX0_openMask yX0_openMask, Cond.initialized RX0, Cond.code yX0_openMask cX0_openMask 4 (some .int), Cond.methodLink RX0 40 yX0_isOpen, Cond.instanceMethod yX0_isOpen, Cond.selects RX0 yX0_isOpen yX0_isOpen, Cond.code yX0_isOpen cX0_isOpen 10 (some .boolean), Cond.fieldLink RX0 11 "CornerLabels$Board" "cells" "[I", Cond.fieldLink RX0 15 "CornerLabels$Board" "points" "I", Cond.methodLink RX0 30 yX0_left, Cond.instanceMethod yX0_left, Cond.selects RX0 yX0_left yX0_left, Cond.code yX0_left cX0_left 4 (some .int)]
def wsX4_solve_r3 : List Cond := [Cond.methodLink RX0 33 yX0_top, Cond.instanceMethod yX0_top, Cond.selects RX0 yX0_top yX0_top, Cond.code yX0_top cX0_top 4 (some .int), Cond.methodLink RX2 75 yX2_laterClashes, Cond.instanceMethod yX2_laterClashes, Cond.selects RX2 yX2_laterClashes yX2_laterClashes, Cond.code yX2_laterClashes cX2_laterClashes 7 (some .int), Cond.static yX4_hasBit, Cond.initialized RX4, Cond.code yX4_hasBit cX4_hasBit 2 (some .boolean), Cond.methodLink RX2 83 yX0_sharedSquares, Cond.instanceMethod yX0_sharedSquares, Cond.selects RX0 yX0_sharedSquares yX0_sharedSquares, Cond.code yX0_sharedSquares cX0_sharedSquares 7 (some .int), Cond.methodLink RX0 53 yX0_sharedLength, Cond.static yX0_sharedLength, Cond.code yX0_sharedLength cX0_sharedLength 6 (some .int), Cond.methodLink RX0 57 Lib.Math.max.name, Cond.static Lib.Math.max.name, Cond.initialized "java/lang/Math", Cond.code Lib.Math.max.name Lib.Math.max.code 2 (some .int), Cond.methodLink RX0 62 Lib.Math.min.name, Cond.static Lib.Math.min.name]
def wsX4_solve_r4 : List Cond := [Cond.code Lib.Math.min.name Lib.Math.min.code 2 (some .int), Cond.methodLink RX4 123 yX2_findHeaviest, Cond.instanceMethod yX2_findHeaviest, Cond.selects RX2 yX2_findHeaviest yX2_findHeaviest, Cond.code yX2_findHeaviest cX2_findHeaviest 4 (some .int), Cond.fieldLink RX2 28 "CornerLabels$Plans" "allowed" "[I", Cond.fieldLink RX2 34 "CornerLabels$Plans" "mayDrop" "[Z", Cond.fieldLink RX2 38 "CornerLabels$Plans" "gain" "[I", Cond.methodLink RX2 87 yX2_findTop, Cond.instanceMethod yX2_findTop, Cond.selects RX2 yX2_findTop yX2_findTop, Cond.code yX2_findTop cX2_findTop 2 (some .int), Cond.fieldLink RX2 44 "CornerLabels$Plans" "hope" "[I", Cond.fieldLink RX2 31 "CornerLabels$Plans" "allowedSpots" "I", Cond.fieldLink RX2 41 "CornerLabels$Plans" "mostGain" "[I", Cond.fieldLink RX2 53 "CornerLabels$Plans" "foundScore" "I", Cond.methodLink RX2 100 yX2_findMostGain, Cond.instanceMethod yX2_findMostGain, Cond.selects RX2 yX2_findMostGain yX2_findMostGain, Cond.code yX2_findMostGain cX2_findMostGain 4 (some .int), Cond.methodLink RX2 107 Lib.Math.max.name, Cond.methodLink RX2 103 yX2_seek, Cond.static yX2_seek, Cond.code yX2_seek cX2_seek 8 none]
def wsX4_solve_r5 : List Cond := [Cond.fieldLink RX2 47 "CornerLabels$Plans" "trial" "[I", Cond.methodLink RX2 113 yX2_keepTrial, Cond.instanceMethod yX2_keepTrial, Cond.selects RX2 yX2_keepTrial yX2_keepTrial, Cond.code yX2_keepTrial cX2_keepTrial 2 none, Cond.fieldLink RX2 50 "CornerLabels$Plans" "found" "[I", Cond.methodLink RX2 94 arraycopyName, Cond.methodLink RX4 126 yX4_putLabelsAsFound, Cond.instanceMethod yX4_putLabelsAsFound, Cond.selects RX4 yX4_putLabelsAsFound yX4_putLabelsAsFound, Cond.code yX4_putLabelsAsFound cX4_putLabelsAsFound 2 none, Cond.fieldLink RX4 242 "CornerLabels$Board" "points" "I", Cond.fieldLink RX4 89 "CornerLabels$Board" "cells" "[I", Cond.fieldLink RX4 245 "CornerLabels$Plans" "found" "[I"]
def wsX4_solve : List Cond := .code yX4_solve cX4_solve 2 (some .int) :: ((wsX4_solve_r1 ++ (wsX4_solve_r2 ++ (wsX4_solve_r3 ++ (wsX4_solve_r4 ++ wsX4_solve_r5)))) ++ wsX40 ++ wsX10 ++ wsX00 ++ wsX20)
def wsX4_push_r1 : List Cond := [Cond.classLink RX4 74 "java/lang/IndexOutOfBoundsException", Cond.initialized "java/lang/IndexOutOfBoundsException", Cond.classLink RX4 58 "java/lang/IllegalStateException", Cond.initialized "java/lang/IllegalStateException", Cond.fieldLink RX4 10 "CornerLabels" "board" "LCornerLabels$Board;", Cond.fieldLink RX4 33 "CornerLabels" "plans" "LCornerLabels$Plans;", Cond.fieldLink RX4 19 "CornerLabels" "history" "LCornerLabels$History;", Cond.methodLink RX4 71 yX0_has, Cond.instanceMethod yX0_has, Cond.selects RX0 yX0_has yX0_has, Cond.initialized RX0, Cond.code yX0_has cX0_has 2 (some .boolean), Cond.fieldLink RX0 15 "CornerLabels$Board" "points" "I", Cond.methodLink RX4 120 yX2_look, Cond.instanceMethod yX2_look, Cond.selects RX2 yX2_look yX2_look, Cond.initialized RX2, Cond.code yX2_look cX2_look 4 none, Cond.fieldLink RX2 65 "CornerLabels$Board" "points" "I", Cond.fieldLink RX2 9 "CornerLabels$Plans" "points" "I", Cond.fieldLink RX2 15 "CornerLabels$Plans" "open" "[I", Cond.fieldLink RX2 19 "CornerLabels$Plans" "weight" "[I", Cond.fieldLink RX2 72 "CornerLabels$Board" "cells" "[I", Cond.fieldLink RX2 22 "CornerLabels$Plans" "now" "[I"]
def wsX4_push_r2 : List Cond := [Cond.fieldLink RX2 25 "CornerLabels$Plans" "clashing" "[I", Cond.methodLink RX2 68 yX0_openMask, Cond.instanceMethod yX0_openMask, Cond.selects RX0 yX0_openMask yX0_openMask, Cond.code yX0_openMask cX0_openMask 4 (some .int), Cond.methodLink RX0 40 yX0_isOpen, Cond.instanceMethod yX0_isOpen, Cond.selects RX0 yX0_isOpen yX0_isOpen, Cond.code yX0_isOpen cX0_isOpen 10 (some .boolean), Cond.fieldLink RX0 11 "CornerLabels$Board" "cells" "[I", Cond.methodLink RX0 30 yX0_left, Cond.instanceMethod yX0_left, Cond.selects RX0 yX0_left yX0_left, Cond.code yX0_left cX0_left 4 (some .int), Cond.methodLink RX0 33 yX0_top, Cond.instanceMethod yX0_top, Cond.selects RX0 yX0_top yX0_top, Cond.code yX0_top cX0_top 4 (some .int), Cond.methodLink RX2 75 yX2_laterClashes, Cond.instanceMethod yX2_laterClashes, Cond.selects RX2 yX2_laterClashes yX2_laterClashes, Cond.code yX2_laterClashes cX2_laterClashes 7 (some .int), Cond.static yX4_hasBit, Cond.initialized RX4]
def wsX4_push_r3 : List Cond := [Cond.code yX4_hasBit cX4_hasBit 2 (some .boolean), Cond.methodLink RX2 83 yX0_sharedSquares, Cond.instanceMethod yX0_sharedSquares, Cond.selects RX0 yX0_sharedSquares yX0_sharedSquares, Cond.code yX0_sharedSquares cX0_sharedSquares 7 (some .int), Cond.methodLink RX0 53 yX0_sharedLength, Cond.static yX0_sharedLength, Cond.code yX0_sharedLength cX0_sharedLength 6 (some .int), Cond.methodLink RX0 57 Lib.Math.max.name, Cond.static Lib.Math.max.name, Cond.initialized "java/lang/Math", Cond.code Lib.Math.max.name Lib.Math.max.code 2 (some .int), Cond.methodLink RX0 62 Lib.Math.min.name, Cond.static Lib.Math.min.name, Cond.code Lib.Math.min.name Lib.Math.min.code 2 (some .int), Cond.methodLink RX4 129 yX2_findRoom, Cond.instanceMethod yX2_findRoom, Cond.selects RX2 yX2_findRoom yX2_findRoom, Cond.code yX2_findRoom cX2_findRoom 6 (some .int), Cond.fieldLink RX2 28 "CornerLabels$Plans" "allowed" "[I", Cond.fieldLink RX2 34 "CornerLabels$Plans" "mayDrop" "[Z", Cond.fieldLink RX2 38 "CornerLabels$Plans" "gain" "[I", Cond.methodLink RX2 87 yX2_findTop, Cond.instanceMethod yX2_findTop]
def wsX4_push_r4 : List Cond := [Cond.selects RX2 yX2_findTop yX2_findTop, Cond.code yX2_findTop cX2_findTop 2 (some .int), Cond.fieldLink RX2 44 "CornerLabels$Plans" "hope" "[I", Cond.fieldLink RX2 31 "CornerLabels$Plans" "allowedSpots" "I", Cond.fieldLink RX2 41 "CornerLabels$Plans" "mostGain" "[I", Cond.fieldLink RX2 53 "CornerLabels$Plans" "foundScore" "I", Cond.methodLink RX2 100 yX2_findMostGain, Cond.instanceMethod yX2_findMostGain, Cond.selects RX2 yX2_findMostGain yX2_findMostGain, Cond.code yX2_findMostGain cX2_findMostGain 4 (some .int), Cond.methodLink RX2 107 Lib.Math.max.name, Cond.methodLink RX2 103 yX2_seek, Cond.static yX2_seek, Cond.code yX2_seek cX2_seek 8 none, Cond.fieldLink RX2 47 "CornerLabels$Plans" "trial" "[I", Cond.methodLink RX2 113 yX2_keepTrial, Cond.instanceMethod yX2_keepTrial, Cond.selects RX2 yX2_keepTrial yX2_keepTrial, Cond.code yX2_keepTrial cX2_keepTrial 2 none, Cond.fieldLink RX2 50 "CornerLabels$Plans" "found" "[I", Cond.methodLink RX2 94 arraycopyName, Cond.native arraycopyName, Cond.static arraycopyName, Cond.initialized "java/lang/System"]
def wsX4_push_r5 : List Cond := [Cond.methodLink RX4 63 yX1_save, Cond.instanceMethod yX1_save, Cond.selects RX1 yX1_save yX1_save, Cond.initialized RX1, Cond.code yX1_save cX1_save 2 none, Cond.fieldLink RX1 20 "CornerLabels$History" "states" "I", Cond.fieldLink RX1 27 "CornerLabels$Board" "cells" "[I", Cond.fieldLink RX1 11 "CornerLabels$History" "cells" "[I", Cond.methodLink RX1 28 arraycopyName, Cond.fieldLink RX1 17 "CornerLabels$History" "points" "[I", Cond.fieldLink RX1 34 "CornerLabels$Board" "points" "I", Cond.methodLink RX1 24 yX1_forgetOldest, Cond.instanceMethod yX1_forgetOldest, Cond.selects RX1 yX1_forgetOldest yX1_forgetOldest, Cond.code yX1_forgetOldest cX1_forgetOldest 1 none, Cond.methodLink RX4 126 yX4_putLabelsAsFound, Cond.instanceMethod yX4_putLabelsAsFound, Cond.selects RX4 yX4_putLabelsAsFound yX4_putLabelsAsFound, Cond.code yX4_putLabelsAsFound cX4_putLabelsAsFound 2 none, Cond.fieldLink RX4 242 "CornerLabels$Board" "points" "I", Cond.fieldLink RX4 89 "CornerLabels$Board" "cells" "[I", Cond.fieldLink RX4 245 "CornerLabels$Plans" "found" "[I"]
def wsX4_push : List Cond := .code yX4_push cX4_push 3 (some .int) :: ((wsX4_push_r1 ++ (wsX4_push_r2 ++ (wsX4_push_r3 ++ (wsX4_push_r4 ++ wsX4_push_r5)))) ++ wsX40 ++ wsX00 ++ wsX20 ++ wsX10 ++ (vx_atS RX4 78 "java/lang/IndexOutOfBoundsException" ["java/lang/RuntimeException", "java/lang/Exception"]).filter goodWord ++ (vx_atS RX4 62 "java/lang/IllegalStateException" ["java/lang/RuntimeException", "java/lang/Exception"]).filter goodWord)
def wsX4_mirror_r1 : List Cond := [Cond.fieldLink RX4 19 "CornerLabels" "history" "LCornerLabels$History;", Cond.fieldLink RX4 10 "CornerLabels" "board" "LCornerLabels$Board;", Cond.methodLink RX4 63 yX1_save, Cond.instanceMethod yX1_save, Cond.selects RX1 yX1_save yX1_save, Cond.initialized RX1, Cond.code yX1_save cX1_save 2 none, Cond.fieldLink RX1 20 "CornerLabels$History" "states" "I", Cond.fieldLink RX1 27 "CornerLabels$Board" "cells" "[I", Cond.fieldLink RX1 11 "CornerLabels$History" "cells" "[I", Cond.methodLink RX1 28 arraycopyName, Cond.native arraycopyName, Cond.static arraycopyName, Cond.initialized "java/lang/System", Cond.fieldLink RX1 17 "CornerLabels$History" "points" "[I", Cond.fieldLink RX1 34 "CornerLabels$Board" "points" "I", Cond.methodLink RX1 24 yX1_forgetOldest, Cond.instanceMethod yX1_forgetOldest, Cond.selects RX1 yX1_forgetOldest yX1_forgetOldest, Cond.code yX1_forgetOldest cX1_forgetOldest 1 none, Cond.methodLink RX4 134 yX0_flip, Cond.instanceMethod yX0_flip, Cond.selects RX0 yX0_flip yX0_flip, Cond.initialized RX0]
def wsX4_mirror_r2 : List Cond := [Cond.code yX0_flip cX0_flip 2 none, Cond.fieldLink RX0 15 "CornerLabels$Board" "points" "I", Cond.fieldLink RX0 11 "CornerLabels$Board" "cells" "[I", Cond.methodLink RX0 26 yX0_stands, Cond.instanceMethod yX0_stands, Cond.selects RX0 yX0_stands yX0_stands, Cond.code yX0_stands cX0_stands 2 (some .boolean), Cond.methodLink RX4 137 yX0_standingLabels, Cond.instanceMethod yX0_standingLabels, Cond.selects RX0 yX0_standingLabels yX0_standingLabels, Cond.code yX0_standingLabels cX0_standingLabels 3 (some .int)]
def wsX4_mirror : List Cond := .code yX4_mirror cX4_mirror 1 (some .int) :: ((wsX4_mirror_r1 ++ wsX4_mirror_r2) ++ wsX40 ++ wsX10 ++ wsX00)
def wsX4_append : List Cond := .code yX4_append cX4_append 2 (some .int) :: ([.classLink RX4 48 "java/lang/IllegalArgumentException", .initialized "java/lang/IllegalArgumentException", .classLink RX4 58 "java/lang/IllegalStateException", .initialized "java/lang/IllegalStateException", .fieldLink RX4 26 "CornerLabels" "typed" "LCornerLabels$Typed;", .fieldLink RX4 143 "CornerLabels$Typed" "length" "I", .methodLink RX4 149 yX3_write, .instanceMethod yX3_write, .selects RX3 yX3_write yX3_write, .initialized RX3, .code yX3_write cX3_write 2 none, .fieldLink RX3 9 "CornerLabels$Typed" "codes" "[I", .fieldLink RX3 15 "CornerLabels$Typed" "length" "I"] ++ wsX40 ++ wsX30 ++ (vx_atS RX4 52 "java/lang/IllegalArgumentException" ["java/lang/RuntimeException", "java/lang/Exception"]).filter goodWord ++ (vx_atS RX4 62 "java/lang/IllegalStateException" ["java/lang/RuntimeException", "java/lang/Exception"]).filter goodWord)
def wsX4_clearBuffer : List Cond := .code yX4_clearBuffer cX4_clearBuffer 2 (some .int) :: ([.fieldLink RX4 26 "CornerLabels" "typed" "LCornerLabels$Typed;", .fieldLink RX4 143 "CornerLabels$Typed" "length" "I"] ++ wsX40 ++ wsX30)
def wsX4_firstError_r1 : List Cond := [Cond.fieldLink RX4 26 "CornerLabels" "typed" "LCornerLabels$Typed;", Cond.methodLink RX4 152 yX3_scan, Cond.instanceMethod yX3_scan, Cond.selects RX3 yX3_scan yX3_scan, Cond.initialized RX3, Cond.code yX3_scan cX3_scan 2 (some .int), Cond.fieldLink RX3 22 "CornerLabels$Typed" "reading" "I", Cond.fieldLink RX3 15 "CornerLabels$Typed" "length" "I", Cond.fieldLink RX3 9 "CornerLabels$Typed" "codes" "[I", Cond.methodLink RX3 31 yX3_beginPoint, Cond.instanceMethod yX3_beginPoint, Cond.selects RX3 yX3_beginPoint yX3_beginPoint, Cond.code yX3_beginPoint cX3_beginPoint 1 (some .boolean), Cond.fieldLink RX3 19 "CornerLabels$Typed" "told" "[I", Cond.fieldLink RX3 25 "CornerLabels$Typed" "part" "I", Cond.fieldLink RX3 28 "CornerLabels$Typed" "value" "I", Cond.methodLink RX3 35 yX3_take, Cond.instanceMethod yX3_take, Cond.selects RX3 yX3_take yX3_take, Cond.code yX3_take cX3_take 3 (some .boolean), Cond.methodLink RX3 39 yX3_takeDigit, Cond.instanceMethod yX3_takeDigit, Cond.selects RX3 yX3_takeDigit yX3_takeDigit, Cond.code yX3_takeDigit cX3_takeDigit 3 (some .boolean)]
def wsX4_firstError_r2 : List Cond := [Cond.fieldLink RX3 46 "CornerLabels$Typed" "LEAST" "[I", Cond.fieldLink RX3 49 "CornerLabels$Typed" "MOST" "[I", Cond.methodLink RX3 42 yX3_partAfter, Cond.static yX3_partAfter, Cond.code yX3_partAfter cX3_partAfter 2 (some .int)]
def wsX4_firstError : List Cond := .code yX4_firstError cX4_firstError 1 (some .int) :: ((wsX4_firstError_r1 ++ wsX4_firstError_r2) ++ wsX40 ++ wsX30)
def wsX4_insertTold_r1 : List Cond := [Cond.fieldLink RX4 26 "CornerLabels" "typed" "LCornerLabels$Typed;", Cond.fieldLink RX4 10 "CornerLabels" "board" "LCornerLabels$Board;", Cond.methodLink RX4 248 yX3_pointsTold, Cond.instanceMethod yX3_pointsTold, Cond.selects RX3 yX3_pointsTold yX3_pointsTold, Cond.initialized RX3, Cond.code yX3_pointsTold cX3_pointsTold 1 (some .int), Cond.fieldLink RX3 22 "CornerLabels$Typed" "reading" "I", Cond.methodLink RX4 251 yX3_part, Cond.instanceMethod yX3_part, Cond.selects RX3 yX3_part yX3_part, Cond.code yX3_part cX3_part 3 (some .int), Cond.fieldLink RX3 19 "CornerLabels$Typed" "told" "[I", Cond.methodLink RX4 55 yX0_takesPointOn, Cond.instanceMethod yX0_takesPointOn, Cond.selects RX0 yX0_takesPointOn yX0_takesPointOn, Cond.initialized RX0, Cond.code yX0_takesPointOn cX0_takesPointOn 3 (some .boolean), Cond.fieldLink RX0 15 "CornerLabels$Board" "points" "I", Cond.methodLink RX0 19 yX0_pointOn, Cond.instanceMethod yX0_pointOn, Cond.selects RX0 yX0_pointOn yX0_pointOn, Cond.code yX0_pointOn cX0_pointOn 4 (some .int), Cond.fieldLink RX0 11 "CornerLabels$Board" "cells" "[I"]
def wsX4_insertTold_r2 : List Cond := [Cond.methodLink RX4 67 yX0_insert, Cond.instanceMethod yX0_insert, Cond.selects RX0 yX0_insert yX0_insert, Cond.code yX0_insert cX0_insert 8 (some .int), Cond.methodLink RX0 23 yX0_labelOn, Cond.instanceMethod yX0_labelOn, Cond.selects RX0 yX0_labelOn yX0_labelOn, Cond.code yX0_labelOn cX0_labelOn 4 (some .int), Cond.methodLink RX0 26 yX0_stands, Cond.instanceMethod yX0_stands, Cond.selects RX0 yX0_stands yX0_stands, Cond.code yX0_stands cX0_stands 2 (some .boolean), Cond.methodLink RX0 36 yX0_covers, Cond.instanceMethod yX0_covers, Cond.selects RX0 yX0_covers yX0_covers, Cond.code yX0_covers cX0_covers 7 (some .boolean), Cond.methodLink RX0 30 yX0_left, Cond.instanceMethod yX0_left, Cond.selects RX0 yX0_left yX0_left, Cond.code yX0_left cX0_left 4 (some .int), Cond.methodLink RX0 33 yX0_top, Cond.instanceMethod yX0_top, Cond.selects RX0 yX0_top yX0_top, Cond.code yX0_top cX0_top 4 (some .int)]
def wsX4_insertTold : List Cond := .code yX4_insertTold cX4_insertTold 5 (some .int) :: ((wsX4_insertTold_r1 ++ wsX4_insertTold_r2) ++ wsX40 ++ wsX30 ++ wsX00)
def wsX4_read_r1 : List Cond := [Cond.classLink RX4 48 "java/lang/IllegalArgumentException", Cond.initialized "java/lang/IllegalArgumentException", Cond.fieldLink RX4 26 "CornerLabels" "typed" "LCornerLabels$Typed;", Cond.fieldLink RX4 143 "CornerLabels$Typed" "length" "I", Cond.fieldLink RX4 19 "CornerLabels" "history" "LCornerLabels$History;", Cond.fieldLink RX4 10 "CornerLabels" "board" "LCornerLabels$Board;", Cond.methodLink RX4 152 yX3_scan, Cond.instanceMethod yX3_scan, Cond.selects RX3 yX3_scan yX3_scan, Cond.initialized RX3, Cond.code yX3_scan cX3_scan 2 (some .int), Cond.fieldLink RX3 22 "CornerLabels$Typed" "reading" "I", Cond.fieldLink RX3 15 "CornerLabels$Typed" "length" "I", Cond.fieldLink RX3 9 "CornerLabels$Typed" "codes" "[I", Cond.methodLink RX3 31 yX3_beginPoint, Cond.instanceMethod yX3_beginPoint, Cond.selects RX3 yX3_beginPoint yX3_beginPoint, Cond.code yX3_beginPoint cX3_beginPoint 1 (some .boolean), Cond.fieldLink RX3 19 "CornerLabels$Typed" "told" "[I", Cond.fieldLink RX3 25 "CornerLabels$Typed" "part" "I", Cond.fieldLink RX3 28 "CornerLabels$Typed" "value" "I", Cond.methodLink RX3 35 yX3_take, Cond.instanceMethod yX3_take, Cond.selects RX3 yX3_take yX3_take]
def wsX4_read_r2 : List Cond := [Cond.code yX3_take cX3_take 3 (some .boolean), Cond.methodLink RX3 39 yX3_takeDigit, Cond.instanceMethod yX3_takeDigit, Cond.selects RX3 yX3_takeDigit yX3_takeDigit, Cond.code yX3_takeDigit cX3_takeDigit 3 (some .boolean), Cond.fieldLink RX3 46 "CornerLabels$Typed" "LEAST" "[I", Cond.fieldLink RX3 49 "CornerLabels$Typed" "MOST" "[I", Cond.methodLink RX3 42 yX3_partAfter, Cond.static yX3_partAfter, Cond.code yX3_partAfter cX3_partAfter 2 (some .int), Cond.methodLink RX4 155 yX3_endsWithPoint, Cond.instanceMethod yX3_endsWithPoint, Cond.selects RX3 yX3_endsWithPoint yX3_endsWithPoint, Cond.code yX3_endsWithPoint cX3_endsWithPoint 1 (some .boolean), Cond.methodLink RX4 63 yX1_save, Cond.instanceMethod yX1_save, Cond.selects RX1 yX1_save yX1_save, Cond.initialized RX1, Cond.code yX1_save cX1_save 2 none, Cond.fieldLink RX1 20 "CornerLabels$History" "states" "I", Cond.fieldLink RX1 27 "CornerLabels$Board" "cells" "[I", Cond.fieldLink RX1 11 "CornerLabels$History" "cells" "[I", Cond.methodLink RX1 28 arraycopyName, Cond.native arraycopyName]
def wsX4_read_r3 : List Cond := [Cond.static arraycopyName, Cond.initialized "java/lang/System", Cond.fieldLink RX1 17 "CornerLabels$History" "points" "[I", Cond.fieldLink RX1 34 "CornerLabels$Board" "points" "I", Cond.methodLink RX1 24 yX1_forgetOldest, Cond.instanceMethod yX1_forgetOldest, Cond.selects RX1 yX1_forgetOldest yX1_forgetOldest, Cond.code yX1_forgetOldest cX1_forgetOldest 1 none, Cond.methodLink RX4 161 yX4_insertTold, Cond.instanceMethod yX4_insertTold, Cond.selects RX4 yX4_insertTold yX4_insertTold, Cond.initialized RX4, Cond.code yX4_insertTold cX4_insertTold 5 (some .int), Cond.methodLink RX4 248 yX3_pointsTold, Cond.instanceMethod yX3_pointsTold, Cond.selects RX3 yX3_pointsTold yX3_pointsTold, Cond.code yX3_pointsTold cX3_pointsTold 1 (some .int), Cond.methodLink RX4 251 yX3_part, Cond.instanceMethod yX3_part, Cond.selects RX3 yX3_part yX3_part, Cond.code yX3_part cX3_part 3 (some .int), Cond.methodLink RX4 55 yX0_takesPointOn, Cond.instanceMethod yX0_takesPointOn, Cond.selects RX0 yX0_takesPointOn yX0_takesPointOn]
def wsX4_read_r4 : List Cond := [Cond.initialized RX0, Cond.code yX0_takesPointOn cX0_takesPointOn 3 (some .boolean), Cond.fieldLink RX0 15 "CornerLabels$Board" "points" "I", Cond.methodLink RX0 19 yX0_pointOn, Cond.instanceMethod yX0_pointOn, Cond.selects RX0 yX0_pointOn yX0_pointOn, Cond.code yX0_pointOn cX0_pointOn 4 (some .int), Cond.fieldLink RX0 11 "CornerLabels$Board" "cells" "[I", Cond.methodLink RX4 67 yX0_insert, Cond.instanceMethod yX0_insert, Cond.selects RX0 yX0_insert yX0_insert, Cond.code yX0_insert cX0_insert 8 (some .int), Cond.methodLink RX0 23 yX0_labelOn, Cond.instanceMethod yX0_labelOn, Cond.selects RX0 yX0_labelOn yX0_labelOn, Cond.code yX0_labelOn cX0_labelOn 4 (some .int), Cond.methodLink RX0 26 yX0_stands, Cond.instanceMethod yX0_stands, Cond.selects RX0 yX0_stands yX0_stands, Cond.code yX0_stands cX0_stands 2 (some .boolean), Cond.methodLink RX0 36 yX0_covers, Cond.instanceMethod yX0_covers, Cond.selects RX0 yX0_covers yX0_covers, Cond.code yX0_covers cX0_covers 7 (some .boolean)]
def wsX4_read_r5 : List Cond := [Cond.methodLink RX0 30 yX0_left, Cond.instanceMethod yX0_left, Cond.selects RX0 yX0_left yX0_left, Cond.code yX0_left cX0_left 4 (some .int), Cond.methodLink RX0 33 yX0_top, Cond.instanceMethod yX0_top, Cond.selects RX0 yX0_top yX0_top, Cond.code yX0_top cX0_top 4 (some .int)]
def wsX4_read : List Cond := .code yX4_read cX4_read 2 (some .int) :: ((wsX4_read_r1 ++ (wsX4_read_r2 ++ (wsX4_read_r3 ++ (wsX4_read_r4 ++ wsX4_read_r5)))) ++ wsX40 ++ wsX30 ++ wsX10 ++ wsX00 ++ (vx_atS RX4 52 "java/lang/IllegalArgumentException" ["java/lang/RuntimeException", "java/lang/Exception"]).filter goodWord)
def wsX4_undo : List Cond := .code yX4_undo cX4_undo 1 (some .int) :: ([.classLink RX4 58 "java/lang/IllegalStateException", .initialized "java/lang/IllegalStateException", .fieldLink RX4 19 "CornerLabels" "history" "LCornerLabels$History;", .fieldLink RX4 164 "CornerLabels$History" "states" "I", .fieldLink RX4 10 "CornerLabels" "board" "LCornerLabels$Board;", .methodLink RX4 169 yX1_restore, .instanceMethod yX1_restore, .selects RX1 yX1_restore yX1_restore, .initialized RX1, .code yX1_restore cX1_restore 2 none, .fieldLink RX1 20 "CornerLabels$History" "states" "I", .fieldLink RX1 11 "CornerLabels$History" "cells" "[I", .fieldLink RX1 27 "CornerLabels$Board" "cells" "[I", .methodLink RX1 28 arraycopyName, .native arraycopyName, .static arraycopyName, .initialized "java/lang/System", .fieldLink RX1 17 "CornerLabels$History" "points" "[I", .fieldLink RX1 34 "CornerLabels$Board" "points" "I"] ++ wsX40 ++ wsX10 ++ wsX00 ++ (vx_atS RX4 62 "java/lang/IllegalStateException" ["java/lang/RuntimeException", "java/lang/Exception"]).filter goodWord)
def wsX4_property_r1 : List Cond := [Cond.fieldLink RX4 10 "CornerLabels" "board" "LCornerLabels$Board;", Cond.fieldLink RX4 89 "CornerLabels$Board" "cells" "[I", Cond.methodLink RX4 95 yX0_openMask, Cond.instanceMethod yX0_openMask, Cond.selects RX0 yX0_openMask yX0_openMask, Cond.initialized RX0, Cond.code yX0_openMask cX0_openMask 4 (some .int), Cond.methodLink RX0 40 yX0_isOpen, Cond.instanceMethod yX0_isOpen, Cond.selects RX0 yX0_isOpen yX0_isOpen, Cond.code yX0_isOpen cX0_isOpen 10 (some .boolean), Cond.fieldLink RX0 11 "CornerLabels$Board" "cells" "[I", Cond.fieldLink RX0 15 "CornerLabels$Board" "points" "I", Cond.methodLink RX0 30 yX0_left, Cond.instanceMethod yX0_left, Cond.selects RX0 yX0_left yX0_left, Cond.code yX0_left cX0_left 4 (some .int), Cond.methodLink RX0 33 yX0_top, Cond.instanceMethod yX0_top, Cond.selects RX0 yX0_top yX0_top, Cond.code yX0_top cX0_top 4 (some .int), Cond.methodLink RX4 108 yX0_freeMask, Cond.instanceMethod yX0_freeMask, Cond.selects RX0 yX0_freeMask yX0_freeMask]
def wsX4_property_r2 : List Cond := [Cond.code yX0_freeMask cX0_freeMask 4 (some .int), Cond.methodLink RX0 44 yX0_openMask, Cond.static yX4_hasBit, Cond.initialized RX4, Cond.code yX4_hasBit cX4_hasBit 2 (some .boolean), Cond.methodLink RX0 71 yX0_clashesWithStanding, Cond.instanceMethod yX0_clashesWithStanding, Cond.selects RX0 yX0_clashesWithStanding yX0_clashesWithStanding, Cond.code yX0_clashesWithStanding cX0_clashesWithStanding 4 (some .boolean), Cond.methodLink RX0 26 yX0_stands, Cond.instanceMethod yX0_stands, Cond.selects RX0 yX0_stands yX0_stands, Cond.code yX0_stands cX0_stands 2 (some .boolean), Cond.methodLink RX0 65 yX0_sharedSquares, Cond.instanceMethod yX0_sharedSquares, Cond.selects RX0 yX0_sharedSquares yX0_sharedSquares, Cond.code yX0_sharedSquares cX0_sharedSquares 7 (some .int), Cond.methodLink RX0 53 yX0_sharedLength, Cond.static yX0_sharedLength, Cond.code yX0_sharedLength cX0_sharedLength 6 (some .int), Cond.methodLink RX0 57 Lib.Math.max.name, Cond.static Lib.Math.max.name, Cond.initialized "java/lang/Math", Cond.code Lib.Math.max.name Lib.Math.max.code 2 (some .int)]
def wsX4_property_r3 : List Cond := [Cond.methodLink RX0 62 Lib.Math.min.name, Cond.static Lib.Math.min.name, Cond.code Lib.Math.min.name Lib.Math.min.code 2 (some .int), Cond.methodLink RX4 254 yX0_leaderCrossings, Cond.instanceMethod yX0_leaderCrossings, Cond.selects RX0 yX0_leaderCrossings yX0_leaderCrossings, Cond.code yX0_leaderCrossings cX0_leaderCrossings 4 (some .int), Cond.methodLink RX0 74 yX0_isPointOnLeader, Cond.instanceMethod yX0_isPointOnLeader, Cond.selects RX0 yX0_isPointOnLeader yX0_isPointOnLeader, Cond.code yX0_isPointOnLeader cX0_isPointOnLeader 3 (some .boolean), Cond.methodLink RX0 77 yX0_isLabelOnLeader, Cond.instanceMethod yX0_isLabelOnLeader, Cond.selects RX0 yX0_isLabelOnLeader yX0_isLabelOnLeader, Cond.code yX0_isLabelOnLeader cX0_isLabelOnLeader 7 (some .boolean)]
def wsX4_property : List Cond := .code yX4_property cX4_property 3 (some .int) :: ((wsX4_property_r1 ++ (wsX4_property_r2 ++ wsX4_property_r3)) ++ wsX40 ++ wsX00)
def wsX4_point_r1 : List Cond := [Cond.classLink RX4 74 "java/lang/IndexOutOfBoundsException", Cond.initialized "java/lang/IndexOutOfBoundsException", Cond.classLink RX4 48 "java/lang/IllegalArgumentException", Cond.initialized "java/lang/IllegalArgumentException", Cond.fieldLink RX4 10 "CornerLabels" "board" "LCornerLabels$Board;", Cond.methodLink RX4 71 yX0_has, Cond.instanceMethod yX0_has, Cond.selects RX0 yX0_has yX0_has, Cond.initialized RX0, Cond.code yX0_has cX0_has 2 (some .boolean), Cond.fieldLink RX0 15 "CornerLabels$Board" "points" "I", Cond.methodLink RX4 174 yX4_property, Cond.instanceMethod yX4_property, Cond.selects RX4 yX4_property yX4_property, Cond.initialized RX4, Cond.code yX4_property cX4_property 3 (some .int), Cond.fieldLink RX4 89 "CornerLabels$Board" "cells" "[I", Cond.methodLink RX4 95 yX0_openMask, Cond.instanceMethod yX0_openMask, Cond.selects RX0 yX0_openMask yX0_openMask, Cond.code yX0_openMask cX0_openMask 4 (some .int), Cond.methodLink RX0 40 yX0_isOpen, Cond.instanceMethod yX0_isOpen, Cond.selects RX0 yX0_isOpen yX0_isOpen]
def wsX4_point_r2 : List Cond := [Cond.code yX0_isOpen cX0_isOpen 10 (some .boolean), Cond.fieldLink RX0 11 "CornerLabels$Board" "cells" "[I", Cond.methodLink RX0 30 yX0_left, Cond.instanceMethod yX0_left, Cond.selects RX0 yX0_left yX0_left, Cond.code yX0_left cX0_left 4 (some .int), Cond.methodLink RX0 33 yX0_top, Cond.instanceMethod yX0_top, Cond.selects RX0 yX0_top yX0_top, Cond.code yX0_top cX0_top 4 (some .int), Cond.methodLink RX4 108 yX0_freeMask, Cond.instanceMethod yX0_freeMask, Cond.selects RX0 yX0_freeMask yX0_freeMask, Cond.code yX0_freeMask cX0_freeMask 4 (some .int), Cond.methodLink RX0 44 yX0_openMask, Cond.static yX4_hasBit, Cond.code yX4_hasBit cX4_hasBit 2 (some .boolean), Cond.methodLink RX0 71 yX0_clashesWithStanding, Cond.instanceMethod yX0_clashesWithStanding, Cond.selects RX0 yX0_clashesWithStanding yX0_clashesWithStanding, Cond.code yX0_clashesWithStanding cX0_clashesWithStanding 4 (some .boolean), Cond.methodLink RX0 26 yX0_stands, Cond.instanceMethod yX0_stands, Cond.selects RX0 yX0_stands yX0_stands]
def wsX4_point_r3 : List Cond := [Cond.code yX0_stands cX0_stands 2 (some .boolean), Cond.methodLink RX0 65 yX0_sharedSquares, Cond.instanceMethod yX0_sharedSquares, Cond.selects RX0 yX0_sharedSquares yX0_sharedSquares, Cond.code yX0_sharedSquares cX0_sharedSquares 7 (some .int), Cond.methodLink RX0 53 yX0_sharedLength, Cond.static yX0_sharedLength, Cond.code yX0_sharedLength cX0_sharedLength 6 (some .int), Cond.methodLink RX0 57 Lib.Math.max.name, Cond.static Lib.Math.max.name, Cond.initialized "java/lang/Math", Cond.code Lib.Math.max.name Lib.Math.max.code 2 (some .int), Cond.methodLink RX0 62 Lib.Math.min.name, Cond.static Lib.Math.min.name, Cond.code Lib.Math.min.name Lib.Math.min.code 2 (some .int), Cond.methodLink RX4 254 yX0_leaderCrossings, Cond.instanceMethod yX0_leaderCrossings, Cond.selects RX0 yX0_leaderCrossings yX0_leaderCrossings, Cond.code yX0_leaderCrossings cX0_leaderCrossings 4 (some .int), Cond.methodLink RX0 74 yX0_isPointOnLeader, Cond.instanceMethod yX0_isPointOnLeader, Cond.selects RX0 yX0_isPointOnLeader yX0_isPointOnLeader, Cond.code yX0_isPointOnLeader cX0_isPointOnLeader 3 (some .boolean), Cond.methodLink RX0 77 yX0_isLabelOnLeader]
def wsX4_point_r4 : List Cond := [Cond.instanceMethod yX0_isLabelOnLeader, Cond.selects RX0 yX0_isLabelOnLeader yX0_isLabelOnLeader, Cond.code yX0_isLabelOnLeader cX0_isLabelOnLeader 7 (some .boolean)]
def wsX4_point : List Cond := .code yX4_point cX4_point 3 (some .int) :: ((wsX4_point_r1 ++ (wsX4_point_r2 ++ (wsX4_point_r3 ++ wsX4_point_r4))) ++ wsX40 ++ wsX00 ++ (vx_atS RX4 78 "java/lang/IndexOutOfBoundsException" ["java/lang/RuntimeException", "java/lang/Exception"]).filter goodWord ++ (vx_atS RX4 52 "java/lang/IllegalArgumentException" ["java/lang/RuntimeException", "java/lang/Exception"]).filter goodWord)
def wsX4_clash_r1 : List Cond := [Cond.classLink RX4 74 "java/lang/IndexOutOfBoundsException", Cond.initialized "java/lang/IndexOutOfBoundsException", Cond.classLink RX4 48 "java/lang/IllegalArgumentException", Cond.initialized "java/lang/IllegalArgumentException", Cond.fieldLink RX4 10 "CornerLabels" "board" "LCornerLabels$Board;", Cond.methodLink RX4 71 yX0_has, Cond.instanceMethod yX0_has, Cond.selects RX0 yX0_has yX0_has, Cond.initialized RX0, Cond.code yX0_has cX0_has 2 (some .boolean), Cond.fieldLink RX0 15 "CornerLabels$Board" "points" "I", Cond.methodLink RX4 103 yX4_isCorner, Cond.static yX4_isCorner, Cond.initialized RX4, Cond.code yX4_isCorner cX4_isCorner 1 (some .boolean), Cond.methodLink RX4 179 yX0_sharedSquares, Cond.instanceMethod yX0_sharedSquares, Cond.selects RX0 yX0_sharedSquares yX0_sharedSquares, Cond.code yX0_sharedSquares cX0_sharedSquares 7 (some .int), Cond.fieldLink RX0 11 "CornerLabels$Board" "cells" "[I", Cond.methodLink RX0 30 yX0_left, Cond.instanceMethod yX0_left, Cond.selects RX0 yX0_left yX0_left, Cond.code yX0_left cX0_left 4 (some .int)]
def wsX4_clash_r2 : List Cond := [Cond.methodLink RX0 53 yX0_sharedLength, Cond.static yX0_sharedLength, Cond.code yX0_sharedLength cX0_sharedLength 6 (some .int), Cond.methodLink RX0 57 Lib.Math.max.name, Cond.static Lib.Math.max.name, Cond.initialized "java/lang/Math", Cond.code Lib.Math.max.name Lib.Math.max.code 2 (some .int), Cond.methodLink RX0 62 Lib.Math.min.name, Cond.static Lib.Math.min.name, Cond.code Lib.Math.min.name Lib.Math.min.code 2 (some .int), Cond.methodLink RX0 33 yX0_top, Cond.instanceMethod yX0_top, Cond.selects RX0 yX0_top yX0_top, Cond.code yX0_top cX0_top 4 (some .int)]
def wsX4_clash : List Cond := .code yX4_clash cX4_clash 5 (some .int) :: ((wsX4_clash_r1 ++ wsX4_clash_r2) ++ wsX40 ++ wsX00 ++ (vx_atS RX4 78 "java/lang/IndexOutOfBoundsException" ["java/lang/RuntimeException", "java/lang/Exception"]).filter goodWord ++ (vx_atS RX4 52 "java/lang/IllegalArgumentException" ["java/lang/RuntimeException", "java/lang/Exception"]).filter goodWord)
def wsX4_at_r1 : List Cond := [Cond.classLink RX4 48 "java/lang/IllegalArgumentException", Cond.initialized "java/lang/IllegalArgumentException", Cond.fieldLink RX4 10 "CornerLabels" "board" "LCornerLabels$Board;", Cond.methodLink RX4 37 yX4_isSquare, Cond.static yX4_isSquare, Cond.initialized RX4, Cond.code yX4_isSquare cX4_isSquare 2 (some .boolean), Cond.methodLink RX4 185 yX0_pointOn, Cond.instanceMethod yX0_pointOn, Cond.selects RX0 yX0_pointOn yX0_pointOn, Cond.initialized RX0, Cond.code yX0_pointOn cX0_pointOn 4 (some .int), Cond.fieldLink RX0 15 "CornerLabels$Board" "points" "I", Cond.fieldLink RX0 11 "CornerLabels$Board" "cells" "[I", Cond.methodLink RX4 188 yX0_labelOn, Cond.instanceMethod yX0_labelOn, Cond.selects RX0 yX0_labelOn yX0_labelOn, Cond.code yX0_labelOn cX0_labelOn 4 (some .int), Cond.methodLink RX0 26 yX0_stands, Cond.instanceMethod yX0_stands, Cond.selects RX0 yX0_stands yX0_stands, Cond.code yX0_stands cX0_stands 2 (some .boolean), Cond.methodLink RX0 36 yX0_covers, Cond.instanceMethod yX0_covers]
def wsX4_at_r2 : List Cond := [Cond.selects RX0 yX0_covers yX0_covers, Cond.code yX0_covers cX0_covers 7 (some .boolean), Cond.methodLink RX0 30 yX0_left, Cond.instanceMethod yX0_left, Cond.selects RX0 yX0_left yX0_left, Cond.code yX0_left cX0_left 4 (some .int), Cond.methodLink RX0 33 yX0_top, Cond.instanceMethod yX0_top, Cond.selects RX0 yX0_top yX0_top, Cond.code yX0_top cX0_top 4 (some .int)]
def wsX4_at : List Cond := .code yX4_at cX4_at 5 (some .int) :: ((wsX4_at_r1 ++ wsX4_at_r2) ++ wsX40 ++ wsX00 ++ (vx_atS RX4 52 "java/lang/IllegalArgumentException" ["java/lang/RuntimeException", "java/lang/Exception"]).filter goodWord)
def wsX4_number_r1 : List Cond := [Cond.fieldLink RX4 10 "CornerLabels" "board" "LCornerLabels$Board;", Cond.fieldLink RX4 242 "CornerLabels$Board" "points" "I", Cond.fieldLink RX4 33 "CornerLabels" "plans" "LCornerLabels$Plans;", Cond.fieldLink RX4 19 "CornerLabels" "history" "LCornerLabels$History;", Cond.fieldLink RX4 164 "CornerLabels$History" "states" "I", Cond.methodLink RX4 137 yX0_standingLabels, Cond.instanceMethod yX0_standingLabels, Cond.selects RX0 yX0_standingLabels yX0_standingLabels, Cond.initialized RX0, Cond.code yX0_standingLabels cX0_standingLabels 3 (some .int), Cond.fieldLink RX0 15 "CornerLabels$Board" "points" "I", Cond.methodLink RX0 26 yX0_stands, Cond.instanceMethod yX0_stands, Cond.selects RX0 yX0_stands yX0_stands, Cond.code yX0_stands cX0_stands 2 (some .boolean), Cond.fieldLink RX0 11 "CornerLabels$Board" "cells" "[I", Cond.methodLink RX4 212 yX0_standingWeight, Cond.instanceMethod yX0_standingWeight, Cond.selects RX0 yX0_standingWeight yX0_standingWeight, Cond.code yX0_standingWeight cX0_standingWeight 3 (some .int), Cond.methodLink RX4 209 yX0_allWeight, Cond.instanceMethod yX0_allWeight, Cond.selects RX0 yX0_allWeight yX0_allWeight, Cond.code yX0_allWeight cX0_allWeight 3 (some .int)]
def wsX4_number_r2 : List Cond := [Cond.methodLink RX4 257 yX0_standingSquares, Cond.instanceMethod yX0_standingSquares, Cond.selects RX0 yX0_standingSquares yX0_standingSquares, Cond.code yX0_standingSquares cX0_standingSquares 3 (some .int), Cond.methodLink RX4 260 yX0_pointsWithoutOpenCorner, Cond.instanceMethod yX0_pointsWithoutOpenCorner, Cond.selects RX0 yX0_pointsWithoutOpenCorner yX0_pointsWithoutOpenCorner, Cond.code yX0_pointsWithoutOpenCorner cX0_pointsWithoutOpenCorner 3 (some .int), Cond.methodLink RX0 44 yX0_openMask, Cond.instanceMethod yX0_openMask, Cond.selects RX0 yX0_openMask yX0_openMask, Cond.code yX0_openMask cX0_openMask 4 (some .int), Cond.methodLink RX0 40 yX0_isOpen, Cond.instanceMethod yX0_isOpen, Cond.selects RX0 yX0_isOpen yX0_isOpen, Cond.code yX0_isOpen cX0_isOpen 10 (some .boolean), Cond.methodLink RX0 30 yX0_left, Cond.instanceMethod yX0_left, Cond.selects RX0 yX0_left yX0_left, Cond.code yX0_left cX0_left 4 (some .int), Cond.methodLink RX0 33 yX0_top, Cond.instanceMethod yX0_top, Cond.selects RX0 yX0_top yX0_top, Cond.code yX0_top cX0_top 4 (some .int)]
def wsX4_number_r3 : List Cond := [Cond.methodLink RX4 120 yX2_look, Cond.instanceMethod yX2_look, Cond.selects RX2 yX2_look yX2_look, Cond.initialized RX2, Cond.code yX2_look cX2_look 4 none, Cond.fieldLink RX2 65 "CornerLabels$Board" "points" "I", Cond.fieldLink RX2 9 "CornerLabels$Plans" "points" "I", Cond.fieldLink RX2 15 "CornerLabels$Plans" "open" "[I", Cond.fieldLink RX2 19 "CornerLabels$Plans" "weight" "[I", Cond.fieldLink RX2 72 "CornerLabels$Board" "cells" "[I", Cond.fieldLink RX2 22 "CornerLabels$Plans" "now" "[I", Cond.fieldLink RX2 25 "CornerLabels$Plans" "clashing" "[I", Cond.methodLink RX2 68 yX0_openMask, Cond.methodLink RX2 75 yX2_laterClashes, Cond.instanceMethod yX2_laterClashes, Cond.selects RX2 yX2_laterClashes yX2_laterClashes, Cond.code yX2_laterClashes cX2_laterClashes 7 (some .int), Cond.static yX4_hasBit, Cond.initialized RX4, Cond.code yX4_hasBit cX4_hasBit 2 (some .boolean), Cond.methodLink RX2 83 yX0_sharedSquares, Cond.instanceMethod yX0_sharedSquares, Cond.selects RX0 yX0_sharedSquares yX0_sharedSquares, Cond.code yX0_sharedSquares cX0_sharedSquares 7 (some .int)]
def wsX4_number_r4 : List Cond := [Cond.methodLink RX0 53 yX0_sharedLength, Cond.static yX0_sharedLength, Cond.code yX0_sharedLength cX0_sharedLength 6 (some .int), Cond.methodLink RX0 57 Lib.Math.max.name, Cond.static Lib.Math.max.name, Cond.initialized "java/lang/Math", Cond.code Lib.Math.max.name Lib.Math.max.code 2 (some .int), Cond.methodLink RX0 62 Lib.Math.min.name, Cond.static Lib.Math.min.name, Cond.code Lib.Math.min.name Lib.Math.min.code 2 (some .int), Cond.methodLink RX4 263 yX2_clashingPairs, Cond.instanceMethod yX2_clashingPairs, Cond.selects RX2 yX2_clashingPairs yX2_clashingPairs, Cond.code yX2_clashingPairs cX2_clashingPairs 5 (some .int), Cond.methodLink RX4 266 yX0_crossingsOfDropped, Cond.instanceMethod yX0_crossingsOfDropped, Cond.selects RX0 yX0_crossingsOfDropped yX0_crossingsOfDropped, Cond.code yX0_crossingsOfDropped cX0_crossingsOfDropped 3 (some .int), Cond.methodLink RX0 80 yX0_leaderCrossings, Cond.instanceMethod yX0_leaderCrossings, Cond.selects RX0 yX0_leaderCrossings yX0_leaderCrossings, Cond.code yX0_leaderCrossings cX0_leaderCrossings 4 (some .int), Cond.methodLink RX0 74 yX0_isPointOnLeader, Cond.instanceMethod yX0_isPointOnLeader]
def wsX4_number_r5 : List Cond := [Cond.selects RX0 yX0_isPointOnLeader yX0_isPointOnLeader, Cond.code yX0_isPointOnLeader cX0_isPointOnLeader 3 (some .boolean), Cond.methodLink RX0 77 yX0_isLabelOnLeader, Cond.instanceMethod yX0_isLabelOnLeader, Cond.selects RX0 yX0_isLabelOnLeader yX0_isLabelOnLeader, Cond.code yX0_isLabelOnLeader cX0_isLabelOnLeader 7 (some .boolean)]
def wsX4_number : List Cond := .code yX4_number cX4_number 2 (some .int) :: ((wsX4_number_r1 ++ (wsX4_number_r2 ++ (wsX4_number_r3 ++ (wsX4_number_r4 ++ wsX4_number_r5)))) ++ wsX40 ++ wsX00 ++ wsX10 ++ wsX20)
def wsX4_count_r1 : List Cond := [Cond.classLink RX4 48 "java/lang/IllegalArgumentException", Cond.initialized "java/lang/IllegalArgumentException", Cond.methodLink RX4 191 yX4_number, Cond.instanceMethod yX4_number, Cond.selects RX4 yX4_number yX4_number, Cond.initialized RX4, Cond.code yX4_number cX4_number 2 (some .int), Cond.fieldLink RX4 10 "CornerLabels" "board" "LCornerLabels$Board;", Cond.fieldLink RX4 242 "CornerLabels$Board" "points" "I", Cond.fieldLink RX4 33 "CornerLabels" "plans" "LCornerLabels$Plans;", Cond.fieldLink RX4 19 "CornerLabels" "history" "LCornerLabels$History;", Cond.fieldLink RX4 164 "CornerLabels$History" "states" "I", Cond.methodLink RX4 137 yX0_standingLabels, Cond.instanceMethod yX0_standingLabels, Cond.selects RX0 yX0_standingLabels yX0_standingLabels, Cond.initialized RX0, Cond.code yX0_standingLabels cX0_standingLabels 3 (some .int), Cond.fieldLink RX0 15 "CornerLabels$Board" "points" "I", Cond.methodLink RX0 26 yX0_stands, Cond.instanceMethod yX0_stands, Cond.selects RX0 yX0_stands yX0_stands, Cond.code yX0_stands cX0_stands 2 (some .boolean), Cond.fieldLink RX0 11 "CornerLabels$Board" "cells" "[I", Cond.methodLink RX4 212 yX0_standingWeight]
def wsX4_count_r2 : List Cond := [Cond.instanceMethod yX0_standingWeight, Cond.selects RX0 yX0_standingWeight yX0_standingWeight, Cond.code yX0_standingWeight cX0_standingWeight 3 (some .int), Cond.methodLink RX4 209 yX0_allWeight, Cond.instanceMethod yX0_allWeight, Cond.selects RX0 yX0_allWeight yX0_allWeight, Cond.code yX0_allWeight cX0_allWeight 3 (some .int), Cond.methodLink RX4 257 yX0_standingSquares, Cond.instanceMethod yX0_standingSquares, Cond.selects RX0 yX0_standingSquares yX0_standingSquares, Cond.code yX0_standingSquares cX0_standingSquares 3 (some .int), Cond.methodLink RX4 260 yX0_pointsWithoutOpenCorner, Cond.instanceMethod yX0_pointsWithoutOpenCorner, Cond.selects RX0 yX0_pointsWithoutOpenCorner yX0_pointsWithoutOpenCorner, Cond.code yX0_pointsWithoutOpenCorner cX0_pointsWithoutOpenCorner 3 (some .int), Cond.methodLink RX0 44 yX0_openMask, Cond.instanceMethod yX0_openMask, Cond.selects RX0 yX0_openMask yX0_openMask, Cond.code yX0_openMask cX0_openMask 4 (some .int), Cond.methodLink RX0 40 yX0_isOpen, Cond.instanceMethod yX0_isOpen, Cond.selects RX0 yX0_isOpen yX0_isOpen, Cond.code yX0_isOpen cX0_isOpen 10 (some .boolean), Cond.methodLink RX0 30 yX0_left]
def wsX4_count_r3 : List Cond := [Cond.instanceMethod yX0_left, Cond.selects RX0 yX0_left yX0_left, Cond.code yX0_left cX0_left 4 (some .int), Cond.methodLink RX0 33 yX0_top, Cond.instanceMethod yX0_top, Cond.selects RX0 yX0_top yX0_top, Cond.code yX0_top cX0_top 4 (some .int), Cond.methodLink RX4 120 yX2_look, Cond.instanceMethod yX2_look, Cond.selects RX2 yX2_look yX2_look, Cond.initialized RX2, Cond.code yX2_look cX2_look 4 none, Cond.fieldLink RX2 65 "CornerLabels$Board" "points" "I", Cond.fieldLink RX2 9 "CornerLabels$Plans" "points" "I", Cond.fieldLink RX2 15 "CornerLabels$Plans" "open" "[I", Cond.fieldLink RX2 19 "CornerLabels$Plans" "weight" "[I", Cond.fieldLink RX2 72 "CornerLabels$Board" "cells" "[I", Cond.fieldLink RX2 22 "CornerLabels$Plans" "now" "[I", Cond.fieldLink RX2 25 "CornerLabels$Plans" "clashing" "[I", Cond.methodLink RX2 68 yX0_openMask, Cond.methodLink RX2 75 yX2_laterClashes, Cond.instanceMethod yX2_laterClashes, Cond.selects RX2 yX2_laterClashes yX2_laterClashes, Cond.code yX2_laterClashes cX2_laterClashes 7 (some .int)]
def wsX4_count_r4 : List Cond := [Cond.static yX4_hasBit, Cond.code yX4_hasBit cX4_hasBit 2 (some .boolean), Cond.methodLink RX2 83 yX0_sharedSquares, Cond.instanceMethod yX0_sharedSquares, Cond.selects RX0 yX0_sharedSquares yX0_sharedSquares, Cond.code yX0_sharedSquares cX0_sharedSquares 7 (some .int), Cond.methodLink RX0 53 yX0_sharedLength, Cond.static yX0_sharedLength, Cond.code yX0_sharedLength cX0_sharedLength 6 (some .int), Cond.methodLink RX0 57 Lib.Math.max.name, Cond.static Lib.Math.max.name, Cond.initialized "java/lang/Math", Cond.code Lib.Math.max.name Lib.Math.max.code 2 (some .int), Cond.methodLink RX0 62 Lib.Math.min.name, Cond.static Lib.Math.min.name, Cond.code Lib.Math.min.name Lib.Math.min.code 2 (some .int), Cond.methodLink RX4 263 yX2_clashingPairs, Cond.instanceMethod yX2_clashingPairs, Cond.selects RX2 yX2_clashingPairs yX2_clashingPairs, Cond.code yX2_clashingPairs cX2_clashingPairs 5 (some .int), Cond.methodLink RX4 266 yX0_crossingsOfDropped, Cond.instanceMethod yX0_crossingsOfDropped, Cond.selects RX0 yX0_crossingsOfDropped yX0_crossingsOfDropped, Cond.code yX0_crossingsOfDropped cX0_crossingsOfDropped 3 (some .int)]
def wsX4_count_r5 : List Cond := [Cond.methodLink RX0 80 yX0_leaderCrossings, Cond.instanceMethod yX0_leaderCrossings, Cond.selects RX0 yX0_leaderCrossings yX0_leaderCrossings, Cond.code yX0_leaderCrossings cX0_leaderCrossings 4 (some .int), Cond.methodLink RX0 74 yX0_isPointOnLeader, Cond.instanceMethod yX0_isPointOnLeader, Cond.selects RX0 yX0_isPointOnLeader yX0_isPointOnLeader, Cond.code yX0_isPointOnLeader cX0_isPointOnLeader 3 (some .boolean), Cond.methodLink RX0 77 yX0_isLabelOnLeader, Cond.instanceMethod yX0_isLabelOnLeader, Cond.selects RX0 yX0_isLabelOnLeader yX0_isLabelOnLeader, Cond.code yX0_isLabelOnLeader cX0_isLabelOnLeader 7 (some .boolean)]
def wsX4_count : List Cond := .code yX4_count cX4_count 2 (some .int) :: ((wsX4_count_r1 ++ (wsX4_count_r2 ++ (wsX4_count_r3 ++ (wsX4_count_r4 ++ wsX4_count_r5)))) ++ wsX40 ++ wsX00 ++ wsX10 ++ wsX20 ++ (vx_atS RX4 52 "java/lang/IllegalArgumentException" ["java/lang/RuntimeException", "java/lang/Exception"]).filter goodWord)
def wsX4_best_r1 : List Cond := [Cond.classLink RX4 74 "java/lang/IndexOutOfBoundsException", Cond.initialized "java/lang/IndexOutOfBoundsException", Cond.fieldLink RX4 10 "CornerLabels" "board" "LCornerLabels$Board;", Cond.fieldLink RX4 33 "CornerLabels" "plans" "LCornerLabels$Plans;", Cond.fieldLink RX4 197 "CornerLabels$Plans" "bestCorners" "[I", Cond.methodLink RX4 71 yX0_has, Cond.instanceMethod yX0_has, Cond.selects RX0 yX0_has yX0_has, Cond.initialized RX0, Cond.code yX0_has cX0_has 2 (some .boolean), Cond.fieldLink RX0 15 "CornerLabels$Board" "points" "I", Cond.methodLink RX4 120 yX2_look, Cond.instanceMethod yX2_look, Cond.selects RX2 yX2_look yX2_look, Cond.initialized RX2, Cond.code yX2_look cX2_look 4 none, Cond.fieldLink RX2 65 "CornerLabels$Board" "points" "I", Cond.fieldLink RX2 9 "CornerLabels$Plans" "points" "I", Cond.fieldLink RX2 15 "CornerLabels$Plans" "open" "[I", Cond.fieldLink RX2 19 "CornerLabels$Plans" "weight" "[I", Cond.fieldLink RX2 72 "CornerLabels$Board" "cells" "[I", Cond.fieldLink RX2 22 "CornerLabels$Plans" "now" "[I", Cond.fieldLink RX2 25 "CornerLabels$Plans" "clashing" "[I", Cond.methodLink RX2 68 yX0_openMask]
def wsX4_best_r2 : List Cond := [Cond.instanceMethod yX0_openMask, Cond.selects RX0 yX0_openMask yX0_openMask, Cond.code yX0_openMask cX0_openMask 4 (some .int), Cond.methodLink RX0 40 yX0_isOpen, Cond.instanceMethod yX0_isOpen, Cond.selects RX0 yX0_isOpen yX0_isOpen, Cond.code yX0_isOpen cX0_isOpen 10 (some .boolean), Cond.fieldLink RX0 11 "CornerLabels$Board" "cells" "[I", Cond.methodLink RX0 30 yX0_left, Cond.instanceMethod yX0_left, Cond.selects RX0 yX0_left yX0_left, Cond.code yX0_left cX0_left 4 (some .int), Cond.methodLink RX0 33 yX0_top, Cond.instanceMethod yX0_top, Cond.selects RX0 yX0_top yX0_top, Cond.code yX0_top cX0_top 4 (some .int), Cond.methodLink RX2 75 yX2_laterClashes, Cond.instanceMethod yX2_laterClashes, Cond.selects RX2 yX2_laterClashes yX2_laterClashes, Cond.code yX2_laterClashes cX2_laterClashes 7 (some .int), Cond.static yX4_hasBit, Cond.initialized RX4, Cond.code yX4_hasBit cX4_hasBit 2 (some .boolean), Cond.methodLink RX2 83 yX0_sharedSquares]
def wsX4_best_r3 : List Cond := [Cond.instanceMethod yX0_sharedSquares, Cond.selects RX0 yX0_sharedSquares yX0_sharedSquares, Cond.code yX0_sharedSquares cX0_sharedSquares 7 (some .int), Cond.methodLink RX0 53 yX0_sharedLength, Cond.static yX0_sharedLength, Cond.code yX0_sharedLength cX0_sharedLength 6 (some .int), Cond.methodLink RX0 57 Lib.Math.max.name, Cond.static Lib.Math.max.name, Cond.initialized "java/lang/Math", Cond.code Lib.Math.max.name Lib.Math.max.code 2 (some .int), Cond.methodLink RX0 62 Lib.Math.min.name, Cond.static Lib.Math.min.name, Cond.code Lib.Math.min.name Lib.Math.min.code 2 (some .int), Cond.methodLink RX4 194 yX2_findBest, Cond.instanceMethod yX2_findBest, Cond.selects RX2 yX2_findBest yX2_findBest, Cond.code yX2_findBest cX2_findBest 1 none, Cond.fieldLink RX2 59 "CornerLabels$Plans" "topWeight" "I", Cond.fieldLink RX2 50 "CornerLabels$Plans" "found" "[I", Cond.fieldLink RX2 56 "CornerLabels$Plans" "bestCorners" "[I", Cond.methodLink RX2 94 arraycopyName, Cond.native arraycopyName, Cond.static arraycopyName, Cond.initialized "java/lang/System"]
def wsX4_best_r4 : List Cond := [Cond.methodLink RX2 91 yX2_findHeaviest, Cond.instanceMethod yX2_findHeaviest, Cond.selects RX2 yX2_findHeaviest yX2_findHeaviest, Cond.code yX2_findHeaviest cX2_findHeaviest 4 (some .int), Cond.fieldLink RX2 28 "CornerLabels$Plans" "allowed" "[I", Cond.fieldLink RX2 34 "CornerLabels$Plans" "mayDrop" "[Z", Cond.fieldLink RX2 38 "CornerLabels$Plans" "gain" "[I", Cond.methodLink RX2 87 yX2_findTop, Cond.instanceMethod yX2_findTop, Cond.selects RX2 yX2_findTop yX2_findTop, Cond.code yX2_findTop cX2_findTop 2 (some .int), Cond.fieldLink RX2 44 "CornerLabels$Plans" "hope" "[I", Cond.fieldLink RX2 31 "CornerLabels$Plans" "allowedSpots" "I", Cond.fieldLink RX2 41 "CornerLabels$Plans" "mostGain" "[I", Cond.fieldLink RX2 53 "CornerLabels$Plans" "foundScore" "I", Cond.methodLink RX2 100 yX2_findMostGain, Cond.instanceMethod yX2_findMostGain, Cond.selects RX2 yX2_findMostGain yX2_findMostGain, Cond.code yX2_findMostGain cX2_findMostGain 4 (some .int), Cond.methodLink RX2 107 Lib.Math.max.name, Cond.methodLink RX2 103 yX2_seek, Cond.static yX2_seek, Cond.code yX2_seek cX2_seek 8 none, Cond.fieldLink RX2 47 "CornerLabels$Plans" "trial" "[I"]
def wsX4_best_r5 : List Cond := [Cond.methodLink RX2 113 yX2_keepTrial, Cond.instanceMethod yX2_keepTrial, Cond.selects RX2 yX2_keepTrial yX2_keepTrial, Cond.code yX2_keepTrial cX2_keepTrial 2 none]
def wsX4_best : List Cond := .code yX4_best cX4_best 2 (some .int) :: ((wsX4_best_r1 ++ (wsX4_best_r2 ++ (wsX4_best_r3 ++ (wsX4_best_r4 ++ wsX4_best_r5)))) ++ wsX40 ++ wsX20 ++ wsX00 ++ (vx_atS RX4 78 "java/lang/IndexOutOfBoundsException" ["java/lang/RuntimeException", "java/lang/Exception"]).filter goodWord)
def wsX4_bestWeight_r1 : List Cond := [Cond.classLink RX4 74 "java/lang/IndexOutOfBoundsException", Cond.initialized "java/lang/IndexOutOfBoundsException", Cond.fieldLink RX4 10 "CornerLabels" "board" "LCornerLabels$Board;", Cond.fieldLink RX4 33 "CornerLabels" "plans" "LCornerLabels$Plans;", Cond.methodLink RX4 71 yX0_has, Cond.instanceMethod yX0_has, Cond.selects RX0 yX0_has yX0_has, Cond.initialized RX0, Cond.code yX0_has cX0_has 2 (some .boolean), Cond.fieldLink RX0 15 "CornerLabels$Board" "points" "I", Cond.methodLink RX4 120 yX2_look, Cond.instanceMethod yX2_look, Cond.selects RX2 yX2_look yX2_look, Cond.initialized RX2, Cond.code yX2_look cX2_look 4 none, Cond.fieldLink RX2 65 "CornerLabels$Board" "points" "I", Cond.fieldLink RX2 9 "CornerLabels$Plans" "points" "I", Cond.fieldLink RX2 15 "CornerLabels$Plans" "open" "[I", Cond.fieldLink RX2 19 "CornerLabels$Plans" "weight" "[I", Cond.fieldLink RX2 72 "CornerLabels$Board" "cells" "[I", Cond.fieldLink RX2 22 "CornerLabels$Plans" "now" "[I", Cond.fieldLink RX2 25 "CornerLabels$Plans" "clashing" "[I", Cond.methodLink RX2 68 yX0_openMask, Cond.instanceMethod yX0_openMask]
def wsX4_bestWeight_r2 : List Cond := [Cond.selects RX0 yX0_openMask yX0_openMask, Cond.code yX0_openMask cX0_openMask 4 (some .int), Cond.methodLink RX0 40 yX0_isOpen, Cond.instanceMethod yX0_isOpen, Cond.selects RX0 yX0_isOpen yX0_isOpen, Cond.code yX0_isOpen cX0_isOpen 10 (some .boolean), Cond.fieldLink RX0 11 "CornerLabels$Board" "cells" "[I", Cond.methodLink RX0 30 yX0_left, Cond.instanceMethod yX0_left, Cond.selects RX0 yX0_left yX0_left, Cond.code yX0_left cX0_left 4 (some .int), Cond.methodLink RX0 33 yX0_top, Cond.instanceMethod yX0_top, Cond.selects RX0 yX0_top yX0_top, Cond.code yX0_top cX0_top 4 (some .int), Cond.methodLink RX2 75 yX2_laterClashes, Cond.instanceMethod yX2_laterClashes, Cond.selects RX2 yX2_laterClashes yX2_laterClashes, Cond.code yX2_laterClashes cX2_laterClashes 7 (some .int), Cond.static yX4_hasBit, Cond.initialized RX4, Cond.code yX4_hasBit cX4_hasBit 2 (some .boolean), Cond.methodLink RX2 83 yX0_sharedSquares, Cond.instanceMethod yX0_sharedSquares]
def wsX4_bestWeight_r3 : List Cond := [Cond.selects RX0 yX0_sharedSquares yX0_sharedSquares, Cond.code yX0_sharedSquares cX0_sharedSquares 7 (some .int), Cond.methodLink RX0 53 yX0_sharedLength, Cond.static yX0_sharedLength, Cond.code yX0_sharedLength cX0_sharedLength 6 (some .int), Cond.methodLink RX0 57 Lib.Math.max.name, Cond.static Lib.Math.max.name, Cond.initialized "java/lang/Math", Cond.code Lib.Math.max.name Lib.Math.max.code 2 (some .int), Cond.methodLink RX0 62 Lib.Math.min.name, Cond.static Lib.Math.min.name, Cond.code Lib.Math.min.name Lib.Math.min.code 2 (some .int), Cond.methodLink RX4 123 yX2_findHeaviest, Cond.instanceMethod yX2_findHeaviest, Cond.selects RX2 yX2_findHeaviest yX2_findHeaviest, Cond.code yX2_findHeaviest cX2_findHeaviest 4 (some .int), Cond.fieldLink RX2 28 "CornerLabels$Plans" "allowed" "[I", Cond.fieldLink RX2 34 "CornerLabels$Plans" "mayDrop" "[Z", Cond.fieldLink RX2 38 "CornerLabels$Plans" "gain" "[I", Cond.methodLink RX2 87 yX2_findTop, Cond.instanceMethod yX2_findTop, Cond.selects RX2 yX2_findTop yX2_findTop, Cond.code yX2_findTop cX2_findTop 2 (some .int), Cond.fieldLink RX2 44 "CornerLabels$Plans" "hope" "[I"]
def wsX4_bestWeight_r4 : List Cond := [Cond.fieldLink RX2 31 "CornerLabels$Plans" "allowedSpots" "I", Cond.fieldLink RX2 41 "CornerLabels$Plans" "mostGain" "[I", Cond.fieldLink RX2 53 "CornerLabels$Plans" "foundScore" "I", Cond.methodLink RX2 100 yX2_findMostGain, Cond.instanceMethod yX2_findMostGain, Cond.selects RX2 yX2_findMostGain yX2_findMostGain, Cond.code yX2_findMostGain cX2_findMostGain 4 (some .int), Cond.methodLink RX2 107 Lib.Math.max.name, Cond.methodLink RX2 103 yX2_seek, Cond.static yX2_seek, Cond.code yX2_seek cX2_seek 8 none, Cond.fieldLink RX2 47 "CornerLabels$Plans" "trial" "[I", Cond.methodLink RX2 113 yX2_keepTrial, Cond.instanceMethod yX2_keepTrial, Cond.selects RX2 yX2_keepTrial yX2_keepTrial, Cond.code yX2_keepTrial cX2_keepTrial 2 none, Cond.fieldLink RX2 50 "CornerLabels$Plans" "found" "[I", Cond.methodLink RX2 94 arraycopyName, Cond.native arraycopyName, Cond.static arraycopyName, Cond.initialized "java/lang/System"]
def wsX4_bestWeight : List Cond := .code yX4_bestWeight cX4_bestWeight 2 (some .int) :: ((wsX4_bestWeight_r1 ++ (wsX4_bestWeight_r2 ++ (wsX4_bestWeight_r3 ++ wsX4_bestWeight_r4))) ++ wsX40 ++ wsX00 ++ wsX20 ++ (vx_atS RX4 78 "java/lang/IndexOutOfBoundsException" ["java/lang/RuntimeException", "java/lang/Exception"]).filter goodWord)
def wsX4_ifPushed_r1 : List Cond := [Cond.classLink RX4 74 "java/lang/IndexOutOfBoundsException", Cond.initialized "java/lang/IndexOutOfBoundsException", Cond.fieldLink RX4 10 "CornerLabels" "board" "LCornerLabels$Board;", Cond.fieldLink RX4 33 "CornerLabels" "plans" "LCornerLabels$Plans;", Cond.methodLink RX4 71 yX0_has, Cond.instanceMethod yX0_has, Cond.selects RX0 yX0_has yX0_has, Cond.initialized RX0, Cond.code yX0_has cX0_has 2 (some .boolean), Cond.fieldLink RX0 15 "CornerLabels$Board" "points" "I", Cond.methodLink RX4 120 yX2_look, Cond.instanceMethod yX2_look, Cond.selects RX2 yX2_look yX2_look, Cond.initialized RX2, Cond.code yX2_look cX2_look 4 none, Cond.fieldLink RX2 65 "CornerLabels$Board" "points" "I", Cond.fieldLink RX2 9 "CornerLabels$Plans" "points" "I", Cond.fieldLink RX2 15 "CornerLabels$Plans" "open" "[I", Cond.fieldLink RX2 19 "CornerLabels$Plans" "weight" "[I", Cond.fieldLink RX2 72 "CornerLabels$Board" "cells" "[I", Cond.fieldLink RX2 22 "CornerLabels$Plans" "now" "[I", Cond.fieldLink RX2 25 "CornerLabels$Plans" "clashing" "[I", Cond.methodLink RX2 68 yX0_openMask, Cond.instanceMethod yX0_openMask]
def wsX4_ifPushed_r2 : List Cond := [Cond.selects RX0 yX0_openMask yX0_openMask, Cond.code yX0_openMask cX0_openMask 4 (some .int), Cond.methodLink RX0 40 yX0_isOpen, Cond.instanceMethod yX0_isOpen, Cond.selects RX0 yX0_isOpen yX0_isOpen, Cond.code yX0_isOpen cX0_isOpen 10 (some .boolean), Cond.fieldLink RX0 11 "CornerLabels$Board" "cells" "[I", Cond.methodLink RX0 30 yX0_left, Cond.instanceMethod yX0_left, Cond.selects RX0 yX0_left yX0_left, Cond.code yX0_left cX0_left 4 (some .int), Cond.methodLink RX0 33 yX0_top, Cond.instanceMethod yX0_top, Cond.selects RX0 yX0_top yX0_top, Cond.code yX0_top cX0_top 4 (some .int), Cond.methodLink RX2 75 yX2_laterClashes, Cond.instanceMethod yX2_laterClashes, Cond.selects RX2 yX2_laterClashes yX2_laterClashes, Cond.code yX2_laterClashes cX2_laterClashes 7 (some .int), Cond.static yX4_hasBit, Cond.initialized RX4, Cond.code yX4_hasBit cX4_hasBit 2 (some .boolean), Cond.methodLink RX2 83 yX0_sharedSquares, Cond.instanceMethod yX0_sharedSquares]
def wsX4_ifPushed_r3 : List Cond := [Cond.selects RX0 yX0_sharedSquares yX0_sharedSquares, Cond.code yX0_sharedSquares cX0_sharedSquares 7 (some .int), Cond.methodLink RX0 53 yX0_sharedLength, Cond.static yX0_sharedLength, Cond.code yX0_sharedLength cX0_sharedLength 6 (some .int), Cond.methodLink RX0 57 Lib.Math.max.name, Cond.static Lib.Math.max.name, Cond.initialized "java/lang/Math", Cond.code Lib.Math.max.name Lib.Math.max.code 2 (some .int), Cond.methodLink RX0 62 Lib.Math.min.name, Cond.static Lib.Math.min.name, Cond.code Lib.Math.min.name Lib.Math.min.code 2 (some .int), Cond.methodLink RX4 129 yX2_findRoom, Cond.instanceMethod yX2_findRoom, Cond.selects RX2 yX2_findRoom yX2_findRoom, Cond.code yX2_findRoom cX2_findRoom 6 (some .int), Cond.fieldLink RX2 28 "CornerLabels$Plans" "allowed" "[I", Cond.fieldLink RX2 34 "CornerLabels$Plans" "mayDrop" "[Z", Cond.fieldLink RX2 38 "CornerLabels$Plans" "gain" "[I", Cond.methodLink RX2 87 yX2_findTop, Cond.instanceMethod yX2_findTop, Cond.selects RX2 yX2_findTop yX2_findTop, Cond.code yX2_findTop cX2_findTop 2 (some .int), Cond.fieldLink RX2 44 "CornerLabels$Plans" "hope" "[I"]
def wsX4_ifPushed_r4 : List Cond := [Cond.fieldLink RX2 31 "CornerLabels$Plans" "allowedSpots" "I", Cond.fieldLink RX2 41 "CornerLabels$Plans" "mostGain" "[I", Cond.fieldLink RX2 53 "CornerLabels$Plans" "foundScore" "I", Cond.methodLink RX2 100 yX2_findMostGain, Cond.instanceMethod yX2_findMostGain, Cond.selects RX2 yX2_findMostGain yX2_findMostGain, Cond.code yX2_findMostGain cX2_findMostGain 4 (some .int), Cond.methodLink RX2 107 Lib.Math.max.name, Cond.methodLink RX2 103 yX2_seek, Cond.static yX2_seek, Cond.code yX2_seek cX2_seek 8 none, Cond.fieldLink RX2 47 "CornerLabels$Plans" "trial" "[I", Cond.methodLink RX2 113 yX2_keepTrial, Cond.instanceMethod yX2_keepTrial, Cond.selects RX2 yX2_keepTrial yX2_keepTrial, Cond.code yX2_keepTrial cX2_keepTrial 2 none, Cond.fieldLink RX2 50 "CornerLabels$Plans" "found" "[I", Cond.methodLink RX2 94 arraycopyName, Cond.native arraycopyName, Cond.static arraycopyName, Cond.initialized "java/lang/System"]
def wsX4_ifPushed : List Cond := .code yX4_ifPushed cX4_ifPushed 2 (some .int) :: ((wsX4_ifPushed_r1 ++ (wsX4_ifPushed_r2 ++ (wsX4_ifPushed_r3 ++ wsX4_ifPushed_r4))) ++ wsX40 ++ wsX00 ++ wsX20 ++ (vx_atS RX4 78 "java/lang/IndexOutOfBoundsException" ["java/lang/RuntimeException", "java/lang/Exception"]).filter goodWord)
def wsX4_fullPlans_r1 : List Cond := [Cond.fieldLink RX4 33 "CornerLabels" "plans" "LCornerLabels$Plans;", Cond.fieldLink RX4 10 "CornerLabels" "board" "LCornerLabels$Board;", Cond.methodLink RX4 120 yX2_look, Cond.instanceMethod yX2_look, Cond.selects RX2 yX2_look yX2_look, Cond.initialized RX2, Cond.code yX2_look cX2_look 4 none, Cond.fieldLink RX2 65 "CornerLabels$Board" "points" "I", Cond.fieldLink RX2 9 "CornerLabels$Plans" "points" "I", Cond.fieldLink RX2 15 "CornerLabels$Plans" "open" "[I", Cond.fieldLink RX2 19 "CornerLabels$Plans" "weight" "[I", Cond.fieldLink RX2 72 "CornerLabels$Board" "cells" "[I", Cond.fieldLink RX2 22 "CornerLabels$Plans" "now" "[I", Cond.fieldLink RX2 25 "CornerLabels$Plans" "clashing" "[I", Cond.methodLink RX2 68 yX0_openMask, Cond.instanceMethod yX0_openMask, Cond.selects RX0 yX0_openMask yX0_openMask, Cond.initialized RX0, Cond.code yX0_openMask cX0_openMask 4 (some .int), Cond.methodLink RX0 40 yX0_isOpen, Cond.instanceMethod yX0_isOpen, Cond.selects RX0 yX0_isOpen yX0_isOpen, Cond.code yX0_isOpen cX0_isOpen 10 (some .boolean), Cond.fieldLink RX0 11 "CornerLabels$Board" "cells" "[I"]
def wsX4_fullPlans_r2 : List Cond := [Cond.fieldLink RX0 15 "CornerLabels$Board" "points" "I", Cond.methodLink RX0 30 yX0_left, Cond.instanceMethod yX0_left, Cond.selects RX0 yX0_left yX0_left, Cond.code yX0_left cX0_left 4 (some .int), Cond.methodLink RX0 33 yX0_top, Cond.instanceMethod yX0_top, Cond.selects RX0 yX0_top yX0_top, Cond.code yX0_top cX0_top 4 (some .int), Cond.methodLink RX2 75 yX2_laterClashes, Cond.instanceMethod yX2_laterClashes, Cond.selects RX2 yX2_laterClashes yX2_laterClashes, Cond.code yX2_laterClashes cX2_laterClashes 7 (some .int), Cond.static yX4_hasBit, Cond.initialized RX4, Cond.code yX4_hasBit cX4_hasBit 2 (some .boolean), Cond.methodLink RX2 83 yX0_sharedSquares, Cond.instanceMethod yX0_sharedSquares, Cond.selects RX0 yX0_sharedSquares yX0_sharedSquares, Cond.code yX0_sharedSquares cX0_sharedSquares 7 (some .int), Cond.methodLink RX0 53 yX0_sharedLength, Cond.static yX0_sharedLength, Cond.code yX0_sharedLength cX0_sharedLength 6 (some .int), Cond.methodLink RX0 57 Lib.Math.max.name]
def wsX4_fullPlans_r3 : List Cond := [Cond.static Lib.Math.max.name, Cond.initialized "java/lang/Math", Cond.code Lib.Math.max.name Lib.Math.max.code 2 (some .int), Cond.methodLink RX0 62 Lib.Math.min.name, Cond.static Lib.Math.min.name, Cond.code Lib.Math.min.name Lib.Math.min.code 2 (some .int), Cond.methodLink RX4 200 yX2_fullOnes, Cond.instanceMethod yX2_fullOnes, Cond.selects RX2 yX2_fullOnes yX2_fullOnes, Cond.code yX2_fullOnes cX2_fullOnes 1 (some .int), Cond.methodLink RX2 117 yX2_tally, Cond.static yX2_tally, Cond.code yX2_tally cX2_tally 8 (some .int)]
def wsX4_fullPlans : List Cond := .code yX4_fullPlans cX4_fullPlans 1 (some .int) :: ((wsX4_fullPlans_r1 ++ (wsX4_fullPlans_r2 ++ wsX4_fullPlans_r3)) ++ wsX40 ++ wsX00 ++ wsX20)
def wsX4_findDearest : List Cond := .code yX4_findDearest cX4_findDearest 5 (some .int) :: ([.fieldLink RX4 10 "CornerLabels" "board" "LCornerLabels$Board;", .fieldLink RX4 242 "CornerLabels$Board" "points" "I", .fieldLink RX4 89 "CornerLabels$Board" "cells" "[I", .fieldLink RX4 33 "CornerLabels" "plans" "LCornerLabels$Plans;", .fieldLink RX4 269 "CornerLabels$Plans" "weightsWithout" "[I"] ++ wsX40 ++ wsX00 ++ wsX20)
def wsX4_dearest_r1 : List Cond := [Cond.fieldLink RX4 33 "CornerLabels" "plans" "LCornerLabels$Plans;", Cond.fieldLink RX4 10 "CornerLabels" "board" "LCornerLabels$Board;", Cond.methodLink RX4 120 yX2_look, Cond.instanceMethod yX2_look, Cond.selects RX2 yX2_look yX2_look, Cond.initialized RX2, Cond.code yX2_look cX2_look 4 none, Cond.fieldLink RX2 65 "CornerLabels$Board" "points" "I", Cond.fieldLink RX2 9 "CornerLabels$Plans" "points" "I", Cond.fieldLink RX2 15 "CornerLabels$Plans" "open" "[I", Cond.fieldLink RX2 19 "CornerLabels$Plans" "weight" "[I", Cond.fieldLink RX2 72 "CornerLabels$Board" "cells" "[I", Cond.fieldLink RX2 22 "CornerLabels$Plans" "now" "[I", Cond.fieldLink RX2 25 "CornerLabels$Plans" "clashing" "[I", Cond.methodLink RX2 68 yX0_openMask, Cond.instanceMethod yX0_openMask, Cond.selects RX0 yX0_openMask yX0_openMask, Cond.initialized RX0, Cond.code yX0_openMask cX0_openMask 4 (some .int), Cond.methodLink RX0 40 yX0_isOpen, Cond.instanceMethod yX0_isOpen, Cond.selects RX0 yX0_isOpen yX0_isOpen, Cond.code yX0_isOpen cX0_isOpen 10 (some .boolean), Cond.fieldLink RX0 11 "CornerLabels$Board" "cells" "[I"]
def wsX4_dearest_r2 : List Cond := [Cond.fieldLink RX0 15 "CornerLabels$Board" "points" "I", Cond.methodLink RX0 30 yX0_left, Cond.instanceMethod yX0_left, Cond.selects RX0 yX0_left yX0_left, Cond.code yX0_left cX0_left 4 (some .int), Cond.methodLink RX0 33 yX0_top, Cond.instanceMethod yX0_top, Cond.selects RX0 yX0_top yX0_top, Cond.code yX0_top cX0_top 4 (some .int), Cond.methodLink RX2 75 yX2_laterClashes, Cond.instanceMethod yX2_laterClashes, Cond.selects RX2 yX2_laterClashes yX2_laterClashes, Cond.code yX2_laterClashes cX2_laterClashes 7 (some .int), Cond.static yX4_hasBit, Cond.initialized RX4, Cond.code yX4_hasBit cX4_hasBit 2 (some .boolean), Cond.methodLink RX2 83 yX0_sharedSquares, Cond.instanceMethod yX0_sharedSquares, Cond.selects RX0 yX0_sharedSquares yX0_sharedSquares, Cond.code yX0_sharedSquares cX0_sharedSquares 7 (some .int), Cond.methodLink RX0 53 yX0_sharedLength, Cond.static yX0_sharedLength, Cond.code yX0_sharedLength cX0_sharedLength 6 (some .int), Cond.methodLink RX0 57 Lib.Math.max.name]
def wsX4_dearest_r3 : List Cond := [Cond.static Lib.Math.max.name, Cond.initialized "java/lang/Math", Cond.code Lib.Math.max.name Lib.Math.max.code 2 (some .int), Cond.methodLink RX0 62 Lib.Math.min.name, Cond.static Lib.Math.min.name, Cond.code Lib.Math.min.name Lib.Math.min.code 2 (some .int), Cond.methodLink RX4 203 yX2_findWithoutEach, Cond.instanceMethod yX2_findWithoutEach, Cond.selects RX2 yX2_findWithoutEach yX2_findWithoutEach, Cond.code yX2_findWithoutEach cX2_findWithoutEach 2 none, Cond.fieldLink RX2 62 "CornerLabels$Plans" "weightsWithout" "[I", Cond.methodLink RX2 91 yX2_findHeaviest, Cond.instanceMethod yX2_findHeaviest, Cond.selects RX2 yX2_findHeaviest yX2_findHeaviest, Cond.code yX2_findHeaviest cX2_findHeaviest 4 (some .int), Cond.fieldLink RX2 28 "CornerLabels$Plans" "allowed" "[I", Cond.fieldLink RX2 34 "CornerLabels$Plans" "mayDrop" "[Z", Cond.fieldLink RX2 38 "CornerLabels$Plans" "gain" "[I", Cond.methodLink RX2 87 yX2_findTop, Cond.instanceMethod yX2_findTop, Cond.selects RX2 yX2_findTop yX2_findTop, Cond.code yX2_findTop cX2_findTop 2 (some .int), Cond.fieldLink RX2 44 "CornerLabels$Plans" "hope" "[I", Cond.fieldLink RX2 31 "CornerLabels$Plans" "allowedSpots" "I"]
def wsX4_dearest_r4 : List Cond := [Cond.fieldLink RX2 41 "CornerLabels$Plans" "mostGain" "[I", Cond.fieldLink RX2 53 "CornerLabels$Plans" "foundScore" "I", Cond.methodLink RX2 100 yX2_findMostGain, Cond.instanceMethod yX2_findMostGain, Cond.selects RX2 yX2_findMostGain yX2_findMostGain, Cond.code yX2_findMostGain cX2_findMostGain 4 (some .int), Cond.methodLink RX2 107 Lib.Math.max.name, Cond.methodLink RX2 103 yX2_seek, Cond.static yX2_seek, Cond.code yX2_seek cX2_seek 8 none, Cond.fieldLink RX2 47 "CornerLabels$Plans" "trial" "[I", Cond.methodLink RX2 113 yX2_keepTrial, Cond.instanceMethod yX2_keepTrial, Cond.selects RX2 yX2_keepTrial yX2_keepTrial, Cond.code yX2_keepTrial cX2_keepTrial 2 none, Cond.fieldLink RX2 50 "CornerLabels$Plans" "found" "[I", Cond.methodLink RX2 94 arraycopyName, Cond.native arraycopyName, Cond.static arraycopyName, Cond.initialized "java/lang/System", Cond.methodLink RX4 206 yX4_findDearest, Cond.instanceMethod yX4_findDearest, Cond.selects RX4 yX4_findDearest yX4_findDearest, Cond.code yX4_findDearest cX4_findDearest 5 (some .int)]
def wsX4_dearest_r5 : List Cond := [Cond.fieldLink RX4 242 "CornerLabels$Board" "points" "I", Cond.fieldLink RX4 89 "CornerLabels$Board" "cells" "[I", Cond.fieldLink RX4 269 "CornerLabels$Plans" "weightsWithout" "[I"]
def wsX4_dearest : List Cond := .code yX4_dearest cX4_dearest 1 (some .int) :: ((wsX4_dearest_r1 ++ (wsX4_dearest_r2 ++ (wsX4_dearest_r3 ++ (wsX4_dearest_r4 ++ wsX4_dearest_r5)))) ++ wsX40 ++ wsX00 ++ wsX20)
def wsX4_standingShare : List Cond := .code yX4_standingShare cX4_standingShare 2 (some .double) :: ([.fieldLink RX4 10 "CornerLabels" "board" "LCornerLabels$Board;", .methodLink RX4 209 yX0_allWeight, .instanceMethod yX0_allWeight, .selects RX0 yX0_allWeight yX0_allWeight, .initialized RX0, .code yX0_allWeight cX0_allWeight 3 (some .int), .fieldLink RX0 15 "CornerLabels$Board" "points" "I", .fieldLink RX0 11 "CornerLabels$Board" "cells" "[I", .methodLink RX4 212 yX0_standingWeight, .instanceMethod yX0_standingWeight, .selects RX0 yX0_standingWeight yX0_standingWeight, .code yX0_standingWeight cX0_standingWeight 3 (some .int), .methodLink RX0 26 yX0_stands, .instanceMethod yX0_stands, .selects RX0 yX0_stands yX0_stands, .code yX0_stands cX0_stands 2 (some .boolean)] ++ wsX40 ++ wsX00)
def wsX4_mix : List Cond := .code yX4_mix cX4_mix 4 (some .long) :: ([.constantLong RX4 272 (31)])
def wsX4_mixPoints_r1 : List Cond := [Cond.fieldLink RX4 10 "CornerLabels" "board" "LCornerLabels$Board;", Cond.fieldLink RX4 242 "CornerLabels$Board" "points" "I", Cond.fieldLink RX4 33 "CornerLabels" "plans" "LCornerLabels$Plans;", Cond.fieldLink RX4 197 "CornerLabels$Plans" "bestCorners" "[I", Cond.fieldLink RX4 269 "CornerLabels$Plans" "weightsWithout" "[I", Cond.methodLink RX4 174 yX4_property, Cond.instanceMethod yX4_property, Cond.selects RX4 yX4_property yX4_property, Cond.initialized RX4, Cond.code yX4_property cX4_property 3 (some .int), Cond.fieldLink RX4 89 "CornerLabels$Board" "cells" "[I", Cond.methodLink RX4 95 yX0_openMask, Cond.instanceMethod yX0_openMask, Cond.selects RX0 yX0_openMask yX0_openMask, Cond.initialized RX0, Cond.code yX0_openMask cX0_openMask 4 (some .int), Cond.methodLink RX0 40 yX0_isOpen, Cond.instanceMethod yX0_isOpen, Cond.selects RX0 yX0_isOpen yX0_isOpen, Cond.code yX0_isOpen cX0_isOpen 10 (some .boolean), Cond.fieldLink RX0 11 "CornerLabels$Board" "cells" "[I", Cond.fieldLink RX0 15 "CornerLabels$Board" "points" "I", Cond.methodLink RX0 30 yX0_left, Cond.instanceMethod yX0_left]
def wsX4_mixPoints_r2 : List Cond := [Cond.selects RX0 yX0_left yX0_left, Cond.code yX0_left cX0_left 4 (some .int), Cond.methodLink RX0 33 yX0_top, Cond.instanceMethod yX0_top, Cond.selects RX0 yX0_top yX0_top, Cond.code yX0_top cX0_top 4 (some .int), Cond.methodLink RX4 108 yX0_freeMask, Cond.instanceMethod yX0_freeMask, Cond.selects RX0 yX0_freeMask yX0_freeMask, Cond.code yX0_freeMask cX0_freeMask 4 (some .int), Cond.methodLink RX0 44 yX0_openMask, Cond.static yX4_hasBit, Cond.code yX4_hasBit cX4_hasBit 2 (some .boolean), Cond.methodLink RX0 71 yX0_clashesWithStanding, Cond.instanceMethod yX0_clashesWithStanding, Cond.selects RX0 yX0_clashesWithStanding yX0_clashesWithStanding, Cond.code yX0_clashesWithStanding cX0_clashesWithStanding 4 (some .boolean), Cond.methodLink RX0 26 yX0_stands, Cond.instanceMethod yX0_stands, Cond.selects RX0 yX0_stands yX0_stands, Cond.code yX0_stands cX0_stands 2 (some .boolean), Cond.methodLink RX0 65 yX0_sharedSquares, Cond.instanceMethod yX0_sharedSquares, Cond.selects RX0 yX0_sharedSquares yX0_sharedSquares]
def wsX4_mixPoints_r3 : List Cond := [Cond.code yX0_sharedSquares cX0_sharedSquares 7 (some .int), Cond.methodLink RX0 53 yX0_sharedLength, Cond.static yX0_sharedLength, Cond.code yX0_sharedLength cX0_sharedLength 6 (some .int), Cond.methodLink RX0 57 Lib.Math.max.name, Cond.static Lib.Math.max.name, Cond.initialized "java/lang/Math", Cond.code Lib.Math.max.name Lib.Math.max.code 2 (some .int), Cond.methodLink RX0 62 Lib.Math.min.name, Cond.static Lib.Math.min.name, Cond.code Lib.Math.min.name Lib.Math.min.code 2 (some .int), Cond.methodLink RX4 254 yX0_leaderCrossings, Cond.instanceMethod yX0_leaderCrossings, Cond.selects RX0 yX0_leaderCrossings yX0_leaderCrossings, Cond.code yX0_leaderCrossings cX0_leaderCrossings 4 (some .int), Cond.methodLink RX0 74 yX0_isPointOnLeader, Cond.instanceMethod yX0_isPointOnLeader, Cond.selects RX0 yX0_isPointOnLeader yX0_isPointOnLeader, Cond.code yX0_isPointOnLeader cX0_isPointOnLeader 3 (some .boolean), Cond.methodLink RX0 77 yX0_isLabelOnLeader, Cond.instanceMethod yX0_isLabelOnLeader, Cond.selects RX0 yX0_isLabelOnLeader yX0_isLabelOnLeader, Cond.code yX0_isLabelOnLeader cX0_isLabelOnLeader 7 (some .boolean), Cond.methodLink RX4 217 yX4_mix]
def wsX4_mixPoints_r4 : List Cond := [Cond.static yX4_mix, Cond.code yX4_mix cX4_mix 4 (some .long), Cond.constantLong RX4 272 (31), Cond.methodLink RX4 129 yX2_findRoom, Cond.instanceMethod yX2_findRoom, Cond.selects RX2 yX2_findRoom yX2_findRoom, Cond.initialized RX2, Cond.code yX2_findRoom cX2_findRoom 6 (some .int), Cond.fieldLink RX2 22 "CornerLabels$Plans" "now" "[I", Cond.fieldLink RX2 9 "CornerLabels$Plans" "points" "I", Cond.fieldLink RX2 28 "CornerLabels$Plans" "allowed" "[I", Cond.fieldLink RX2 15 "CornerLabels$Plans" "open" "[I", Cond.fieldLink RX2 34 "CornerLabels$Plans" "mayDrop" "[Z", Cond.fieldLink RX2 38 "CornerLabels$Plans" "gain" "[I", Cond.methodLink RX2 87 yX2_findTop, Cond.instanceMethod yX2_findTop, Cond.selects RX2 yX2_findTop yX2_findTop, Cond.code yX2_findTop cX2_findTop 2 (some .int), Cond.fieldLink RX2 44 "CornerLabels$Plans" "hope" "[I", Cond.fieldLink RX2 31 "CornerLabels$Plans" "allowedSpots" "I", Cond.fieldLink RX2 41 "CornerLabels$Plans" "mostGain" "[I", Cond.fieldLink RX2 53 "CornerLabels$Plans" "foundScore" "I", Cond.methodLink RX2 100 yX2_findMostGain, Cond.instanceMethod yX2_findMostGain]
def wsX4_mixPoints_r5 : List Cond := [Cond.selects RX2 yX2_findMostGain yX2_findMostGain, Cond.code yX2_findMostGain cX2_findMostGain 4 (some .int), Cond.methodLink RX2 107 Lib.Math.max.name, Cond.methodLink RX2 103 yX2_seek, Cond.static yX2_seek, Cond.code yX2_seek cX2_seek 8 none, Cond.fieldLink RX2 25 "CornerLabels$Plans" "clashing" "[I", Cond.fieldLink RX2 47 "CornerLabels$Plans" "trial" "[I", Cond.methodLink RX2 113 yX2_keepTrial, Cond.instanceMethod yX2_keepTrial, Cond.selects RX2 yX2_keepTrial yX2_keepTrial, Cond.code yX2_keepTrial cX2_keepTrial 2 none, Cond.fieldLink RX2 50 "CornerLabels$Plans" "found" "[I", Cond.methodLink RX2 94 arraycopyName, Cond.native arraycopyName, Cond.static arraycopyName, Cond.initialized "java/lang/System"]
def wsX4_mixPoints : List Cond := .code yX4_mixPoints cX4_mixPoints 7 (some .long) :: ((wsX4_mixPoints_r1 ++ (wsX4_mixPoints_r2 ++ (wsX4_mixPoints_r3 ++ (wsX4_mixPoints_r4 ++ wsX4_mixPoints_r5)))) ++ wsX40 ++ wsX00 ++ wsX20)
def wsX4_mixPairs_r1 : List Cond := [Cond.fieldLink RX4 10 "CornerLabels" "board" "LCornerLabels$Board;", Cond.fieldLink RX4 242 "CornerLabels$Board" "points" "I", Cond.methodLink RX4 179 yX0_sharedSquares, Cond.instanceMethod yX0_sharedSquares, Cond.selects RX0 yX0_sharedSquares yX0_sharedSquares, Cond.initialized RX0, Cond.code yX0_sharedSquares cX0_sharedSquares 7 (some .int), Cond.fieldLink RX0 11 "CornerLabels$Board" "cells" "[I", Cond.methodLink RX0 30 yX0_left, Cond.instanceMethod yX0_left, Cond.selects RX0 yX0_left yX0_left, Cond.code yX0_left cX0_left 4 (some .int), Cond.methodLink RX0 53 yX0_sharedLength, Cond.static yX0_sharedLength, Cond.code yX0_sharedLength cX0_sharedLength 6 (some .int), Cond.methodLink RX0 57 Lib.Math.max.name, Cond.static Lib.Math.max.name, Cond.initialized "java/lang/Math", Cond.code Lib.Math.max.name Lib.Math.max.code 2 (some .int), Cond.methodLink RX0 62 Lib.Math.min.name, Cond.static Lib.Math.min.name, Cond.code Lib.Math.min.name Lib.Math.min.code 2 (some .int), Cond.methodLink RX0 33 yX0_top, Cond.instanceMethod yX0_top]
def wsX4_mixPairs_r2 : List Cond := [Cond.selects RX0 yX0_top yX0_top, Cond.code yX0_top cX0_top 4 (some .int), Cond.methodLink RX4 217 yX4_mix, Cond.static yX4_mix, Cond.initialized RX4, Cond.code yX4_mix cX4_mix 4 (some .long), Cond.constantLong RX4 272 (31)]
def wsX4_mixPairs : List Cond := .code yX4_mixPairs cX4_mixPairs 7 (some .long) :: ((wsX4_mixPairs_r1 ++ wsX4_mixPairs_r2) ++ wsX40 ++ wsX00)
def wsX4_bitsOf : List Cond := .code yX4_bitsOf cX4_bitsOf 7 (some .long) :: ([.constantLong RX4 277 (1023), .constantDouble RX4 279 (4611686018427387904), .constantDouble RX4 281 (4841369599423283200)])
def wsX4_mixBuffer : List Cond := .code yX4_mixBuffer cX4_mixBuffer 6 (some .long) :: ([.fieldLink RX4 26 "CornerLabels" "typed" "LCornerLabels$Typed;", .fieldLink RX4 143 "CornerLabels$Typed" "length" "I", .methodLink RX4 217 yX4_mix, .static yX4_mix, .initialized RX4, .code yX4_mix cX4_mix 4 (some .long), .constantLong RX4 272 (31), .methodLink RX4 274 yX3_code, .instanceMethod yX3_code, .selects RX3 yX3_code yX3_code, .initialized RX3, .code yX3_code cX3_code 2 (some .int), .fieldLink RX3 9 "CornerLabels$Typed" "codes" "[I"] ++ wsX40 ++ wsX30)
def wsX4_digest_r1 : List Cond := [Cond.constantLong RX4 215 (2833), Cond.fieldLink RX4 33 "CornerLabels" "plans" "LCornerLabels$Plans;", Cond.fieldLink RX4 10 "CornerLabels" "board" "LCornerLabels$Board;", Cond.fieldLink RX4 228 "CornerLabels$Plans" "topWeight" "I", Cond.methodLink RX4 191 yX4_number, Cond.instanceMethod yX4_number, Cond.selects RX4 yX4_number yX4_number, Cond.initialized RX4, Cond.code yX4_number cX4_number 2 (some .int), Cond.fieldLink RX4 242 "CornerLabels$Board" "points" "I", Cond.fieldLink RX4 19 "CornerLabels" "history" "LCornerLabels$History;", Cond.fieldLink RX4 164 "CornerLabels$History" "states" "I", Cond.methodLink RX4 137 yX0_standingLabels, Cond.instanceMethod yX0_standingLabels, Cond.selects RX0 yX0_standingLabels yX0_standingLabels, Cond.initialized RX0, Cond.code yX0_standingLabels cX0_standingLabels 3 (some .int), Cond.fieldLink RX0 15 "CornerLabels$Board" "points" "I", Cond.methodLink RX0 26 yX0_stands, Cond.instanceMethod yX0_stands, Cond.selects RX0 yX0_stands yX0_stands, Cond.code yX0_stands cX0_stands 2 (some .boolean), Cond.fieldLink RX0 11 "CornerLabels$Board" "cells" "[I", Cond.methodLink RX4 212 yX0_standingWeight]
def wsX4_digest_r2 : List Cond := [Cond.instanceMethod yX0_standingWeight, Cond.selects RX0 yX0_standingWeight yX0_standingWeight, Cond.code yX0_standingWeight cX0_standingWeight 3 (some .int), Cond.methodLink RX4 209 yX0_allWeight, Cond.instanceMethod yX0_allWeight, Cond.selects RX0 yX0_allWeight yX0_allWeight, Cond.code yX0_allWeight cX0_allWeight 3 (some .int), Cond.methodLink RX4 257 yX0_standingSquares, Cond.instanceMethod yX0_standingSquares, Cond.selects RX0 yX0_standingSquares yX0_standingSquares, Cond.code yX0_standingSquares cX0_standingSquares 3 (some .int), Cond.methodLink RX4 260 yX0_pointsWithoutOpenCorner, Cond.instanceMethod yX0_pointsWithoutOpenCorner, Cond.selects RX0 yX0_pointsWithoutOpenCorner yX0_pointsWithoutOpenCorner, Cond.code yX0_pointsWithoutOpenCorner cX0_pointsWithoutOpenCorner 3 (some .int), Cond.methodLink RX0 44 yX0_openMask, Cond.instanceMethod yX0_openMask, Cond.selects RX0 yX0_openMask yX0_openMask, Cond.code yX0_openMask cX0_openMask 4 (some .int), Cond.methodLink RX0 40 yX0_isOpen, Cond.instanceMethod yX0_isOpen, Cond.selects RX0 yX0_isOpen yX0_isOpen, Cond.code yX0_isOpen cX0_isOpen 10 (some .boolean), Cond.methodLink RX0 30 yX0_left]
def wsX4_digest_r3 : List Cond := [Cond.instanceMethod yX0_left, Cond.selects RX0 yX0_left yX0_left, Cond.code yX0_left cX0_left 4 (some .int), Cond.methodLink RX0 33 yX0_top, Cond.instanceMethod yX0_top, Cond.selects RX0 yX0_top yX0_top, Cond.code yX0_top cX0_top 4 (some .int), Cond.methodLink RX4 120 yX2_look, Cond.instanceMethod yX2_look, Cond.selects RX2 yX2_look yX2_look, Cond.initialized RX2, Cond.code yX2_look cX2_look 4 none, Cond.fieldLink RX2 65 "CornerLabels$Board" "points" "I", Cond.fieldLink RX2 9 "CornerLabels$Plans" "points" "I", Cond.fieldLink RX2 15 "CornerLabels$Plans" "open" "[I", Cond.fieldLink RX2 19 "CornerLabels$Plans" "weight" "[I", Cond.fieldLink RX2 72 "CornerLabels$Board" "cells" "[I", Cond.fieldLink RX2 22 "CornerLabels$Plans" "now" "[I", Cond.fieldLink RX2 25 "CornerLabels$Plans" "clashing" "[I", Cond.methodLink RX2 68 yX0_openMask, Cond.methodLink RX2 75 yX2_laterClashes, Cond.instanceMethod yX2_laterClashes, Cond.selects RX2 yX2_laterClashes yX2_laterClashes, Cond.code yX2_laterClashes cX2_laterClashes 7 (some .int)]
def wsX4_digest_r4 : List Cond := [Cond.static yX4_hasBit, Cond.code yX4_hasBit cX4_hasBit 2 (some .boolean), Cond.methodLink RX2 83 yX0_sharedSquares, Cond.instanceMethod yX0_sharedSquares, Cond.selects RX0 yX0_sharedSquares yX0_sharedSquares, Cond.code yX0_sharedSquares cX0_sharedSquares 7 (some .int), Cond.methodLink RX0 53 yX0_sharedLength, Cond.static yX0_sharedLength, Cond.code yX0_sharedLength cX0_sharedLength 6 (some .int), Cond.methodLink RX0 57 Lib.Math.max.name, Cond.static Lib.Math.max.name, Cond.initialized "java/lang/Math", Cond.code Lib.Math.max.name Lib.Math.max.code 2 (some .int), Cond.methodLink RX0 62 Lib.Math.min.name, Cond.static Lib.Math.min.name, Cond.code Lib.Math.min.name Lib.Math.min.code 2 (some .int), Cond.methodLink RX4 263 yX2_clashingPairs, Cond.instanceMethod yX2_clashingPairs, Cond.selects RX2 yX2_clashingPairs yX2_clashingPairs, Cond.code yX2_clashingPairs cX2_clashingPairs 5 (some .int), Cond.methodLink RX4 266 yX0_crossingsOfDropped, Cond.instanceMethod yX0_crossingsOfDropped, Cond.selects RX0 yX0_crossingsOfDropped yX0_crossingsOfDropped, Cond.code yX0_crossingsOfDropped cX0_crossingsOfDropped 3 (some .int)]
def wsX4_digest_r5 : List Cond := [Cond.methodLink RX0 80 yX0_leaderCrossings, Cond.instanceMethod yX0_leaderCrossings, Cond.selects RX0 yX0_leaderCrossings yX0_leaderCrossings, Cond.code yX0_leaderCrossings cX0_leaderCrossings 4 (some .int), Cond.methodLink RX0 74 yX0_isPointOnLeader, Cond.instanceMethod yX0_isPointOnLeader, Cond.selects RX0 yX0_isPointOnLeader yX0_isPointOnLeader, Cond.code yX0_isPointOnLeader cX0_isPointOnLeader 3 (some .boolean), Cond.methodLink RX0 77 yX0_isLabelOnLeader, Cond.instanceMethod yX0_isLabelOnLeader, Cond.selects RX0 yX0_isLabelOnLeader yX0_isLabelOnLeader, Cond.code yX0_isLabelOnLeader cX0_isLabelOnLeader 7 (some .boolean), Cond.methodLink RX4 217 yX4_mix, Cond.static yX4_mix, Cond.code yX4_mix cX4_mix 4 (some .long), Cond.constantLong RX4 272 (31), Cond.methodLink RX4 194 yX2_findBest, Cond.instanceMethod yX2_findBest, Cond.selects RX2 yX2_findBest yX2_findBest, Cond.code yX2_findBest cX2_findBest 1 none, Cond.fieldLink RX2 59 "CornerLabels$Plans" "topWeight" "I", Cond.fieldLink RX2 50 "CornerLabels$Plans" "found" "[I", Cond.fieldLink RX2 56 "CornerLabels$Plans" "bestCorners" "[I", Cond.methodLink RX2 94 arraycopyName]
def wsX4_digest_r6 : List Cond := [Cond.native arraycopyName, Cond.static arraycopyName, Cond.initialized "java/lang/System", Cond.methodLink RX2 91 yX2_findHeaviest, Cond.instanceMethod yX2_findHeaviest, Cond.selects RX2 yX2_findHeaviest yX2_findHeaviest, Cond.code yX2_findHeaviest cX2_findHeaviest 4 (some .int), Cond.fieldLink RX2 28 "CornerLabels$Plans" "allowed" "[I", Cond.fieldLink RX2 34 "CornerLabels$Plans" "mayDrop" "[Z", Cond.fieldLink RX2 38 "CornerLabels$Plans" "gain" "[I", Cond.methodLink RX2 87 yX2_findTop, Cond.instanceMethod yX2_findTop, Cond.selects RX2 yX2_findTop yX2_findTop, Cond.code yX2_findTop cX2_findTop 2 (some .int), Cond.fieldLink RX2 44 "CornerLabels$Plans" "hope" "[I", Cond.fieldLink RX2 31 "CornerLabels$Plans" "allowedSpots" "I", Cond.fieldLink RX2 41 "CornerLabels$Plans" "mostGain" "[I", Cond.fieldLink RX2 53 "CornerLabels$Plans" "foundScore" "I", Cond.methodLink RX2 100 yX2_findMostGain, Cond.instanceMethod yX2_findMostGain, Cond.selects RX2 yX2_findMostGain yX2_findMostGain, Cond.code yX2_findMostGain cX2_findMostGain 4 (some .int), Cond.methodLink RX2 107 Lib.Math.max.name, Cond.methodLink RX2 103 yX2_seek]
def wsX4_digest_r7 : List Cond := [Cond.static yX2_seek, Cond.code yX2_seek cX2_seek 8 none, Cond.fieldLink RX2 47 "CornerLabels$Plans" "trial" "[I", Cond.methodLink RX2 113 yX2_keepTrial, Cond.instanceMethod yX2_keepTrial, Cond.selects RX2 yX2_keepTrial yX2_keepTrial, Cond.code yX2_keepTrial cX2_keepTrial 2 none, Cond.methodLink RX4 203 yX2_findWithoutEach, Cond.instanceMethod yX2_findWithoutEach, Cond.selects RX2 yX2_findWithoutEach yX2_findWithoutEach, Cond.code yX2_findWithoutEach cX2_findWithoutEach 2 none, Cond.fieldLink RX2 62 "CornerLabels$Plans" "weightsWithout" "[I", Cond.methodLink RX4 221 yX4_mixPoints, Cond.instanceMethod yX4_mixPoints, Cond.selects RX4 yX4_mixPoints yX4_mixPoints, Cond.code yX4_mixPoints cX4_mixPoints 7 (some .long), Cond.fieldLink RX4 197 "CornerLabels$Plans" "bestCorners" "[I", Cond.fieldLink RX4 269 "CornerLabels$Plans" "weightsWithout" "[I", Cond.methodLink RX4 174 yX4_property, Cond.instanceMethod yX4_property, Cond.selects RX4 yX4_property yX4_property, Cond.code yX4_property cX4_property 3 (some .int), Cond.fieldLink RX4 89 "CornerLabels$Board" "cells" "[I", Cond.methodLink RX4 95 yX0_openMask]
def wsX4_digest_r8 : List Cond := [Cond.methodLink RX4 108 yX0_freeMask, Cond.instanceMethod yX0_freeMask, Cond.selects RX0 yX0_freeMask yX0_freeMask, Cond.code yX0_freeMask cX0_freeMask 4 (some .int), Cond.methodLink RX0 71 yX0_clashesWithStanding, Cond.instanceMethod yX0_clashesWithStanding, Cond.selects RX0 yX0_clashesWithStanding yX0_clashesWithStanding, Cond.code yX0_clashesWithStanding cX0_clashesWithStanding 4 (some .boolean), Cond.methodLink RX0 65 yX0_sharedSquares, Cond.methodLink RX4 254 yX0_leaderCrossings, Cond.methodLink RX4 129 yX2_findRoom, Cond.instanceMethod yX2_findRoom, Cond.selects RX2 yX2_findRoom yX2_findRoom, Cond.code yX2_findRoom cX2_findRoom 6 (some .int), Cond.methodLink RX4 225 yX4_mixPairs, Cond.instanceMethod yX4_mixPairs, Cond.selects RX4 yX4_mixPairs yX4_mixPairs, Cond.code yX4_mixPairs cX4_mixPairs 7 (some .long), Cond.methodLink RX4 179 yX0_sharedSquares, Cond.methodLink RX4 200 yX2_fullOnes, Cond.instanceMethod yX2_fullOnes, Cond.selects RX2 yX2_fullOnes yX2_fullOnes, Cond.code yX2_fullOnes cX2_fullOnes 1 (some .int), Cond.methodLink RX2 117 yX2_tally]
def wsX4_digest_r9 : List Cond := [Cond.static yX2_tally, Cond.code yX2_tally cX2_tally 8 (some .int), Cond.methodLink RX4 206 yX4_findDearest, Cond.instanceMethod yX4_findDearest, Cond.selects RX4 yX4_findDearest yX4_findDearest, Cond.code yX4_findDearest cX4_findDearest 5 (some .int), Cond.methodLink RX4 231 yX4_standingShare, Cond.instanceMethod yX4_standingShare, Cond.selects RX4 yX4_standingShare yX4_standingShare, Cond.code yX4_standingShare cX4_standingShare 2 (some .double), Cond.methodLink RX4 235 yX4_bitsOf, Cond.static yX4_bitsOf, Cond.code yX4_bitsOf cX4_bitsOf 7 (some .long), Cond.constantLong RX4 277 (1023), Cond.constantDouble RX4 279 (4611686018427387904), Cond.constantDouble RX4 281 (4841369599423283200), Cond.methodLink RX4 239 yX4_mixBuffer, Cond.instanceMethod yX4_mixBuffer, Cond.selects RX4 yX4_mixBuffer yX4_mixBuffer, Cond.code yX4_mixBuffer cX4_mixBuffer 6 (some .long), Cond.fieldLink RX4 26 "CornerLabels" "typed" "LCornerLabels$Typed;", Cond.fieldLink RX4 143 "CornerLabels$Typed" "length" "I", Cond.methodLink RX4 274 yX3_code, Cond.instanceMethod yX3_code]
def wsX4_digest_r10 : List Cond := [Cond.selects RX3 yX3_code yX3_code, Cond.initialized RX3, Cond.code yX3_code cX3_code 2 (some .int), Cond.fieldLink RX3 9 "CornerLabels$Typed" "codes" "[I"]
def wsX4_digest : List Cond := .code yX4_digest cX4_digest 4 (some .long) :: ((wsX4_digest_r1 ++ (wsX4_digest_r2 ++ (wsX4_digest_r3 ++ (wsX4_digest_r4 ++ (wsX4_digest_r5 ++ (wsX4_digest_r6 ++ (wsX4_digest_r7 ++ (wsX4_digest_r8 ++ (wsX4_digest_r9 ++ wsX4_digest_r10))))))))) ++ wsX40 ++ wsX20 ++ wsX00 ++ wsX10 ++ wsX30)
def wsX5_init : List Cond := .code yX5_init cX5_init 1 none :: ([.methodLink RX5 1 objectInit, .instanceMethod objectInit, .code objectInit ⟨#[0xb1]⟩ 1 none, .arrayClass .int, .fieldLink RX5 7 "CornerLabelsModel" "s" "[I", .fieldLink RX5 13 "CornerLabelsModel" "saved" "[I", .fieldLink RX5 16 "CornerLabelsModel" "buffer" "[I", .fieldLink RX5 19 "CornerLabelsModel" "told" "[I", .fieldLink RX5 22 "CornerLabelsModel" "allowed" "[I", .fieldLink RX5 25 "CornerLabelsModel" "plan" "[I", .fieldLink RX5 28 "CornerLabelsModel" "read" "[I", .fieldLink RX5 31 "CornerLabelsModel" "thrown" "I"] ++ wsX50)
def wsX5_thrown : List Cond := .code yX5_thrown cX5_thrown 1 (some .int) :: ([.fieldLink RX5 31 "CornerLabelsModel" "thrown" "I"] ++ wsX50)
def wsX5_in : List Cond := .code yX5_in cX5_in 3 (some .boolean) :: ([])
def wsX5_fails : List Cond := .code yX5_fails cX5_fails 2 (some .int) :: ([.fieldLink RX5 31 "CornerLabelsModel" "thrown" "I"] ++ wsX50)
def wsX5_isPoint : List Cond := .code yX5_isPoint cX5_isPoint 2 (some .boolean) :: ([.fieldLink RX5 7 "CornerLabelsModel" "s" "[I", .methodLink RX5 35 yX5_in, .static yX5_in, .initialized RX5, .code yX5_in cX5_in 3 (some .boolean)] ++ wsX50)
def wsX5_of : List Cond := .code yX5_of cX5_of 3 (some .int) :: ([.fieldLink RX5 7 "CornerLabelsModel" "s" "[I"] ++ wsX50)
def wsX5_stands : List Cond := .code yX5_stands cX5_stands 3 none :: ([.fieldLink RX5 7 "CornerLabelsModel" "s" "[I"] ++ wsX50)
def wsX5_cornerOf : List Cond := .code yX5_cornerOf cX5_cornerOf 2 (some .int) :: ([.methodLink RX5 39 yX5_of, .instanceMethod yX5_of, .selects RX5 yX5_of yX5_of, .initialized RX5, .code yX5_of cX5_of 3 (some .int), .fieldLink RX5 7 "CornerLabelsModel" "s" "[I"] ++ wsX50)
def wsX5_saves : List Cond := .code yX5_saves cX5_saves 2 none :: ([.fieldLink RX5 43 "CornerLabelsModel" "savedMany" "I", .fieldLink RX5 13 "CornerLabelsModel" "saved" "[I", .fieldLink RX5 7 "CornerLabelsModel" "s" "[I"] ++ wsX50)
def wsX5_left : List Cond := .code yX5_left cX5_left 3 (some .int) :: ([.methodLink RX5 39 yX5_of, .instanceMethod yX5_of, .selects RX5 yX5_of yX5_of, .initialized RX5, .code yX5_of cX5_of 3 (some .int), .fieldLink RX5 7 "CornerLabelsModel" "s" "[I"] ++ wsX50)
def wsX5_right : List Cond := .code yX5_right cX5_right 3 (some .int) :: ([.methodLink RX5 46 yX5_left, .instanceMethod yX5_left, .selects RX5 yX5_left yX5_left, .initialized RX5, .code yX5_left cX5_left 3 (some .int), .methodLink RX5 39 yX5_of, .instanceMethod yX5_of, .selects RX5 yX5_of yX5_of, .code yX5_of cX5_of 3 (some .int), .fieldLink RX5 7 "CornerLabelsModel" "s" "[I"] ++ wsX50)
def wsX5_low : List Cond := .code yX5_low cX5_low 3 (some .int) :: ([.methodLink RX5 39 yX5_of, .instanceMethod yX5_of, .selects RX5 yX5_of yX5_of, .initialized RX5, .code yX5_of cX5_of 3 (some .int), .fieldLink RX5 7 "CornerLabelsModel" "s" "[I"] ++ wsX50)
def wsX5_high : List Cond := .code yX5_high cX5_high 3 (some .int) :: ([.methodLink RX5 49 yX5_low, .instanceMethod yX5_low, .selects RX5 yX5_low yX5_low, .initialized RX5, .code yX5_low cX5_low 3 (some .int), .methodLink RX5 39 yX5_of, .instanceMethod yX5_of, .selects RX5 yX5_of yX5_of, .code yX5_of cX5_of 3 (some .int), .fieldLink RX5 7 "CornerLabelsModel" "s" "[I"] ++ wsX50)
def wsX5_has_r1 : List Cond := [Cond.methodLink RX5 46 yX5_left, Cond.instanceMethod yX5_left, Cond.selects RX5 yX5_left yX5_left, Cond.initialized RX5, Cond.code yX5_left cX5_left 3 (some .int), Cond.methodLink RX5 39 yX5_of, Cond.instanceMethod yX5_of, Cond.selects RX5 yX5_of yX5_of, Cond.code yX5_of cX5_of 3 (some .int), Cond.fieldLink RX5 7 "CornerLabelsModel" "s" "[I", Cond.methodLink RX5 52 yX5_right, Cond.instanceMethod yX5_right, Cond.selects RX5 yX5_right yX5_right, Cond.code yX5_right cX5_right 3 (some .int), Cond.methodLink RX5 35 yX5_in, Cond.static yX5_in, Cond.code yX5_in cX5_in 3 (some .boolean), Cond.methodLink RX5 49 yX5_low, Cond.instanceMethod yX5_low, Cond.selects RX5 yX5_low yX5_low, Cond.code yX5_low cX5_low 3 (some .int), Cond.methodLink RX5 55 yX5_high, Cond.instanceMethod yX5_high, Cond.selects RX5 yX5_high yX5_high]
def wsX5_has_r2 : List Cond := [Cond.code yX5_high cX5_high 3 (some .int)]
def wsX5_has : List Cond := .code yX5_has cX5_has 5 (some .boolean) :: ((wsX5_has_r1 ++ wsX5_has_r2) ++ wsX50)
def wsX5_isOpen_r1 : List Cond := [Cond.fieldLink RX5 7 "CornerLabelsModel" "s" "[I", Cond.methodLink RX5 46 yX5_left, Cond.instanceMethod yX5_left, Cond.selects RX5 yX5_left yX5_left, Cond.initialized RX5, Cond.code yX5_left cX5_left 3 (some .int), Cond.methodLink RX5 39 yX5_of, Cond.instanceMethod yX5_of, Cond.selects RX5 yX5_of yX5_of, Cond.code yX5_of cX5_of 3 (some .int), Cond.methodLink RX5 52 yX5_right, Cond.instanceMethod yX5_right, Cond.selects RX5 yX5_right yX5_right, Cond.code yX5_right cX5_right 3 (some .int), Cond.methodLink RX5 49 yX5_low, Cond.instanceMethod yX5_low, Cond.selects RX5 yX5_low yX5_low, Cond.code yX5_low cX5_low 3 (some .int), Cond.methodLink RX5 55 yX5_high, Cond.instanceMethod yX5_high, Cond.selects RX5 yX5_high yX5_high, Cond.code yX5_high cX5_high 3 (some .int), Cond.methodLink RX5 58 yX5_has, Cond.instanceMethod yX5_has]
def wsX5_isOpen_r2 : List Cond := [Cond.selects RX5 yX5_has yX5_has, Cond.code yX5_has cX5_has 5 (some .boolean), Cond.methodLink RX5 35 yX5_in, Cond.static yX5_in, Cond.code yX5_in cX5_in 3 (some .boolean)]
def wsX5_isOpen : List Cond := .code yX5_isOpen cX5_isOpen 5 (some .boolean) :: ((wsX5_isOpen_r1 ++ wsX5_isOpen_r2) ++ wsX50)
def wsX5_openOf_r1 : List Cond := [Cond.methodLink RX5 62 yX5_isOpen, Cond.instanceMethod yX5_isOpen, Cond.selects RX5 yX5_isOpen yX5_isOpen, Cond.initialized RX5, Cond.code yX5_isOpen cX5_isOpen 5 (some .boolean), Cond.fieldLink RX5 7 "CornerLabelsModel" "s" "[I", Cond.methodLink RX5 46 yX5_left, Cond.instanceMethod yX5_left, Cond.selects RX5 yX5_left yX5_left, Cond.code yX5_left cX5_left 3 (some .int), Cond.methodLink RX5 39 yX5_of, Cond.instanceMethod yX5_of, Cond.selects RX5 yX5_of yX5_of, Cond.code yX5_of cX5_of 3 (some .int), Cond.methodLink RX5 52 yX5_right, Cond.instanceMethod yX5_right, Cond.selects RX5 yX5_right yX5_right, Cond.code yX5_right cX5_right 3 (some .int), Cond.methodLink RX5 49 yX5_low, Cond.instanceMethod yX5_low, Cond.selects RX5 yX5_low yX5_low, Cond.code yX5_low cX5_low 3 (some .int), Cond.methodLink RX5 55 yX5_high, Cond.instanceMethod yX5_high]
def wsX5_openOf_r2 : List Cond := [Cond.selects RX5 yX5_high yX5_high, Cond.code yX5_high cX5_high 3 (some .int), Cond.methodLink RX5 58 yX5_has, Cond.instanceMethod yX5_has, Cond.selects RX5 yX5_has yX5_has, Cond.code yX5_has cX5_has 5 (some .boolean), Cond.methodLink RX5 35 yX5_in, Cond.static yX5_in, Cond.code yX5_in cX5_in 3 (some .boolean)]
def wsX5_openOf : List Cond := .code yX5_openOf cX5_openOf 4 (some .int) :: ((wsX5_openOf_r1 ++ wsX5_openOf_r2) ++ wsX50)
def wsX5_lesser : List Cond := .code yX5_lesser cX5_lesser 2 (some .int) :: ([])
def wsX5_greater : List Cond := .code yX5_greater cX5_greater 2 (some .int) :: ([])
def wsX5_common_r1 : List Cond := [Cond.methodLink RX5 52 yX5_right, Cond.instanceMethod yX5_right, Cond.selects RX5 yX5_right yX5_right, Cond.initialized RX5, Cond.code yX5_right cX5_right 3 (some .int), Cond.methodLink RX5 46 yX5_left, Cond.instanceMethod yX5_left, Cond.selects RX5 yX5_left yX5_left, Cond.code yX5_left cX5_left 3 (some .int), Cond.methodLink RX5 39 yX5_of, Cond.instanceMethod yX5_of, Cond.selects RX5 yX5_of yX5_of, Cond.code yX5_of cX5_of 3 (some .int), Cond.fieldLink RX5 7 "CornerLabelsModel" "s" "[I", Cond.methodLink RX5 66 yX5_lesser, Cond.static yX5_lesser, Cond.code yX5_lesser cX5_lesser 2 (some .int), Cond.methodLink RX5 69 yX5_greater, Cond.static yX5_greater, Cond.code yX5_greater cX5_greater 2 (some .int), Cond.methodLink RX5 55 yX5_high, Cond.instanceMethod yX5_high, Cond.selects RX5 yX5_high yX5_high, Cond.code yX5_high cX5_high 3 (some .int)]
def wsX5_common_r2 : List Cond := [Cond.methodLink RX5 49 yX5_low, Cond.instanceMethod yX5_low, Cond.selects RX5 yX5_low yX5_low, Cond.code yX5_low cX5_low 3 (some .int)]
def wsX5_common : List Cond := .code yX5_common cX5_common 7 (some .int) :: ((wsX5_common_r1 ++ wsX5_common_r2) ++ wsX50)
def wsX5_canStand_r1 : List Cond := [Cond.fieldLink RX5 7 "CornerLabelsModel" "s" "[I", Cond.methodLink RX5 62 yX5_isOpen, Cond.instanceMethod yX5_isOpen, Cond.selects RX5 yX5_isOpen yX5_isOpen, Cond.initialized RX5, Cond.code yX5_isOpen cX5_isOpen 5 (some .boolean), Cond.methodLink RX5 46 yX5_left, Cond.instanceMethod yX5_left, Cond.selects RX5 yX5_left yX5_left, Cond.code yX5_left cX5_left 3 (some .int), Cond.methodLink RX5 39 yX5_of, Cond.instanceMethod yX5_of, Cond.selects RX5 yX5_of yX5_of, Cond.code yX5_of cX5_of 3 (some .int), Cond.methodLink RX5 52 yX5_right, Cond.instanceMethod yX5_right, Cond.selects RX5 yX5_right yX5_right, Cond.code yX5_right cX5_right 3 (some .int), Cond.methodLink RX5 49 yX5_low, Cond.instanceMethod yX5_low, Cond.selects RX5 yX5_low yX5_low, Cond.code yX5_low cX5_low 3 (some .int), Cond.methodLink RX5 55 yX5_high, Cond.instanceMethod yX5_high]
def wsX5_canStand_r2 : List Cond := [Cond.selects RX5 yX5_high yX5_high, Cond.code yX5_high cX5_high 3 (some .int), Cond.methodLink RX5 58 yX5_has, Cond.instanceMethod yX5_has, Cond.selects RX5 yX5_has yX5_has, Cond.code yX5_has cX5_has 5 (some .boolean), Cond.methodLink RX5 35 yX5_in, Cond.static yX5_in, Cond.code yX5_in cX5_in 3 (some .boolean), Cond.methodLink RX5 72 yX5_cornerOf, Cond.instanceMethod yX5_cornerOf, Cond.selects RX5 yX5_cornerOf yX5_cornerOf, Cond.code yX5_cornerOf cX5_cornerOf 2 (some .int), Cond.methodLink RX5 76 yX5_common, Cond.instanceMethod yX5_common, Cond.selects RX5 yX5_common yX5_common, Cond.code yX5_common cX5_common 7 (some .int), Cond.methodLink RX5 66 yX5_lesser, Cond.static yX5_lesser, Cond.code yX5_lesser cX5_lesser 2 (some .int), Cond.methodLink RX5 69 yX5_greater, Cond.static yX5_greater, Cond.code yX5_greater cX5_greater 2 (some .int)]
def wsX5_canStand : List Cond := .code yX5_canStand cX5_canStand 5 (some .boolean) :: ((wsX5_canStand_r1 ++ wsX5_canStand_r2) ++ wsX50)
def wsX5_ones : List Cond := .code yX5_ones cX5_ones 1 (some .int) :: ([])
def wsX5_fits_r1 : List Cond := [Cond.fieldLink RX5 19 "CornerLabelsModel" "told" "[I", Cond.fieldLink RX5 22 "CornerLabelsModel" "allowed" "[I", Cond.methodLink RX5 76 yX5_common, Cond.instanceMethod yX5_common, Cond.selects RX5 yX5_common yX5_common, Cond.initialized RX5, Cond.code yX5_common cX5_common 7 (some .int), Cond.methodLink RX5 52 yX5_right, Cond.instanceMethod yX5_right, Cond.selects RX5 yX5_right yX5_right, Cond.code yX5_right cX5_right 3 (some .int), Cond.methodLink RX5 46 yX5_left, Cond.instanceMethod yX5_left, Cond.selects RX5 yX5_left yX5_left, Cond.code yX5_left cX5_left 3 (some .int), Cond.methodLink RX5 39 yX5_of, Cond.instanceMethod yX5_of, Cond.selects RX5 yX5_of yX5_of, Cond.code yX5_of cX5_of 3 (some .int), Cond.fieldLink RX5 7 "CornerLabelsModel" "s" "[I", Cond.methodLink RX5 66 yX5_lesser, Cond.static yX5_lesser, Cond.code yX5_lesser cX5_lesser 2 (some .int), Cond.methodLink RX5 69 yX5_greater]
def wsX5_fits_r2 : List Cond := [Cond.static yX5_greater, Cond.code yX5_greater cX5_greater 2 (some .int), Cond.methodLink RX5 55 yX5_high, Cond.instanceMethod yX5_high, Cond.selects RX5 yX5_high yX5_high, Cond.code yX5_high cX5_high 3 (some .int), Cond.methodLink RX5 49 yX5_low, Cond.instanceMethod yX5_low, Cond.selects RX5 yX5_low yX5_low, Cond.code yX5_low cX5_low 3 (some .int)]
def wsX5_fits : List Cond := .code yX5_fits cX5_fits 5 (some .boolean) :: ((wsX5_fits_r1 ++ wsX5_fits_r2) ++ wsX50)
def wsX5_worth : List Cond := .code yX5_worth cX5_worth 5 (some .int) :: ([.fieldLink RX5 19 "CornerLabelsModel" "told" "[I", .fieldLink RX5 80 "CornerLabelsModel" "looksFor" "I", .methodLink RX5 72 yX5_cornerOf, .instanceMethod yX5_cornerOf, .selects RX5 yX5_cornerOf yX5_cornerOf, .initialized RX5, .code yX5_cornerOf cX5_cornerOf 2 (some .int), .methodLink RX5 39 yX5_of, .instanceMethod yX5_of, .selects RX5 yX5_of yX5_of, .code yX5_of cX5_of 3 (some .int), .fieldLink RX5 7 "CornerLabelsModel" "s" "[I"] ++ wsX50)
def wsX5_weightFrom : List Cond := .code yX5_weightFrom cX5_weightFrom 4 (some .int) :: ([.fieldLink RX5 7 "CornerLabelsModel" "s" "[I", .methodLink RX5 39 yX5_of, .instanceMethod yX5_of, .selects RX5 yX5_of yX5_of, .initialized RX5, .code yX5_of cX5_of 3 (some .int)] ++ wsX50)
def wsX5_canBe : List Cond := .code yX5_canBe cX5_canBe 2 (some .boolean) :: ([.fieldLink RX5 80 "CornerLabelsModel" "looksFor" "I", .fieldLink RX5 83 "CornerLabelsModel" "best" "I", .methodLink RX5 86 yX5_worth, .instanceMethod yX5_worth, .selects RX5 yX5_worth yX5_worth, .initialized RX5, .code yX5_worth cX5_worth 5 (some .int), .fieldLink RX5 19 "CornerLabelsModel" "told" "[I", .methodLink RX5 72 yX5_cornerOf, .instanceMethod yX5_cornerOf, .selects RX5 yX5_cornerOf yX5_cornerOf, .code yX5_cornerOf cX5_cornerOf 2 (some .int), .methodLink RX5 39 yX5_of, .instanceMethod yX5_of, .selects RX5 yX5_of yX5_of, .code yX5_of cX5_of 3 (some .int), .fieldLink RX5 7 "CornerLabelsModel" "s" "[I", .methodLink RX5 89 yX5_weightFrom, .instanceMethod yX5_weightFrom, .selects RX5 yX5_weightFrom yX5_weightFrom, .code yX5_weightFrom cX5_weightFrom 4 (some .int)] ++ wsX50)
def wsX5_looksAt_r1 : List Cond := [Cond.fieldLink RX5 80 "CornerLabelsModel" "looksFor" "I", Cond.fieldLink RX5 83 "CornerLabelsModel" "best" "I", Cond.fieldLink RX5 7 "CornerLabelsModel" "s" "[I", Cond.fieldLink RX5 25 "CornerLabelsModel" "plan" "[I", Cond.fieldLink RX5 19 "CornerLabelsModel" "told" "[I", Cond.methodLink RX5 92 yX5_canBe, Cond.instanceMethod yX5_canBe, Cond.selects RX5 yX5_canBe yX5_canBe, Cond.initialized RX5, Cond.code yX5_canBe cX5_canBe 2 (some .boolean), Cond.methodLink RX5 86 yX5_worth, Cond.instanceMethod yX5_worth, Cond.selects RX5 yX5_worth yX5_worth, Cond.code yX5_worth cX5_worth 5 (some .int), Cond.methodLink RX5 72 yX5_cornerOf, Cond.instanceMethod yX5_cornerOf, Cond.selects RX5 yX5_cornerOf yX5_cornerOf, Cond.code yX5_cornerOf cX5_cornerOf 2 (some .int), Cond.methodLink RX5 39 yX5_of, Cond.instanceMethod yX5_of, Cond.selects RX5 yX5_of yX5_of, Cond.code yX5_of cX5_of 3 (some .int), Cond.methodLink RX5 89 yX5_weightFrom, Cond.instanceMethod yX5_weightFrom]
def wsX5_looksAt_r2 : List Cond := [Cond.selects RX5 yX5_weightFrom yX5_weightFrom, Cond.code yX5_weightFrom cX5_weightFrom 4 (some .int)]
def wsX5_looksAt : List Cond := .code yX5_looksAt cX5_looksAt 2 none :: ((wsX5_looksAt_r1 ++ wsX5_looksAt_r2) ++ wsX50)
def wsX5_searches_r1 : List Cond := [Cond.fieldLink RX5 80 "CornerLabelsModel" "looksFor" "I", Cond.fieldLink RX5 83 "CornerLabelsModel" "best" "I", Cond.fieldLink RX5 19 "CornerLabelsModel" "told" "[I", Cond.fieldLink RX5 7 "CornerLabelsModel" "s" "[I", Cond.methodLink RX5 96 yX5_looksAt, Cond.instanceMethod yX5_looksAt, Cond.selects RX5 yX5_looksAt yX5_looksAt, Cond.initialized RX5, Cond.code yX5_looksAt cX5_looksAt 2 none, Cond.fieldLink RX5 25 "CornerLabelsModel" "plan" "[I", Cond.methodLink RX5 92 yX5_canBe, Cond.instanceMethod yX5_canBe, Cond.selects RX5 yX5_canBe yX5_canBe, Cond.code yX5_canBe cX5_canBe 2 (some .boolean), Cond.methodLink RX5 86 yX5_worth, Cond.instanceMethod yX5_worth, Cond.selects RX5 yX5_worth yX5_worth, Cond.code yX5_worth cX5_worth 5 (some .int), Cond.methodLink RX5 72 yX5_cornerOf, Cond.instanceMethod yX5_cornerOf, Cond.selects RX5 yX5_cornerOf yX5_cornerOf, Cond.code yX5_cornerOf cX5_cornerOf 2 (some .int), Cond.methodLink RX5 39 yX5_of, Cond.instanceMethod yX5_of]
def wsX5_searches_r2 : List Cond := [Cond.selects RX5 yX5_of yX5_of, Cond.code yX5_of cX5_of 3 (some .int), Cond.methodLink RX5 89 yX5_weightFrom, Cond.instanceMethod yX5_weightFrom, Cond.selects RX5 yX5_weightFrom yX5_weightFrom, Cond.code yX5_weightFrom cX5_weightFrom 4 (some .int), Cond.methodLink RX5 99 yX5_fits, Cond.instanceMethod yX5_fits, Cond.selects RX5 yX5_fits yX5_fits, Cond.code yX5_fits cX5_fits 5 (some .boolean), Cond.fieldLink RX5 22 "CornerLabelsModel" "allowed" "[I", Cond.methodLink RX5 76 yX5_common, Cond.instanceMethod yX5_common, Cond.selects RX5 yX5_common yX5_common, Cond.code yX5_common cX5_common 7 (some .int), Cond.methodLink RX5 52 yX5_right, Cond.instanceMethod yX5_right, Cond.selects RX5 yX5_right yX5_right, Cond.code yX5_right cX5_right 3 (some .int), Cond.methodLink RX5 46 yX5_left, Cond.instanceMethod yX5_left, Cond.selects RX5 yX5_left yX5_left, Cond.code yX5_left cX5_left 3 (some .int), Cond.methodLink RX5 66 yX5_lesser]
def wsX5_searches_r3 : List Cond := [Cond.static yX5_lesser, Cond.code yX5_lesser cX5_lesser 2 (some .int), Cond.methodLink RX5 69 yX5_greater, Cond.static yX5_greater, Cond.code yX5_greater cX5_greater 2 (some .int), Cond.methodLink RX5 55 yX5_high, Cond.instanceMethod yX5_high, Cond.selects RX5 yX5_high yX5_high, Cond.code yX5_high cX5_high 3 (some .int), Cond.methodLink RX5 49 yX5_low, Cond.instanceMethod yX5_low, Cond.selects RX5 yX5_low yX5_low, Cond.code yX5_low cX5_low 3 (some .int)]
def wsX5_searches : List Cond := .code yX5_searches cX5_searches 3 (some .int) :: ((wsX5_searches_r1 ++ (wsX5_searches_r2 ++ wsX5_searches_r3)) ++ wsX50)
def wsX5_heaviest_r1 : List Cond := [Cond.fieldLink RX5 7 "CornerLabelsModel" "s" "[I", Cond.fieldLink RX5 22 "CornerLabelsModel" "allowed" "[I", Cond.methodLink RX5 102 yX5_openOf, Cond.instanceMethod yX5_openOf, Cond.selects RX5 yX5_openOf yX5_openOf, Cond.initialized RX5, Cond.code yX5_openOf cX5_openOf 4 (some .int), Cond.methodLink RX5 62 yX5_isOpen, Cond.instanceMethod yX5_isOpen, Cond.selects RX5 yX5_isOpen yX5_isOpen, Cond.code yX5_isOpen cX5_isOpen 5 (some .boolean), Cond.methodLink RX5 46 yX5_left, Cond.instanceMethod yX5_left, Cond.selects RX5 yX5_left yX5_left, Cond.code yX5_left cX5_left 3 (some .int), Cond.methodLink RX5 39 yX5_of, Cond.instanceMethod yX5_of, Cond.selects RX5 yX5_of yX5_of, Cond.code yX5_of cX5_of 3 (some .int), Cond.methodLink RX5 52 yX5_right, Cond.instanceMethod yX5_right, Cond.selects RX5 yX5_right yX5_right, Cond.code yX5_right cX5_right 3 (some .int), Cond.methodLink RX5 49 yX5_low]
def wsX5_heaviest_r2 : List Cond := [Cond.instanceMethod yX5_low, Cond.selects RX5 yX5_low yX5_low, Cond.code yX5_low cX5_low 3 (some .int), Cond.methodLink RX5 55 yX5_high, Cond.instanceMethod yX5_high, Cond.selects RX5 yX5_high yX5_high, Cond.code yX5_high cX5_high 3 (some .int), Cond.methodLink RX5 58 yX5_has, Cond.instanceMethod yX5_has, Cond.selects RX5 yX5_has yX5_has, Cond.code yX5_has cX5_has 5 (some .boolean), Cond.methodLink RX5 35 yX5_in, Cond.static yX5_in, Cond.code yX5_in cX5_in 3 (some .boolean), Cond.methodLink RX5 105 yX5_searches, Cond.instanceMethod yX5_searches, Cond.selects RX5 yX5_searches yX5_searches, Cond.code yX5_searches cX5_searches 3 (some .int), Cond.fieldLink RX5 80 "CornerLabelsModel" "looksFor" "I", Cond.fieldLink RX5 83 "CornerLabelsModel" "best" "I", Cond.fieldLink RX5 19 "CornerLabelsModel" "told" "[I", Cond.methodLink RX5 96 yX5_looksAt, Cond.instanceMethod yX5_looksAt, Cond.selects RX5 yX5_looksAt yX5_looksAt]
def wsX5_heaviest_r3 : List Cond := [Cond.code yX5_looksAt cX5_looksAt 2 none, Cond.fieldLink RX5 25 "CornerLabelsModel" "plan" "[I", Cond.methodLink RX5 92 yX5_canBe, Cond.instanceMethod yX5_canBe, Cond.selects RX5 yX5_canBe yX5_canBe, Cond.code yX5_canBe cX5_canBe 2 (some .boolean), Cond.methodLink RX5 86 yX5_worth, Cond.instanceMethod yX5_worth, Cond.selects RX5 yX5_worth yX5_worth, Cond.code yX5_worth cX5_worth 5 (some .int), Cond.methodLink RX5 72 yX5_cornerOf, Cond.instanceMethod yX5_cornerOf, Cond.selects RX5 yX5_cornerOf yX5_cornerOf, Cond.code yX5_cornerOf cX5_cornerOf 2 (some .int), Cond.methodLink RX5 89 yX5_weightFrom, Cond.instanceMethod yX5_weightFrom, Cond.selects RX5 yX5_weightFrom yX5_weightFrom, Cond.code yX5_weightFrom cX5_weightFrom 4 (some .int), Cond.methodLink RX5 99 yX5_fits, Cond.instanceMethod yX5_fits, Cond.selects RX5 yX5_fits yX5_fits, Cond.code yX5_fits cX5_fits 5 (some .boolean), Cond.methodLink RX5 76 yX5_common, Cond.instanceMethod yX5_common]
def wsX5_heaviest_r4 : List Cond := [Cond.selects RX5 yX5_common yX5_common, Cond.code yX5_common cX5_common 7 (some .int), Cond.methodLink RX5 66 yX5_lesser, Cond.static yX5_lesser, Cond.code yX5_lesser cX5_lesser 2 (some .int), Cond.methodLink RX5 69 yX5_greater, Cond.static yX5_greater, Cond.code yX5_greater cX5_greater 2 (some .int)]
def wsX5_heaviest : List Cond := .code yX5_heaviest cX5_heaviest 3 (some .int) :: ((wsX5_heaviest_r1 ++ (wsX5_heaviest_r2 ++ (wsX5_heaviest_r3 ++ wsX5_heaviest_r4))) ++ wsX50)
def wsX5_makesRoom_r1 : List Cond := [Cond.fieldLink RX5 7 "CornerLabelsModel" "s" "[I", Cond.fieldLink RX5 22 "CornerLabelsModel" "allowed" "[I", Cond.methodLink RX5 72 yX5_cornerOf, Cond.instanceMethod yX5_cornerOf, Cond.selects RX5 yX5_cornerOf yX5_cornerOf, Cond.initialized RX5, Cond.code yX5_cornerOf cX5_cornerOf 2 (some .int), Cond.methodLink RX5 39 yX5_of, Cond.instanceMethod yX5_of, Cond.selects RX5 yX5_of yX5_of, Cond.code yX5_of cX5_of 3 (some .int), Cond.methodLink RX5 102 yX5_openOf, Cond.instanceMethod yX5_openOf, Cond.selects RX5 yX5_openOf yX5_openOf, Cond.code yX5_openOf cX5_openOf 4 (some .int), Cond.methodLink RX5 62 yX5_isOpen, Cond.instanceMethod yX5_isOpen, Cond.selects RX5 yX5_isOpen yX5_isOpen, Cond.code yX5_isOpen cX5_isOpen 5 (some .boolean), Cond.methodLink RX5 46 yX5_left, Cond.instanceMethod yX5_left, Cond.selects RX5 yX5_left yX5_left, Cond.code yX5_left cX5_left 3 (some .int), Cond.methodLink RX5 52 yX5_right]
def wsX5_makesRoom_r2 : List Cond := [Cond.instanceMethod yX5_right, Cond.selects RX5 yX5_right yX5_right, Cond.code yX5_right cX5_right 3 (some .int), Cond.methodLink RX5 49 yX5_low, Cond.instanceMethod yX5_low, Cond.selects RX5 yX5_low yX5_low, Cond.code yX5_low cX5_low 3 (some .int), Cond.methodLink RX5 55 yX5_high, Cond.instanceMethod yX5_high, Cond.selects RX5 yX5_high yX5_high, Cond.code yX5_high cX5_high 3 (some .int), Cond.methodLink RX5 58 yX5_has, Cond.instanceMethod yX5_has, Cond.selects RX5 yX5_has yX5_has, Cond.code yX5_has cX5_has 5 (some .boolean), Cond.methodLink RX5 35 yX5_in, Cond.static yX5_in, Cond.code yX5_in cX5_in 3 (some .boolean), Cond.methodLink RX5 105 yX5_searches, Cond.instanceMethod yX5_searches, Cond.selects RX5 yX5_searches yX5_searches, Cond.code yX5_searches cX5_searches 3 (some .int), Cond.fieldLink RX5 80 "CornerLabelsModel" "looksFor" "I", Cond.fieldLink RX5 83 "CornerLabelsModel" "best" "I"]
def wsX5_makesRoom_r3 : List Cond := [Cond.fieldLink RX5 19 "CornerLabelsModel" "told" "[I", Cond.methodLink RX5 96 yX5_looksAt, Cond.instanceMethod yX5_looksAt, Cond.selects RX5 yX5_looksAt yX5_looksAt, Cond.code yX5_looksAt cX5_looksAt 2 none, Cond.fieldLink RX5 25 "CornerLabelsModel" "plan" "[I", Cond.methodLink RX5 92 yX5_canBe, Cond.instanceMethod yX5_canBe, Cond.selects RX5 yX5_canBe yX5_canBe, Cond.code yX5_canBe cX5_canBe 2 (some .boolean), Cond.methodLink RX5 86 yX5_worth, Cond.instanceMethod yX5_worth, Cond.selects RX5 yX5_worth yX5_worth, Cond.code yX5_worth cX5_worth 5 (some .int), Cond.methodLink RX5 89 yX5_weightFrom, Cond.instanceMethod yX5_weightFrom, Cond.selects RX5 yX5_weightFrom yX5_weightFrom, Cond.code yX5_weightFrom cX5_weightFrom 4 (some .int), Cond.methodLink RX5 99 yX5_fits, Cond.instanceMethod yX5_fits, Cond.selects RX5 yX5_fits yX5_fits, Cond.code yX5_fits cX5_fits 5 (some .boolean), Cond.methodLink RX5 76 yX5_common, Cond.instanceMethod yX5_common]
def wsX5_makesRoom_r4 : List Cond := [Cond.selects RX5 yX5_common yX5_common, Cond.code yX5_common cX5_common 7 (some .int), Cond.methodLink RX5 66 yX5_lesser, Cond.static yX5_lesser, Cond.code yX5_lesser cX5_lesser 2 (some .int), Cond.methodLink RX5 69 yX5_greater, Cond.static yX5_greater, Cond.code yX5_greater cX5_greater 2 (some .int)]
def wsX5_makesRoom : List Cond := .code yX5_makesRoom cX5_makesRoom 3 (some .int) :: ((wsX5_makesRoom_r1 ++ (wsX5_makesRoom_r2 ++ (wsX5_makesRoom_r3 ++ wsX5_makesRoom_r4))) ++ wsX50)
def wsX5_fulls_r1 : List Cond := [Cond.fieldLink RX5 7 "CornerLabelsModel" "s" "[I", Cond.fieldLink RX5 22 "CornerLabelsModel" "allowed" "[I", Cond.methodLink RX5 102 yX5_openOf, Cond.instanceMethod yX5_openOf, Cond.selects RX5 yX5_openOf yX5_openOf, Cond.initialized RX5, Cond.code yX5_openOf cX5_openOf 4 (some .int), Cond.methodLink RX5 62 yX5_isOpen, Cond.instanceMethod yX5_isOpen, Cond.selects RX5 yX5_isOpen yX5_isOpen, Cond.code yX5_isOpen cX5_isOpen 5 (some .boolean), Cond.methodLink RX5 46 yX5_left, Cond.instanceMethod yX5_left, Cond.selects RX5 yX5_left yX5_left, Cond.code yX5_left cX5_left 3 (some .int), Cond.methodLink RX5 39 yX5_of, Cond.instanceMethod yX5_of, Cond.selects RX5 yX5_of yX5_of, Cond.code yX5_of cX5_of 3 (some .int), Cond.methodLink RX5 52 yX5_right, Cond.instanceMethod yX5_right, Cond.selects RX5 yX5_right yX5_right, Cond.code yX5_right cX5_right 3 (some .int), Cond.methodLink RX5 49 yX5_low]
def wsX5_fulls_r2 : List Cond := [Cond.instanceMethod yX5_low, Cond.selects RX5 yX5_low yX5_low, Cond.code yX5_low cX5_low 3 (some .int), Cond.methodLink RX5 55 yX5_high, Cond.instanceMethod yX5_high, Cond.selects RX5 yX5_high yX5_high, Cond.code yX5_high cX5_high 3 (some .int), Cond.methodLink RX5 58 yX5_has, Cond.instanceMethod yX5_has, Cond.selects RX5 yX5_has yX5_has, Cond.code yX5_has cX5_has 5 (some .boolean), Cond.methodLink RX5 35 yX5_in, Cond.static yX5_in, Cond.code yX5_in cX5_in 3 (some .boolean), Cond.methodLink RX5 105 yX5_searches, Cond.instanceMethod yX5_searches, Cond.selects RX5 yX5_searches yX5_searches, Cond.code yX5_searches cX5_searches 3 (some .int), Cond.fieldLink RX5 80 "CornerLabelsModel" "looksFor" "I", Cond.fieldLink RX5 83 "CornerLabelsModel" "best" "I", Cond.fieldLink RX5 19 "CornerLabelsModel" "told" "[I", Cond.methodLink RX5 96 yX5_looksAt, Cond.instanceMethod yX5_looksAt, Cond.selects RX5 yX5_looksAt yX5_looksAt]
def wsX5_fulls_r3 : List Cond := [Cond.code yX5_looksAt cX5_looksAt 2 none, Cond.fieldLink RX5 25 "CornerLabelsModel" "plan" "[I", Cond.methodLink RX5 92 yX5_canBe, Cond.instanceMethod yX5_canBe, Cond.selects RX5 yX5_canBe yX5_canBe, Cond.code yX5_canBe cX5_canBe 2 (some .boolean), Cond.methodLink RX5 86 yX5_worth, Cond.instanceMethod yX5_worth, Cond.selects RX5 yX5_worth yX5_worth, Cond.code yX5_worth cX5_worth 5 (some .int), Cond.methodLink RX5 72 yX5_cornerOf, Cond.instanceMethod yX5_cornerOf, Cond.selects RX5 yX5_cornerOf yX5_cornerOf, Cond.code yX5_cornerOf cX5_cornerOf 2 (some .int), Cond.methodLink RX5 89 yX5_weightFrom, Cond.instanceMethod yX5_weightFrom, Cond.selects RX5 yX5_weightFrom yX5_weightFrom, Cond.code yX5_weightFrom cX5_weightFrom 4 (some .int), Cond.methodLink RX5 99 yX5_fits, Cond.instanceMethod yX5_fits, Cond.selects RX5 yX5_fits yX5_fits, Cond.code yX5_fits cX5_fits 5 (some .boolean), Cond.methodLink RX5 76 yX5_common, Cond.instanceMethod yX5_common]
def wsX5_fulls_r4 : List Cond := [Cond.selects RX5 yX5_common yX5_common, Cond.code yX5_common cX5_common 7 (some .int), Cond.methodLink RX5 66 yX5_lesser, Cond.static yX5_lesser, Cond.code yX5_lesser cX5_lesser 2 (some .int), Cond.methodLink RX5 69 yX5_greater, Cond.static yX5_greater, Cond.code yX5_greater cX5_greater 2 (some .int)]
def wsX5_fulls : List Cond := .code yX5_fulls cX5_fulls 2 (some .int) :: ((wsX5_fulls_r1 ++ (wsX5_fulls_r2 ++ (wsX5_fulls_r3 ++ wsX5_fulls_r4))) ++ wsX50)
def wsX5_lays : List Cond := .code yX5_lays cX5_lays 2 none :: ([.fieldLink RX5 7 "CornerLabelsModel" "s" "[I", .fieldLink RX5 25 "CornerLabelsModel" "plan" "[I", .methodLink RX5 108 yX5_stands, .instanceMethod yX5_stands, .selects RX5 yX5_stands yX5_stands, .initialized RX5, .code yX5_stands cX5_stands 3 none] ++ wsX50)
def wsX5_pointAt : List Cond := .code yX5_pointAt cX5_pointAt 4 (some .int) :: ([.fieldLink RX5 7 "CornerLabelsModel" "s" "[I", .methodLink RX5 39 yX5_of, .instanceMethod yX5_of, .selects RX5 yX5_of yX5_of, .initialized RX5, .code yX5_of cX5_of 3 (some .int)] ++ wsX50)
def wsX5_refusesAdd : List Cond := .code yX5_refusesAdd cX5_refusesAdd 7 (some .int) :: ([.fieldLink RX5 7 "CornerLabelsModel" "s" "[I", .methodLink RX5 35 yX5_in, .static yX5_in, .initialized RX5, .code yX5_in cX5_in 3 (some .boolean), .methodLink RX5 112 yX5_pointAt, .instanceMethod yX5_pointAt, .selects RX5 yX5_pointAt yX5_pointAt, .code yX5_pointAt cX5_pointAt 4 (some .int), .methodLink RX5 39 yX5_of, .instanceMethod yX5_of, .selects RX5 yX5_of yX5_of, .code yX5_of cX5_of 3 (some .int)] ++ wsX50)
def wsX5_comes_r1 : List Cond := [Cond.fieldLink RX5 7 "CornerLabelsModel" "s" "[I", Cond.methodLink RX5 72 yX5_cornerOf, Cond.instanceMethod yX5_cornerOf, Cond.selects RX5 yX5_cornerOf yX5_cornerOf, Cond.initialized RX5, Cond.code yX5_cornerOf cX5_cornerOf 2 (some .int), Cond.methodLink RX5 39 yX5_of, Cond.instanceMethod yX5_of, Cond.selects RX5 yX5_of yX5_of, Cond.code yX5_of cX5_of 3 (some .int), Cond.methodLink RX5 58 yX5_has, Cond.instanceMethod yX5_has, Cond.selects RX5 yX5_has yX5_has, Cond.code yX5_has cX5_has 5 (some .boolean), Cond.methodLink RX5 46 yX5_left, Cond.instanceMethod yX5_left, Cond.selects RX5 yX5_left yX5_left, Cond.code yX5_left cX5_left 3 (some .int), Cond.methodLink RX5 52 yX5_right, Cond.instanceMethod yX5_right, Cond.selects RX5 yX5_right yX5_right, Cond.code yX5_right cX5_right 3 (some .int), Cond.methodLink RX5 35 yX5_in, Cond.static yX5_in]
def wsX5_comes_r2 : List Cond := [Cond.code yX5_in cX5_in 3 (some .boolean), Cond.methodLink RX5 49 yX5_low, Cond.instanceMethod yX5_low, Cond.selects RX5 yX5_low yX5_low, Cond.code yX5_low cX5_low 3 (some .int), Cond.methodLink RX5 55 yX5_high, Cond.instanceMethod yX5_high, Cond.selects RX5 yX5_high yX5_high, Cond.code yX5_high cX5_high 3 (some .int), Cond.methodLink RX5 108 yX5_stands, Cond.instanceMethod yX5_stands, Cond.selects RX5 yX5_stands yX5_stands, Cond.code yX5_stands cX5_stands 3 none]
def wsX5_comes : List Cond := .code yX5_comes cX5_comes 7 none :: ((wsX5_comes_r1 ++ wsX5_comes_r2) ++ wsX50)
def wsX5_add_r1 : List Cond := [Cond.fieldLink RX5 31 "CornerLabelsModel" "thrown" "I", Cond.fieldLink RX5 7 "CornerLabelsModel" "s" "[I", Cond.methodLink RX5 115 yX5_refusesAdd, Cond.instanceMethod yX5_refusesAdd, Cond.selects RX5 yX5_refusesAdd yX5_refusesAdd, Cond.initialized RX5, Cond.code yX5_refusesAdd cX5_refusesAdd 7 (some .int), Cond.methodLink RX5 35 yX5_in, Cond.static yX5_in, Cond.code yX5_in cX5_in 3 (some .boolean), Cond.methodLink RX5 112 yX5_pointAt, Cond.instanceMethod yX5_pointAt, Cond.selects RX5 yX5_pointAt yX5_pointAt, Cond.code yX5_pointAt cX5_pointAt 4 (some .int), Cond.methodLink RX5 39 yX5_of, Cond.instanceMethod yX5_of, Cond.selects RX5 yX5_of yX5_of, Cond.code yX5_of cX5_of 3 (some .int), Cond.methodLink RX5 119 yX5_saves, Cond.instanceMethod yX5_saves, Cond.selects RX5 yX5_saves yX5_saves, Cond.code yX5_saves cX5_saves 2 none, Cond.fieldLink RX5 43 "CornerLabelsModel" "savedMany" "I", Cond.fieldLink RX5 13 "CornerLabelsModel" "saved" "[I"]
def wsX5_add_r2 : List Cond := [Cond.methodLink RX5 122 yX5_comes, Cond.instanceMethod yX5_comes, Cond.selects RX5 yX5_comes yX5_comes, Cond.code yX5_comes cX5_comes 7 none, Cond.methodLink RX5 72 yX5_cornerOf, Cond.instanceMethod yX5_cornerOf, Cond.selects RX5 yX5_cornerOf yX5_cornerOf, Cond.code yX5_cornerOf cX5_cornerOf 2 (some .int), Cond.methodLink RX5 58 yX5_has, Cond.instanceMethod yX5_has, Cond.selects RX5 yX5_has yX5_has, Cond.code yX5_has cX5_has 5 (some .boolean), Cond.methodLink RX5 46 yX5_left, Cond.instanceMethod yX5_left, Cond.selects RX5 yX5_left yX5_left, Cond.code yX5_left cX5_left 3 (some .int), Cond.methodLink RX5 52 yX5_right, Cond.instanceMethod yX5_right, Cond.selects RX5 yX5_right yX5_right, Cond.code yX5_right cX5_right 3 (some .int), Cond.methodLink RX5 49 yX5_low, Cond.instanceMethod yX5_low, Cond.selects RX5 yX5_low yX5_low, Cond.code yX5_low cX5_low 3 (some .int)]
def wsX5_add_r3 : List Cond := [Cond.methodLink RX5 55 yX5_high, Cond.instanceMethod yX5_high, Cond.selects RX5 yX5_high yX5_high, Cond.code yX5_high cX5_high 3 (some .int), Cond.methodLink RX5 108 yX5_stands, Cond.instanceMethod yX5_stands, Cond.selects RX5 yX5_stands yX5_stands, Cond.code yX5_stands cX5_stands 3 none]
def wsX5_add : List Cond := .code yX5_add cX5_add 6 (some .int) :: ((wsX5_add_r1 ++ (wsX5_add_r2 ++ wsX5_add_r3)) ++ wsX50)
def wsX5_openMany_r1 : List Cond := [Cond.fieldLink RX5 7 "CornerLabelsModel" "s" "[I", Cond.methodLink RX5 102 yX5_openOf, Cond.instanceMethod yX5_openOf, Cond.selects RX5 yX5_openOf yX5_openOf, Cond.initialized RX5, Cond.code yX5_openOf cX5_openOf 4 (some .int), Cond.methodLink RX5 62 yX5_isOpen, Cond.instanceMethod yX5_isOpen, Cond.selects RX5 yX5_isOpen yX5_isOpen, Cond.code yX5_isOpen cX5_isOpen 5 (some .boolean), Cond.methodLink RX5 46 yX5_left, Cond.instanceMethod yX5_left, Cond.selects RX5 yX5_left yX5_left, Cond.code yX5_left cX5_left 3 (some .int), Cond.methodLink RX5 39 yX5_of, Cond.instanceMethod yX5_of, Cond.selects RX5 yX5_of yX5_of, Cond.code yX5_of cX5_of 3 (some .int), Cond.methodLink RX5 52 yX5_right, Cond.instanceMethod yX5_right, Cond.selects RX5 yX5_right yX5_right, Cond.code yX5_right cX5_right 3 (some .int), Cond.methodLink RX5 49 yX5_low, Cond.instanceMethod yX5_low]
def wsX5_openMany_r2 : List Cond := [Cond.selects RX5 yX5_low yX5_low, Cond.code yX5_low cX5_low 3 (some .int), Cond.methodLink RX5 55 yX5_high, Cond.instanceMethod yX5_high, Cond.selects RX5 yX5_high yX5_high, Cond.code yX5_high cX5_high 3 (some .int), Cond.methodLink RX5 58 yX5_has, Cond.instanceMethod yX5_has, Cond.selects RX5 yX5_has yX5_has, Cond.code yX5_has cX5_has 5 (some .boolean), Cond.methodLink RX5 35 yX5_in, Cond.static yX5_in, Cond.code yX5_in cX5_in 3 (some .boolean), Cond.methodLink RX5 126 yX5_ones, Cond.static yX5_ones, Cond.code yX5_ones cX5_ones 1 (some .int)]
def wsX5_openMany : List Cond := .code yX5_openMany cX5_openMany 4 (some .int) :: ((wsX5_openMany_r1 ++ wsX5_openMany_r2) ++ wsX50)
def wsX5_remove_r1 : List Cond := [Cond.fieldLink RX5 31 "CornerLabelsModel" "thrown" "I", Cond.fieldLink RX5 7 "CornerLabelsModel" "s" "[I", Cond.methodLink RX5 129 yX5_isPoint, Cond.instanceMethod yX5_isPoint, Cond.selects RX5 yX5_isPoint yX5_isPoint, Cond.initialized RX5, Cond.code yX5_isPoint cX5_isPoint 2 (some .boolean), Cond.methodLink RX5 35 yX5_in, Cond.static yX5_in, Cond.code yX5_in cX5_in 3 (some .boolean), Cond.methodLink RX5 132 yX5_fails, Cond.instanceMethod yX5_fails, Cond.selects RX5 yX5_fails yX5_fails, Cond.code yX5_fails cX5_fails 2 (some .int), Cond.methodLink RX5 119 yX5_saves, Cond.instanceMethod yX5_saves, Cond.selects RX5 yX5_saves yX5_saves, Cond.code yX5_saves cX5_saves 2 none, Cond.fieldLink RX5 43 "CornerLabelsModel" "savedMany" "I", Cond.fieldLink RX5 13 "CornerLabelsModel" "saved" "[I", Cond.methodLink RX5 135 yX5_openMany, Cond.instanceMethod yX5_openMany, Cond.selects RX5 yX5_openMany yX5_openMany, Cond.code yX5_openMany cX5_openMany 4 (some .int)]
def wsX5_remove_r2 : List Cond := [Cond.methodLink RX5 102 yX5_openOf, Cond.instanceMethod yX5_openOf, Cond.selects RX5 yX5_openOf yX5_openOf, Cond.code yX5_openOf cX5_openOf 4 (some .int), Cond.methodLink RX5 62 yX5_isOpen, Cond.instanceMethod yX5_isOpen, Cond.selects RX5 yX5_isOpen yX5_isOpen, Cond.code yX5_isOpen cX5_isOpen 5 (some .boolean), Cond.methodLink RX5 46 yX5_left, Cond.instanceMethod yX5_left, Cond.selects RX5 yX5_left yX5_left, Cond.code yX5_left cX5_left 3 (some .int), Cond.methodLink RX5 39 yX5_of, Cond.instanceMethod yX5_of, Cond.selects RX5 yX5_of yX5_of, Cond.code yX5_of cX5_of 3 (some .int), Cond.methodLink RX5 52 yX5_right, Cond.instanceMethod yX5_right, Cond.selects RX5 yX5_right yX5_right, Cond.code yX5_right cX5_right 3 (some .int), Cond.methodLink RX5 49 yX5_low, Cond.instanceMethod yX5_low, Cond.selects RX5 yX5_low yX5_low, Cond.code yX5_low cX5_low 3 (some .int)]
def wsX5_remove_r3 : List Cond := [Cond.methodLink RX5 55 yX5_high, Cond.instanceMethod yX5_high, Cond.selects RX5 yX5_high yX5_high, Cond.code yX5_high cX5_high 3 (some .int), Cond.methodLink RX5 58 yX5_has, Cond.instanceMethod yX5_has, Cond.selects RX5 yX5_has yX5_has, Cond.code yX5_has cX5_has 5 (some .boolean), Cond.methodLink RX5 126 yX5_ones, Cond.static yX5_ones, Cond.code yX5_ones cX5_ones 1 (some .int)]
def wsX5_remove : List Cond := .code yX5_remove cX5_remove 4 (some .int) :: ((wsX5_remove_r1 ++ (wsX5_remove_r2 ++ wsX5_remove_r3)) ++ wsX50)
def wsX5_weigh : List Cond := .code yX5_weigh cX5_weigh 4 (some .int) :: ([.fieldLink RX5 31 "CornerLabelsModel" "thrown" "I", .fieldLink RX5 7 "CornerLabelsModel" "s" "[I", .methodLink RX5 129 yX5_isPoint, .instanceMethod yX5_isPoint, .selects RX5 yX5_isPoint yX5_isPoint, .initialized RX5, .code yX5_isPoint cX5_isPoint 2 (some .boolean), .methodLink RX5 35 yX5_in, .static yX5_in, .code yX5_in cX5_in 3 (some .boolean), .methodLink RX5 132 yX5_fails, .instanceMethod yX5_fails, .selects RX5 yX5_fails yX5_fails, .code yX5_fails cX5_fails 2 (some .int), .methodLink RX5 119 yX5_saves, .instanceMethod yX5_saves, .selects RX5 yX5_saves yX5_saves, .code yX5_saves cX5_saves 2 none, .fieldLink RX5 43 "CornerLabelsModel" "savedMany" "I", .fieldLink RX5 13 "CornerLabelsModel" "saved" "[I", .methodLink RX5 39 yX5_of, .instanceMethod yX5_of, .selects RX5 yX5_of yX5_of, .code yX5_of cX5_of 3 (some .int)] ++ wsX50)
def wsX5_resize_r1 : List Cond := [Cond.fieldLink RX5 31 "CornerLabelsModel" "thrown" "I", Cond.fieldLink RX5 7 "CornerLabelsModel" "s" "[I", Cond.methodLink RX5 129 yX5_isPoint, Cond.instanceMethod yX5_isPoint, Cond.selects RX5 yX5_isPoint yX5_isPoint, Cond.initialized RX5, Cond.code yX5_isPoint cX5_isPoint 2 (some .boolean), Cond.methodLink RX5 35 yX5_in, Cond.static yX5_in, Cond.code yX5_in cX5_in 3 (some .boolean), Cond.methodLink RX5 132 yX5_fails, Cond.instanceMethod yX5_fails, Cond.selects RX5 yX5_fails yX5_fails, Cond.code yX5_fails cX5_fails 2 (some .int), Cond.methodLink RX5 119 yX5_saves, Cond.instanceMethod yX5_saves, Cond.selects RX5 yX5_saves yX5_saves, Cond.code yX5_saves cX5_saves 2 none, Cond.fieldLink RX5 43 "CornerLabelsModel" "savedMany" "I", Cond.fieldLink RX5 13 "CornerLabelsModel" "saved" "[I", Cond.methodLink RX5 108 yX5_stands, Cond.instanceMethod yX5_stands, Cond.selects RX5 yX5_stands yX5_stands, Cond.code yX5_stands cX5_stands 3 none]
def wsX5_resize_r2 : List Cond := [Cond.methodLink RX5 102 yX5_openOf, Cond.instanceMethod yX5_openOf, Cond.selects RX5 yX5_openOf yX5_openOf, Cond.code yX5_openOf cX5_openOf 4 (some .int), Cond.methodLink RX5 62 yX5_isOpen, Cond.instanceMethod yX5_isOpen, Cond.selects RX5 yX5_isOpen yX5_isOpen, Cond.code yX5_isOpen cX5_isOpen 5 (some .boolean), Cond.methodLink RX5 46 yX5_left, Cond.instanceMethod yX5_left, Cond.selects RX5 yX5_left yX5_left, Cond.code yX5_left cX5_left 3 (some .int), Cond.methodLink RX5 39 yX5_of, Cond.instanceMethod yX5_of, Cond.selects RX5 yX5_of yX5_of, Cond.code yX5_of cX5_of 3 (some .int), Cond.methodLink RX5 52 yX5_right, Cond.instanceMethod yX5_right, Cond.selects RX5 yX5_right yX5_right, Cond.code yX5_right cX5_right 3 (some .int), Cond.methodLink RX5 49 yX5_low, Cond.instanceMethod yX5_low, Cond.selects RX5 yX5_low yX5_low, Cond.code yX5_low cX5_low 3 (some .int)]
def wsX5_resize_r3 : List Cond := [Cond.methodLink RX5 55 yX5_high, Cond.instanceMethod yX5_high, Cond.selects RX5 yX5_high yX5_high, Cond.code yX5_high cX5_high 3 (some .int), Cond.methodLink RX5 58 yX5_has, Cond.instanceMethod yX5_has, Cond.selects RX5 yX5_has yX5_has, Cond.code yX5_has cX5_has 5 (some .boolean), Cond.methodLink RX5 126 yX5_ones, Cond.static yX5_ones, Cond.code yX5_ones cX5_ones 1 (some .int)]
def wsX5_resize : List Cond := .code yX5_resize cX5_resize 4 (some .int) :: ((wsX5_resize_r1 ++ (wsX5_resize_r2 ++ wsX5_resize_r3)) ++ wsX50)
def wsX5_place_r1 : List Cond := [Cond.fieldLink RX5 31 "CornerLabelsModel" "thrown" "I", Cond.methodLink RX5 129 yX5_isPoint, Cond.instanceMethod yX5_isPoint, Cond.selects RX5 yX5_isPoint yX5_isPoint, Cond.initialized RX5, Cond.code yX5_isPoint cX5_isPoint 2 (some .boolean), Cond.fieldLink RX5 7 "CornerLabelsModel" "s" "[I", Cond.methodLink RX5 35 yX5_in, Cond.static yX5_in, Cond.code yX5_in cX5_in 3 (some .boolean), Cond.methodLink RX5 132 yX5_fails, Cond.instanceMethod yX5_fails, Cond.selects RX5 yX5_fails yX5_fails, Cond.code yX5_fails cX5_fails 2 (some .int), Cond.methodLink RX5 138 yX5_canStand, Cond.instanceMethod yX5_canStand, Cond.selects RX5 yX5_canStand yX5_canStand, Cond.code yX5_canStand cX5_canStand 5 (some .boolean), Cond.methodLink RX5 62 yX5_isOpen, Cond.instanceMethod yX5_isOpen, Cond.selects RX5 yX5_isOpen yX5_isOpen, Cond.code yX5_isOpen cX5_isOpen 5 (some .boolean), Cond.methodLink RX5 46 yX5_left, Cond.instanceMethod yX5_left]
def wsX5_place_r2 : List Cond := [Cond.selects RX5 yX5_left yX5_left, Cond.code yX5_left cX5_left 3 (some .int), Cond.methodLink RX5 39 yX5_of, Cond.instanceMethod yX5_of, Cond.selects RX5 yX5_of yX5_of, Cond.code yX5_of cX5_of 3 (some .int), Cond.methodLink RX5 52 yX5_right, Cond.instanceMethod yX5_right, Cond.selects RX5 yX5_right yX5_right, Cond.code yX5_right cX5_right 3 (some .int), Cond.methodLink RX5 49 yX5_low, Cond.instanceMethod yX5_low, Cond.selects RX5 yX5_low yX5_low, Cond.code yX5_low cX5_low 3 (some .int), Cond.methodLink RX5 55 yX5_high, Cond.instanceMethod yX5_high, Cond.selects RX5 yX5_high yX5_high, Cond.code yX5_high cX5_high 3 (some .int), Cond.methodLink RX5 58 yX5_has, Cond.instanceMethod yX5_has, Cond.selects RX5 yX5_has yX5_has, Cond.code yX5_has cX5_has 5 (some .boolean), Cond.methodLink RX5 72 yX5_cornerOf, Cond.instanceMethod yX5_cornerOf]
def wsX5_place_r3 : List Cond := [Cond.selects RX5 yX5_cornerOf yX5_cornerOf, Cond.code yX5_cornerOf cX5_cornerOf 2 (some .int), Cond.methodLink RX5 76 yX5_common, Cond.instanceMethod yX5_common, Cond.selects RX5 yX5_common yX5_common, Cond.code yX5_common cX5_common 7 (some .int), Cond.methodLink RX5 66 yX5_lesser, Cond.static yX5_lesser, Cond.code yX5_lesser cX5_lesser 2 (some .int), Cond.methodLink RX5 69 yX5_greater, Cond.static yX5_greater, Cond.code yX5_greater cX5_greater 2 (some .int), Cond.methodLink RX5 119 yX5_saves, Cond.instanceMethod yX5_saves, Cond.selects RX5 yX5_saves yX5_saves, Cond.code yX5_saves cX5_saves 2 none, Cond.fieldLink RX5 43 "CornerLabelsModel" "savedMany" "I", Cond.fieldLink RX5 13 "CornerLabelsModel" "saved" "[I", Cond.methodLink RX5 108 yX5_stands, Cond.instanceMethod yX5_stands, Cond.selects RX5 yX5_stands yX5_stands, Cond.code yX5_stands cX5_stands 3 none]
def wsX5_place : List Cond := .code yX5_place cX5_place 4 (some .int) :: ((wsX5_place_r1 ++ (wsX5_place_r2 ++ wsX5_place_r3)) ++ wsX50)
def wsX5_drop_r1 : List Cond := [Cond.fieldLink RX5 31 "CornerLabelsModel" "thrown" "I", Cond.methodLink RX5 129 yX5_isPoint, Cond.instanceMethod yX5_isPoint, Cond.selects RX5 yX5_isPoint yX5_isPoint, Cond.initialized RX5, Cond.code yX5_isPoint cX5_isPoint 2 (some .boolean), Cond.fieldLink RX5 7 "CornerLabelsModel" "s" "[I", Cond.methodLink RX5 35 yX5_in, Cond.static yX5_in, Cond.code yX5_in cX5_in 3 (some .boolean), Cond.methodLink RX5 132 yX5_fails, Cond.instanceMethod yX5_fails, Cond.selects RX5 yX5_fails yX5_fails, Cond.code yX5_fails cX5_fails 2 (some .int), Cond.methodLink RX5 119 yX5_saves, Cond.instanceMethod yX5_saves, Cond.selects RX5 yX5_saves yX5_saves, Cond.code yX5_saves cX5_saves 2 none, Cond.fieldLink RX5 43 "CornerLabelsModel" "savedMany" "I", Cond.fieldLink RX5 13 "CornerLabelsModel" "saved" "[I", Cond.methodLink RX5 72 yX5_cornerOf, Cond.instanceMethod yX5_cornerOf, Cond.selects RX5 yX5_cornerOf yX5_cornerOf, Cond.code yX5_cornerOf cX5_cornerOf 2 (some .int)]
def wsX5_drop_r2 : List Cond := [Cond.methodLink RX5 39 yX5_of, Cond.instanceMethod yX5_of, Cond.selects RX5 yX5_of yX5_of, Cond.code yX5_of cX5_of 3 (some .int), Cond.methodLink RX5 108 yX5_stands, Cond.instanceMethod yX5_stands, Cond.selects RX5 yX5_stands yX5_stands, Cond.code yX5_stands cX5_stands 3 none]
def wsX5_drop : List Cond := .code yX5_drop cX5_drop 3 (some .int) :: ((wsX5_drop_r1 ++ wsX5_drop_r2) ++ wsX50)
def wsX5_solve_r1 : List Cond := [Cond.fieldLink RX5 31 "CornerLabelsModel" "thrown" "I", Cond.methodLink RX5 119 yX5_saves, Cond.instanceMethod yX5_saves, Cond.selects RX5 yX5_saves yX5_saves, Cond.initialized RX5, Cond.code yX5_saves cX5_saves 2 none, Cond.fieldLink RX5 43 "CornerLabelsModel" "savedMany" "I", Cond.fieldLink RX5 13 "CornerLabelsModel" "saved" "[I", Cond.fieldLink RX5 7 "CornerLabelsModel" "s" "[I", Cond.methodLink RX5 141 yX5_heaviest, Cond.instanceMethod yX5_heaviest, Cond.selects RX5 yX5_heaviest yX5_heaviest, Cond.code yX5_heaviest cX5_heaviest 3 (some .int), Cond.fieldLink RX5 22 "CornerLabelsModel" "allowed" "[I", Cond.methodLink RX5 102 yX5_openOf, Cond.instanceMethod yX5_openOf, Cond.selects RX5 yX5_openOf yX5_openOf, Cond.code yX5_openOf cX5_openOf 4 (some .int), Cond.methodLink RX5 62 yX5_isOpen, Cond.instanceMethod yX5_isOpen, Cond.selects RX5 yX5_isOpen yX5_isOpen, Cond.code yX5_isOpen cX5_isOpen 5 (some .boolean), Cond.methodLink RX5 46 yX5_left, Cond.instanceMethod yX5_left]
def wsX5_solve_r2 : List Cond := [Cond.selects RX5 yX5_left yX5_left, Cond.code yX5_left cX5_left 3 (some .int), Cond.methodLink RX5 39 yX5_of, Cond.instanceMethod yX5_of, Cond.selects RX5 yX5_of yX5_of, Cond.code yX5_of cX5_of 3 (some .int), Cond.methodLink RX5 52 yX5_right, Cond.instanceMethod yX5_right, Cond.selects RX5 yX5_right yX5_right, Cond.code yX5_right cX5_right 3 (some .int), Cond.methodLink RX5 49 yX5_low, Cond.instanceMethod yX5_low, Cond.selects RX5 yX5_low yX5_low, Cond.code yX5_low cX5_low 3 (some .int), Cond.methodLink RX5 55 yX5_high, Cond.instanceMethod yX5_high, Cond.selects RX5 yX5_high yX5_high, Cond.code yX5_high cX5_high 3 (some .int), Cond.methodLink RX5 58 yX5_has, Cond.instanceMethod yX5_has, Cond.selects RX5 yX5_has yX5_has, Cond.code yX5_has cX5_has 5 (some .boolean), Cond.methodLink RX5 35 yX5_in, Cond.static yX5_in]
def wsX5_solve_r3 : List Cond := [Cond.code yX5_in cX5_in 3 (some .boolean), Cond.methodLink RX5 105 yX5_searches, Cond.instanceMethod yX5_searches, Cond.selects RX5 yX5_searches yX5_searches, Cond.code yX5_searches cX5_searches 3 (some .int), Cond.fieldLink RX5 80 "CornerLabelsModel" "looksFor" "I", Cond.fieldLink RX5 83 "CornerLabelsModel" "best" "I", Cond.fieldLink RX5 19 "CornerLabelsModel" "told" "[I", Cond.methodLink RX5 96 yX5_looksAt, Cond.instanceMethod yX5_looksAt, Cond.selects RX5 yX5_looksAt yX5_looksAt, Cond.code yX5_looksAt cX5_looksAt 2 none, Cond.fieldLink RX5 25 "CornerLabelsModel" "plan" "[I", Cond.methodLink RX5 92 yX5_canBe, Cond.instanceMethod yX5_canBe, Cond.selects RX5 yX5_canBe yX5_canBe, Cond.code yX5_canBe cX5_canBe 2 (some .boolean), Cond.methodLink RX5 86 yX5_worth, Cond.instanceMethod yX5_worth, Cond.selects RX5 yX5_worth yX5_worth, Cond.code yX5_worth cX5_worth 5 (some .int), Cond.methodLink RX5 72 yX5_cornerOf, Cond.instanceMethod yX5_cornerOf, Cond.selects RX5 yX5_cornerOf yX5_cornerOf]
def wsX5_solve_r4 : List Cond := [Cond.code yX5_cornerOf cX5_cornerOf 2 (some .int), Cond.methodLink RX5 89 yX5_weightFrom, Cond.instanceMethod yX5_weightFrom, Cond.selects RX5 yX5_weightFrom yX5_weightFrom, Cond.code yX5_weightFrom cX5_weightFrom 4 (some .int), Cond.methodLink RX5 99 yX5_fits, Cond.instanceMethod yX5_fits, Cond.selects RX5 yX5_fits yX5_fits, Cond.code yX5_fits cX5_fits 5 (some .boolean), Cond.methodLink RX5 76 yX5_common, Cond.instanceMethod yX5_common, Cond.selects RX5 yX5_common yX5_common, Cond.code yX5_common cX5_common 7 (some .int), Cond.methodLink RX5 66 yX5_lesser, Cond.static yX5_lesser, Cond.code yX5_lesser cX5_lesser 2 (some .int), Cond.methodLink RX5 69 yX5_greater, Cond.static yX5_greater, Cond.code yX5_greater cX5_greater 2 (some .int), Cond.methodLink RX5 144 yX5_lays, Cond.instanceMethod yX5_lays, Cond.selects RX5 yX5_lays yX5_lays, Cond.code yX5_lays cX5_lays 2 none, Cond.methodLink RX5 108 yX5_stands]
def wsX5_solve_r5 : List Cond := [Cond.instanceMethod yX5_stands, Cond.selects RX5 yX5_stands yX5_stands, Cond.code yX5_stands cX5_stands 3 none]
def wsX5_solve : List Cond := .code yX5_solve cX5_solve 2 (some .int) :: ((wsX5_solve_r1 ++ (wsX5_solve_r2 ++ (wsX5_solve_r3 ++ (wsX5_solve_r4 ++ wsX5_solve_r5)))) ++ wsX50)
def wsX5_push_r1 : List Cond := [Cond.fieldLink RX5 31 "CornerLabelsModel" "thrown" "I", Cond.methodLink RX5 129 yX5_isPoint, Cond.instanceMethod yX5_isPoint, Cond.selects RX5 yX5_isPoint yX5_isPoint, Cond.initialized RX5, Cond.code yX5_isPoint cX5_isPoint 2 (some .boolean), Cond.fieldLink RX5 7 "CornerLabelsModel" "s" "[I", Cond.methodLink RX5 35 yX5_in, Cond.static yX5_in, Cond.code yX5_in cX5_in 3 (some .boolean), Cond.methodLink RX5 132 yX5_fails, Cond.instanceMethod yX5_fails, Cond.selects RX5 yX5_fails yX5_fails, Cond.code yX5_fails cX5_fails 2 (some .int), Cond.methodLink RX5 147 yX5_makesRoom, Cond.instanceMethod yX5_makesRoom, Cond.selects RX5 yX5_makesRoom yX5_makesRoom, Cond.code yX5_makesRoom cX5_makesRoom 3 (some .int), Cond.fieldLink RX5 22 "CornerLabelsModel" "allowed" "[I", Cond.methodLink RX5 72 yX5_cornerOf, Cond.instanceMethod yX5_cornerOf, Cond.selects RX5 yX5_cornerOf yX5_cornerOf, Cond.code yX5_cornerOf cX5_cornerOf 2 (some .int), Cond.methodLink RX5 39 yX5_of]
def wsX5_push_r2 : List Cond := [Cond.instanceMethod yX5_of, Cond.selects RX5 yX5_of yX5_of, Cond.code yX5_of cX5_of 3 (some .int), Cond.methodLink RX5 102 yX5_openOf, Cond.instanceMethod yX5_openOf, Cond.selects RX5 yX5_openOf yX5_openOf, Cond.code yX5_openOf cX5_openOf 4 (some .int), Cond.methodLink RX5 62 yX5_isOpen, Cond.instanceMethod yX5_isOpen, Cond.selects RX5 yX5_isOpen yX5_isOpen, Cond.code yX5_isOpen cX5_isOpen 5 (some .boolean), Cond.methodLink RX5 46 yX5_left, Cond.instanceMethod yX5_left, Cond.selects RX5 yX5_left yX5_left, Cond.code yX5_left cX5_left 3 (some .int), Cond.methodLink RX5 52 yX5_right, Cond.instanceMethod yX5_right, Cond.selects RX5 yX5_right yX5_right, Cond.code yX5_right cX5_right 3 (some .int), Cond.methodLink RX5 49 yX5_low, Cond.instanceMethod yX5_low, Cond.selects RX5 yX5_low yX5_low, Cond.code yX5_low cX5_low 3 (some .int), Cond.methodLink RX5 55 yX5_high]
def wsX5_push_r3 : List Cond := [Cond.instanceMethod yX5_high, Cond.selects RX5 yX5_high yX5_high, Cond.code yX5_high cX5_high 3 (some .int), Cond.methodLink RX5 58 yX5_has, Cond.instanceMethod yX5_has, Cond.selects RX5 yX5_has yX5_has, Cond.code yX5_has cX5_has 5 (some .boolean), Cond.methodLink RX5 105 yX5_searches, Cond.instanceMethod yX5_searches, Cond.selects RX5 yX5_searches yX5_searches, Cond.code yX5_searches cX5_searches 3 (some .int), Cond.fieldLink RX5 80 "CornerLabelsModel" "looksFor" "I", Cond.fieldLink RX5 83 "CornerLabelsModel" "best" "I", Cond.fieldLink RX5 19 "CornerLabelsModel" "told" "[I", Cond.methodLink RX5 96 yX5_looksAt, Cond.instanceMethod yX5_looksAt, Cond.selects RX5 yX5_looksAt yX5_looksAt, Cond.code yX5_looksAt cX5_looksAt 2 none, Cond.fieldLink RX5 25 "CornerLabelsModel" "plan" "[I", Cond.methodLink RX5 92 yX5_canBe, Cond.instanceMethod yX5_canBe, Cond.selects RX5 yX5_canBe yX5_canBe, Cond.code yX5_canBe cX5_canBe 2 (some .boolean), Cond.methodLink RX5 86 yX5_worth]
def wsX5_push_r4 : List Cond := [Cond.instanceMethod yX5_worth, Cond.selects RX5 yX5_worth yX5_worth, Cond.code yX5_worth cX5_worth 5 (some .int), Cond.methodLink RX5 89 yX5_weightFrom, Cond.instanceMethod yX5_weightFrom, Cond.selects RX5 yX5_weightFrom yX5_weightFrom, Cond.code yX5_weightFrom cX5_weightFrom 4 (some .int), Cond.methodLink RX5 99 yX5_fits, Cond.instanceMethod yX5_fits, Cond.selects RX5 yX5_fits yX5_fits, Cond.code yX5_fits cX5_fits 5 (some .boolean), Cond.methodLink RX5 76 yX5_common, Cond.instanceMethod yX5_common, Cond.selects RX5 yX5_common yX5_common, Cond.code yX5_common cX5_common 7 (some .int), Cond.methodLink RX5 66 yX5_lesser, Cond.static yX5_lesser, Cond.code yX5_lesser cX5_lesser 2 (some .int), Cond.methodLink RX5 69 yX5_greater, Cond.static yX5_greater, Cond.code yX5_greater cX5_greater 2 (some .int), Cond.methodLink RX5 119 yX5_saves, Cond.instanceMethod yX5_saves, Cond.selects RX5 yX5_saves yX5_saves]
def wsX5_push_r5 : List Cond := [Cond.code yX5_saves cX5_saves 2 none, Cond.fieldLink RX5 43 "CornerLabelsModel" "savedMany" "I", Cond.fieldLink RX5 13 "CornerLabelsModel" "saved" "[I", Cond.methodLink RX5 144 yX5_lays, Cond.instanceMethod yX5_lays, Cond.selects RX5 yX5_lays yX5_lays, Cond.code yX5_lays cX5_lays 2 none, Cond.methodLink RX5 108 yX5_stands, Cond.instanceMethod yX5_stands, Cond.selects RX5 yX5_stands yX5_stands, Cond.code yX5_stands cX5_stands 3 none]
def wsX5_push : List Cond := .code yX5_push cX5_push 3 (some .int) :: ((wsX5_push_r1 ++ (wsX5_push_r2 ++ (wsX5_push_r3 ++ (wsX5_push_r4 ++ wsX5_push_r5)))) ++ wsX50)
def wsX5_standing : List Cond := .code yX5_standing cX5_standing 3 (some .int) :: ([.fieldLink RX5 7 "CornerLabelsModel" "s" "[I", .methodLink RX5 72 yX5_cornerOf, .instanceMethod yX5_cornerOf, .selects RX5 yX5_cornerOf yX5_cornerOf, .initialized RX5, .code yX5_cornerOf cX5_cornerOf 2 (some .int), .methodLink RX5 39 yX5_of, .instanceMethod yX5_of, .selects RX5 yX5_of yX5_of, .code yX5_of cX5_of 3 (some .int)] ++ wsX50)
def wsX5_mirror_r1 : List Cond := [Cond.fieldLink RX5 31 "CornerLabelsModel" "thrown" "I", Cond.fieldLink RX5 7 "CornerLabelsModel" "s" "[I", Cond.methodLink RX5 119 yX5_saves, Cond.instanceMethod yX5_saves, Cond.selects RX5 yX5_saves yX5_saves, Cond.initialized RX5, Cond.code yX5_saves cX5_saves 2 none, Cond.fieldLink RX5 43 "CornerLabelsModel" "savedMany" "I", Cond.fieldLink RX5 13 "CornerLabelsModel" "saved" "[I", Cond.methodLink RX5 39 yX5_of, Cond.instanceMethod yX5_of, Cond.selects RX5 yX5_of yX5_of, Cond.code yX5_of cX5_of 3 (some .int), Cond.methodLink RX5 72 yX5_cornerOf, Cond.instanceMethod yX5_cornerOf, Cond.selects RX5 yX5_cornerOf yX5_cornerOf, Cond.code yX5_cornerOf cX5_cornerOf 2 (some .int), Cond.methodLink RX5 108 yX5_stands, Cond.instanceMethod yX5_stands, Cond.selects RX5 yX5_stands yX5_stands, Cond.code yX5_stands cX5_stands 3 none, Cond.methodLink RX5 150 yX5_standing, Cond.instanceMethod yX5_standing, Cond.selects RX5 yX5_standing yX5_standing]
def wsX5_mirror_r2 : List Cond := [Cond.code yX5_standing cX5_standing 3 (some .int)]
def wsX5_mirror : List Cond := .code yX5_mirror cX5_mirror 2 (some .int) :: ((wsX5_mirror_r1 ++ wsX5_mirror_r2) ++ wsX50)
def wsX5_append : List Cond := .code yX5_append cX5_append 2 (some .int) :: ([.fieldLink RX5 31 "CornerLabelsModel" "thrown" "I", .fieldLink RX5 154 "CornerLabelsModel" "length" "I", .fieldLink RX5 16 "CornerLabelsModel" "buffer" "[I", .methodLink RX5 35 yX5_in, .static yX5_in, .initialized RX5, .code yX5_in cX5_in 3 (some .boolean), .methodLink RX5 132 yX5_fails, .instanceMethod yX5_fails, .selects RX5 yX5_fails yX5_fails, .code yX5_fails cX5_fails 2 (some .int)] ++ wsX50)
def wsX5_clearBuffer : List Cond := .code yX5_clearBuffer cX5_clearBuffer 2 (some .int) :: ([.fieldLink RX5 31 "CornerLabelsModel" "thrown" "I", .fieldLink RX5 154 "CornerLabelsModel" "length" "I"] ++ wsX50)
def wsX5_sign : List Cond := .code yX5_sign cX5_sign 1 (some .int) :: ([.fieldLink RX5 157 "CornerLabelsModel" "at" "I", .fieldLink RX5 154 "CornerLabelsModel" "length" "I", .fieldLink RX5 16 "CornerLabelsModel" "buffer" "[I"] ++ wsX50)
def wsX5_takes : List Cond := .code yX5_takes cX5_takes 3 (some .boolean) :: ([.fieldLink RX5 160 "CornerLabelsModel" "isWell" "Z", .fieldLink RX5 157 "CornerLabelsModel" "at" "I", .methodLink RX5 164 yX5_sign, .instanceMethod yX5_sign, .selects RX5 yX5_sign yX5_sign, .initialized RX5, .code yX5_sign cX5_sign 1 (some .int), .fieldLink RX5 154 "CornerLabelsModel" "length" "I", .fieldLink RX5 16 "CornerLabelsModel" "buffer" "[I"] ++ wsX50)
def wsX5_number : List Cond := .code yX5_number cX5_number 4 (some .int) :: ([.fieldLink RX5 160 "CornerLabelsModel" "isWell" "Z", .fieldLink RX5 157 "CornerLabelsModel" "at" "I", .methodLink RX5 164 yX5_sign, .instanceMethod yX5_sign, .selects RX5 yX5_sign yX5_sign, .initialized RX5, .code yX5_sign cX5_sign 1 (some .int), .fieldLink RX5 154 "CornerLabelsModel" "length" "I", .fieldLink RX5 16 "CornerLabelsModel" "buffer" "[I", .methodLink RX5 35 yX5_in, .static yX5_in, .code yX5_in cX5_in 3 (some .boolean)] ++ wsX50)
def wsX5_readsPoint : List Cond := .code yX5_readsPoint cX5_readsPoint 2 none :: ([.fieldLink RX5 167 "CornerLabelsModel" "readMany" "I", .fieldLink RX5 28 "CornerLabelsModel" "read" "[I", .fieldLink RX5 160 "CornerLabelsModel" "isWell" "Z", .methodLink RX5 170 yX5_number, .instanceMethod yX5_number, .selects RX5 yX5_number yX5_number, .initialized RX5, .code yX5_number cX5_number 4 (some .int), .fieldLink RX5 157 "CornerLabelsModel" "at" "I", .methodLink RX5 164 yX5_sign, .instanceMethod yX5_sign, .selects RX5 yX5_sign yX5_sign, .code yX5_sign cX5_sign 1 (some .int), .fieldLink RX5 154 "CornerLabelsModel" "length" "I", .fieldLink RX5 16 "CornerLabelsModel" "buffer" "[I", .methodLink RX5 35 yX5_in, .static yX5_in, .code yX5_in cX5_in 3 (some .boolean), .methodLink RX5 173 yX5_takes, .instanceMethod yX5_takes, .selects RX5 yX5_takes yX5_takes, .code yX5_takes cX5_takes 3 (some .boolean)] ++ wsX50)
def wsX5_readsAll_r1 : List Cond := [Cond.fieldLink RX5 157 "CornerLabelsModel" "at" "I", Cond.fieldLink RX5 160 "CornerLabelsModel" "isWell" "Z", Cond.fieldLink RX5 167 "CornerLabelsModel" "readMany" "I", Cond.fieldLink RX5 154 "CornerLabelsModel" "length" "I", Cond.methodLink RX5 176 yX5_readsPoint, Cond.instanceMethod yX5_readsPoint, Cond.selects RX5 yX5_readsPoint yX5_readsPoint, Cond.initialized RX5, Cond.code yX5_readsPoint cX5_readsPoint 2 none, Cond.fieldLink RX5 28 "CornerLabelsModel" "read" "[I", Cond.methodLink RX5 170 yX5_number, Cond.instanceMethod yX5_number, Cond.selects RX5 yX5_number yX5_number, Cond.code yX5_number cX5_number 4 (some .int), Cond.methodLink RX5 164 yX5_sign, Cond.instanceMethod yX5_sign, Cond.selects RX5 yX5_sign yX5_sign, Cond.code yX5_sign cX5_sign 1 (some .int), Cond.fieldLink RX5 16 "CornerLabelsModel" "buffer" "[I", Cond.methodLink RX5 35 yX5_in, Cond.static yX5_in, Cond.code yX5_in cX5_in 3 (some .boolean), Cond.methodLink RX5 173 yX5_takes, Cond.instanceMethod yX5_takes]
def wsX5_readsAll_r2 : List Cond := [Cond.selects RX5 yX5_takes yX5_takes, Cond.code yX5_takes cX5_takes 3 (some .boolean)]
def wsX5_readsAll : List Cond := .code yX5_readsAll cX5_readsAll 1 none :: ((wsX5_readsAll_r1 ++ wsX5_readsAll_r2) ++ wsX50)
def wsX5_firstError_r1 : List Cond := [Cond.fieldLink RX5 31 "CornerLabelsModel" "thrown" "I", Cond.fieldLink RX5 157 "CornerLabelsModel" "at" "I", Cond.methodLink RX5 179 yX5_readsAll, Cond.instanceMethod yX5_readsAll, Cond.selects RX5 yX5_readsAll yX5_readsAll, Cond.initialized RX5, Cond.code yX5_readsAll cX5_readsAll 1 none, Cond.fieldLink RX5 160 "CornerLabelsModel" "isWell" "Z", Cond.fieldLink RX5 167 "CornerLabelsModel" "readMany" "I", Cond.fieldLink RX5 154 "CornerLabelsModel" "length" "I", Cond.methodLink RX5 176 yX5_readsPoint, Cond.instanceMethod yX5_readsPoint, Cond.selects RX5 yX5_readsPoint yX5_readsPoint, Cond.code yX5_readsPoint cX5_readsPoint 2 none, Cond.fieldLink RX5 28 "CornerLabelsModel" "read" "[I", Cond.methodLink RX5 170 yX5_number, Cond.instanceMethod yX5_number, Cond.selects RX5 yX5_number yX5_number, Cond.code yX5_number cX5_number 4 (some .int), Cond.methodLink RX5 164 yX5_sign, Cond.instanceMethod yX5_sign, Cond.selects RX5 yX5_sign yX5_sign, Cond.code yX5_sign cX5_sign 1 (some .int), Cond.fieldLink RX5 16 "CornerLabelsModel" "buffer" "[I"]
def wsX5_firstError_r2 : List Cond := [Cond.methodLink RX5 35 yX5_in, Cond.static yX5_in, Cond.code yX5_in cX5_in 3 (some .boolean), Cond.methodLink RX5 173 yX5_takes, Cond.instanceMethod yX5_takes, Cond.selects RX5 yX5_takes yX5_takes, Cond.code yX5_takes cX5_takes 3 (some .boolean)]
def wsX5_firstError : List Cond := .code yX5_firstError cX5_firstError 1 (some .int) :: ((wsX5_firstError_r1 ++ wsX5_firstError_r2) ++ wsX50)
def wsX5_read_r1 : List Cond := [Cond.fieldLink RX5 31 "CornerLabelsModel" "thrown" "I", Cond.fieldLink RX5 160 "CornerLabelsModel" "isWell" "Z", Cond.fieldLink RX5 154 "CornerLabelsModel" "length" "I", Cond.fieldLink RX5 167 "CornerLabelsModel" "readMany" "I", Cond.fieldLink RX5 28 "CornerLabelsModel" "read" "[I", Cond.methodLink RX5 179 yX5_readsAll, Cond.instanceMethod yX5_readsAll, Cond.selects RX5 yX5_readsAll yX5_readsAll, Cond.initialized RX5, Cond.code yX5_readsAll cX5_readsAll 1 none, Cond.fieldLink RX5 157 "CornerLabelsModel" "at" "I", Cond.methodLink RX5 176 yX5_readsPoint, Cond.instanceMethod yX5_readsPoint, Cond.selects RX5 yX5_readsPoint yX5_readsPoint, Cond.code yX5_readsPoint cX5_readsPoint 2 none, Cond.methodLink RX5 170 yX5_number, Cond.instanceMethod yX5_number, Cond.selects RX5 yX5_number yX5_number, Cond.code yX5_number cX5_number 4 (some .int), Cond.methodLink RX5 164 yX5_sign, Cond.instanceMethod yX5_sign, Cond.selects RX5 yX5_sign yX5_sign, Cond.code yX5_sign cX5_sign 1 (some .int), Cond.fieldLink RX5 16 "CornerLabelsModel" "buffer" "[I"]
def wsX5_read_r2 : List Cond := [Cond.methodLink RX5 35 yX5_in, Cond.static yX5_in, Cond.code yX5_in cX5_in 3 (some .boolean), Cond.methodLink RX5 173 yX5_takes, Cond.instanceMethod yX5_takes, Cond.selects RX5 yX5_takes yX5_takes, Cond.code yX5_takes cX5_takes 3 (some .boolean), Cond.methodLink RX5 132 yX5_fails, Cond.instanceMethod yX5_fails, Cond.selects RX5 yX5_fails yX5_fails, Cond.code yX5_fails cX5_fails 2 (some .int), Cond.methodLink RX5 119 yX5_saves, Cond.instanceMethod yX5_saves, Cond.selects RX5 yX5_saves yX5_saves, Cond.code yX5_saves cX5_saves 2 none, Cond.fieldLink RX5 43 "CornerLabelsModel" "savedMany" "I", Cond.fieldLink RX5 13 "CornerLabelsModel" "saved" "[I", Cond.fieldLink RX5 7 "CornerLabelsModel" "s" "[I", Cond.methodLink RX5 115 yX5_refusesAdd, Cond.instanceMethod yX5_refusesAdd, Cond.selects RX5 yX5_refusesAdd yX5_refusesAdd, Cond.code yX5_refusesAdd cX5_refusesAdd 7 (some .int), Cond.methodLink RX5 112 yX5_pointAt, Cond.instanceMethod yX5_pointAt]
def wsX5_read_r3 : List Cond := [Cond.selects RX5 yX5_pointAt yX5_pointAt, Cond.code yX5_pointAt cX5_pointAt 4 (some .int), Cond.methodLink RX5 39 yX5_of, Cond.instanceMethod yX5_of, Cond.selects RX5 yX5_of yX5_of, Cond.code yX5_of cX5_of 3 (some .int), Cond.methodLink RX5 122 yX5_comes, Cond.instanceMethod yX5_comes, Cond.selects RX5 yX5_comes yX5_comes, Cond.code yX5_comes cX5_comes 7 none, Cond.methodLink RX5 72 yX5_cornerOf, Cond.instanceMethod yX5_cornerOf, Cond.selects RX5 yX5_cornerOf yX5_cornerOf, Cond.code yX5_cornerOf cX5_cornerOf 2 (some .int), Cond.methodLink RX5 58 yX5_has, Cond.instanceMethod yX5_has, Cond.selects RX5 yX5_has yX5_has, Cond.code yX5_has cX5_has 5 (some .boolean), Cond.methodLink RX5 46 yX5_left, Cond.instanceMethod yX5_left, Cond.selects RX5 yX5_left yX5_left, Cond.code yX5_left cX5_left 3 (some .int), Cond.methodLink RX5 52 yX5_right, Cond.instanceMethod yX5_right]
def wsX5_read_r4 : List Cond := [Cond.selects RX5 yX5_right yX5_right, Cond.code yX5_right cX5_right 3 (some .int), Cond.methodLink RX5 49 yX5_low, Cond.instanceMethod yX5_low, Cond.selects RX5 yX5_low yX5_low, Cond.code yX5_low cX5_low 3 (some .int), Cond.methodLink RX5 55 yX5_high, Cond.instanceMethod yX5_high, Cond.selects RX5 yX5_high yX5_high, Cond.code yX5_high cX5_high 3 (some .int), Cond.methodLink RX5 108 yX5_stands, Cond.instanceMethod yX5_stands, Cond.selects RX5 yX5_stands yX5_stands, Cond.code yX5_stands cX5_stands 3 none]
def wsX5_read : List Cond := .code yX5_read cX5_read 2 (some .int) :: ((wsX5_read_r1 ++ (wsX5_read_r2 ++ (wsX5_read_r3 ++ wsX5_read_r4))) ++ wsX50)
def wsX5_undo : List Cond := .code yX5_undo cX5_undo 2 (some .int) :: ([.fieldLink RX5 31 "CornerLabelsModel" "thrown" "I", .fieldLink RX5 43 "CornerLabelsModel" "savedMany" "I", .fieldLink RX5 7 "CornerLabelsModel" "s" "[I", .fieldLink RX5 13 "CornerLabelsModel" "saved" "[I", .methodLink RX5 132 yX5_fails, .instanceMethod yX5_fails, .selects RX5 yX5_fails yX5_fails, .initialized RX5, .code yX5_fails cX5_fails 2 (some .int)] ++ wsX50)
def wsX5_freeOf_r1 : List Cond := [Cond.methodLink RX5 138 yX5_canStand, Cond.instanceMethod yX5_canStand, Cond.selects RX5 yX5_canStand yX5_canStand, Cond.initialized RX5, Cond.code yX5_canStand cX5_canStand 5 (some .boolean), Cond.fieldLink RX5 7 "CornerLabelsModel" "s" "[I", Cond.methodLink RX5 62 yX5_isOpen, Cond.instanceMethod yX5_isOpen, Cond.selects RX5 yX5_isOpen yX5_isOpen, Cond.code yX5_isOpen cX5_isOpen 5 (some .boolean), Cond.methodLink RX5 46 yX5_left, Cond.instanceMethod yX5_left, Cond.selects RX5 yX5_left yX5_left, Cond.code yX5_left cX5_left 3 (some .int), Cond.methodLink RX5 39 yX5_of, Cond.instanceMethod yX5_of, Cond.selects RX5 yX5_of yX5_of, Cond.code yX5_of cX5_of 3 (some .int), Cond.methodLink RX5 52 yX5_right, Cond.instanceMethod yX5_right, Cond.selects RX5 yX5_right yX5_right, Cond.code yX5_right cX5_right 3 (some .int), Cond.methodLink RX5 49 yX5_low, Cond.instanceMethod yX5_low]
def wsX5_freeOf_r2 : List Cond := [Cond.selects RX5 yX5_low yX5_low, Cond.code yX5_low cX5_low 3 (some .int), Cond.methodLink RX5 55 yX5_high, Cond.instanceMethod yX5_high, Cond.selects RX5 yX5_high yX5_high, Cond.code yX5_high cX5_high 3 (some .int), Cond.methodLink RX5 58 yX5_has, Cond.instanceMethod yX5_has, Cond.selects RX5 yX5_has yX5_has, Cond.code yX5_has cX5_has 5 (some .boolean), Cond.methodLink RX5 35 yX5_in, Cond.static yX5_in, Cond.code yX5_in cX5_in 3 (some .boolean), Cond.methodLink RX5 72 yX5_cornerOf, Cond.instanceMethod yX5_cornerOf, Cond.selects RX5 yX5_cornerOf yX5_cornerOf, Cond.code yX5_cornerOf cX5_cornerOf 2 (some .int), Cond.methodLink RX5 76 yX5_common, Cond.instanceMethod yX5_common, Cond.selects RX5 yX5_common yX5_common, Cond.code yX5_common cX5_common 7 (some .int), Cond.methodLink RX5 66 yX5_lesser, Cond.static yX5_lesser, Cond.code yX5_lesser cX5_lesser 2 (some .int)]
def wsX5_freeOf_r3 : List Cond := [Cond.methodLink RX5 69 yX5_greater, Cond.static yX5_greater, Cond.code yX5_greater cX5_greater 2 (some .int)]
def wsX5_freeOf : List Cond := .code yX5_freeOf cX5_freeOf 4 (some .int) :: ((wsX5_freeOf_r1 ++ (wsX5_freeOf_r2 ++ wsX5_freeOf_r3)) ++ wsX50)
def wsX5_crosses_r1 : List Cond := [Cond.fieldLink RX5 7 "CornerLabelsModel" "s" "[I", Cond.methodLink RX5 39 yX5_of, Cond.instanceMethod yX5_of, Cond.selects RX5 yX5_of yX5_of, Cond.initialized RX5, Cond.code yX5_of cX5_of 3 (some .int), Cond.methodLink RX5 72 yX5_cornerOf, Cond.instanceMethod yX5_cornerOf, Cond.selects RX5 yX5_cornerOf yX5_cornerOf, Cond.code yX5_cornerOf cX5_cornerOf 2 (some .int), Cond.methodLink RX5 49 yX5_low, Cond.instanceMethod yX5_low, Cond.selects RX5 yX5_low yX5_low, Cond.code yX5_low cX5_low 3 (some .int), Cond.methodLink RX5 55 yX5_high, Cond.instanceMethod yX5_high, Cond.selects RX5 yX5_high yX5_high, Cond.code yX5_high cX5_high 3 (some .int), Cond.methodLink RX5 35 yX5_in, Cond.static yX5_in, Cond.code yX5_in cX5_in 3 (some .boolean), Cond.methodLink RX5 52 yX5_right, Cond.instanceMethod yX5_right, Cond.selects RX5 yX5_right yX5_right]
def wsX5_crosses_r2 : List Cond := [Cond.code yX5_right cX5_right 3 (some .int), Cond.methodLink RX5 46 yX5_left, Cond.instanceMethod yX5_left, Cond.selects RX5 yX5_left yX5_left, Cond.code yX5_left cX5_left 3 (some .int)]
def wsX5_crosses : List Cond := .code yX5_crosses cX5_crosses 6 (some .int) :: ((wsX5_crosses_r1 ++ wsX5_crosses_r2) ++ wsX50)
def wsX5_tellsPoint_r1 : List Cond := [Cond.methodLink RX5 72 yX5_cornerOf, Cond.instanceMethod yX5_cornerOf, Cond.selects RX5 yX5_cornerOf yX5_cornerOf, Cond.initialized RX5, Cond.code yX5_cornerOf cX5_cornerOf 2 (some .int), Cond.methodLink RX5 39 yX5_of, Cond.instanceMethod yX5_of, Cond.selects RX5 yX5_of yX5_of, Cond.code yX5_of cX5_of 3 (some .int), Cond.fieldLink RX5 7 "CornerLabelsModel" "s" "[I", Cond.methodLink RX5 102 yX5_openOf, Cond.instanceMethod yX5_openOf, Cond.selects RX5 yX5_openOf yX5_openOf, Cond.code yX5_openOf cX5_openOf 4 (some .int), Cond.methodLink RX5 62 yX5_isOpen, Cond.instanceMethod yX5_isOpen, Cond.selects RX5 yX5_isOpen yX5_isOpen, Cond.code yX5_isOpen cX5_isOpen 5 (some .boolean), Cond.methodLink RX5 46 yX5_left, Cond.instanceMethod yX5_left, Cond.selects RX5 yX5_left yX5_left, Cond.code yX5_left cX5_left 3 (some .int), Cond.methodLink RX5 52 yX5_right, Cond.instanceMethod yX5_right]
def wsX5_tellsPoint_r2 : List Cond := [Cond.selects RX5 yX5_right yX5_right, Cond.code yX5_right cX5_right 3 (some .int), Cond.methodLink RX5 49 yX5_low, Cond.instanceMethod yX5_low, Cond.selects RX5 yX5_low yX5_low, Cond.code yX5_low cX5_low 3 (some .int), Cond.methodLink RX5 55 yX5_high, Cond.instanceMethod yX5_high, Cond.selects RX5 yX5_high yX5_high, Cond.code yX5_high cX5_high 3 (some .int), Cond.methodLink RX5 58 yX5_has, Cond.instanceMethod yX5_has, Cond.selects RX5 yX5_has yX5_has, Cond.code yX5_has cX5_has 5 (some .boolean), Cond.methodLink RX5 35 yX5_in, Cond.static yX5_in, Cond.code yX5_in cX5_in 3 (some .boolean), Cond.methodLink RX5 182 yX5_freeOf, Cond.instanceMethod yX5_freeOf, Cond.selects RX5 yX5_freeOf yX5_freeOf, Cond.code yX5_freeOf cX5_freeOf 4 (some .int), Cond.methodLink RX5 138 yX5_canStand, Cond.instanceMethod yX5_canStand, Cond.selects RX5 yX5_canStand yX5_canStand]
def wsX5_tellsPoint_r3 : List Cond := [Cond.code yX5_canStand cX5_canStand 5 (some .boolean), Cond.methodLink RX5 76 yX5_common, Cond.instanceMethod yX5_common, Cond.selects RX5 yX5_common yX5_common, Cond.code yX5_common cX5_common 7 (some .int), Cond.methodLink RX5 66 yX5_lesser, Cond.static yX5_lesser, Cond.code yX5_lesser cX5_lesser 2 (some .int), Cond.methodLink RX5 69 yX5_greater, Cond.static yX5_greater, Cond.code yX5_greater cX5_greater 2 (some .int), Cond.methodLink RX5 185 yX5_crosses, Cond.instanceMethod yX5_crosses, Cond.selects RX5 yX5_crosses yX5_crosses, Cond.code yX5_crosses cX5_crosses 6 (some .int)]
def wsX5_tellsPoint : List Cond := .code yX5_tellsPoint cX5_tellsPoint 3 (some .int) :: ((wsX5_tellsPoint_r1 ++ (wsX5_tellsPoint_r2 ++ wsX5_tellsPoint_r3)) ++ wsX50)
def wsX5_point_r1 : List Cond := [Cond.fieldLink RX5 31 "CornerLabelsModel" "thrown" "I", Cond.methodLink RX5 129 yX5_isPoint, Cond.instanceMethod yX5_isPoint, Cond.selects RX5 yX5_isPoint yX5_isPoint, Cond.initialized RX5, Cond.code yX5_isPoint cX5_isPoint 2 (some .boolean), Cond.fieldLink RX5 7 "CornerLabelsModel" "s" "[I", Cond.methodLink RX5 35 yX5_in, Cond.static yX5_in, Cond.code yX5_in cX5_in 3 (some .boolean), Cond.methodLink RX5 132 yX5_fails, Cond.instanceMethod yX5_fails, Cond.selects RX5 yX5_fails yX5_fails, Cond.code yX5_fails cX5_fails 2 (some .int), Cond.methodLink RX5 188 yX5_tellsPoint, Cond.instanceMethod yX5_tellsPoint, Cond.selects RX5 yX5_tellsPoint yX5_tellsPoint, Cond.code yX5_tellsPoint cX5_tellsPoint 3 (some .int), Cond.methodLink RX5 72 yX5_cornerOf, Cond.instanceMethod yX5_cornerOf, Cond.selects RX5 yX5_cornerOf yX5_cornerOf, Cond.code yX5_cornerOf cX5_cornerOf 2 (some .int), Cond.methodLink RX5 39 yX5_of, Cond.instanceMethod yX5_of]
def wsX5_point_r2 : List Cond := [Cond.selects RX5 yX5_of yX5_of, Cond.code yX5_of cX5_of 3 (some .int), Cond.methodLink RX5 102 yX5_openOf, Cond.instanceMethod yX5_openOf, Cond.selects RX5 yX5_openOf yX5_openOf, Cond.code yX5_openOf cX5_openOf 4 (some .int), Cond.methodLink RX5 62 yX5_isOpen, Cond.instanceMethod yX5_isOpen, Cond.selects RX5 yX5_isOpen yX5_isOpen, Cond.code yX5_isOpen cX5_isOpen 5 (some .boolean), Cond.methodLink RX5 46 yX5_left, Cond.instanceMethod yX5_left, Cond.selects RX5 yX5_left yX5_left, Cond.code yX5_left cX5_left 3 (some .int), Cond.methodLink RX5 52 yX5_right, Cond.instanceMethod yX5_right, Cond.selects RX5 yX5_right yX5_right, Cond.code yX5_right cX5_right 3 (some .int), Cond.methodLink RX5 49 yX5_low, Cond.instanceMethod yX5_low, Cond.selects RX5 yX5_low yX5_low, Cond.code yX5_low cX5_low 3 (some .int), Cond.methodLink RX5 55 yX5_high, Cond.instanceMethod yX5_high]
def wsX5_point_r3 : List Cond := [Cond.selects RX5 yX5_high yX5_high, Cond.code yX5_high cX5_high 3 (some .int), Cond.methodLink RX5 58 yX5_has, Cond.instanceMethod yX5_has, Cond.selects RX5 yX5_has yX5_has, Cond.code yX5_has cX5_has 5 (some .boolean), Cond.methodLink RX5 182 yX5_freeOf, Cond.instanceMethod yX5_freeOf, Cond.selects RX5 yX5_freeOf yX5_freeOf, Cond.code yX5_freeOf cX5_freeOf 4 (some .int), Cond.methodLink RX5 138 yX5_canStand, Cond.instanceMethod yX5_canStand, Cond.selects RX5 yX5_canStand yX5_canStand, Cond.code yX5_canStand cX5_canStand 5 (some .boolean), Cond.methodLink RX5 76 yX5_common, Cond.instanceMethod yX5_common, Cond.selects RX5 yX5_common yX5_common, Cond.code yX5_common cX5_common 7 (some .int), Cond.methodLink RX5 66 yX5_lesser, Cond.static yX5_lesser, Cond.code yX5_lesser cX5_lesser 2 (some .int), Cond.methodLink RX5 69 yX5_greater, Cond.static yX5_greater, Cond.code yX5_greater cX5_greater 2 (some .int)]
def wsX5_point_r4 : List Cond := [Cond.methodLink RX5 185 yX5_crosses, Cond.instanceMethod yX5_crosses, Cond.selects RX5 yX5_crosses yX5_crosses, Cond.code yX5_crosses cX5_crosses 6 (some .int)]
def wsX5_point : List Cond := .code yX5_point cX5_point 3 (some .int) :: ((wsX5_point_r1 ++ (wsX5_point_r2 ++ (wsX5_point_r3 ++ wsX5_point_r4))) ++ wsX50)
def wsX5_clash_r1 : List Cond := [Cond.fieldLink RX5 31 "CornerLabelsModel" "thrown" "I", Cond.methodLink RX5 129 yX5_isPoint, Cond.instanceMethod yX5_isPoint, Cond.selects RX5 yX5_isPoint yX5_isPoint, Cond.initialized RX5, Cond.code yX5_isPoint cX5_isPoint 2 (some .boolean), Cond.fieldLink RX5 7 "CornerLabelsModel" "s" "[I", Cond.methodLink RX5 35 yX5_in, Cond.static yX5_in, Cond.code yX5_in cX5_in 3 (some .boolean), Cond.methodLink RX5 132 yX5_fails, Cond.instanceMethod yX5_fails, Cond.selects RX5 yX5_fails yX5_fails, Cond.code yX5_fails cX5_fails 2 (some .int), Cond.methodLink RX5 76 yX5_common, Cond.instanceMethod yX5_common, Cond.selects RX5 yX5_common yX5_common, Cond.code yX5_common cX5_common 7 (some .int), Cond.methodLink RX5 52 yX5_right, Cond.instanceMethod yX5_right, Cond.selects RX5 yX5_right yX5_right, Cond.code yX5_right cX5_right 3 (some .int), Cond.methodLink RX5 46 yX5_left, Cond.instanceMethod yX5_left]
def wsX5_clash_r2 : List Cond := [Cond.selects RX5 yX5_left yX5_left, Cond.code yX5_left cX5_left 3 (some .int), Cond.methodLink RX5 39 yX5_of, Cond.instanceMethod yX5_of, Cond.selects RX5 yX5_of yX5_of, Cond.code yX5_of cX5_of 3 (some .int), Cond.methodLink RX5 66 yX5_lesser, Cond.static yX5_lesser, Cond.code yX5_lesser cX5_lesser 2 (some .int), Cond.methodLink RX5 69 yX5_greater, Cond.static yX5_greater, Cond.code yX5_greater cX5_greater 2 (some .int), Cond.methodLink RX5 55 yX5_high, Cond.instanceMethod yX5_high, Cond.selects RX5 yX5_high yX5_high, Cond.code yX5_high cX5_high 3 (some .int), Cond.methodLink RX5 49 yX5_low, Cond.instanceMethod yX5_low, Cond.selects RX5 yX5_low yX5_low, Cond.code yX5_low cX5_low 3 (some .int)]
def wsX5_clash : List Cond := .code yX5_clash cX5_clash 5 (some .int) :: ((wsX5_clash_r1 ++ wsX5_clash_r2) ++ wsX50)
def wsX5_tellsAt_r1 : List Cond := [Cond.fieldLink RX5 7 "CornerLabelsModel" "s" "[I", Cond.methodLink RX5 72 yX5_cornerOf, Cond.instanceMethod yX5_cornerOf, Cond.selects RX5 yX5_cornerOf yX5_cornerOf, Cond.initialized RX5, Cond.code yX5_cornerOf cX5_cornerOf 2 (some .int), Cond.methodLink RX5 39 yX5_of, Cond.instanceMethod yX5_of, Cond.selects RX5 yX5_of yX5_of, Cond.code yX5_of cX5_of 3 (some .int), Cond.methodLink RX5 58 yX5_has, Cond.instanceMethod yX5_has, Cond.selects RX5 yX5_has yX5_has, Cond.code yX5_has cX5_has 5 (some .boolean), Cond.methodLink RX5 46 yX5_left, Cond.instanceMethod yX5_left, Cond.selects RX5 yX5_left yX5_left, Cond.code yX5_left cX5_left 3 (some .int), Cond.methodLink RX5 52 yX5_right, Cond.instanceMethod yX5_right, Cond.selects RX5 yX5_right yX5_right, Cond.code yX5_right cX5_right 3 (some .int), Cond.methodLink RX5 35 yX5_in, Cond.static yX5_in]
def wsX5_tellsAt_r2 : List Cond := [Cond.code yX5_in cX5_in 3 (some .boolean), Cond.methodLink RX5 49 yX5_low, Cond.instanceMethod yX5_low, Cond.selects RX5 yX5_low yX5_low, Cond.code yX5_low cX5_low 3 (some .int), Cond.methodLink RX5 55 yX5_high, Cond.instanceMethod yX5_high, Cond.selects RX5 yX5_high yX5_high, Cond.code yX5_high cX5_high 3 (some .int), Cond.methodLink RX5 112 yX5_pointAt, Cond.instanceMethod yX5_pointAt, Cond.selects RX5 yX5_pointAt yX5_pointAt, Cond.code yX5_pointAt cX5_pointAt 4 (some .int)]
def wsX5_tellsAt : List Cond := .code yX5_tellsAt cX5_tellsAt 4 (some .int) :: ((wsX5_tellsAt_r1 ++ wsX5_tellsAt_r2) ++ wsX50)
def wsX5_at_r1 : List Cond := [Cond.fieldLink RX5 31 "CornerLabelsModel" "thrown" "I", Cond.methodLink RX5 35 yX5_in, Cond.static yX5_in, Cond.initialized RX5, Cond.code yX5_in cX5_in 3 (some .boolean), Cond.methodLink RX5 191 yX5_tellsAt, Cond.instanceMethod yX5_tellsAt, Cond.selects RX5 yX5_tellsAt yX5_tellsAt, Cond.code yX5_tellsAt cX5_tellsAt 4 (some .int), Cond.fieldLink RX5 7 "CornerLabelsModel" "s" "[I", Cond.methodLink RX5 72 yX5_cornerOf, Cond.instanceMethod yX5_cornerOf, Cond.selects RX5 yX5_cornerOf yX5_cornerOf, Cond.code yX5_cornerOf cX5_cornerOf 2 (some .int), Cond.methodLink RX5 39 yX5_of, Cond.instanceMethod yX5_of, Cond.selects RX5 yX5_of yX5_of, Cond.code yX5_of cX5_of 3 (some .int), Cond.methodLink RX5 58 yX5_has, Cond.instanceMethod yX5_has, Cond.selects RX5 yX5_has yX5_has, Cond.code yX5_has cX5_has 5 (some .boolean), Cond.methodLink RX5 46 yX5_left, Cond.instanceMethod yX5_left]
def wsX5_at_r2 : List Cond := [Cond.selects RX5 yX5_left yX5_left, Cond.code yX5_left cX5_left 3 (some .int), Cond.methodLink RX5 52 yX5_right, Cond.instanceMethod yX5_right, Cond.selects RX5 yX5_right yX5_right, Cond.code yX5_right cX5_right 3 (some .int), Cond.methodLink RX5 49 yX5_low, Cond.instanceMethod yX5_low, Cond.selects RX5 yX5_low yX5_low, Cond.code yX5_low cX5_low 3 (some .int), Cond.methodLink RX5 55 yX5_high, Cond.instanceMethod yX5_high, Cond.selects RX5 yX5_high yX5_high, Cond.code yX5_high cX5_high 3 (some .int), Cond.methodLink RX5 112 yX5_pointAt, Cond.instanceMethod yX5_pointAt, Cond.selects RX5 yX5_pointAt yX5_pointAt, Cond.code yX5_pointAt cX5_pointAt 4 (some .int), Cond.methodLink RX5 132 yX5_fails, Cond.instanceMethod yX5_fails, Cond.selects RX5 yX5_fails yX5_fails, Cond.code yX5_fails cX5_fails 2 (some .int)]
def wsX5_at : List Cond := .code yX5_at cX5_at 3 (some .int) :: ((wsX5_at_r1 ++ wsX5_at_r2) ++ wsX50)
def wsX5_weightOf : List Cond := .code yX5_weightOf cX5_weightOf 4 (some .int) :: ([.fieldLink RX5 7 "CornerLabelsModel" "s" "[I", .methodLink RX5 72 yX5_cornerOf, .instanceMethod yX5_cornerOf, .selects RX5 yX5_cornerOf yX5_cornerOf, .initialized RX5, .code yX5_cornerOf cX5_cornerOf 2 (some .int), .methodLink RX5 39 yX5_of, .instanceMethod yX5_of, .selects RX5 yX5_of yX5_of, .code yX5_of cX5_of 3 (some .int)] ++ wsX50)
def wsX5_squares : List Cond := .code yX5_squares cX5_squares 3 (some .int) :: ([.fieldLink RX5 7 "CornerLabelsModel" "s" "[I", .methodLink RX5 72 yX5_cornerOf, .instanceMethod yX5_cornerOf, .selects RX5 yX5_cornerOf yX5_cornerOf, .initialized RX5, .code yX5_cornerOf cX5_cornerOf 2 (some .int), .methodLink RX5 39 yX5_of, .instanceMethod yX5_of, .selects RX5 yX5_of yX5_of, .code yX5_of cX5_of 3 (some .int)] ++ wsX50)
def wsX5_closedMany_r1 : List Cond := [Cond.fieldLink RX5 7 "CornerLabelsModel" "s" "[I", Cond.methodLink RX5 102 yX5_openOf, Cond.instanceMethod yX5_openOf, Cond.selects RX5 yX5_openOf yX5_openOf, Cond.initialized RX5, Cond.code yX5_openOf cX5_openOf 4 (some .int), Cond.methodLink RX5 62 yX5_isOpen, Cond.instanceMethod yX5_isOpen, Cond.selects RX5 yX5_isOpen yX5_isOpen, Cond.code yX5_isOpen cX5_isOpen 5 (some .boolean), Cond.methodLink RX5 46 yX5_left, Cond.instanceMethod yX5_left, Cond.selects RX5 yX5_left yX5_left, Cond.code yX5_left cX5_left 3 (some .int), Cond.methodLink RX5 39 yX5_of, Cond.instanceMethod yX5_of, Cond.selects RX5 yX5_of yX5_of, Cond.code yX5_of cX5_of 3 (some .int), Cond.methodLink RX5 52 yX5_right, Cond.instanceMethod yX5_right, Cond.selects RX5 yX5_right yX5_right, Cond.code yX5_right cX5_right 3 (some .int), Cond.methodLink RX5 49 yX5_low, Cond.instanceMethod yX5_low]
def wsX5_closedMany_r2 : List Cond := [Cond.selects RX5 yX5_low yX5_low, Cond.code yX5_low cX5_low 3 (some .int), Cond.methodLink RX5 55 yX5_high, Cond.instanceMethod yX5_high, Cond.selects RX5 yX5_high yX5_high, Cond.code yX5_high cX5_high 3 (some .int), Cond.methodLink RX5 58 yX5_has, Cond.instanceMethod yX5_has, Cond.selects RX5 yX5_has yX5_has, Cond.code yX5_has cX5_has 5 (some .boolean), Cond.methodLink RX5 35 yX5_in, Cond.static yX5_in, Cond.code yX5_in cX5_in 3 (some .boolean)]
def wsX5_closedMany : List Cond := .code yX5_closedMany cX5_closedMany 3 (some .int) :: ((wsX5_closedMany_r1 ++ wsX5_closedMany_r2) ++ wsX50)
def wsX5_mayClash_r1 : List Cond := [Cond.methodLink RX5 62 yX5_isOpen, Cond.instanceMethod yX5_isOpen, Cond.selects RX5 yX5_isOpen yX5_isOpen, Cond.initialized RX5, Cond.code yX5_isOpen cX5_isOpen 5 (some .boolean), Cond.fieldLink RX5 7 "CornerLabelsModel" "s" "[I", Cond.methodLink RX5 46 yX5_left, Cond.instanceMethod yX5_left, Cond.selects RX5 yX5_left yX5_left, Cond.code yX5_left cX5_left 3 (some .int), Cond.methodLink RX5 39 yX5_of, Cond.instanceMethod yX5_of, Cond.selects RX5 yX5_of yX5_of, Cond.code yX5_of cX5_of 3 (some .int), Cond.methodLink RX5 52 yX5_right, Cond.instanceMethod yX5_right, Cond.selects RX5 yX5_right yX5_right, Cond.code yX5_right cX5_right 3 (some .int), Cond.methodLink RX5 49 yX5_low, Cond.instanceMethod yX5_low, Cond.selects RX5 yX5_low yX5_low, Cond.code yX5_low cX5_low 3 (some .int), Cond.methodLink RX5 55 yX5_high, Cond.instanceMethod yX5_high]
def wsX5_mayClash_r2 : List Cond := [Cond.selects RX5 yX5_high yX5_high, Cond.code yX5_high cX5_high 3 (some .int), Cond.methodLink RX5 58 yX5_has, Cond.instanceMethod yX5_has, Cond.selects RX5 yX5_has yX5_has, Cond.code yX5_has cX5_has 5 (some .boolean), Cond.methodLink RX5 35 yX5_in, Cond.static yX5_in, Cond.code yX5_in cX5_in 3 (some .boolean), Cond.methodLink RX5 76 yX5_common, Cond.instanceMethod yX5_common, Cond.selects RX5 yX5_common yX5_common, Cond.code yX5_common cX5_common 7 (some .int), Cond.methodLink RX5 66 yX5_lesser, Cond.static yX5_lesser, Cond.code yX5_lesser cX5_lesser 2 (some .int), Cond.methodLink RX5 69 yX5_greater, Cond.static yX5_greater, Cond.code yX5_greater cX5_greater 2 (some .int)]
def wsX5_mayClash : List Cond := .code yX5_mayClash cX5_mayClash 5 (some .boolean) :: ((wsX5_mayClash_r1 ++ wsX5_mayClash_r2) ++ wsX50)
def wsX5_clashing_r1 : List Cond := [Cond.fieldLink RX5 7 "CornerLabelsModel" "s" "[I", Cond.methodLink RX5 194 yX5_mayClash, Cond.instanceMethod yX5_mayClash, Cond.selects RX5 yX5_mayClash yX5_mayClash, Cond.initialized RX5, Cond.code yX5_mayClash cX5_mayClash 5 (some .boolean), Cond.methodLink RX5 62 yX5_isOpen, Cond.instanceMethod yX5_isOpen, Cond.selects RX5 yX5_isOpen yX5_isOpen, Cond.code yX5_isOpen cX5_isOpen 5 (some .boolean), Cond.methodLink RX5 46 yX5_left, Cond.instanceMethod yX5_left, Cond.selects RX5 yX5_left yX5_left, Cond.code yX5_left cX5_left 3 (some .int), Cond.methodLink RX5 39 yX5_of, Cond.instanceMethod yX5_of, Cond.selects RX5 yX5_of yX5_of, Cond.code yX5_of cX5_of 3 (some .int), Cond.methodLink RX5 52 yX5_right, Cond.instanceMethod yX5_right, Cond.selects RX5 yX5_right yX5_right, Cond.code yX5_right cX5_right 3 (some .int), Cond.methodLink RX5 49 yX5_low, Cond.instanceMethod yX5_low]
def wsX5_clashing_r2 : List Cond := [Cond.selects RX5 yX5_low yX5_low, Cond.code yX5_low cX5_low 3 (some .int), Cond.methodLink RX5 55 yX5_high, Cond.instanceMethod yX5_high, Cond.selects RX5 yX5_high yX5_high, Cond.code yX5_high cX5_high 3 (some .int), Cond.methodLink RX5 58 yX5_has, Cond.instanceMethod yX5_has, Cond.selects RX5 yX5_has yX5_has, Cond.code yX5_has cX5_has 5 (some .boolean), Cond.methodLink RX5 35 yX5_in, Cond.static yX5_in, Cond.code yX5_in cX5_in 3 (some .boolean), Cond.methodLink RX5 76 yX5_common, Cond.instanceMethod yX5_common, Cond.selects RX5 yX5_common yX5_common, Cond.code yX5_common cX5_common 7 (some .int), Cond.methodLink RX5 66 yX5_lesser, Cond.static yX5_lesser, Cond.code yX5_lesser cX5_lesser 2 (some .int), Cond.methodLink RX5 69 yX5_greater, Cond.static yX5_greater, Cond.code yX5_greater cX5_greater 2 (some .int)]
def wsX5_clashing : List Cond := .code yX5_clashing cX5_clashing 4 (some .int) :: ((wsX5_clashing_r1 ++ wsX5_clashing_r2) ++ wsX50)
def wsX5_crossed_r1 : List Cond := [Cond.fieldLink RX5 7 "CornerLabelsModel" "s" "[I", Cond.methodLink RX5 72 yX5_cornerOf, Cond.instanceMethod yX5_cornerOf, Cond.selects RX5 yX5_cornerOf yX5_cornerOf, Cond.initialized RX5, Cond.code yX5_cornerOf cX5_cornerOf 2 (some .int), Cond.methodLink RX5 39 yX5_of, Cond.instanceMethod yX5_of, Cond.selects RX5 yX5_of yX5_of, Cond.code yX5_of cX5_of 3 (some .int), Cond.methodLink RX5 185 yX5_crosses, Cond.instanceMethod yX5_crosses, Cond.selects RX5 yX5_crosses yX5_crosses, Cond.code yX5_crosses cX5_crosses 6 (some .int), Cond.methodLink RX5 49 yX5_low, Cond.instanceMethod yX5_low, Cond.selects RX5 yX5_low yX5_low, Cond.code yX5_low cX5_low 3 (some .int), Cond.methodLink RX5 55 yX5_high, Cond.instanceMethod yX5_high, Cond.selects RX5 yX5_high yX5_high, Cond.code yX5_high cX5_high 3 (some .int), Cond.methodLink RX5 35 yX5_in, Cond.static yX5_in]
def wsX5_crossed_r2 : List Cond := [Cond.code yX5_in cX5_in 3 (some .boolean), Cond.methodLink RX5 52 yX5_right, Cond.instanceMethod yX5_right, Cond.selects RX5 yX5_right yX5_right, Cond.code yX5_right cX5_right 3 (some .int), Cond.methodLink RX5 46 yX5_left, Cond.instanceMethod yX5_left, Cond.selects RX5 yX5_left yX5_left, Cond.code yX5_left cX5_left 3 (some .int)]
def wsX5_crossed : List Cond := .code yX5_crossed cX5_crossed 3 (some .int) :: ((wsX5_crossed_r1 ++ wsX5_crossed_r2) ++ wsX50)
def wsX5_counts_r1 : List Cond := [Cond.fieldLink RX5 7 "CornerLabelsModel" "s" "[I", Cond.fieldLink RX5 43 "CornerLabelsModel" "savedMany" "I", Cond.methodLink RX5 150 yX5_standing, Cond.instanceMethod yX5_standing, Cond.selects RX5 yX5_standing yX5_standing, Cond.initialized RX5, Cond.code yX5_standing cX5_standing 3 (some .int), Cond.methodLink RX5 72 yX5_cornerOf, Cond.instanceMethod yX5_cornerOf, Cond.selects RX5 yX5_cornerOf yX5_cornerOf, Cond.code yX5_cornerOf cX5_cornerOf 2 (some .int), Cond.methodLink RX5 39 yX5_of, Cond.instanceMethod yX5_of, Cond.selects RX5 yX5_of yX5_of, Cond.code yX5_of cX5_of 3 (some .int), Cond.methodLink RX5 197 yX5_weightOf, Cond.instanceMethod yX5_weightOf, Cond.selects RX5 yX5_weightOf yX5_weightOf, Cond.code yX5_weightOf cX5_weightOf 4 (some .int), Cond.methodLink RX5 201 yX5_squares, Cond.instanceMethod yX5_squares, Cond.selects RX5 yX5_squares yX5_squares, Cond.code yX5_squares cX5_squares 3 (some .int), Cond.methodLink RX5 204 yX5_closedMany]
def wsX5_counts_r2 : List Cond := [Cond.instanceMethod yX5_closedMany, Cond.selects RX5 yX5_closedMany yX5_closedMany, Cond.code yX5_closedMany cX5_closedMany 3 (some .int), Cond.methodLink RX5 102 yX5_openOf, Cond.instanceMethod yX5_openOf, Cond.selects RX5 yX5_openOf yX5_openOf, Cond.code yX5_openOf cX5_openOf 4 (some .int), Cond.methodLink RX5 62 yX5_isOpen, Cond.instanceMethod yX5_isOpen, Cond.selects RX5 yX5_isOpen yX5_isOpen, Cond.code yX5_isOpen cX5_isOpen 5 (some .boolean), Cond.methodLink RX5 46 yX5_left, Cond.instanceMethod yX5_left, Cond.selects RX5 yX5_left yX5_left, Cond.code yX5_left cX5_left 3 (some .int), Cond.methodLink RX5 52 yX5_right, Cond.instanceMethod yX5_right, Cond.selects RX5 yX5_right yX5_right, Cond.code yX5_right cX5_right 3 (some .int), Cond.methodLink RX5 49 yX5_low, Cond.instanceMethod yX5_low, Cond.selects RX5 yX5_low yX5_low, Cond.code yX5_low cX5_low 3 (some .int), Cond.methodLink RX5 55 yX5_high]
def wsX5_counts_r3 : List Cond := [Cond.instanceMethod yX5_high, Cond.selects RX5 yX5_high yX5_high, Cond.code yX5_high cX5_high 3 (some .int), Cond.methodLink RX5 58 yX5_has, Cond.instanceMethod yX5_has, Cond.selects RX5 yX5_has yX5_has, Cond.code yX5_has cX5_has 5 (some .boolean), Cond.methodLink RX5 35 yX5_in, Cond.static yX5_in, Cond.code yX5_in cX5_in 3 (some .boolean), Cond.methodLink RX5 207 yX5_clashing, Cond.instanceMethod yX5_clashing, Cond.selects RX5 yX5_clashing yX5_clashing, Cond.code yX5_clashing cX5_clashing 4 (some .int), Cond.methodLink RX5 194 yX5_mayClash, Cond.instanceMethod yX5_mayClash, Cond.selects RX5 yX5_mayClash yX5_mayClash, Cond.code yX5_mayClash cX5_mayClash 5 (some .boolean), Cond.methodLink RX5 76 yX5_common, Cond.instanceMethod yX5_common, Cond.selects RX5 yX5_common yX5_common, Cond.code yX5_common cX5_common 7 (some .int), Cond.methodLink RX5 66 yX5_lesser, Cond.static yX5_lesser]
def wsX5_counts_r4 : List Cond := [Cond.code yX5_lesser cX5_lesser 2 (some .int), Cond.methodLink RX5 69 yX5_greater, Cond.static yX5_greater, Cond.code yX5_greater cX5_greater 2 (some .int), Cond.methodLink RX5 210 yX5_crossed, Cond.instanceMethod yX5_crossed, Cond.selects RX5 yX5_crossed yX5_crossed, Cond.code yX5_crossed cX5_crossed 3 (some .int), Cond.methodLink RX5 185 yX5_crosses, Cond.instanceMethod yX5_crosses, Cond.selects RX5 yX5_crosses yX5_crosses, Cond.code yX5_crosses cX5_crosses 6 (some .int)]
def wsX5_counts : List Cond := .code yX5_counts cX5_counts 2 (some .int) :: ((wsX5_counts_r1 ++ (wsX5_counts_r2 ++ (wsX5_counts_r3 ++ wsX5_counts_r4))) ++ wsX50)
def wsX5_count_r1 : List Cond := [Cond.fieldLink RX5 31 "CornerLabelsModel" "thrown" "I", Cond.methodLink RX5 35 yX5_in, Cond.static yX5_in, Cond.initialized RX5, Cond.code yX5_in cX5_in 3 (some .boolean), Cond.methodLink RX5 213 yX5_counts, Cond.instanceMethod yX5_counts, Cond.selects RX5 yX5_counts yX5_counts, Cond.code yX5_counts cX5_counts 2 (some .int), Cond.fieldLink RX5 7 "CornerLabelsModel" "s" "[I", Cond.fieldLink RX5 43 "CornerLabelsModel" "savedMany" "I", Cond.methodLink RX5 150 yX5_standing, Cond.instanceMethod yX5_standing, Cond.selects RX5 yX5_standing yX5_standing, Cond.code yX5_standing cX5_standing 3 (some .int), Cond.methodLink RX5 72 yX5_cornerOf, Cond.instanceMethod yX5_cornerOf, Cond.selects RX5 yX5_cornerOf yX5_cornerOf, Cond.code yX5_cornerOf cX5_cornerOf 2 (some .int), Cond.methodLink RX5 39 yX5_of, Cond.instanceMethod yX5_of, Cond.selects RX5 yX5_of yX5_of, Cond.code yX5_of cX5_of 3 (some .int), Cond.methodLink RX5 197 yX5_weightOf]
def wsX5_count_r2 : List Cond := [Cond.instanceMethod yX5_weightOf, Cond.selects RX5 yX5_weightOf yX5_weightOf, Cond.code yX5_weightOf cX5_weightOf 4 (some .int), Cond.methodLink RX5 201 yX5_squares, Cond.instanceMethod yX5_squares, Cond.selects RX5 yX5_squares yX5_squares, Cond.code yX5_squares cX5_squares 3 (some .int), Cond.methodLink RX5 204 yX5_closedMany, Cond.instanceMethod yX5_closedMany, Cond.selects RX5 yX5_closedMany yX5_closedMany, Cond.code yX5_closedMany cX5_closedMany 3 (some .int), Cond.methodLink RX5 102 yX5_openOf, Cond.instanceMethod yX5_openOf, Cond.selects RX5 yX5_openOf yX5_openOf, Cond.code yX5_openOf cX5_openOf 4 (some .int), Cond.methodLink RX5 62 yX5_isOpen, Cond.instanceMethod yX5_isOpen, Cond.selects RX5 yX5_isOpen yX5_isOpen, Cond.code yX5_isOpen cX5_isOpen 5 (some .boolean), Cond.methodLink RX5 46 yX5_left, Cond.instanceMethod yX5_left, Cond.selects RX5 yX5_left yX5_left, Cond.code yX5_left cX5_left 3 (some .int), Cond.methodLink RX5 52 yX5_right]
def wsX5_count_r3 : List Cond := [Cond.instanceMethod yX5_right, Cond.selects RX5 yX5_right yX5_right, Cond.code yX5_right cX5_right 3 (some .int), Cond.methodLink RX5 49 yX5_low, Cond.instanceMethod yX5_low, Cond.selects RX5 yX5_low yX5_low, Cond.code yX5_low cX5_low 3 (some .int), Cond.methodLink RX5 55 yX5_high, Cond.instanceMethod yX5_high, Cond.selects RX5 yX5_high yX5_high, Cond.code yX5_high cX5_high 3 (some .int), Cond.methodLink RX5 58 yX5_has, Cond.instanceMethod yX5_has, Cond.selects RX5 yX5_has yX5_has, Cond.code yX5_has cX5_has 5 (some .boolean), Cond.methodLink RX5 207 yX5_clashing, Cond.instanceMethod yX5_clashing, Cond.selects RX5 yX5_clashing yX5_clashing, Cond.code yX5_clashing cX5_clashing 4 (some .int), Cond.methodLink RX5 194 yX5_mayClash, Cond.instanceMethod yX5_mayClash, Cond.selects RX5 yX5_mayClash yX5_mayClash, Cond.code yX5_mayClash cX5_mayClash 5 (some .boolean), Cond.methodLink RX5 76 yX5_common]
def wsX5_count_r4 : List Cond := [Cond.instanceMethod yX5_common, Cond.selects RX5 yX5_common yX5_common, Cond.code yX5_common cX5_common 7 (some .int), Cond.methodLink RX5 66 yX5_lesser, Cond.static yX5_lesser, Cond.code yX5_lesser cX5_lesser 2 (some .int), Cond.methodLink RX5 69 yX5_greater, Cond.static yX5_greater, Cond.code yX5_greater cX5_greater 2 (some .int), Cond.methodLink RX5 210 yX5_crossed, Cond.instanceMethod yX5_crossed, Cond.selects RX5 yX5_crossed yX5_crossed, Cond.code yX5_crossed cX5_crossed 3 (some .int), Cond.methodLink RX5 185 yX5_crosses, Cond.instanceMethod yX5_crosses, Cond.selects RX5 yX5_crosses yX5_crosses, Cond.code yX5_crosses cX5_crosses 6 (some .int), Cond.methodLink RX5 132 yX5_fails, Cond.instanceMethod yX5_fails, Cond.selects RX5 yX5_fails yX5_fails, Cond.code yX5_fails cX5_fails 2 (some .int)]
def wsX5_count : List Cond := .code yX5_count cX5_count 2 (some .int) :: ((wsX5_count_r1 ++ (wsX5_count_r2 ++ (wsX5_count_r3 ++ wsX5_count_r4))) ++ wsX50)
def wsX5_bestOf_r1 : List Cond := [Cond.fieldLink RX5 25 "CornerLabelsModel" "plan" "[I", Cond.methodLink RX5 141 yX5_heaviest, Cond.instanceMethod yX5_heaviest, Cond.selects RX5 yX5_heaviest yX5_heaviest, Cond.initialized RX5, Cond.code yX5_heaviest cX5_heaviest 3 (some .int), Cond.fieldLink RX5 7 "CornerLabelsModel" "s" "[I", Cond.fieldLink RX5 22 "CornerLabelsModel" "allowed" "[I", Cond.methodLink RX5 102 yX5_openOf, Cond.instanceMethod yX5_openOf, Cond.selects RX5 yX5_openOf yX5_openOf, Cond.code yX5_openOf cX5_openOf 4 (some .int), Cond.methodLink RX5 62 yX5_isOpen, Cond.instanceMethod yX5_isOpen, Cond.selects RX5 yX5_isOpen yX5_isOpen, Cond.code yX5_isOpen cX5_isOpen 5 (some .boolean), Cond.methodLink RX5 46 yX5_left, Cond.instanceMethod yX5_left, Cond.selects RX5 yX5_left yX5_left, Cond.code yX5_left cX5_left 3 (some .int), Cond.methodLink RX5 39 yX5_of, Cond.instanceMethod yX5_of, Cond.selects RX5 yX5_of yX5_of, Cond.code yX5_of cX5_of 3 (some .int)]
def wsX5_bestOf_r2 : List Cond := [Cond.methodLink RX5 52 yX5_right, Cond.instanceMethod yX5_right, Cond.selects RX5 yX5_right yX5_right, Cond.code yX5_right cX5_right 3 (some .int), Cond.methodLink RX5 49 yX5_low, Cond.instanceMethod yX5_low, Cond.selects RX5 yX5_low yX5_low, Cond.code yX5_low cX5_low 3 (some .int), Cond.methodLink RX5 55 yX5_high, Cond.instanceMethod yX5_high, Cond.selects RX5 yX5_high yX5_high, Cond.code yX5_high cX5_high 3 (some .int), Cond.methodLink RX5 58 yX5_has, Cond.instanceMethod yX5_has, Cond.selects RX5 yX5_has yX5_has, Cond.code yX5_has cX5_has 5 (some .boolean), Cond.methodLink RX5 35 yX5_in, Cond.static yX5_in, Cond.code yX5_in cX5_in 3 (some .boolean), Cond.methodLink RX5 105 yX5_searches, Cond.instanceMethod yX5_searches, Cond.selects RX5 yX5_searches yX5_searches, Cond.code yX5_searches cX5_searches 3 (some .int), Cond.fieldLink RX5 80 "CornerLabelsModel" "looksFor" "I"]
def wsX5_bestOf_r3 : List Cond := [Cond.fieldLink RX5 83 "CornerLabelsModel" "best" "I", Cond.fieldLink RX5 19 "CornerLabelsModel" "told" "[I", Cond.methodLink RX5 96 yX5_looksAt, Cond.instanceMethod yX5_looksAt, Cond.selects RX5 yX5_looksAt yX5_looksAt, Cond.code yX5_looksAt cX5_looksAt 2 none, Cond.methodLink RX5 92 yX5_canBe, Cond.instanceMethod yX5_canBe, Cond.selects RX5 yX5_canBe yX5_canBe, Cond.code yX5_canBe cX5_canBe 2 (some .boolean), Cond.methodLink RX5 86 yX5_worth, Cond.instanceMethod yX5_worth, Cond.selects RX5 yX5_worth yX5_worth, Cond.code yX5_worth cX5_worth 5 (some .int), Cond.methodLink RX5 72 yX5_cornerOf, Cond.instanceMethod yX5_cornerOf, Cond.selects RX5 yX5_cornerOf yX5_cornerOf, Cond.code yX5_cornerOf cX5_cornerOf 2 (some .int), Cond.methodLink RX5 89 yX5_weightFrom, Cond.instanceMethod yX5_weightFrom, Cond.selects RX5 yX5_weightFrom yX5_weightFrom, Cond.code yX5_weightFrom cX5_weightFrom 4 (some .int), Cond.methodLink RX5 99 yX5_fits, Cond.instanceMethod yX5_fits]
def wsX5_bestOf_r4 : List Cond := [Cond.selects RX5 yX5_fits yX5_fits, Cond.code yX5_fits cX5_fits 5 (some .boolean), Cond.methodLink RX5 76 yX5_common, Cond.instanceMethod yX5_common, Cond.selects RX5 yX5_common yX5_common, Cond.code yX5_common cX5_common 7 (some .int), Cond.methodLink RX5 66 yX5_lesser, Cond.static yX5_lesser, Cond.code yX5_lesser cX5_lesser 2 (some .int), Cond.methodLink RX5 69 yX5_greater, Cond.static yX5_greater, Cond.code yX5_greater cX5_greater 2 (some .int)]
def wsX5_bestOf : List Cond := .code yX5_bestOf cX5_bestOf 2 (some .int) :: ((wsX5_bestOf_r1 ++ (wsX5_bestOf_r2 ++ (wsX5_bestOf_r3 ++ wsX5_bestOf_r4))) ++ wsX50)
def wsX5_best_r1 : List Cond := [Cond.fieldLink RX5 31 "CornerLabelsModel" "thrown" "I", Cond.methodLink RX5 129 yX5_isPoint, Cond.instanceMethod yX5_isPoint, Cond.selects RX5 yX5_isPoint yX5_isPoint, Cond.initialized RX5, Cond.code yX5_isPoint cX5_isPoint 2 (some .boolean), Cond.fieldLink RX5 7 "CornerLabelsModel" "s" "[I", Cond.methodLink RX5 35 yX5_in, Cond.static yX5_in, Cond.code yX5_in cX5_in 3 (some .boolean), Cond.methodLink RX5 216 yX5_bestOf, Cond.instanceMethod yX5_bestOf, Cond.selects RX5 yX5_bestOf yX5_bestOf, Cond.code yX5_bestOf cX5_bestOf 2 (some .int), Cond.fieldLink RX5 25 "CornerLabelsModel" "plan" "[I", Cond.methodLink RX5 141 yX5_heaviest, Cond.instanceMethod yX5_heaviest, Cond.selects RX5 yX5_heaviest yX5_heaviest, Cond.code yX5_heaviest cX5_heaviest 3 (some .int), Cond.fieldLink RX5 22 "CornerLabelsModel" "allowed" "[I", Cond.methodLink RX5 102 yX5_openOf, Cond.instanceMethod yX5_openOf, Cond.selects RX5 yX5_openOf yX5_openOf, Cond.code yX5_openOf cX5_openOf 4 (some .int)]
def wsX5_best_r2 : List Cond := [Cond.methodLink RX5 62 yX5_isOpen, Cond.instanceMethod yX5_isOpen, Cond.selects RX5 yX5_isOpen yX5_isOpen, Cond.code yX5_isOpen cX5_isOpen 5 (some .boolean), Cond.methodLink RX5 46 yX5_left, Cond.instanceMethod yX5_left, Cond.selects RX5 yX5_left yX5_left, Cond.code yX5_left cX5_left 3 (some .int), Cond.methodLink RX5 39 yX5_of, Cond.instanceMethod yX5_of, Cond.selects RX5 yX5_of yX5_of, Cond.code yX5_of cX5_of 3 (some .int), Cond.methodLink RX5 52 yX5_right, Cond.instanceMethod yX5_right, Cond.selects RX5 yX5_right yX5_right, Cond.code yX5_right cX5_right 3 (some .int), Cond.methodLink RX5 49 yX5_low, Cond.instanceMethod yX5_low, Cond.selects RX5 yX5_low yX5_low, Cond.code yX5_low cX5_low 3 (some .int), Cond.methodLink RX5 55 yX5_high, Cond.instanceMethod yX5_high, Cond.selects RX5 yX5_high yX5_high, Cond.code yX5_high cX5_high 3 (some .int)]
def wsX5_best_r3 : List Cond := [Cond.methodLink RX5 58 yX5_has, Cond.instanceMethod yX5_has, Cond.selects RX5 yX5_has yX5_has, Cond.code yX5_has cX5_has 5 (some .boolean), Cond.methodLink RX5 105 yX5_searches, Cond.instanceMethod yX5_searches, Cond.selects RX5 yX5_searches yX5_searches, Cond.code yX5_searches cX5_searches 3 (some .int), Cond.fieldLink RX5 80 "CornerLabelsModel" "looksFor" "I", Cond.fieldLink RX5 83 "CornerLabelsModel" "best" "I", Cond.fieldLink RX5 19 "CornerLabelsModel" "told" "[I", Cond.methodLink RX5 96 yX5_looksAt, Cond.instanceMethod yX5_looksAt, Cond.selects RX5 yX5_looksAt yX5_looksAt, Cond.code yX5_looksAt cX5_looksAt 2 none, Cond.methodLink RX5 92 yX5_canBe, Cond.instanceMethod yX5_canBe, Cond.selects RX5 yX5_canBe yX5_canBe, Cond.code yX5_canBe cX5_canBe 2 (some .boolean), Cond.methodLink RX5 86 yX5_worth, Cond.instanceMethod yX5_worth, Cond.selects RX5 yX5_worth yX5_worth, Cond.code yX5_worth cX5_worth 5 (some .int), Cond.methodLink RX5 72 yX5_cornerOf]
def wsX5_best_r4 : List Cond := [Cond.instanceMethod yX5_cornerOf, Cond.selects RX5 yX5_cornerOf yX5_cornerOf, Cond.code yX5_cornerOf cX5_cornerOf 2 (some .int), Cond.methodLink RX5 89 yX5_weightFrom, Cond.instanceMethod yX5_weightFrom, Cond.selects RX5 yX5_weightFrom yX5_weightFrom, Cond.code yX5_weightFrom cX5_weightFrom 4 (some .int), Cond.methodLink RX5 99 yX5_fits, Cond.instanceMethod yX5_fits, Cond.selects RX5 yX5_fits yX5_fits, Cond.code yX5_fits cX5_fits 5 (some .boolean), Cond.methodLink RX5 76 yX5_common, Cond.instanceMethod yX5_common, Cond.selects RX5 yX5_common yX5_common, Cond.code yX5_common cX5_common 7 (some .int), Cond.methodLink RX5 66 yX5_lesser, Cond.static yX5_lesser, Cond.code yX5_lesser cX5_lesser 2 (some .int), Cond.methodLink RX5 69 yX5_greater, Cond.static yX5_greater, Cond.code yX5_greater cX5_greater 2 (some .int), Cond.methodLink RX5 132 yX5_fails, Cond.instanceMethod yX5_fails, Cond.selects RX5 yX5_fails yX5_fails]
def wsX5_best_r5 : List Cond := [Cond.code yX5_fails cX5_fails 2 (some .int)]
def wsX5_best : List Cond := .code yX5_best cX5_best 2 (some .int) :: ((wsX5_best_r1 ++ (wsX5_best_r2 ++ (wsX5_best_r3 ++ (wsX5_best_r4 ++ wsX5_best_r5)))) ++ wsX50)
def wsX5_bestWeight_r1 : List Cond := [Cond.fieldLink RX5 31 "CornerLabelsModel" "thrown" "I", Cond.methodLink RX5 129 yX5_isPoint, Cond.instanceMethod yX5_isPoint, Cond.selects RX5 yX5_isPoint yX5_isPoint, Cond.initialized RX5, Cond.code yX5_isPoint cX5_isPoint 2 (some .boolean), Cond.fieldLink RX5 7 "CornerLabelsModel" "s" "[I", Cond.methodLink RX5 35 yX5_in, Cond.static yX5_in, Cond.code yX5_in cX5_in 3 (some .boolean), Cond.methodLink RX5 141 yX5_heaviest, Cond.instanceMethod yX5_heaviest, Cond.selects RX5 yX5_heaviest yX5_heaviest, Cond.code yX5_heaviest cX5_heaviest 3 (some .int), Cond.fieldLink RX5 22 "CornerLabelsModel" "allowed" "[I", Cond.methodLink RX5 102 yX5_openOf, Cond.instanceMethod yX5_openOf, Cond.selects RX5 yX5_openOf yX5_openOf, Cond.code yX5_openOf cX5_openOf 4 (some .int), Cond.methodLink RX5 62 yX5_isOpen, Cond.instanceMethod yX5_isOpen, Cond.selects RX5 yX5_isOpen yX5_isOpen, Cond.code yX5_isOpen cX5_isOpen 5 (some .boolean), Cond.methodLink RX5 46 yX5_left]
def wsX5_bestWeight_r2 : List Cond := [Cond.instanceMethod yX5_left, Cond.selects RX5 yX5_left yX5_left, Cond.code yX5_left cX5_left 3 (some .int), Cond.methodLink RX5 39 yX5_of, Cond.instanceMethod yX5_of, Cond.selects RX5 yX5_of yX5_of, Cond.code yX5_of cX5_of 3 (some .int), Cond.methodLink RX5 52 yX5_right, Cond.instanceMethod yX5_right, Cond.selects RX5 yX5_right yX5_right, Cond.code yX5_right cX5_right 3 (some .int), Cond.methodLink RX5 49 yX5_low, Cond.instanceMethod yX5_low, Cond.selects RX5 yX5_low yX5_low, Cond.code yX5_low cX5_low 3 (some .int), Cond.methodLink RX5 55 yX5_high, Cond.instanceMethod yX5_high, Cond.selects RX5 yX5_high yX5_high, Cond.code yX5_high cX5_high 3 (some .int), Cond.methodLink RX5 58 yX5_has, Cond.instanceMethod yX5_has, Cond.selects RX5 yX5_has yX5_has, Cond.code yX5_has cX5_has 5 (some .boolean), Cond.methodLink RX5 105 yX5_searches]
def wsX5_bestWeight_r3 : List Cond := [Cond.instanceMethod yX5_searches, Cond.selects RX5 yX5_searches yX5_searches, Cond.code yX5_searches cX5_searches 3 (some .int), Cond.fieldLink RX5 80 "CornerLabelsModel" "looksFor" "I", Cond.fieldLink RX5 83 "CornerLabelsModel" "best" "I", Cond.fieldLink RX5 19 "CornerLabelsModel" "told" "[I", Cond.methodLink RX5 96 yX5_looksAt, Cond.instanceMethod yX5_looksAt, Cond.selects RX5 yX5_looksAt yX5_looksAt, Cond.code yX5_looksAt cX5_looksAt 2 none, Cond.fieldLink RX5 25 "CornerLabelsModel" "plan" "[I", Cond.methodLink RX5 92 yX5_canBe, Cond.instanceMethod yX5_canBe, Cond.selects RX5 yX5_canBe yX5_canBe, Cond.code yX5_canBe cX5_canBe 2 (some .boolean), Cond.methodLink RX5 86 yX5_worth, Cond.instanceMethod yX5_worth, Cond.selects RX5 yX5_worth yX5_worth, Cond.code yX5_worth cX5_worth 5 (some .int), Cond.methodLink RX5 72 yX5_cornerOf, Cond.instanceMethod yX5_cornerOf, Cond.selects RX5 yX5_cornerOf yX5_cornerOf, Cond.code yX5_cornerOf cX5_cornerOf 2 (some .int), Cond.methodLink RX5 89 yX5_weightFrom]
def wsX5_bestWeight_r4 : List Cond := [Cond.instanceMethod yX5_weightFrom, Cond.selects RX5 yX5_weightFrom yX5_weightFrom, Cond.code yX5_weightFrom cX5_weightFrom 4 (some .int), Cond.methodLink RX5 99 yX5_fits, Cond.instanceMethod yX5_fits, Cond.selects RX5 yX5_fits yX5_fits, Cond.code yX5_fits cX5_fits 5 (some .boolean), Cond.methodLink RX5 76 yX5_common, Cond.instanceMethod yX5_common, Cond.selects RX5 yX5_common yX5_common, Cond.code yX5_common cX5_common 7 (some .int), Cond.methodLink RX5 66 yX5_lesser, Cond.static yX5_lesser, Cond.code yX5_lesser cX5_lesser 2 (some .int), Cond.methodLink RX5 69 yX5_greater, Cond.static yX5_greater, Cond.code yX5_greater cX5_greater 2 (some .int), Cond.methodLink RX5 132 yX5_fails, Cond.instanceMethod yX5_fails, Cond.selects RX5 yX5_fails yX5_fails, Cond.code yX5_fails cX5_fails 2 (some .int)]
def wsX5_bestWeight : List Cond := .code yX5_bestWeight cX5_bestWeight 2 (some .int) :: ((wsX5_bestWeight_r1 ++ (wsX5_bestWeight_r2 ++ (wsX5_bestWeight_r3 ++ wsX5_bestWeight_r4))) ++ wsX50)
def wsX5_ifPushed_r1 : List Cond := [Cond.fieldLink RX5 31 "CornerLabelsModel" "thrown" "I", Cond.methodLink RX5 129 yX5_isPoint, Cond.instanceMethod yX5_isPoint, Cond.selects RX5 yX5_isPoint yX5_isPoint, Cond.initialized RX5, Cond.code yX5_isPoint cX5_isPoint 2 (some .boolean), Cond.fieldLink RX5 7 "CornerLabelsModel" "s" "[I", Cond.methodLink RX5 35 yX5_in, Cond.static yX5_in, Cond.code yX5_in cX5_in 3 (some .boolean), Cond.methodLink RX5 147 yX5_makesRoom, Cond.instanceMethod yX5_makesRoom, Cond.selects RX5 yX5_makesRoom yX5_makesRoom, Cond.code yX5_makesRoom cX5_makesRoom 3 (some .int), Cond.fieldLink RX5 22 "CornerLabelsModel" "allowed" "[I", Cond.methodLink RX5 72 yX5_cornerOf, Cond.instanceMethod yX5_cornerOf, Cond.selects RX5 yX5_cornerOf yX5_cornerOf, Cond.code yX5_cornerOf cX5_cornerOf 2 (some .int), Cond.methodLink RX5 39 yX5_of, Cond.instanceMethod yX5_of, Cond.selects RX5 yX5_of yX5_of, Cond.code yX5_of cX5_of 3 (some .int), Cond.methodLink RX5 102 yX5_openOf]
def wsX5_ifPushed_r2 : List Cond := [Cond.instanceMethod yX5_openOf, Cond.selects RX5 yX5_openOf yX5_openOf, Cond.code yX5_openOf cX5_openOf 4 (some .int), Cond.methodLink RX5 62 yX5_isOpen, Cond.instanceMethod yX5_isOpen, Cond.selects RX5 yX5_isOpen yX5_isOpen, Cond.code yX5_isOpen cX5_isOpen 5 (some .boolean), Cond.methodLink RX5 46 yX5_left, Cond.instanceMethod yX5_left, Cond.selects RX5 yX5_left yX5_left, Cond.code yX5_left cX5_left 3 (some .int), Cond.methodLink RX5 52 yX5_right, Cond.instanceMethod yX5_right, Cond.selects RX5 yX5_right yX5_right, Cond.code yX5_right cX5_right 3 (some .int), Cond.methodLink RX5 49 yX5_low, Cond.instanceMethod yX5_low, Cond.selects RX5 yX5_low yX5_low, Cond.code yX5_low cX5_low 3 (some .int), Cond.methodLink RX5 55 yX5_high, Cond.instanceMethod yX5_high, Cond.selects RX5 yX5_high yX5_high, Cond.code yX5_high cX5_high 3 (some .int), Cond.methodLink RX5 58 yX5_has]
def wsX5_ifPushed_r3 : List Cond := [Cond.instanceMethod yX5_has, Cond.selects RX5 yX5_has yX5_has, Cond.code yX5_has cX5_has 5 (some .boolean), Cond.methodLink RX5 105 yX5_searches, Cond.instanceMethod yX5_searches, Cond.selects RX5 yX5_searches yX5_searches, Cond.code yX5_searches cX5_searches 3 (some .int), Cond.fieldLink RX5 80 "CornerLabelsModel" "looksFor" "I", Cond.fieldLink RX5 83 "CornerLabelsModel" "best" "I", Cond.fieldLink RX5 19 "CornerLabelsModel" "told" "[I", Cond.methodLink RX5 96 yX5_looksAt, Cond.instanceMethod yX5_looksAt, Cond.selects RX5 yX5_looksAt yX5_looksAt, Cond.code yX5_looksAt cX5_looksAt 2 none, Cond.fieldLink RX5 25 "CornerLabelsModel" "plan" "[I", Cond.methodLink RX5 92 yX5_canBe, Cond.instanceMethod yX5_canBe, Cond.selects RX5 yX5_canBe yX5_canBe, Cond.code yX5_canBe cX5_canBe 2 (some .boolean), Cond.methodLink RX5 86 yX5_worth, Cond.instanceMethod yX5_worth, Cond.selects RX5 yX5_worth yX5_worth, Cond.code yX5_worth cX5_worth 5 (some .int), Cond.methodLink RX5 89 yX5_weightFrom]
def wsX5_ifPushed_r4 : List Cond := [Cond.instanceMethod yX5_weightFrom, Cond.selects RX5 yX5_weightFrom yX5_weightFrom, Cond.code yX5_weightFrom cX5_weightFrom 4 (some .int), Cond.methodLink RX5 99 yX5_fits, Cond.instanceMethod yX5_fits, Cond.selects RX5 yX5_fits yX5_fits, Cond.code yX5_fits cX5_fits 5 (some .boolean), Cond.methodLink RX5 76 yX5_common, Cond.instanceMethod yX5_common, Cond.selects RX5 yX5_common yX5_common, Cond.code yX5_common cX5_common 7 (some .int), Cond.methodLink RX5 66 yX5_lesser, Cond.static yX5_lesser, Cond.code yX5_lesser cX5_lesser 2 (some .int), Cond.methodLink RX5 69 yX5_greater, Cond.static yX5_greater, Cond.code yX5_greater cX5_greater 2 (some .int), Cond.methodLink RX5 132 yX5_fails, Cond.instanceMethod yX5_fails, Cond.selects RX5 yX5_fails yX5_fails, Cond.code yX5_fails cX5_fails 2 (some .int)]
def wsX5_ifPushed : List Cond := .code yX5_ifPushed cX5_ifPushed 2 (some .int) :: ((wsX5_ifPushed_r1 ++ (wsX5_ifPushed_r2 ++ (wsX5_ifPushed_r3 ++ wsX5_ifPushed_r4))) ++ wsX50)
def wsX5_fullPlans_r1 : List Cond := [Cond.fieldLink RX5 31 "CornerLabelsModel" "thrown" "I", Cond.methodLink RX5 219 yX5_fulls, Cond.instanceMethod yX5_fulls, Cond.selects RX5 yX5_fulls yX5_fulls, Cond.initialized RX5, Cond.code yX5_fulls cX5_fulls 2 (some .int), Cond.fieldLink RX5 7 "CornerLabelsModel" "s" "[I", Cond.fieldLink RX5 22 "CornerLabelsModel" "allowed" "[I", Cond.methodLink RX5 102 yX5_openOf, Cond.instanceMethod yX5_openOf, Cond.selects RX5 yX5_openOf yX5_openOf, Cond.code yX5_openOf cX5_openOf 4 (some .int), Cond.methodLink RX5 62 yX5_isOpen, Cond.instanceMethod yX5_isOpen, Cond.selects RX5 yX5_isOpen yX5_isOpen, Cond.code yX5_isOpen cX5_isOpen 5 (some .boolean), Cond.methodLink RX5 46 yX5_left, Cond.instanceMethod yX5_left, Cond.selects RX5 yX5_left yX5_left, Cond.code yX5_left cX5_left 3 (some .int), Cond.methodLink RX5 39 yX5_of, Cond.instanceMethod yX5_of, Cond.selects RX5 yX5_of yX5_of, Cond.code yX5_of cX5_of 3 (some .int)]
def wsX5_fullPlans_r2 : List Cond := [Cond.methodLink RX5 52 yX5_right, Cond.instanceMethod yX5_right, Cond.selects RX5 yX5_right yX5_right, Cond.code yX5_right cX5_right 3 (some .int), Cond.methodLink RX5 49 yX5_low, Cond.instanceMethod yX5_low, Cond.selects RX5 yX5_low yX5_low, Cond.code yX5_low cX5_low 3 (some .int), Cond.methodLink RX5 55 yX5_high, Cond.instanceMethod yX5_high, Cond.selects RX5 yX5_high yX5_high, Cond.code yX5_high cX5_high 3 (some .int), Cond.methodLink RX5 58 yX5_has, Cond.instanceMethod yX5_has, Cond.selects RX5 yX5_has yX5_has, Cond.code yX5_has cX5_has 5 (some .boolean), Cond.methodLink RX5 35 yX5_in, Cond.static yX5_in, Cond.code yX5_in cX5_in 3 (some .boolean), Cond.methodLink RX5 105 yX5_searches, Cond.instanceMethod yX5_searches, Cond.selects RX5 yX5_searches yX5_searches, Cond.code yX5_searches cX5_searches 3 (some .int), Cond.fieldLink RX5 80 "CornerLabelsModel" "looksFor" "I"]
def wsX5_fullPlans_r3 : List Cond := [Cond.fieldLink RX5 83 "CornerLabelsModel" "best" "I", Cond.fieldLink RX5 19 "CornerLabelsModel" "told" "[I", Cond.methodLink RX5 96 yX5_looksAt, Cond.instanceMethod yX5_looksAt, Cond.selects RX5 yX5_looksAt yX5_looksAt, Cond.code yX5_looksAt cX5_looksAt 2 none, Cond.fieldLink RX5 25 "CornerLabelsModel" "plan" "[I", Cond.methodLink RX5 92 yX5_canBe, Cond.instanceMethod yX5_canBe, Cond.selects RX5 yX5_canBe yX5_canBe, Cond.code yX5_canBe cX5_canBe 2 (some .boolean), Cond.methodLink RX5 86 yX5_worth, Cond.instanceMethod yX5_worth, Cond.selects RX5 yX5_worth yX5_worth, Cond.code yX5_worth cX5_worth 5 (some .int), Cond.methodLink RX5 72 yX5_cornerOf, Cond.instanceMethod yX5_cornerOf, Cond.selects RX5 yX5_cornerOf yX5_cornerOf, Cond.code yX5_cornerOf cX5_cornerOf 2 (some .int), Cond.methodLink RX5 89 yX5_weightFrom, Cond.instanceMethod yX5_weightFrom, Cond.selects RX5 yX5_weightFrom yX5_weightFrom, Cond.code yX5_weightFrom cX5_weightFrom 4 (some .int), Cond.methodLink RX5 99 yX5_fits]
def wsX5_fullPlans_r4 : List Cond := [Cond.instanceMethod yX5_fits, Cond.selects RX5 yX5_fits yX5_fits, Cond.code yX5_fits cX5_fits 5 (some .boolean), Cond.methodLink RX5 76 yX5_common, Cond.instanceMethod yX5_common, Cond.selects RX5 yX5_common yX5_common, Cond.code yX5_common cX5_common 7 (some .int), Cond.methodLink RX5 66 yX5_lesser, Cond.static yX5_lesser, Cond.code yX5_lesser cX5_lesser 2 (some .int), Cond.methodLink RX5 69 yX5_greater, Cond.static yX5_greater, Cond.code yX5_greater cX5_greater 2 (some .int)]
def wsX5_fullPlans : List Cond := .code yX5_fullPlans cX5_fullPlans 1 (some .int) :: ((wsX5_fullPlans_r1 ++ (wsX5_fullPlans_r2 ++ (wsX5_fullPlans_r3 ++ wsX5_fullPlans_r4))) ++ wsX50)
def wsX5_dear_r1 : List Cond := [Cond.fieldLink RX5 7 "CornerLabelsModel" "s" "[I", Cond.methodLink RX5 39 yX5_of, Cond.instanceMethod yX5_of, Cond.selects RX5 yX5_of yX5_of, Cond.initialized RX5, Cond.code yX5_of cX5_of 3 (some .int), Cond.methodLink RX5 141 yX5_heaviest, Cond.instanceMethod yX5_heaviest, Cond.selects RX5 yX5_heaviest yX5_heaviest, Cond.code yX5_heaviest cX5_heaviest 3 (some .int), Cond.fieldLink RX5 22 "CornerLabelsModel" "allowed" "[I", Cond.methodLink RX5 102 yX5_openOf, Cond.instanceMethod yX5_openOf, Cond.selects RX5 yX5_openOf yX5_openOf, Cond.code yX5_openOf cX5_openOf 4 (some .int), Cond.methodLink RX5 62 yX5_isOpen, Cond.instanceMethod yX5_isOpen, Cond.selects RX5 yX5_isOpen yX5_isOpen, Cond.code yX5_isOpen cX5_isOpen 5 (some .boolean), Cond.methodLink RX5 46 yX5_left, Cond.instanceMethod yX5_left, Cond.selects RX5 yX5_left yX5_left, Cond.code yX5_left cX5_left 3 (some .int), Cond.methodLink RX5 52 yX5_right]
def wsX5_dear_r2 : List Cond := [Cond.instanceMethod yX5_right, Cond.selects RX5 yX5_right yX5_right, Cond.code yX5_right cX5_right 3 (some .int), Cond.methodLink RX5 49 yX5_low, Cond.instanceMethod yX5_low, Cond.selects RX5 yX5_low yX5_low, Cond.code yX5_low cX5_low 3 (some .int), Cond.methodLink RX5 55 yX5_high, Cond.instanceMethod yX5_high, Cond.selects RX5 yX5_high yX5_high, Cond.code yX5_high cX5_high 3 (some .int), Cond.methodLink RX5 58 yX5_has, Cond.instanceMethod yX5_has, Cond.selects RX5 yX5_has yX5_has, Cond.code yX5_has cX5_has 5 (some .boolean), Cond.methodLink RX5 35 yX5_in, Cond.static yX5_in, Cond.code yX5_in cX5_in 3 (some .boolean), Cond.methodLink RX5 105 yX5_searches, Cond.instanceMethod yX5_searches, Cond.selects RX5 yX5_searches yX5_searches, Cond.code yX5_searches cX5_searches 3 (some .int), Cond.fieldLink RX5 80 "CornerLabelsModel" "looksFor" "I", Cond.fieldLink RX5 83 "CornerLabelsModel" "best" "I"]
def wsX5_dear_r3 : List Cond := [Cond.fieldLink RX5 19 "CornerLabelsModel" "told" "[I", Cond.methodLink RX5 96 yX5_looksAt, Cond.instanceMethod yX5_looksAt, Cond.selects RX5 yX5_looksAt yX5_looksAt, Cond.code yX5_looksAt cX5_looksAt 2 none, Cond.fieldLink RX5 25 "CornerLabelsModel" "plan" "[I", Cond.methodLink RX5 92 yX5_canBe, Cond.instanceMethod yX5_canBe, Cond.selects RX5 yX5_canBe yX5_canBe, Cond.code yX5_canBe cX5_canBe 2 (some .boolean), Cond.methodLink RX5 86 yX5_worth, Cond.instanceMethod yX5_worth, Cond.selects RX5 yX5_worth yX5_worth, Cond.code yX5_worth cX5_worth 5 (some .int), Cond.methodLink RX5 72 yX5_cornerOf, Cond.instanceMethod yX5_cornerOf, Cond.selects RX5 yX5_cornerOf yX5_cornerOf, Cond.code yX5_cornerOf cX5_cornerOf 2 (some .int), Cond.methodLink RX5 89 yX5_weightFrom, Cond.instanceMethod yX5_weightFrom, Cond.selects RX5 yX5_weightFrom yX5_weightFrom, Cond.code yX5_weightFrom cX5_weightFrom 4 (some .int), Cond.methodLink RX5 99 yX5_fits, Cond.instanceMethod yX5_fits]
def wsX5_dear_r4 : List Cond := [Cond.selects RX5 yX5_fits yX5_fits, Cond.code yX5_fits cX5_fits 5 (some .boolean), Cond.methodLink RX5 76 yX5_common, Cond.instanceMethod yX5_common, Cond.selects RX5 yX5_common yX5_common, Cond.code yX5_common cX5_common 7 (some .int), Cond.methodLink RX5 66 yX5_lesser, Cond.static yX5_lesser, Cond.code yX5_lesser cX5_lesser 2 (some .int), Cond.methodLink RX5 69 yX5_greater, Cond.static yX5_greater, Cond.code yX5_greater cX5_greater 2 (some .int)]
def wsX5_dear : List Cond := .code yX5_dear cX5_dear 5 (some .int) :: ((wsX5_dear_r1 ++ (wsX5_dear_r2 ++ (wsX5_dear_r3 ++ wsX5_dear_r4))) ++ wsX50)
def wsX5_dearest_r1 : List Cond := [Cond.fieldLink RX5 31 "CornerLabelsModel" "thrown" "I", Cond.methodLink RX5 222 yX5_dear, Cond.instanceMethod yX5_dear, Cond.selects RX5 yX5_dear yX5_dear, Cond.initialized RX5, Cond.code yX5_dear cX5_dear 5 (some .int), Cond.fieldLink RX5 7 "CornerLabelsModel" "s" "[I", Cond.methodLink RX5 39 yX5_of, Cond.instanceMethod yX5_of, Cond.selects RX5 yX5_of yX5_of, Cond.code yX5_of cX5_of 3 (some .int), Cond.methodLink RX5 141 yX5_heaviest, Cond.instanceMethod yX5_heaviest, Cond.selects RX5 yX5_heaviest yX5_heaviest, Cond.code yX5_heaviest cX5_heaviest 3 (some .int), Cond.fieldLink RX5 22 "CornerLabelsModel" "allowed" "[I", Cond.methodLink RX5 102 yX5_openOf, Cond.instanceMethod yX5_openOf, Cond.selects RX5 yX5_openOf yX5_openOf, Cond.code yX5_openOf cX5_openOf 4 (some .int), Cond.methodLink RX5 62 yX5_isOpen, Cond.instanceMethod yX5_isOpen, Cond.selects RX5 yX5_isOpen yX5_isOpen, Cond.code yX5_isOpen cX5_isOpen 5 (some .boolean)]
def wsX5_dearest_r2 : List Cond := [Cond.methodLink RX5 46 yX5_left, Cond.instanceMethod yX5_left, Cond.selects RX5 yX5_left yX5_left, Cond.code yX5_left cX5_left 3 (some .int), Cond.methodLink RX5 52 yX5_right, Cond.instanceMethod yX5_right, Cond.selects RX5 yX5_right yX5_right, Cond.code yX5_right cX5_right 3 (some .int), Cond.methodLink RX5 49 yX5_low, Cond.instanceMethod yX5_low, Cond.selects RX5 yX5_low yX5_low, Cond.code yX5_low cX5_low 3 (some .int), Cond.methodLink RX5 55 yX5_high, Cond.instanceMethod yX5_high, Cond.selects RX5 yX5_high yX5_high, Cond.code yX5_high cX5_high 3 (some .int), Cond.methodLink RX5 58 yX5_has, Cond.instanceMethod yX5_has, Cond.selects RX5 yX5_has yX5_has, Cond.code yX5_has cX5_has 5 (some .boolean), Cond.methodLink RX5 35 yX5_in, Cond.static yX5_in, Cond.code yX5_in cX5_in 3 (some .boolean), Cond.methodLink RX5 105 yX5_searches]
def wsX5_dearest_r3 : List Cond := [Cond.instanceMethod yX5_searches, Cond.selects RX5 yX5_searches yX5_searches, Cond.code yX5_searches cX5_searches 3 (some .int), Cond.fieldLink RX5 80 "CornerLabelsModel" "looksFor" "I", Cond.fieldLink RX5 83 "CornerLabelsModel" "best" "I", Cond.fieldLink RX5 19 "CornerLabelsModel" "told" "[I", Cond.methodLink RX5 96 yX5_looksAt, Cond.instanceMethod yX5_looksAt, Cond.selects RX5 yX5_looksAt yX5_looksAt, Cond.code yX5_looksAt cX5_looksAt 2 none, Cond.fieldLink RX5 25 "CornerLabelsModel" "plan" "[I", Cond.methodLink RX5 92 yX5_canBe, Cond.instanceMethod yX5_canBe, Cond.selects RX5 yX5_canBe yX5_canBe, Cond.code yX5_canBe cX5_canBe 2 (some .boolean), Cond.methodLink RX5 86 yX5_worth, Cond.instanceMethod yX5_worth, Cond.selects RX5 yX5_worth yX5_worth, Cond.code yX5_worth cX5_worth 5 (some .int), Cond.methodLink RX5 72 yX5_cornerOf, Cond.instanceMethod yX5_cornerOf, Cond.selects RX5 yX5_cornerOf yX5_cornerOf, Cond.code yX5_cornerOf cX5_cornerOf 2 (some .int), Cond.methodLink RX5 89 yX5_weightFrom]
def wsX5_dearest_r4 : List Cond := [Cond.instanceMethod yX5_weightFrom, Cond.selects RX5 yX5_weightFrom yX5_weightFrom, Cond.code yX5_weightFrom cX5_weightFrom 4 (some .int), Cond.methodLink RX5 99 yX5_fits, Cond.instanceMethod yX5_fits, Cond.selects RX5 yX5_fits yX5_fits, Cond.code yX5_fits cX5_fits 5 (some .boolean), Cond.methodLink RX5 76 yX5_common, Cond.instanceMethod yX5_common, Cond.selects RX5 yX5_common yX5_common, Cond.code yX5_common cX5_common 7 (some .int), Cond.methodLink RX5 66 yX5_lesser, Cond.static yX5_lesser, Cond.code yX5_lesser cX5_lesser 2 (some .int), Cond.methodLink RX5 69 yX5_greater, Cond.static yX5_greater, Cond.code yX5_greater cX5_greater 2 (some .int)]
def wsX5_dearest : List Cond := .code yX5_dearest cX5_dearest 1 (some .int) :: ((wsX5_dearest_r1 ++ (wsX5_dearest_r2 ++ (wsX5_dearest_r3 ++ wsX5_dearest_r4))) ++ wsX50)
def wsX5_share : List Cond := .code yX5_share cX5_share 3 (some .double) :: ([.methodLink RX5 197 yX5_weightOf, .instanceMethod yX5_weightOf, .selects RX5 yX5_weightOf yX5_weightOf, .initialized RX5, .code yX5_weightOf cX5_weightOf 4 (some .int), .fieldLink RX5 7 "CornerLabelsModel" "s" "[I", .methodLink RX5 72 yX5_cornerOf, .instanceMethod yX5_cornerOf, .selects RX5 yX5_cornerOf yX5_cornerOf, .code yX5_cornerOf cX5_cornerOf 2 (some .int), .methodLink RX5 39 yX5_of, .instanceMethod yX5_of, .selects RX5 yX5_of yX5_of, .code yX5_of cX5_of 3 (some .int)] ++ wsX50)
def wsX5_standingShare : List Cond := .code yX5_standingShare cX5_standingShare 1 (some .double) :: ([.fieldLink RX5 31 "CornerLabelsModel" "thrown" "I", .methodLink RX5 225 yX5_share, .instanceMethod yX5_share, .selects RX5 yX5_share yX5_share, .initialized RX5, .code yX5_share cX5_share 3 (some .double), .methodLink RX5 197 yX5_weightOf, .instanceMethod yX5_weightOf, .selects RX5 yX5_weightOf yX5_weightOf, .code yX5_weightOf cX5_weightOf 4 (some .int), .fieldLink RX5 7 "CornerLabelsModel" "s" "[I", .methodLink RX5 72 yX5_cornerOf, .instanceMethod yX5_cornerOf, .selects RX5 yX5_cornerOf yX5_cornerOf, .code yX5_cornerOf cX5_cornerOf 2 (some .int), .methodLink RX5 39 yX5_of, .instanceMethod yX5_of, .selects RX5 yX5_of yX5_of, .code yX5_of cX5_of 3 (some .int)] ++ wsX50)
def wsX5_hashes : List Cond := .code yX5_hashes cX5_hashes 3 none :: ([.constantLong RX5 229 (31), .fieldLink RX5 231 "CornerLabelsModel" "hash" "J"] ++ wsX50)
def wsJxe99ae_isNaN_b9ae7 : List Cond := .code yJxe99ae_isNaN_b9ae7 cJxe99ae_isNaN_b9ae7 2 (some .boolean) :: ([])
def wsJxe99ae_doubleToLongBits_ccdee : List Cond := .code yJxe99ae_doubleToLongBits_ccdee cJxe99ae_doubleToLongBits_ccdee 2 (some .long) :: ([.methodLink RJxe99ae 134 ⟨"java/lang/Double", "doubleToRawLongBits", "(D)J"⟩, .native ⟨"java/lang/Double", "doubleToRawLongBits", "(D)J"⟩, .static ⟨"java/lang/Double", "doubleToRawLongBits", "(D)J"⟩, .initialized "java/lang/Double", .constantLong RJxe99ae 137 (9221120237041090560), .methodLink RJxe99ae 122 yJxe99ae_isNaN_b9ae7, .static yJxe99ae_isNaN_b9ae7, .initialized RJxe99ae, .code yJxe99ae_isNaN_b9ae7 cJxe99ae_isNaN_b9ae7 2 (some .boolean)])
def wsX5_digest_r1 : List Cond := [Cond.fieldLink RX5 31 "CornerLabelsModel" "thrown" "I", Cond.constantLong RX5 235 (2833), Cond.fieldLink RX5 231 "CornerLabelsModel" "hash" "J", Cond.fieldLink RX5 7 "CornerLabelsModel" "s" "[I", Cond.fieldLink RX5 154 "CornerLabelsModel" "length" "I", Cond.fieldLink RX5 16 "CornerLabelsModel" "buffer" "[I", Cond.methodLink RX5 213 yX5_counts, Cond.instanceMethod yX5_counts, Cond.selects RX5 yX5_counts yX5_counts, Cond.initialized RX5, Cond.code yX5_counts cX5_counts 2 (some .int), Cond.fieldLink RX5 43 "CornerLabelsModel" "savedMany" "I", Cond.methodLink RX5 150 yX5_standing, Cond.instanceMethod yX5_standing, Cond.selects RX5 yX5_standing yX5_standing, Cond.code yX5_standing cX5_standing 3 (some .int), Cond.methodLink RX5 72 yX5_cornerOf, Cond.instanceMethod yX5_cornerOf, Cond.selects RX5 yX5_cornerOf yX5_cornerOf, Cond.code yX5_cornerOf cX5_cornerOf 2 (some .int), Cond.methodLink RX5 39 yX5_of, Cond.instanceMethod yX5_of, Cond.selects RX5 yX5_of yX5_of, Cond.code yX5_of cX5_of 3 (some .int)]
def wsX5_digest_r2 : List Cond := [Cond.methodLink RX5 197 yX5_weightOf, Cond.instanceMethod yX5_weightOf, Cond.selects RX5 yX5_weightOf yX5_weightOf, Cond.code yX5_weightOf cX5_weightOf 4 (some .int), Cond.methodLink RX5 201 yX5_squares, Cond.instanceMethod yX5_squares, Cond.selects RX5 yX5_squares yX5_squares, Cond.code yX5_squares cX5_squares 3 (some .int), Cond.methodLink RX5 204 yX5_closedMany, Cond.instanceMethod yX5_closedMany, Cond.selects RX5 yX5_closedMany yX5_closedMany, Cond.code yX5_closedMany cX5_closedMany 3 (some .int), Cond.methodLink RX5 102 yX5_openOf, Cond.instanceMethod yX5_openOf, Cond.selects RX5 yX5_openOf yX5_openOf, Cond.code yX5_openOf cX5_openOf 4 (some .int), Cond.methodLink RX5 62 yX5_isOpen, Cond.instanceMethod yX5_isOpen, Cond.selects RX5 yX5_isOpen yX5_isOpen, Cond.code yX5_isOpen cX5_isOpen 5 (some .boolean), Cond.methodLink RX5 46 yX5_left, Cond.instanceMethod yX5_left, Cond.selects RX5 yX5_left yX5_left, Cond.code yX5_left cX5_left 3 (some .int)]
def wsX5_digest_r3 : List Cond := [Cond.methodLink RX5 52 yX5_right, Cond.instanceMethod yX5_right, Cond.selects RX5 yX5_right yX5_right, Cond.code yX5_right cX5_right 3 (some .int), Cond.methodLink RX5 49 yX5_low, Cond.instanceMethod yX5_low, Cond.selects RX5 yX5_low yX5_low, Cond.code yX5_low cX5_low 3 (some .int), Cond.methodLink RX5 55 yX5_high, Cond.instanceMethod yX5_high, Cond.selects RX5 yX5_high yX5_high, Cond.code yX5_high cX5_high 3 (some .int), Cond.methodLink RX5 58 yX5_has, Cond.instanceMethod yX5_has, Cond.selects RX5 yX5_has yX5_has, Cond.code yX5_has cX5_has 5 (some .boolean), Cond.methodLink RX5 35 yX5_in, Cond.static yX5_in, Cond.code yX5_in cX5_in 3 (some .boolean), Cond.methodLink RX5 207 yX5_clashing, Cond.instanceMethod yX5_clashing, Cond.selects RX5 yX5_clashing yX5_clashing, Cond.code yX5_clashing cX5_clashing 4 (some .int), Cond.methodLink RX5 194 yX5_mayClash]
def wsX5_digest_r4 : List Cond := [Cond.instanceMethod yX5_mayClash, Cond.selects RX5 yX5_mayClash yX5_mayClash, Cond.code yX5_mayClash cX5_mayClash 5 (some .boolean), Cond.methodLink RX5 76 yX5_common, Cond.instanceMethod yX5_common, Cond.selects RX5 yX5_common yX5_common, Cond.code yX5_common cX5_common 7 (some .int), Cond.methodLink RX5 66 yX5_lesser, Cond.static yX5_lesser, Cond.code yX5_lesser cX5_lesser 2 (some .int), Cond.methodLink RX5 69 yX5_greater, Cond.static yX5_greater, Cond.code yX5_greater cX5_greater 2 (some .int), Cond.methodLink RX5 210 yX5_crossed, Cond.instanceMethod yX5_crossed, Cond.selects RX5 yX5_crossed yX5_crossed, Cond.code yX5_crossed cX5_crossed 3 (some .int), Cond.methodLink RX5 185 yX5_crosses, Cond.instanceMethod yX5_crosses, Cond.selects RX5 yX5_crosses yX5_crosses, Cond.code yX5_crosses cX5_crosses 6 (some .int), Cond.methodLink RX5 237 yX5_hashes, Cond.instanceMethod yX5_hashes, Cond.selects RX5 yX5_hashes yX5_hashes]
def wsX5_digest_r5 : List Cond := [Cond.code yX5_hashes cX5_hashes 3 none, Cond.constantLong RX5 229 (31), Cond.methodLink RX5 188 yX5_tellsPoint, Cond.instanceMethod yX5_tellsPoint, Cond.selects RX5 yX5_tellsPoint yX5_tellsPoint, Cond.code yX5_tellsPoint cX5_tellsPoint 3 (some .int), Cond.methodLink RX5 182 yX5_freeOf, Cond.instanceMethod yX5_freeOf, Cond.selects RX5 yX5_freeOf yX5_freeOf, Cond.code yX5_freeOf cX5_freeOf 4 (some .int), Cond.methodLink RX5 138 yX5_canStand, Cond.instanceMethod yX5_canStand, Cond.selects RX5 yX5_canStand yX5_canStand, Cond.code yX5_canStand cX5_canStand 5 (some .boolean), Cond.methodLink RX5 216 yX5_bestOf, Cond.instanceMethod yX5_bestOf, Cond.selects RX5 yX5_bestOf yX5_bestOf, Cond.code yX5_bestOf cX5_bestOf 2 (some .int), Cond.fieldLink RX5 25 "CornerLabelsModel" "plan" "[I", Cond.methodLink RX5 141 yX5_heaviest, Cond.instanceMethod yX5_heaviest, Cond.selects RX5 yX5_heaviest yX5_heaviest, Cond.code yX5_heaviest cX5_heaviest 3 (some .int), Cond.fieldLink RX5 22 "CornerLabelsModel" "allowed" "[I"]
def wsX5_digest_r6 : List Cond := [Cond.methodLink RX5 105 yX5_searches, Cond.instanceMethod yX5_searches, Cond.selects RX5 yX5_searches yX5_searches, Cond.code yX5_searches cX5_searches 3 (some .int), Cond.fieldLink RX5 80 "CornerLabelsModel" "looksFor" "I", Cond.fieldLink RX5 83 "CornerLabelsModel" "best" "I", Cond.fieldLink RX5 19 "CornerLabelsModel" "told" "[I", Cond.methodLink RX5 96 yX5_looksAt, Cond.instanceMethod yX5_looksAt, Cond.selects RX5 yX5_looksAt yX5_looksAt, Cond.code yX5_looksAt cX5_looksAt 2 none, Cond.methodLink RX5 92 yX5_canBe, Cond.instanceMethod yX5_canBe, Cond.selects RX5 yX5_canBe yX5_canBe, Cond.code yX5_canBe cX5_canBe 2 (some .boolean), Cond.methodLink RX5 86 yX5_worth, Cond.instanceMethod yX5_worth, Cond.selects RX5 yX5_worth yX5_worth, Cond.code yX5_worth cX5_worth 5 (some .int), Cond.methodLink RX5 89 yX5_weightFrom, Cond.instanceMethod yX5_weightFrom, Cond.selects RX5 yX5_weightFrom yX5_weightFrom, Cond.code yX5_weightFrom cX5_weightFrom 4 (some .int), Cond.methodLink RX5 99 yX5_fits]
def wsX5_digest_r7 : List Cond := [Cond.instanceMethod yX5_fits, Cond.selects RX5 yX5_fits yX5_fits, Cond.code yX5_fits cX5_fits 5 (some .boolean), Cond.methodLink RX5 147 yX5_makesRoom, Cond.instanceMethod yX5_makesRoom, Cond.selects RX5 yX5_makesRoom yX5_makesRoom, Cond.code yX5_makesRoom cX5_makesRoom 3 (some .int), Cond.methodLink RX5 219 yX5_fulls, Cond.instanceMethod yX5_fulls, Cond.selects RX5 yX5_fulls yX5_fulls, Cond.code yX5_fulls cX5_fulls 2 (some .int), Cond.methodLink RX5 222 yX5_dear, Cond.instanceMethod yX5_dear, Cond.selects RX5 yX5_dear yX5_dear, Cond.code yX5_dear cX5_dear 5 (some .int), Cond.methodLink RX5 225 yX5_share, Cond.instanceMethod yX5_share, Cond.selects RX5 yX5_share yX5_share, Cond.code yX5_share cX5_share 3 (some .double), Cond.methodLink RX5 241 yJxe99ae_doubleToLongBits_ccdee, Cond.static yJxe99ae_doubleToLongBits_ccdee, Cond.initialized RJxe99ae, Cond.code yJxe99ae_doubleToLongBits_ccdee cJxe99ae_doubleToLongBits_ccdee 2 (some .long), Cond.methodLink RJxe99ae 134 ⟨"java/lang/Double", "doubleToRawLongBits", "(D)J"⟩]
def wsX5_digest_r8 : List Cond := [Cond.native ⟨"java/lang/Double", "doubleToRawLongBits", "(D)J"⟩, Cond.static ⟨"java/lang/Double", "doubleToRawLongBits", "(D)J"⟩, Cond.initialized "java/lang/Double", Cond.constantLong RJxe99ae 137 (9221120237041090560), Cond.methodLink RJxe99ae 122 yJxe99ae_isNaN_b9ae7, Cond.static yJxe99ae_isNaN_b9ae7, Cond.code yJxe99ae_isNaN_b9ae7 cJxe99ae_isNaN_b9ae7 2 (some .boolean)]
def wsX5_digest : List Cond := .code yX5_digest cX5_digest 3 (some .long) :: ((wsX5_digest_r1 ++ (wsX5_digest_r2 ++ (wsX5_digest_r3 ++ (wsX5_digest_r4 ++ (wsX5_digest_r5 ++ (wsX5_digest_r6 ++ (wsX5_digest_r7 ++ wsX5_digest_r8))))))) ++ wsX50)
def wsJ9_max_7cf53 : List Cond := .code yJ9_max_7cf53 cJ9_max_7cf53 2 (some .int) :: ([])
def wsJ9_min_7cf53 : List Cond := .code yJ9_min_7cf53 cJ9_min_7cf53 2 (some .int) :: ([])
def wsL_add_r1 : List Cond := [Cond.classLink RL 13 "java/lang/IllegalArgumentException", Cond.classLink RL 15 "java/lang/IllegalStateException", Cond.methodLink RL 7 yX4_add, Cond.instanceMethod yX4_add, Cond.selects RX4 yX4_add yX4_add, Cond.initialized RX4, Cond.code yX4_add cX4_add 6 (some .int), Cond.classLink RX4 48 "java/lang/IllegalArgumentException", Cond.initialized "java/lang/IllegalArgumentException", Cond.classLink RX4 58 "java/lang/IllegalStateException", Cond.initialized "java/lang/IllegalStateException", Cond.fieldLink RX4 10 "CornerLabels" "board" "LCornerLabels$Board;", Cond.fieldLink RX4 19 "CornerLabels" "history" "LCornerLabels$History;", Cond.methodLink RX4 37 yX4_isSquare, Cond.static yX4_isSquare, Cond.code yX4_isSquare cX4_isSquare 2 (some .boolean), Cond.methodLink RX4 41 yX4_isSize, Cond.static yX4_isSize, Cond.code yX4_isSize cX4_isSize 2 (some .boolean), Cond.methodLink RX4 44 yX4_isWeight, Cond.static yX4_isWeight, Cond.code yX4_isWeight cX4_isWeight 1 (some .boolean), Cond.methodLink RX4 55 yX0_takesPointOn, Cond.instanceMethod yX0_takesPointOn]
def wsL_add_r2 : List Cond := [Cond.selects RX0 yX0_takesPointOn yX0_takesPointOn, Cond.initialized RX0, Cond.code yX0_takesPointOn cX0_takesPointOn 3 (some .boolean), Cond.fieldLink RX0 15 "CornerLabels$Board" "points" "I", Cond.methodLink RX0 19 yX0_pointOn, Cond.instanceMethod yX0_pointOn, Cond.selects RX0 yX0_pointOn yX0_pointOn, Cond.code yX0_pointOn cX0_pointOn 4 (some .int), Cond.fieldLink RX0 11 "CornerLabels$Board" "cells" "[I", Cond.methodLink RX4 63 yX1_save, Cond.instanceMethod yX1_save, Cond.selects RX1 yX1_save yX1_save, Cond.initialized RX1, Cond.code yX1_save cX1_save 2 none, Cond.fieldLink RX1 20 "CornerLabels$History" "states" "I", Cond.fieldLink RX1 27 "CornerLabels$Board" "cells" "[I", Cond.fieldLink RX1 11 "CornerLabels$History" "cells" "[I", Cond.methodLink RX1 28 arraycopyName, Cond.native arraycopyName, Cond.static arraycopyName, Cond.initialized "java/lang/System", Cond.fieldLink RX1 17 "CornerLabels$History" "points" "[I", Cond.fieldLink RX1 34 "CornerLabels$Board" "points" "I", Cond.methodLink RX1 24 yX1_forgetOldest]
def wsL_add_r3 : List Cond := [Cond.instanceMethod yX1_forgetOldest, Cond.selects RX1 yX1_forgetOldest yX1_forgetOldest, Cond.code yX1_forgetOldest cX1_forgetOldest 1 none, Cond.methodLink RX4 67 yX0_insert, Cond.instanceMethod yX0_insert, Cond.selects RX0 yX0_insert yX0_insert, Cond.code yX0_insert cX0_insert 8 (some .int), Cond.methodLink RX0 23 yX0_labelOn, Cond.instanceMethod yX0_labelOn, Cond.selects RX0 yX0_labelOn yX0_labelOn, Cond.code yX0_labelOn cX0_labelOn 4 (some .int), Cond.methodLink RX0 26 yX0_stands, Cond.instanceMethod yX0_stands, Cond.selects RX0 yX0_stands yX0_stands, Cond.code yX0_stands cX0_stands 2 (some .boolean), Cond.methodLink RX0 36 yX0_covers, Cond.instanceMethod yX0_covers, Cond.selects RX0 yX0_covers yX0_covers, Cond.code yX0_covers cX0_covers 7 (some .boolean), Cond.methodLink RX0 30 yX0_left, Cond.instanceMethod yX0_left, Cond.selects RX0 yX0_left yX0_left, Cond.code yX0_left cX0_left 4 (some .int), Cond.methodLink RX0 33 yX0_top]
def wsL_add_r4 : List Cond := [Cond.instanceMethod yX0_top, Cond.selects RX0 yX0_top yX0_top, Cond.code yX0_top cX0_top 4 (some .int)]
def wsL_add : List Cond := .codeWith yL_add cL_add 8 (some .int) [(0, 16, 19, 13), (0, 16, 23, 15)] :: ((wsL_add_r1 ++ (wsL_add_r2 ++ (wsL_add_r3 ++ wsL_add_r4))) ++ wsX40 ++ wsX00 ++ wsX10 ++ (vx_atS RX4 52 "java/lang/IllegalArgumentException" ["java/lang/RuntimeException", "java/lang/Exception"]).filter goodWord ++ (vx_atS RX4 62 "java/lang/IllegalStateException" ["java/lang/RuntimeException", "java/lang/Exception"]).filter goodWord)
def wsL_remove_r1 : List Cond := [Cond.classLink RL 21 "java/lang/IndexOutOfBoundsException", Cond.methodLink RL 17 yX4_remove, Cond.instanceMethod yX4_remove, Cond.selects RX4 yX4_remove yX4_remove, Cond.initialized RX4, Cond.code yX4_remove cX4_remove 3 (some .int), Cond.classLink RX4 74 "java/lang/IndexOutOfBoundsException", Cond.initialized "java/lang/IndexOutOfBoundsException", Cond.fieldLink RX4 10 "CornerLabels" "board" "LCornerLabels$Board;", Cond.fieldLink RX4 19 "CornerLabels" "history" "LCornerLabels$History;", Cond.methodLink RX4 71 yX0_has, Cond.instanceMethod yX0_has, Cond.selects RX0 yX0_has yX0_has, Cond.initialized RX0, Cond.code yX0_has cX0_has 2 (some .boolean), Cond.fieldLink RX0 15 "CornerLabels$Board" "points" "I", Cond.methodLink RX4 63 yX1_save, Cond.instanceMethod yX1_save, Cond.selects RX1 yX1_save yX1_save, Cond.initialized RX1, Cond.code yX1_save cX1_save 2 none, Cond.fieldLink RX1 20 "CornerLabels$History" "states" "I", Cond.fieldLink RX1 27 "CornerLabels$Board" "cells" "[I", Cond.fieldLink RX1 11 "CornerLabels$History" "cells" "[I"]
def wsL_remove_r2 : List Cond := [Cond.methodLink RX1 28 arraycopyName, Cond.native arraycopyName, Cond.static arraycopyName, Cond.initialized "java/lang/System", Cond.fieldLink RX1 17 "CornerLabels$History" "points" "[I", Cond.fieldLink RX1 34 "CornerLabels$Board" "points" "I", Cond.methodLink RX1 24 yX1_forgetOldest, Cond.instanceMethod yX1_forgetOldest, Cond.selects RX1 yX1_forgetOldest yX1_forgetOldest, Cond.code yX1_forgetOldest cX1_forgetOldest 1 none, Cond.methodLink RX4 79 yX0_openCornersBeside, Cond.instanceMethod yX0_openCornersBeside, Cond.selects RX0 yX0_openCornersBeside yX0_openCornersBeside, Cond.code yX0_openCornersBeside cX0_openCornersBeside 4 (some .int), Cond.methodLink RX0 44 yX0_openMask, Cond.instanceMethod yX0_openMask, Cond.selects RX0 yX0_openMask yX0_openMask, Cond.code yX0_openMask cX0_openMask 4 (some .int), Cond.methodLink RX0 40 yX0_isOpen, Cond.instanceMethod yX0_isOpen, Cond.selects RX0 yX0_isOpen yX0_isOpen, Cond.code yX0_isOpen cX0_isOpen 10 (some .boolean), Cond.fieldLink RX0 11 "CornerLabels$Board" "cells" "[I", Cond.methodLink RX0 30 yX0_left]
def wsL_remove_r3 : List Cond := [Cond.instanceMethod yX0_left, Cond.selects RX0 yX0_left yX0_left, Cond.code yX0_left cX0_left 4 (some .int), Cond.methodLink RX0 33 yX0_top, Cond.instanceMethod yX0_top, Cond.selects RX0 yX0_top yX0_top, Cond.code yX0_top cX0_top 4 (some .int), Cond.methodLink RX0 48 yJ6_bitCount_0f7a4, Cond.static yJ6_bitCount_0f7a4, Cond.initialized RJ6, Cond.code yJ6_bitCount_0f7a4 cJ6_bitCount_0f7a4 1 (some .int), Cond.constant RJ6 265 (1431655765), Cond.constant RJ6 266 (858993459), Cond.constant RJ6 267 (252645135), Cond.methodLink RX4 83 yX0_takeOut, Cond.instanceMethod yX0_takeOut, Cond.selects RX0 yX0_takeOut yX0_takeOut, Cond.code yX0_takeOut cX0_takeOut 4 none]
def wsL_remove : List Cond := .codeWith yL_remove cL_remove 4 (some .int) [(0, 9, 12, 21)] :: ((wsL_remove_r1 ++ (wsL_remove_r2 ++ wsL_remove_r3)) ++ wsX40 ++ wsX00 ++ wsX10 ++ (vx_atS RX4 78 "java/lang/IndexOutOfBoundsException" ["java/lang/RuntimeException", "java/lang/Exception"]).filter goodWord)
def wsL_weigh_r1 : List Cond := [Cond.classLink RL 21 "java/lang/IndexOutOfBoundsException", Cond.classLink RL 13 "java/lang/IllegalArgumentException", Cond.methodLink RL 23 yX4_weigh, Cond.instanceMethod yX4_weigh, Cond.selects RX4 yX4_weigh yX4_weigh, Cond.initialized RX4, Cond.code yX4_weigh cX4_weigh 4 (some .int), Cond.classLink RX4 74 "java/lang/IndexOutOfBoundsException", Cond.initialized "java/lang/IndexOutOfBoundsException", Cond.classLink RX4 48 "java/lang/IllegalArgumentException", Cond.initialized "java/lang/IllegalArgumentException", Cond.fieldLink RX4 10 "CornerLabels" "board" "LCornerLabels$Board;", Cond.fieldLink RX4 19 "CornerLabels" "history" "LCornerLabels$History;", Cond.fieldLink RX4 89 "CornerLabels$Board" "cells" "[I", Cond.methodLink RX4 71 yX0_has, Cond.instanceMethod yX0_has, Cond.selects RX0 yX0_has yX0_has, Cond.initialized RX0, Cond.code yX0_has cX0_has 2 (some .boolean), Cond.fieldLink RX0 15 "CornerLabels$Board" "points" "I", Cond.methodLink RX4 44 yX4_isWeight, Cond.static yX4_isWeight, Cond.code yX4_isWeight cX4_isWeight 1 (some .boolean), Cond.methodLink RX4 63 yX1_save]
def wsL_weigh_r2 : List Cond := [Cond.instanceMethod yX1_save, Cond.selects RX1 yX1_save yX1_save, Cond.initialized RX1, Cond.code yX1_save cX1_save 2 none, Cond.fieldLink RX1 20 "CornerLabels$History" "states" "I", Cond.fieldLink RX1 27 "CornerLabels$Board" "cells" "[I", Cond.fieldLink RX1 11 "CornerLabels$History" "cells" "[I", Cond.methodLink RX1 28 arraycopyName, Cond.native arraycopyName, Cond.static arraycopyName, Cond.initialized "java/lang/System", Cond.fieldLink RX1 17 "CornerLabels$History" "points" "[I", Cond.fieldLink RX1 34 "CornerLabels$Board" "points" "I", Cond.methodLink RX1 24 yX1_forgetOldest, Cond.instanceMethod yX1_forgetOldest, Cond.selects RX1 yX1_forgetOldest yX1_forgetOldest, Cond.code yX1_forgetOldest cX1_forgetOldest 1 none]
def wsL_weigh : List Cond := .codeWith yL_weigh cL_weigh 5 (some .int) [(0, 10, 13, 21), (0, 10, 17, 13)] :: ((wsL_weigh_r1 ++ wsL_weigh_r2) ++ wsX40 ++ wsX00 ++ wsX10 ++ (vx_atS RX4 78 "java/lang/IndexOutOfBoundsException" ["java/lang/RuntimeException", "java/lang/Exception"]).filter goodWord ++ (vx_atS RX4 52 "java/lang/IllegalArgumentException" ["java/lang/RuntimeException", "java/lang/Exception"]).filter goodWord)
def wsL_resize_r1 : List Cond := [Cond.classLink RL 21 "java/lang/IndexOutOfBoundsException", Cond.classLink RL 13 "java/lang/IllegalArgumentException", Cond.methodLink RL 27 yX4_resize, Cond.instanceMethod yX4_resize, Cond.selects RX4 yX4_resize yX4_resize, Cond.initialized RX4, Cond.code yX4_resize cX4_resize 4 (some .int), Cond.classLink RX4 74 "java/lang/IndexOutOfBoundsException", Cond.initialized "java/lang/IndexOutOfBoundsException", Cond.classLink RX4 48 "java/lang/IllegalArgumentException", Cond.initialized "java/lang/IllegalArgumentException", Cond.fieldLink RX4 10 "CornerLabels" "board" "LCornerLabels$Board;", Cond.fieldLink RX4 19 "CornerLabels" "history" "LCornerLabels$History;", Cond.fieldLink RX4 89 "CornerLabels$Board" "cells" "[I", Cond.methodLink RX4 71 yX0_has, Cond.instanceMethod yX0_has, Cond.selects RX0 yX0_has yX0_has, Cond.initialized RX0, Cond.code yX0_has cX0_has 2 (some .boolean), Cond.fieldLink RX0 15 "CornerLabels$Board" "points" "I", Cond.methodLink RX4 41 yX4_isSize, Cond.static yX4_isSize, Cond.code yX4_isSize cX4_isSize 2 (some .boolean), Cond.methodLink RX4 63 yX1_save]
def wsL_resize_r2 : List Cond := [Cond.instanceMethod yX1_save, Cond.selects RX1 yX1_save yX1_save, Cond.initialized RX1, Cond.code yX1_save cX1_save 2 none, Cond.fieldLink RX1 20 "CornerLabels$History" "states" "I", Cond.fieldLink RX1 27 "CornerLabels$Board" "cells" "[I", Cond.fieldLink RX1 11 "CornerLabels$History" "cells" "[I", Cond.methodLink RX1 28 arraycopyName, Cond.native arraycopyName, Cond.static arraycopyName, Cond.initialized "java/lang/System", Cond.fieldLink RX1 17 "CornerLabels$History" "points" "[I", Cond.fieldLink RX1 34 "CornerLabels$Board" "points" "I", Cond.methodLink RX1 24 yX1_forgetOldest, Cond.instanceMethod yX1_forgetOldest, Cond.selects RX1 yX1_forgetOldest yX1_forgetOldest, Cond.code yX1_forgetOldest cX1_forgetOldest 1 none, Cond.methodLink RX4 95 yX0_openMask, Cond.instanceMethod yX0_openMask, Cond.selects RX0 yX0_openMask yX0_openMask, Cond.code yX0_openMask cX0_openMask 4 (some .int), Cond.methodLink RX0 40 yX0_isOpen, Cond.instanceMethod yX0_isOpen, Cond.selects RX0 yX0_isOpen yX0_isOpen]
def wsL_resize_r3 : List Cond := [Cond.code yX0_isOpen cX0_isOpen 10 (some .boolean), Cond.fieldLink RX0 11 "CornerLabels$Board" "cells" "[I", Cond.methodLink RX0 30 yX0_left, Cond.instanceMethod yX0_left, Cond.selects RX0 yX0_left yX0_left, Cond.code yX0_left cX0_left 4 (some .int), Cond.methodLink RX0 33 yX0_top, Cond.instanceMethod yX0_top, Cond.selects RX0 yX0_top yX0_top, Cond.code yX0_top cX0_top 4 (some .int), Cond.methodLink RX4 98 yJ6_bitCount_0f7a4, Cond.static yJ6_bitCount_0f7a4, Cond.initialized RJ6, Cond.code yJ6_bitCount_0f7a4 cJ6_bitCount_0f7a4 1 (some .int), Cond.constant RJ6 265 (1431655765), Cond.constant RJ6 266 (858993459), Cond.constant RJ6 267 (252645135)]
def wsL_resize : List Cond := .codeWith yL_resize cL_resize 6 (some .int) [(0, 12, 15, 21), (0, 12, 19, 13)] :: ((wsL_resize_r1 ++ (wsL_resize_r2 ++ wsL_resize_r3)) ++ wsX40 ++ wsX00 ++ wsX10 ++ (vx_atS RX4 78 "java/lang/IndexOutOfBoundsException" ["java/lang/RuntimeException", "java/lang/Exception"]).filter goodWord ++ (vx_atS RX4 52 "java/lang/IllegalArgumentException" ["java/lang/RuntimeException", "java/lang/Exception"]).filter goodWord)
def wsL_place_r1 : List Cond := [Cond.classLink RL 21 "java/lang/IndexOutOfBoundsException", Cond.classLink RL 13 "java/lang/IllegalArgumentException", Cond.classLink RL 15 "java/lang/IllegalStateException", Cond.methodLink RL 31 yX4_place, Cond.instanceMethod yX4_place, Cond.selects RX4 yX4_place yX4_place, Cond.initialized RX4, Cond.code yX4_place cX4_place 3 (some .int), Cond.classLink RX4 74 "java/lang/IndexOutOfBoundsException", Cond.initialized "java/lang/IndexOutOfBoundsException", Cond.classLink RX4 48 "java/lang/IllegalArgumentException", Cond.initialized "java/lang/IllegalArgumentException", Cond.classLink RX4 58 "java/lang/IllegalStateException", Cond.initialized "java/lang/IllegalStateException", Cond.fieldLink RX4 10 "CornerLabels" "board" "LCornerLabels$Board;", Cond.fieldLink RX4 19 "CornerLabels" "history" "LCornerLabels$History;", Cond.methodLink RX4 71 yX0_has, Cond.instanceMethod yX0_has, Cond.selects RX0 yX0_has yX0_has, Cond.initialized RX0, Cond.code yX0_has cX0_has 2 (some .boolean), Cond.fieldLink RX0 15 "CornerLabels$Board" "points" "I", Cond.methodLink RX4 103 yX4_isCorner, Cond.static yX4_isCorner]
def wsL_place_r2 : List Cond := [Cond.code yX4_isCorner cX4_isCorner 1 (some .boolean), Cond.methodLink RX4 108 yX0_freeMask, Cond.instanceMethod yX0_freeMask, Cond.selects RX0 yX0_freeMask yX0_freeMask, Cond.code yX0_freeMask cX0_freeMask 4 (some .int), Cond.methodLink RX0 44 yX0_openMask, Cond.instanceMethod yX0_openMask, Cond.selects RX0 yX0_openMask yX0_openMask, Cond.code yX0_openMask cX0_openMask 4 (some .int), Cond.methodLink RX0 40 yX0_isOpen, Cond.instanceMethod yX0_isOpen, Cond.selects RX0 yX0_isOpen yX0_isOpen, Cond.code yX0_isOpen cX0_isOpen 10 (some .boolean), Cond.fieldLink RX0 11 "CornerLabels$Board" "cells" "[I", Cond.methodLink RX0 30 yX0_left, Cond.instanceMethod yX0_left, Cond.selects RX0 yX0_left yX0_left, Cond.code yX0_left cX0_left 4 (some .int), Cond.methodLink RX0 33 yX0_top, Cond.instanceMethod yX0_top, Cond.selects RX0 yX0_top yX0_top, Cond.code yX0_top cX0_top 4 (some .int), Cond.static yX4_hasBit, Cond.code yX4_hasBit cX4_hasBit 2 (some .boolean)]
def wsL_place_r3 : List Cond := [Cond.methodLink RX0 71 yX0_clashesWithStanding, Cond.instanceMethod yX0_clashesWithStanding, Cond.selects RX0 yX0_clashesWithStanding yX0_clashesWithStanding, Cond.code yX0_clashesWithStanding cX0_clashesWithStanding 4 (some .boolean), Cond.methodLink RX0 26 yX0_stands, Cond.instanceMethod yX0_stands, Cond.selects RX0 yX0_stands yX0_stands, Cond.code yX0_stands cX0_stands 2 (some .boolean), Cond.methodLink RX0 65 yX0_sharedSquares, Cond.instanceMethod yX0_sharedSquares, Cond.selects RX0 yX0_sharedSquares yX0_sharedSquares, Cond.code yX0_sharedSquares cX0_sharedSquares 7 (some .int), Cond.methodLink RX0 53 yX0_sharedLength, Cond.static yX0_sharedLength, Cond.code yX0_sharedLength cX0_sharedLength 6 (some .int), Cond.methodLink RX0 57 Lib.Math.max.name, Cond.static Lib.Math.max.name, Cond.initialized "java/lang/Math", Cond.code Lib.Math.max.name Lib.Math.max.code 2 (some .int), Cond.methodLink RX0 62 Lib.Math.min.name, Cond.static Lib.Math.min.name, Cond.code Lib.Math.min.name Lib.Math.min.code 2 (some .int), Cond.methodLink RX4 111 yX4_hasBit, Cond.methodLink RX4 63 yX1_save]
def wsL_place_r4 : List Cond := [Cond.instanceMethod yX1_save, Cond.selects RX1 yX1_save yX1_save, Cond.initialized RX1, Cond.code yX1_save cX1_save 2 none, Cond.fieldLink RX1 20 "CornerLabels$History" "states" "I", Cond.fieldLink RX1 27 "CornerLabels$Board" "cells" "[I", Cond.fieldLink RX1 11 "CornerLabels$History" "cells" "[I", Cond.methodLink RX1 28 arraycopyName, Cond.native arraycopyName, Cond.static arraycopyName, Cond.initialized "java/lang/System", Cond.fieldLink RX1 17 "CornerLabels$History" "points" "[I", Cond.fieldLink RX1 34 "CornerLabels$Board" "points" "I", Cond.methodLink RX1 24 yX1_forgetOldest, Cond.instanceMethod yX1_forgetOldest, Cond.selects RX1 yX1_forgetOldest yX1_forgetOldest, Cond.code yX1_forgetOldest cX1_forgetOldest 1 none, Cond.methodLink RX4 116 yX4_putLabel, Cond.instanceMethod yX4_putLabel, Cond.selects RX4 yX4_putLabel yX4_putLabel, Cond.code yX4_putLabel cX4_putLabel 4 (some .int), Cond.fieldLink RX4 89 "CornerLabels$Board" "cells" "[I"]
def wsL_place : List Cond := .codeWith yL_place cL_place 5 (some .int) [(0, 10, 13, 21), (0, 10, 17, 13), (0, 10, 21, 15)] :: ((wsL_place_r1 ++ (wsL_place_r2 ++ (wsL_place_r3 ++ wsL_place_r4))) ++ wsX40 ++ wsX00 ++ wsX10 ++ (vx_atS RX4 78 "java/lang/IndexOutOfBoundsException" ["java/lang/RuntimeException", "java/lang/Exception"]).filter goodWord ++ (vx_atS RX4 52 "java/lang/IllegalArgumentException" ["java/lang/RuntimeException", "java/lang/Exception"]).filter goodWord ++ (vx_atS RX4 62 "java/lang/IllegalStateException" ["java/lang/RuntimeException", "java/lang/Exception"]).filter goodWord)
def wsL_drop_r1 : List Cond := [Cond.classLink RL 21 "java/lang/IndexOutOfBoundsException", Cond.methodLink RL 34 yX4_drop, Cond.instanceMethod yX4_drop, Cond.selects RX4 yX4_drop yX4_drop, Cond.initialized RX4, Cond.code yX4_drop cX4_drop 2 (some .int), Cond.classLink RX4 74 "java/lang/IndexOutOfBoundsException", Cond.initialized "java/lang/IndexOutOfBoundsException", Cond.fieldLink RX4 10 "CornerLabels" "board" "LCornerLabels$Board;", Cond.fieldLink RX4 19 "CornerLabels" "history" "LCornerLabels$History;", Cond.methodLink RX4 71 yX0_has, Cond.instanceMethod yX0_has, Cond.selects RX0 yX0_has yX0_has, Cond.initialized RX0, Cond.code yX0_has cX0_has 2 (some .boolean), Cond.fieldLink RX0 15 "CornerLabels$Board" "points" "I", Cond.methodLink RX4 63 yX1_save, Cond.instanceMethod yX1_save, Cond.selects RX1 yX1_save yX1_save, Cond.initialized RX1, Cond.code yX1_save cX1_save 2 none, Cond.fieldLink RX1 20 "CornerLabels$History" "states" "I", Cond.fieldLink RX1 27 "CornerLabels$Board" "cells" "[I", Cond.fieldLink RX1 11 "CornerLabels$History" "cells" "[I"]
def wsL_drop_r2 : List Cond := [Cond.methodLink RX1 28 arraycopyName, Cond.native arraycopyName, Cond.static arraycopyName, Cond.initialized "java/lang/System", Cond.fieldLink RX1 17 "CornerLabels$History" "points" "[I", Cond.fieldLink RX1 34 "CornerLabels$Board" "points" "I", Cond.methodLink RX1 24 yX1_forgetOldest, Cond.instanceMethod yX1_forgetOldest, Cond.selects RX1 yX1_forgetOldest yX1_forgetOldest, Cond.code yX1_forgetOldest cX1_forgetOldest 1 none, Cond.methodLink RX4 116 yX4_putLabel, Cond.instanceMethod yX4_putLabel, Cond.selects RX4 yX4_putLabel yX4_putLabel, Cond.code yX4_putLabel cX4_putLabel 4 (some .int), Cond.fieldLink RX4 89 "CornerLabels$Board" "cells" "[I"]
def wsL_drop : List Cond := .codeWith yL_drop cL_drop 4 (some .int) [(0, 9, 12, 21)] :: ((wsL_drop_r1 ++ wsL_drop_r2) ++ wsX40 ++ wsX00 ++ wsX10 ++ (vx_atS RX4 78 "java/lang/IndexOutOfBoundsException" ["java/lang/RuntimeException", "java/lang/Exception"]).filter goodWord)
def wsL_push_r1 : List Cond := [Cond.classLink RL 21 "java/lang/IndexOutOfBoundsException", Cond.classLink RL 15 "java/lang/IllegalStateException", Cond.methodLink RL 37 yX4_push, Cond.instanceMethod yX4_push, Cond.selects RX4 yX4_push yX4_push, Cond.initialized RX4, Cond.code yX4_push cX4_push 3 (some .int), Cond.classLink RX4 74 "java/lang/IndexOutOfBoundsException", Cond.initialized "java/lang/IndexOutOfBoundsException", Cond.classLink RX4 58 "java/lang/IllegalStateException", Cond.initialized "java/lang/IllegalStateException", Cond.fieldLink RX4 10 "CornerLabels" "board" "LCornerLabels$Board;", Cond.fieldLink RX4 33 "CornerLabels" "plans" "LCornerLabels$Plans;", Cond.fieldLink RX4 19 "CornerLabels" "history" "LCornerLabels$History;", Cond.methodLink RX4 71 yX0_has, Cond.instanceMethod yX0_has, Cond.selects RX0 yX0_has yX0_has, Cond.initialized RX0, Cond.code yX0_has cX0_has 2 (some .boolean), Cond.fieldLink RX0 15 "CornerLabels$Board" "points" "I", Cond.methodLink RX4 120 yX2_look, Cond.instanceMethod yX2_look, Cond.selects RX2 yX2_look yX2_look, Cond.initialized RX2]
def wsL_push_r2 : List Cond := [Cond.code yX2_look cX2_look 4 none, Cond.fieldLink RX2 65 "CornerLabels$Board" "points" "I", Cond.fieldLink RX2 9 "CornerLabels$Plans" "points" "I", Cond.fieldLink RX2 15 "CornerLabels$Plans" "open" "[I", Cond.fieldLink RX2 19 "CornerLabels$Plans" "weight" "[I", Cond.fieldLink RX2 72 "CornerLabels$Board" "cells" "[I", Cond.fieldLink RX2 22 "CornerLabels$Plans" "now" "[I", Cond.fieldLink RX2 25 "CornerLabels$Plans" "clashing" "[I", Cond.methodLink RX2 68 yX0_openMask, Cond.instanceMethod yX0_openMask, Cond.selects RX0 yX0_openMask yX0_openMask, Cond.code yX0_openMask cX0_openMask 4 (some .int), Cond.methodLink RX0 40 yX0_isOpen, Cond.instanceMethod yX0_isOpen, Cond.selects RX0 yX0_isOpen yX0_isOpen, Cond.code yX0_isOpen cX0_isOpen 10 (some .boolean), Cond.fieldLink RX0 11 "CornerLabels$Board" "cells" "[I", Cond.methodLink RX0 30 yX0_left, Cond.instanceMethod yX0_left, Cond.selects RX0 yX0_left yX0_left, Cond.code yX0_left cX0_left 4 (some .int), Cond.methodLink RX0 33 yX0_top, Cond.instanceMethod yX0_top, Cond.selects RX0 yX0_top yX0_top]
def wsL_push_r3 : List Cond := [Cond.code yX0_top cX0_top 4 (some .int), Cond.methodLink RX2 75 yX2_laterClashes, Cond.instanceMethod yX2_laterClashes, Cond.selects RX2 yX2_laterClashes yX2_laterClashes, Cond.code yX2_laterClashes cX2_laterClashes 7 (some .int), Cond.static yX4_hasBit, Cond.code yX4_hasBit cX4_hasBit 2 (some .boolean), Cond.methodLink RX2 83 yX0_sharedSquares, Cond.instanceMethod yX0_sharedSquares, Cond.selects RX0 yX0_sharedSquares yX0_sharedSquares, Cond.code yX0_sharedSquares cX0_sharedSquares 7 (some .int), Cond.methodLink RX0 53 yX0_sharedLength, Cond.static yX0_sharedLength, Cond.code yX0_sharedLength cX0_sharedLength 6 (some .int), Cond.methodLink RX0 57 Lib.Math.max.name, Cond.static Lib.Math.max.name, Cond.initialized "java/lang/Math", Cond.code Lib.Math.max.name Lib.Math.max.code 2 (some .int), Cond.methodLink RX0 62 Lib.Math.min.name, Cond.static Lib.Math.min.name, Cond.code Lib.Math.min.name Lib.Math.min.code 2 (some .int), Cond.methodLink RX4 129 yX2_findRoom, Cond.instanceMethod yX2_findRoom, Cond.selects RX2 yX2_findRoom yX2_findRoom]
def wsL_push_r4 : List Cond := [Cond.code yX2_findRoom cX2_findRoom 6 (some .int), Cond.fieldLink RX2 28 "CornerLabels$Plans" "allowed" "[I", Cond.fieldLink RX2 34 "CornerLabels$Plans" "mayDrop" "[Z", Cond.fieldLink RX2 38 "CornerLabels$Plans" "gain" "[I", Cond.methodLink RX2 87 yX2_findTop, Cond.instanceMethod yX2_findTop, Cond.selects RX2 yX2_findTop yX2_findTop, Cond.code yX2_findTop cX2_findTop 2 (some .int), Cond.fieldLink RX2 44 "CornerLabels$Plans" "hope" "[I", Cond.fieldLink RX2 31 "CornerLabels$Plans" "allowedSpots" "I", Cond.fieldLink RX2 41 "CornerLabels$Plans" "mostGain" "[I", Cond.fieldLink RX2 53 "CornerLabels$Plans" "foundScore" "I", Cond.methodLink RX2 100 yX2_findMostGain, Cond.instanceMethod yX2_findMostGain, Cond.selects RX2 yX2_findMostGain yX2_findMostGain, Cond.code yX2_findMostGain cX2_findMostGain 4 (some .int), Cond.methodLink RX2 107 Lib.Math.max.name, Cond.methodLink RX2 103 yX2_seek, Cond.static yX2_seek, Cond.code yX2_seek cX2_seek 8 none, Cond.fieldLink RX2 47 "CornerLabels$Plans" "trial" "[I", Cond.methodLink RX2 113 yX2_keepTrial, Cond.instanceMethod yX2_keepTrial, Cond.selects RX2 yX2_keepTrial yX2_keepTrial]
def wsL_push_r5 : List Cond := [Cond.code yX2_keepTrial cX2_keepTrial 2 none, Cond.fieldLink RX2 50 "CornerLabels$Plans" "found" "[I", Cond.methodLink RX2 94 arraycopyName, Cond.native arraycopyName, Cond.static arraycopyName, Cond.initialized "java/lang/System", Cond.methodLink RX4 63 yX1_save, Cond.instanceMethod yX1_save, Cond.selects RX1 yX1_save yX1_save, Cond.initialized RX1, Cond.code yX1_save cX1_save 2 none, Cond.fieldLink RX1 20 "CornerLabels$History" "states" "I", Cond.fieldLink RX1 27 "CornerLabels$Board" "cells" "[I", Cond.fieldLink RX1 11 "CornerLabels$History" "cells" "[I", Cond.methodLink RX1 28 arraycopyName, Cond.fieldLink RX1 17 "CornerLabels$History" "points" "[I", Cond.fieldLink RX1 34 "CornerLabels$Board" "points" "I", Cond.methodLink RX1 24 yX1_forgetOldest, Cond.instanceMethod yX1_forgetOldest, Cond.selects RX1 yX1_forgetOldest yX1_forgetOldest, Cond.code yX1_forgetOldest cX1_forgetOldest 1 none, Cond.methodLink RX4 126 yX4_putLabelsAsFound, Cond.instanceMethod yX4_putLabelsAsFound, Cond.selects RX4 yX4_putLabelsAsFound yX4_putLabelsAsFound]
def wsL_push_r6 : List Cond := [Cond.code yX4_putLabelsAsFound cX4_putLabelsAsFound 2 none, Cond.fieldLink RX4 242 "CornerLabels$Board" "points" "I", Cond.fieldLink RX4 89 "CornerLabels$Board" "cells" "[I", Cond.fieldLink RX4 245 "CornerLabels$Plans" "found" "[I"]
def wsL_push : List Cond := .codeWith yL_push cL_push 4 (some .int) [(0, 9, 12, 21), (0, 9, 15, 15)] :: ((wsL_push_r1 ++ (wsL_push_r2 ++ (wsL_push_r3 ++ (wsL_push_r4 ++ (wsL_push_r5 ++ wsL_push_r6))))) ++ wsX40 ++ wsX00 ++ wsX20 ++ wsX10 ++ (vx_atS RX4 78 "java/lang/IndexOutOfBoundsException" ["java/lang/RuntimeException", "java/lang/Exception"]).filter goodWord ++ (vx_atS RX4 62 "java/lang/IllegalStateException" ["java/lang/RuntimeException", "java/lang/Exception"]).filter goodWord)
def wsL_append : List Cond := .codeWith yL_append cL_append 4 (some .int) [(0, 9, 12, 13), (0, 9, 15, 15)] :: ([.classLink RL 13 "java/lang/IllegalArgumentException", .classLink RL 15 "java/lang/IllegalStateException", .methodLink RL 40 yX4_append, .instanceMethod yX4_append, .selects RX4 yX4_append yX4_append, .initialized RX4, .code yX4_append cX4_append 2 (some .int), .classLink RX4 48 "java/lang/IllegalArgumentException", .initialized "java/lang/IllegalArgumentException", .classLink RX4 58 "java/lang/IllegalStateException", .initialized "java/lang/IllegalStateException", .fieldLink RX4 26 "CornerLabels" "typed" "LCornerLabels$Typed;", .fieldLink RX4 143 "CornerLabels$Typed" "length" "I", .methodLink RX4 149 yX3_write, .instanceMethod yX3_write, .selects RX3 yX3_write yX3_write, .initialized RX3, .code yX3_write cX3_write 2 none, .fieldLink RX3 9 "CornerLabels$Typed" "codes" "[I", .fieldLink RX3 15 "CornerLabels$Typed" "length" "I"] ++ wsX40 ++ wsX30 ++ (vx_atS RX4 52 "java/lang/IllegalArgumentException" ["java/lang/RuntimeException", "java/lang/Exception"]).filter goodWord ++ (vx_atS RX4 62 "java/lang/IllegalStateException" ["java/lang/RuntimeException", "java/lang/Exception"]).filter goodWord)
def wsL_read_r1 : List Cond := [Cond.classLink RL 13 "java/lang/IllegalArgumentException", Cond.methodLink RL 43 yX4_read, Cond.instanceMethod yX4_read, Cond.selects RX4 yX4_read yX4_read, Cond.initialized RX4, Cond.code yX4_read cX4_read 2 (some .int), Cond.classLink RX4 48 "java/lang/IllegalArgumentException", Cond.initialized "java/lang/IllegalArgumentException", Cond.fieldLink RX4 26 "CornerLabels" "typed" "LCornerLabels$Typed;", Cond.fieldLink RX4 143 "CornerLabels$Typed" "length" "I", Cond.fieldLink RX4 19 "CornerLabels" "history" "LCornerLabels$History;", Cond.fieldLink RX4 10 "CornerLabels" "board" "LCornerLabels$Board;", Cond.methodLink RX4 152 yX3_scan, Cond.instanceMethod yX3_scan, Cond.selects RX3 yX3_scan yX3_scan, Cond.initialized RX3, Cond.code yX3_scan cX3_scan 2 (some .int), Cond.fieldLink RX3 22 "CornerLabels$Typed" "reading" "I", Cond.fieldLink RX3 15 "CornerLabels$Typed" "length" "I", Cond.fieldLink RX3 9 "CornerLabels$Typed" "codes" "[I", Cond.methodLink RX3 31 yX3_beginPoint, Cond.instanceMethod yX3_beginPoint, Cond.selects RX3 yX3_beginPoint yX3_beginPoint, Cond.code yX3_beginPoint cX3_beginPoint 1 (some .boolean)]
def wsL_read_r2 : List Cond := [Cond.fieldLink RX3 19 "CornerLabels$Typed" "told" "[I", Cond.fieldLink RX3 25 "CornerLabels$Typed" "part" "I", Cond.fieldLink RX3 28 "CornerLabels$Typed" "value" "I", Cond.methodLink RX3 35 yX3_take, Cond.instanceMethod yX3_take, Cond.selects RX3 yX3_take yX3_take, Cond.code yX3_take cX3_take 3 (some .boolean), Cond.methodLink RX3 39 yX3_takeDigit, Cond.instanceMethod yX3_takeDigit, Cond.selects RX3 yX3_takeDigit yX3_takeDigit, Cond.code yX3_takeDigit cX3_takeDigit 3 (some .boolean), Cond.fieldLink RX3 46 "CornerLabels$Typed" "LEAST" "[I", Cond.fieldLink RX3 49 "CornerLabels$Typed" "MOST" "[I", Cond.methodLink RX3 42 yX3_partAfter, Cond.static yX3_partAfter, Cond.code yX3_partAfter cX3_partAfter 2 (some .int), Cond.methodLink RX4 155 yX3_endsWithPoint, Cond.instanceMethod yX3_endsWithPoint, Cond.selects RX3 yX3_endsWithPoint yX3_endsWithPoint, Cond.code yX3_endsWithPoint cX3_endsWithPoint 1 (some .boolean), Cond.methodLink RX4 63 yX1_save, Cond.instanceMethod yX1_save, Cond.selects RX1 yX1_save yX1_save, Cond.initialized RX1]
def wsL_read_r3 : List Cond := [Cond.code yX1_save cX1_save 2 none, Cond.fieldLink RX1 20 "CornerLabels$History" "states" "I", Cond.fieldLink RX1 27 "CornerLabels$Board" "cells" "[I", Cond.fieldLink RX1 11 "CornerLabels$History" "cells" "[I", Cond.methodLink RX1 28 arraycopyName, Cond.native arraycopyName, Cond.static arraycopyName, Cond.initialized "java/lang/System", Cond.fieldLink RX1 17 "CornerLabels$History" "points" "[I", Cond.fieldLink RX1 34 "CornerLabels$Board" "points" "I", Cond.methodLink RX1 24 yX1_forgetOldest, Cond.instanceMethod yX1_forgetOldest, Cond.selects RX1 yX1_forgetOldest yX1_forgetOldest, Cond.code yX1_forgetOldest cX1_forgetOldest 1 none, Cond.methodLink RX4 161 yX4_insertTold, Cond.instanceMethod yX4_insertTold, Cond.selects RX4 yX4_insertTold yX4_insertTold, Cond.code yX4_insertTold cX4_insertTold 5 (some .int), Cond.methodLink RX4 248 yX3_pointsTold, Cond.instanceMethod yX3_pointsTold, Cond.selects RX3 yX3_pointsTold yX3_pointsTold, Cond.code yX3_pointsTold cX3_pointsTold 1 (some .int), Cond.methodLink RX4 251 yX3_part, Cond.instanceMethod yX3_part]
def wsL_read_r4 : List Cond := [Cond.selects RX3 yX3_part yX3_part, Cond.code yX3_part cX3_part 3 (some .int), Cond.methodLink RX4 55 yX0_takesPointOn, Cond.instanceMethod yX0_takesPointOn, Cond.selects RX0 yX0_takesPointOn yX0_takesPointOn, Cond.initialized RX0, Cond.code yX0_takesPointOn cX0_takesPointOn 3 (some .boolean), Cond.fieldLink RX0 15 "CornerLabels$Board" "points" "I", Cond.methodLink RX0 19 yX0_pointOn, Cond.instanceMethod yX0_pointOn, Cond.selects RX0 yX0_pointOn yX0_pointOn, Cond.code yX0_pointOn cX0_pointOn 4 (some .int), Cond.fieldLink RX0 11 "CornerLabels$Board" "cells" "[I", Cond.methodLink RX4 67 yX0_insert, Cond.instanceMethod yX0_insert, Cond.selects RX0 yX0_insert yX0_insert, Cond.code yX0_insert cX0_insert 8 (some .int), Cond.methodLink RX0 23 yX0_labelOn, Cond.instanceMethod yX0_labelOn, Cond.selects RX0 yX0_labelOn yX0_labelOn, Cond.code yX0_labelOn cX0_labelOn 4 (some .int), Cond.methodLink RX0 26 yX0_stands, Cond.instanceMethod yX0_stands, Cond.selects RX0 yX0_stands yX0_stands]
def wsL_read_r5 : List Cond := [Cond.code yX0_stands cX0_stands 2 (some .boolean), Cond.methodLink RX0 36 yX0_covers, Cond.instanceMethod yX0_covers, Cond.selects RX0 yX0_covers yX0_covers, Cond.code yX0_covers cX0_covers 7 (some .boolean), Cond.methodLink RX0 30 yX0_left, Cond.instanceMethod yX0_left, Cond.selects RX0 yX0_left yX0_left, Cond.code yX0_left cX0_left 4 (some .int), Cond.methodLink RX0 33 yX0_top, Cond.instanceMethod yX0_top, Cond.selects RX0 yX0_top yX0_top, Cond.code yX0_top cX0_top 4 (some .int)]
def wsL_read : List Cond := .codeWith yL_read cL_read 3 (some .int) [(0, 8, 11, 13)] :: ((wsL_read_r1 ++ (wsL_read_r2 ++ (wsL_read_r3 ++ (wsL_read_r4 ++ wsL_read_r5)))) ++ wsX40 ++ wsX30 ++ wsX10 ++ wsX00 ++ (vx_atS RX4 52 "java/lang/IllegalArgumentException" ["java/lang/RuntimeException", "java/lang/Exception"]).filter goodWord)
def wsL_undo_r1 : List Cond := [Cond.classLink RL 15 "java/lang/IllegalStateException", Cond.methodLink RL 47 yX4_undo, Cond.instanceMethod yX4_undo, Cond.selects RX4 yX4_undo yX4_undo, Cond.initialized RX4, Cond.code yX4_undo cX4_undo 1 (some .int), Cond.classLink RX4 58 "java/lang/IllegalStateException", Cond.initialized "java/lang/IllegalStateException", Cond.fieldLink RX4 19 "CornerLabels" "history" "LCornerLabels$History;", Cond.fieldLink RX4 164 "CornerLabels$History" "states" "I", Cond.fieldLink RX4 10 "CornerLabels" "board" "LCornerLabels$Board;", Cond.methodLink RX4 169 yX1_restore, Cond.instanceMethod yX1_restore, Cond.selects RX1 yX1_restore yX1_restore, Cond.initialized RX1, Cond.code yX1_restore cX1_restore 2 none, Cond.fieldLink RX1 20 "CornerLabels$History" "states" "I", Cond.fieldLink RX1 11 "CornerLabels$History" "cells" "[I", Cond.fieldLink RX1 27 "CornerLabels$Board" "cells" "[I", Cond.methodLink RX1 28 arraycopyName, Cond.native arraycopyName, Cond.static arraycopyName, Cond.initialized "java/lang/System", Cond.fieldLink RX1 17 "CornerLabels$History" "points" "[I"]
def wsL_undo_r2 : List Cond := [Cond.fieldLink RX1 34 "CornerLabels$Board" "points" "I"]
def wsL_undo : List Cond := .codeWith yL_undo cL_undo 3 (some .int) [(0, 8, 11, 15)] :: ((wsL_undo_r1 ++ wsL_undo_r2) ++ wsX40 ++ wsX10 ++ wsX00 ++ (vx_atS RX4 62 "java/lang/IllegalStateException" ["java/lang/RuntimeException", "java/lang/Exception"]).filter goodWord)
def wsL_point_r1 : List Cond := [Cond.classLink RL 21 "java/lang/IndexOutOfBoundsException", Cond.classLink RL 13 "java/lang/IllegalArgumentException", Cond.methodLink RL 50 yX4_point, Cond.instanceMethod yX4_point, Cond.selects RX4 yX4_point yX4_point, Cond.initialized RX4, Cond.code yX4_point cX4_point 3 (some .int), Cond.classLink RX4 74 "java/lang/IndexOutOfBoundsException", Cond.initialized "java/lang/IndexOutOfBoundsException", Cond.classLink RX4 48 "java/lang/IllegalArgumentException", Cond.initialized "java/lang/IllegalArgumentException", Cond.fieldLink RX4 10 "CornerLabels" "board" "LCornerLabels$Board;", Cond.methodLink RX4 71 yX0_has, Cond.instanceMethod yX0_has, Cond.selects RX0 yX0_has yX0_has, Cond.initialized RX0, Cond.code yX0_has cX0_has 2 (some .boolean), Cond.fieldLink RX0 15 "CornerLabels$Board" "points" "I", Cond.methodLink RX4 174 yX4_property, Cond.instanceMethod yX4_property, Cond.selects RX4 yX4_property yX4_property, Cond.code yX4_property cX4_property 3 (some .int), Cond.fieldLink RX4 89 "CornerLabels$Board" "cells" "[I", Cond.methodLink RX4 95 yX0_openMask]
def wsL_point_r2 : List Cond := [Cond.instanceMethod yX0_openMask, Cond.selects RX0 yX0_openMask yX0_openMask, Cond.code yX0_openMask cX0_openMask 4 (some .int), Cond.methodLink RX0 40 yX0_isOpen, Cond.instanceMethod yX0_isOpen, Cond.selects RX0 yX0_isOpen yX0_isOpen, Cond.code yX0_isOpen cX0_isOpen 10 (some .boolean), Cond.fieldLink RX0 11 "CornerLabels$Board" "cells" "[I", Cond.methodLink RX0 30 yX0_left, Cond.instanceMethod yX0_left, Cond.selects RX0 yX0_left yX0_left, Cond.code yX0_left cX0_left 4 (some .int), Cond.methodLink RX0 33 yX0_top, Cond.instanceMethod yX0_top, Cond.selects RX0 yX0_top yX0_top, Cond.code yX0_top cX0_top 4 (some .int), Cond.methodLink RX4 108 yX0_freeMask, Cond.instanceMethod yX0_freeMask, Cond.selects RX0 yX0_freeMask yX0_freeMask, Cond.code yX0_freeMask cX0_freeMask 4 (some .int), Cond.methodLink RX0 44 yX0_openMask, Cond.static yX4_hasBit, Cond.code yX4_hasBit cX4_hasBit 2 (some .boolean), Cond.methodLink RX0 71 yX0_clashesWithStanding]
def wsL_point_r3 : List Cond := [Cond.instanceMethod yX0_clashesWithStanding, Cond.selects RX0 yX0_clashesWithStanding yX0_clashesWithStanding, Cond.code yX0_clashesWithStanding cX0_clashesWithStanding 4 (some .boolean), Cond.methodLink RX0 26 yX0_stands, Cond.instanceMethod yX0_stands, Cond.selects RX0 yX0_stands yX0_stands, Cond.code yX0_stands cX0_stands 2 (some .boolean), Cond.methodLink RX0 65 yX0_sharedSquares, Cond.instanceMethod yX0_sharedSquares, Cond.selects RX0 yX0_sharedSquares yX0_sharedSquares, Cond.code yX0_sharedSquares cX0_sharedSquares 7 (some .int), Cond.methodLink RX0 53 yX0_sharedLength, Cond.static yX0_sharedLength, Cond.code yX0_sharedLength cX0_sharedLength 6 (some .int), Cond.methodLink RX0 57 Lib.Math.max.name, Cond.static Lib.Math.max.name, Cond.initialized "java/lang/Math", Cond.code Lib.Math.max.name Lib.Math.max.code 2 (some .int), Cond.methodLink RX0 62 Lib.Math.min.name, Cond.static Lib.Math.min.name, Cond.code Lib.Math.min.name Lib.Math.min.code 2 (some .int), Cond.methodLink RX4 254 yX0_leaderCrossings, Cond.instanceMethod yX0_leaderCrossings, Cond.selects RX0 yX0_leaderCrossings yX0_leaderCrossings]
def wsL_point_r4 : List Cond := [Cond.code yX0_leaderCrossings cX0_leaderCrossings 4 (some .int), Cond.methodLink RX0 74 yX0_isPointOnLeader, Cond.instanceMethod yX0_isPointOnLeader, Cond.selects RX0 yX0_isPointOnLeader yX0_isPointOnLeader, Cond.code yX0_isPointOnLeader cX0_isPointOnLeader 3 (some .boolean), Cond.methodLink RX0 77 yX0_isLabelOnLeader, Cond.instanceMethod yX0_isLabelOnLeader, Cond.selects RX0 yX0_isLabelOnLeader yX0_isLabelOnLeader, Cond.code yX0_isLabelOnLeader cX0_isLabelOnLeader 7 (some .boolean)]
def wsL_point : List Cond := .codeWith yL_point cL_point 5 (some .int) [(0, 10, 13, 21), (0, 10, 17, 13)] :: ((wsL_point_r1 ++ (wsL_point_r2 ++ (wsL_point_r3 ++ wsL_point_r4))) ++ wsX40 ++ wsX00 ++ (vx_atS RX4 78 "java/lang/IndexOutOfBoundsException" ["java/lang/RuntimeException", "java/lang/Exception"]).filter goodWord ++ (vx_atS RX4 52 "java/lang/IllegalArgumentException" ["java/lang/RuntimeException", "java/lang/Exception"]).filter goodWord)
def wsL_clash_r1 : List Cond := [Cond.classLink RL 21 "java/lang/IndexOutOfBoundsException", Cond.classLink RL 13 "java/lang/IllegalArgumentException", Cond.methodLink RL 53 yX4_clash, Cond.instanceMethod yX4_clash, Cond.selects RX4 yX4_clash yX4_clash, Cond.initialized RX4, Cond.code yX4_clash cX4_clash 5 (some .int), Cond.classLink RX4 74 "java/lang/IndexOutOfBoundsException", Cond.initialized "java/lang/IndexOutOfBoundsException", Cond.classLink RX4 48 "java/lang/IllegalArgumentException", Cond.initialized "java/lang/IllegalArgumentException", Cond.fieldLink RX4 10 "CornerLabels" "board" "LCornerLabels$Board;", Cond.methodLink RX4 71 yX0_has, Cond.instanceMethod yX0_has, Cond.selects RX0 yX0_has yX0_has, Cond.initialized RX0, Cond.code yX0_has cX0_has 2 (some .boolean), Cond.fieldLink RX0 15 "CornerLabels$Board" "points" "I", Cond.methodLink RX4 103 yX4_isCorner, Cond.static yX4_isCorner, Cond.code yX4_isCorner cX4_isCorner 1 (some .boolean), Cond.methodLink RX4 179 yX0_sharedSquares, Cond.instanceMethod yX0_sharedSquares, Cond.selects RX0 yX0_sharedSquares yX0_sharedSquares]
def wsL_clash_r2 : List Cond := [Cond.code yX0_sharedSquares cX0_sharedSquares 7 (some .int), Cond.fieldLink RX0 11 "CornerLabels$Board" "cells" "[I", Cond.methodLink RX0 30 yX0_left, Cond.instanceMethod yX0_left, Cond.selects RX0 yX0_left yX0_left, Cond.code yX0_left cX0_left 4 (some .int), Cond.methodLink RX0 53 yX0_sharedLength, Cond.static yX0_sharedLength, Cond.code yX0_sharedLength cX0_sharedLength 6 (some .int), Cond.methodLink RX0 57 Lib.Math.max.name, Cond.static Lib.Math.max.name, Cond.initialized "java/lang/Math", Cond.code Lib.Math.max.name Lib.Math.max.code 2 (some .int), Cond.methodLink RX0 62 Lib.Math.min.name, Cond.static Lib.Math.min.name, Cond.code Lib.Math.min.name Lib.Math.min.code 2 (some .int), Cond.methodLink RX0 33 yX0_top, Cond.instanceMethod yX0_top, Cond.selects RX0 yX0_top yX0_top, Cond.code yX0_top cX0_top 4 (some .int)]
def wsL_clash : List Cond := .codeWith yL_clash cL_clash 7 (some .int) [(0, 14, 17, 21), (0, 14, 21, 13)] :: ((wsL_clash_r1 ++ wsL_clash_r2) ++ wsX40 ++ wsX00 ++ (vx_atS RX4 78 "java/lang/IndexOutOfBoundsException" ["java/lang/RuntimeException", "java/lang/Exception"]).filter goodWord ++ (vx_atS RX4 52 "java/lang/IllegalArgumentException" ["java/lang/RuntimeException", "java/lang/Exception"]).filter goodWord)
def wsL_at_r1 : List Cond := [Cond.classLink RL 13 "java/lang/IllegalArgumentException", Cond.methodLink RL 57 yX4_at, Cond.instanceMethod yX4_at, Cond.selects RX4 yX4_at yX4_at, Cond.initialized RX4, Cond.code yX4_at cX4_at 5 (some .int), Cond.classLink RX4 48 "java/lang/IllegalArgumentException", Cond.initialized "java/lang/IllegalArgumentException", Cond.fieldLink RX4 10 "CornerLabels" "board" "LCornerLabels$Board;", Cond.methodLink RX4 37 yX4_isSquare, Cond.static yX4_isSquare, Cond.code yX4_isSquare cX4_isSquare 2 (some .boolean), Cond.methodLink RX4 185 yX0_pointOn, Cond.instanceMethod yX0_pointOn, Cond.selects RX0 yX0_pointOn yX0_pointOn, Cond.initialized RX0, Cond.code yX0_pointOn cX0_pointOn 4 (some .int), Cond.fieldLink RX0 15 "CornerLabels$Board" "points" "I", Cond.fieldLink RX0 11 "CornerLabels$Board" "cells" "[I", Cond.methodLink RX4 188 yX0_labelOn, Cond.instanceMethod yX0_labelOn, Cond.selects RX0 yX0_labelOn yX0_labelOn, Cond.code yX0_labelOn cX0_labelOn 4 (some .int), Cond.methodLink RX0 26 yX0_stands]
def wsL_at_r2 : List Cond := [Cond.instanceMethod yX0_stands, Cond.selects RX0 yX0_stands yX0_stands, Cond.code yX0_stands cX0_stands 2 (some .boolean), Cond.methodLink RX0 36 yX0_covers, Cond.instanceMethod yX0_covers, Cond.selects RX0 yX0_covers yX0_covers, Cond.code yX0_covers cX0_covers 7 (some .boolean), Cond.methodLink RX0 30 yX0_left, Cond.instanceMethod yX0_left, Cond.selects RX0 yX0_left yX0_left, Cond.code yX0_left cX0_left 4 (some .int), Cond.methodLink RX0 33 yX0_top, Cond.instanceMethod yX0_top, Cond.selects RX0 yX0_top yX0_top, Cond.code yX0_top cX0_top 4 (some .int)]
def wsL_at : List Cond := .codeWith yL_at cL_at 5 (some .int) [(0, 10, 13, 13)] :: ((wsL_at_r1 ++ wsL_at_r2) ++ wsX40 ++ wsX00 ++ (vx_atS RX4 52 "java/lang/IllegalArgumentException" ["java/lang/RuntimeException", "java/lang/Exception"]).filter goodWord)
def wsL_count_r1 : List Cond := [Cond.classLink RL 13 "java/lang/IllegalArgumentException", Cond.methodLink RL 60 yX4_count, Cond.instanceMethod yX4_count, Cond.selects RX4 yX4_count yX4_count, Cond.initialized RX4, Cond.code yX4_count cX4_count 2 (some .int), Cond.classLink RX4 48 "java/lang/IllegalArgumentException", Cond.initialized "java/lang/IllegalArgumentException", Cond.methodLink RX4 191 yX4_number, Cond.instanceMethod yX4_number, Cond.selects RX4 yX4_number yX4_number, Cond.code yX4_number cX4_number 2 (some .int), Cond.fieldLink RX4 10 "CornerLabels" "board" "LCornerLabels$Board;", Cond.fieldLink RX4 242 "CornerLabels$Board" "points" "I", Cond.fieldLink RX4 33 "CornerLabels" "plans" "LCornerLabels$Plans;", Cond.fieldLink RX4 19 "CornerLabels" "history" "LCornerLabels$History;", Cond.fieldLink RX4 164 "CornerLabels$History" "states" "I", Cond.methodLink RX4 137 yX0_standingLabels, Cond.instanceMethod yX0_standingLabels, Cond.selects RX0 yX0_standingLabels yX0_standingLabels, Cond.initialized RX0, Cond.code yX0_standingLabels cX0_standingLabels 3 (some .int), Cond.fieldLink RX0 15 "CornerLabels$Board" "points" "I", Cond.methodLink RX0 26 yX0_stands]
def wsL_count_r2 : List Cond := [Cond.instanceMethod yX0_stands, Cond.selects RX0 yX0_stands yX0_stands, Cond.code yX0_stands cX0_stands 2 (some .boolean), Cond.fieldLink RX0 11 "CornerLabels$Board" "cells" "[I", Cond.methodLink RX4 212 yX0_standingWeight, Cond.instanceMethod yX0_standingWeight, Cond.selects RX0 yX0_standingWeight yX0_standingWeight, Cond.code yX0_standingWeight cX0_standingWeight 3 (some .int), Cond.methodLink RX4 209 yX0_allWeight, Cond.instanceMethod yX0_allWeight, Cond.selects RX0 yX0_allWeight yX0_allWeight, Cond.code yX0_allWeight cX0_allWeight 3 (some .int), Cond.methodLink RX4 257 yX0_standingSquares, Cond.instanceMethod yX0_standingSquares, Cond.selects RX0 yX0_standingSquares yX0_standingSquares, Cond.code yX0_standingSquares cX0_standingSquares 3 (some .int), Cond.methodLink RX4 260 yX0_pointsWithoutOpenCorner, Cond.instanceMethod yX0_pointsWithoutOpenCorner, Cond.selects RX0 yX0_pointsWithoutOpenCorner yX0_pointsWithoutOpenCorner, Cond.code yX0_pointsWithoutOpenCorner cX0_pointsWithoutOpenCorner 3 (some .int), Cond.methodLink RX0 44 yX0_openMask, Cond.instanceMethod yX0_openMask, Cond.selects RX0 yX0_openMask yX0_openMask, Cond.code yX0_openMask cX0_openMask 4 (some .int)]
def wsL_count_r3 : List Cond := [Cond.methodLink RX0 40 yX0_isOpen, Cond.instanceMethod yX0_isOpen, Cond.selects RX0 yX0_isOpen yX0_isOpen, Cond.code yX0_isOpen cX0_isOpen 10 (some .boolean), Cond.methodLink RX0 30 yX0_left, Cond.instanceMethod yX0_left, Cond.selects RX0 yX0_left yX0_left, Cond.code yX0_left cX0_left 4 (some .int), Cond.methodLink RX0 33 yX0_top, Cond.instanceMethod yX0_top, Cond.selects RX0 yX0_top yX0_top, Cond.code yX0_top cX0_top 4 (some .int), Cond.methodLink RX4 120 yX2_look, Cond.instanceMethod yX2_look, Cond.selects RX2 yX2_look yX2_look, Cond.initialized RX2, Cond.code yX2_look cX2_look 4 none, Cond.fieldLink RX2 65 "CornerLabels$Board" "points" "I", Cond.fieldLink RX2 9 "CornerLabels$Plans" "points" "I", Cond.fieldLink RX2 15 "CornerLabels$Plans" "open" "[I", Cond.fieldLink RX2 19 "CornerLabels$Plans" "weight" "[I", Cond.fieldLink RX2 72 "CornerLabels$Board" "cells" "[I", Cond.fieldLink RX2 22 "CornerLabels$Plans" "now" "[I", Cond.fieldLink RX2 25 "CornerLabels$Plans" "clashing" "[I"]
def wsL_count_r4 : List Cond := [Cond.methodLink RX2 68 yX0_openMask, Cond.methodLink RX2 75 yX2_laterClashes, Cond.instanceMethod yX2_laterClashes, Cond.selects RX2 yX2_laterClashes yX2_laterClashes, Cond.code yX2_laterClashes cX2_laterClashes 7 (some .int), Cond.static yX4_hasBit, Cond.code yX4_hasBit cX4_hasBit 2 (some .boolean), Cond.methodLink RX2 83 yX0_sharedSquares, Cond.instanceMethod yX0_sharedSquares, Cond.selects RX0 yX0_sharedSquares yX0_sharedSquares, Cond.code yX0_sharedSquares cX0_sharedSquares 7 (some .int), Cond.methodLink RX0 53 yX0_sharedLength, Cond.static yX0_sharedLength, Cond.code yX0_sharedLength cX0_sharedLength 6 (some .int), Cond.methodLink RX0 57 Lib.Math.max.name, Cond.static Lib.Math.max.name, Cond.initialized "java/lang/Math", Cond.code Lib.Math.max.name Lib.Math.max.code 2 (some .int), Cond.methodLink RX0 62 Lib.Math.min.name, Cond.static Lib.Math.min.name, Cond.code Lib.Math.min.name Lib.Math.min.code 2 (some .int), Cond.methodLink RX4 263 yX2_clashingPairs, Cond.instanceMethod yX2_clashingPairs, Cond.selects RX2 yX2_clashingPairs yX2_clashingPairs]
def wsL_count_r5 : List Cond := [Cond.code yX2_clashingPairs cX2_clashingPairs 5 (some .int), Cond.methodLink RX4 266 yX0_crossingsOfDropped, Cond.instanceMethod yX0_crossingsOfDropped, Cond.selects RX0 yX0_crossingsOfDropped yX0_crossingsOfDropped, Cond.code yX0_crossingsOfDropped cX0_crossingsOfDropped 3 (some .int), Cond.methodLink RX0 80 yX0_leaderCrossings, Cond.instanceMethod yX0_leaderCrossings, Cond.selects RX0 yX0_leaderCrossings yX0_leaderCrossings, Cond.code yX0_leaderCrossings cX0_leaderCrossings 4 (some .int), Cond.methodLink RX0 74 yX0_isPointOnLeader, Cond.instanceMethod yX0_isPointOnLeader, Cond.selects RX0 yX0_isPointOnLeader yX0_isPointOnLeader, Cond.code yX0_isPointOnLeader cX0_isPointOnLeader 3 (some .boolean), Cond.methodLink RX0 77 yX0_isLabelOnLeader, Cond.instanceMethod yX0_isLabelOnLeader, Cond.selects RX0 yX0_isLabelOnLeader yX0_isLabelOnLeader, Cond.code yX0_isLabelOnLeader cX0_isLabelOnLeader 7 (some .boolean)]
def wsL_count : List Cond := .codeWith yL_count cL_count 4 (some .int) [(0, 9, 12, 13)] :: ((wsL_count_r1 ++ (wsL_count_r2 ++ (wsL_count_r3 ++ (wsL_count_r4 ++ wsL_count_r5)))) ++ wsX40 ++ wsX00 ++ wsX10 ++ wsX20 ++ (vx_atS RX4 52 "java/lang/IllegalArgumentException" ["java/lang/RuntimeException", "java/lang/Exception"]).filter goodWord)
def wsL_best_r1 : List Cond := [Cond.classLink RL 21 "java/lang/IndexOutOfBoundsException", Cond.methodLink RL 63 yX4_best, Cond.instanceMethod yX4_best, Cond.selects RX4 yX4_best yX4_best, Cond.initialized RX4, Cond.code yX4_best cX4_best 2 (some .int), Cond.classLink RX4 74 "java/lang/IndexOutOfBoundsException", Cond.initialized "java/lang/IndexOutOfBoundsException", Cond.fieldLink RX4 10 "CornerLabels" "board" "LCornerLabels$Board;", Cond.fieldLink RX4 33 "CornerLabels" "plans" "LCornerLabels$Plans;", Cond.fieldLink RX4 197 "CornerLabels$Plans" "bestCorners" "[I", Cond.methodLink RX4 71 yX0_has, Cond.instanceMethod yX0_has, Cond.selects RX0 yX0_has yX0_has, Cond.initialized RX0, Cond.code yX0_has cX0_has 2 (some .boolean), Cond.fieldLink RX0 15 "CornerLabels$Board" "points" "I", Cond.methodLink RX4 120 yX2_look, Cond.instanceMethod yX2_look, Cond.selects RX2 yX2_look yX2_look, Cond.initialized RX2, Cond.code yX2_look cX2_look 4 none, Cond.fieldLink RX2 65 "CornerLabels$Board" "points" "I", Cond.fieldLink RX2 9 "CornerLabels$Plans" "points" "I"]
def wsL_best_r2 : List Cond := [Cond.fieldLink RX2 15 "CornerLabels$Plans" "open" "[I", Cond.fieldLink RX2 19 "CornerLabels$Plans" "weight" "[I", Cond.fieldLink RX2 72 "CornerLabels$Board" "cells" "[I", Cond.fieldLink RX2 22 "CornerLabels$Plans" "now" "[I", Cond.fieldLink RX2 25 "CornerLabels$Plans" "clashing" "[I", Cond.methodLink RX2 68 yX0_openMask, Cond.instanceMethod yX0_openMask, Cond.selects RX0 yX0_openMask yX0_openMask, Cond.code yX0_openMask cX0_openMask 4 (some .int), Cond.methodLink RX0 40 yX0_isOpen, Cond.instanceMethod yX0_isOpen, Cond.selects RX0 yX0_isOpen yX0_isOpen, Cond.code yX0_isOpen cX0_isOpen 10 (some .boolean), Cond.fieldLink RX0 11 "CornerLabels$Board" "cells" "[I", Cond.methodLink RX0 30 yX0_left, Cond.instanceMethod yX0_left, Cond.selects RX0 yX0_left yX0_left, Cond.code yX0_left cX0_left 4 (some .int), Cond.methodLink RX0 33 yX0_top, Cond.instanceMethod yX0_top, Cond.selects RX0 yX0_top yX0_top, Cond.code yX0_top cX0_top 4 (some .int), Cond.methodLink RX2 75 yX2_laterClashes, Cond.instanceMethod yX2_laterClashes]
def wsL_best_r3 : List Cond := [Cond.selects RX2 yX2_laterClashes yX2_laterClashes, Cond.code yX2_laterClashes cX2_laterClashes 7 (some .int), Cond.static yX4_hasBit, Cond.code yX4_hasBit cX4_hasBit 2 (some .boolean), Cond.methodLink RX2 83 yX0_sharedSquares, Cond.instanceMethod yX0_sharedSquares, Cond.selects RX0 yX0_sharedSquares yX0_sharedSquares, Cond.code yX0_sharedSquares cX0_sharedSquares 7 (some .int), Cond.methodLink RX0 53 yX0_sharedLength, Cond.static yX0_sharedLength, Cond.code yX0_sharedLength cX0_sharedLength 6 (some .int), Cond.methodLink RX0 57 Lib.Math.max.name, Cond.static Lib.Math.max.name, Cond.initialized "java/lang/Math", Cond.code Lib.Math.max.name Lib.Math.max.code 2 (some .int), Cond.methodLink RX0 62 Lib.Math.min.name, Cond.static Lib.Math.min.name, Cond.code Lib.Math.min.name Lib.Math.min.code 2 (some .int), Cond.methodLink RX4 194 yX2_findBest, Cond.instanceMethod yX2_findBest, Cond.selects RX2 yX2_findBest yX2_findBest, Cond.code yX2_findBest cX2_findBest 1 none, Cond.fieldLink RX2 59 "CornerLabels$Plans" "topWeight" "I", Cond.fieldLink RX2 50 "CornerLabels$Plans" "found" "[I"]
def wsL_best_r4 : List Cond := [Cond.fieldLink RX2 56 "CornerLabels$Plans" "bestCorners" "[I", Cond.methodLink RX2 94 arraycopyName, Cond.native arraycopyName, Cond.static arraycopyName, Cond.initialized "java/lang/System", Cond.methodLink RX2 91 yX2_findHeaviest, Cond.instanceMethod yX2_findHeaviest, Cond.selects RX2 yX2_findHeaviest yX2_findHeaviest, Cond.code yX2_findHeaviest cX2_findHeaviest 4 (some .int), Cond.fieldLink RX2 28 "CornerLabels$Plans" "allowed" "[I", Cond.fieldLink RX2 34 "CornerLabels$Plans" "mayDrop" "[Z", Cond.fieldLink RX2 38 "CornerLabels$Plans" "gain" "[I", Cond.methodLink RX2 87 yX2_findTop, Cond.instanceMethod yX2_findTop, Cond.selects RX2 yX2_findTop yX2_findTop, Cond.code yX2_findTop cX2_findTop 2 (some .int), Cond.fieldLink RX2 44 "CornerLabels$Plans" "hope" "[I", Cond.fieldLink RX2 31 "CornerLabels$Plans" "allowedSpots" "I", Cond.fieldLink RX2 41 "CornerLabels$Plans" "mostGain" "[I", Cond.fieldLink RX2 53 "CornerLabels$Plans" "foundScore" "I", Cond.methodLink RX2 100 yX2_findMostGain, Cond.instanceMethod yX2_findMostGain, Cond.selects RX2 yX2_findMostGain yX2_findMostGain, Cond.code yX2_findMostGain cX2_findMostGain 4 (some .int)]
def wsL_best_r5 : List Cond := [Cond.methodLink RX2 107 Lib.Math.max.name, Cond.methodLink RX2 103 yX2_seek, Cond.static yX2_seek, Cond.code yX2_seek cX2_seek 8 none, Cond.fieldLink RX2 47 "CornerLabels$Plans" "trial" "[I", Cond.methodLink RX2 113 yX2_keepTrial, Cond.instanceMethod yX2_keepTrial, Cond.selects RX2 yX2_keepTrial yX2_keepTrial, Cond.code yX2_keepTrial cX2_keepTrial 2 none]
def wsL_best : List Cond := .codeWith yL_best cL_best 4 (some .int) [(0, 9, 12, 21)] :: ((wsL_best_r1 ++ (wsL_best_r2 ++ (wsL_best_r3 ++ (wsL_best_r4 ++ wsL_best_r5)))) ++ wsX40 ++ wsX20 ++ wsX00 ++ (vx_atS RX4 78 "java/lang/IndexOutOfBoundsException" ["java/lang/RuntimeException", "java/lang/Exception"]).filter goodWord)
def wsL_bestWeight_r1 : List Cond := [Cond.classLink RL 21 "java/lang/IndexOutOfBoundsException", Cond.methodLink RL 66 yX4_bestWeight, Cond.instanceMethod yX4_bestWeight, Cond.selects RX4 yX4_bestWeight yX4_bestWeight, Cond.initialized RX4, Cond.code yX4_bestWeight cX4_bestWeight 2 (some .int), Cond.classLink RX4 74 "java/lang/IndexOutOfBoundsException", Cond.initialized "java/lang/IndexOutOfBoundsException", Cond.fieldLink RX4 10 "CornerLabels" "board" "LCornerLabels$Board;", Cond.fieldLink RX4 33 "CornerLabels" "plans" "LCornerLabels$Plans;", Cond.methodLink RX4 71 yX0_has, Cond.instanceMethod yX0_has, Cond.selects RX0 yX0_has yX0_has, Cond.initialized RX0, Cond.code yX0_has cX0_has 2 (some .boolean), Cond.fieldLink RX0 15 "CornerLabels$Board" "points" "I", Cond.methodLink RX4 120 yX2_look, Cond.instanceMethod yX2_look, Cond.selects RX2 yX2_look yX2_look, Cond.initialized RX2, Cond.code yX2_look cX2_look 4 none, Cond.fieldLink RX2 65 "CornerLabels$Board" "points" "I", Cond.fieldLink RX2 9 "CornerLabels$Plans" "points" "I", Cond.fieldLink RX2 15 "CornerLabels$Plans" "open" "[I"]
def wsL_bestWeight_r2 : List Cond := [Cond.fieldLink RX2 19 "CornerLabels$Plans" "weight" "[I", Cond.fieldLink RX2 72 "CornerLabels$Board" "cells" "[I", Cond.fieldLink RX2 22 "CornerLabels$Plans" "now" "[I", Cond.fieldLink RX2 25 "CornerLabels$Plans" "clashing" "[I", Cond.methodLink RX2 68 yX0_openMask, Cond.instanceMethod yX0_openMask, Cond.selects RX0 yX0_openMask yX0_openMask, Cond.code yX0_openMask cX0_openMask 4 (some .int), Cond.methodLink RX0 40 yX0_isOpen, Cond.instanceMethod yX0_isOpen, Cond.selects RX0 yX0_isOpen yX0_isOpen, Cond.code yX0_isOpen cX0_isOpen 10 (some .boolean), Cond.fieldLink RX0 11 "CornerLabels$Board" "cells" "[I", Cond.methodLink RX0 30 yX0_left, Cond.instanceMethod yX0_left, Cond.selects RX0 yX0_left yX0_left, Cond.code yX0_left cX0_left 4 (some .int), Cond.methodLink RX0 33 yX0_top, Cond.instanceMethod yX0_top, Cond.selects RX0 yX0_top yX0_top, Cond.code yX0_top cX0_top 4 (some .int), Cond.methodLink RX2 75 yX2_laterClashes, Cond.instanceMethod yX2_laterClashes, Cond.selects RX2 yX2_laterClashes yX2_laterClashes]
def wsL_bestWeight_r3 : List Cond := [Cond.code yX2_laterClashes cX2_laterClashes 7 (some .int), Cond.static yX4_hasBit, Cond.code yX4_hasBit cX4_hasBit 2 (some .boolean), Cond.methodLink RX2 83 yX0_sharedSquares, Cond.instanceMethod yX0_sharedSquares, Cond.selects RX0 yX0_sharedSquares yX0_sharedSquares, Cond.code yX0_sharedSquares cX0_sharedSquares 7 (some .int), Cond.methodLink RX0 53 yX0_sharedLength, Cond.static yX0_sharedLength, Cond.code yX0_sharedLength cX0_sharedLength 6 (some .int), Cond.methodLink RX0 57 Lib.Math.max.name, Cond.static Lib.Math.max.name, Cond.initialized "java/lang/Math", Cond.code Lib.Math.max.name Lib.Math.max.code 2 (some .int), Cond.methodLink RX0 62 Lib.Math.min.name, Cond.static Lib.Math.min.name, Cond.code Lib.Math.min.name Lib.Math.min.code 2 (some .int), Cond.methodLink RX4 123 yX2_findHeaviest, Cond.instanceMethod yX2_findHeaviest, Cond.selects RX2 yX2_findHeaviest yX2_findHeaviest, Cond.code yX2_findHeaviest cX2_findHeaviest 4 (some .int), Cond.fieldLink RX2 28 "CornerLabels$Plans" "allowed" "[I", Cond.fieldLink RX2 34 "CornerLabels$Plans" "mayDrop" "[Z", Cond.fieldLink RX2 38 "CornerLabels$Plans" "gain" "[I"]
def wsL_bestWeight_r4 : List Cond := [Cond.methodLink RX2 87 yX2_findTop, Cond.instanceMethod yX2_findTop, Cond.selects RX2 yX2_findTop yX2_findTop, Cond.code yX2_findTop cX2_findTop 2 (some .int), Cond.fieldLink RX2 44 "CornerLabels$Plans" "hope" "[I", Cond.fieldLink RX2 31 "CornerLabels$Plans" "allowedSpots" "I", Cond.fieldLink RX2 41 "CornerLabels$Plans" "mostGain" "[I", Cond.fieldLink RX2 53 "CornerLabels$Plans" "foundScore" "I", Cond.methodLink RX2 100 yX2_findMostGain, Cond.instanceMethod yX2_findMostGain, Cond.selects RX2 yX2_findMostGain yX2_findMostGain, Cond.code yX2_findMostGain cX2_findMostGain 4 (some .int), Cond.methodLink RX2 107 Lib.Math.max.name, Cond.methodLink RX2 103 yX2_seek, Cond.static yX2_seek, Cond.code yX2_seek cX2_seek 8 none, Cond.fieldLink RX2 47 "CornerLabels$Plans" "trial" "[I", Cond.methodLink RX2 113 yX2_keepTrial, Cond.instanceMethod yX2_keepTrial, Cond.selects RX2 yX2_keepTrial yX2_keepTrial, Cond.code yX2_keepTrial cX2_keepTrial 2 none, Cond.fieldLink RX2 50 "CornerLabels$Plans" "found" "[I", Cond.methodLink RX2 94 arraycopyName, Cond.native arraycopyName]
def wsL_bestWeight_r5 : List Cond := [Cond.static arraycopyName, Cond.initialized "java/lang/System"]
def wsL_bestWeight : List Cond := .codeWith yL_bestWeight cL_bestWeight 4 (some .int) [(0, 9, 12, 21)] :: ((wsL_bestWeight_r1 ++ (wsL_bestWeight_r2 ++ (wsL_bestWeight_r3 ++ (wsL_bestWeight_r4 ++ wsL_bestWeight_r5)))) ++ wsX40 ++ wsX00 ++ wsX20 ++ (vx_atS RX4 78 "java/lang/IndexOutOfBoundsException" ["java/lang/RuntimeException", "java/lang/Exception"]).filter goodWord)
def wsL_ifPushed_r1 : List Cond := [Cond.classLink RL 21 "java/lang/IndexOutOfBoundsException", Cond.methodLink RL 69 yX4_ifPushed, Cond.instanceMethod yX4_ifPushed, Cond.selects RX4 yX4_ifPushed yX4_ifPushed, Cond.initialized RX4, Cond.code yX4_ifPushed cX4_ifPushed 2 (some .int), Cond.classLink RX4 74 "java/lang/IndexOutOfBoundsException", Cond.initialized "java/lang/IndexOutOfBoundsException", Cond.fieldLink RX4 10 "CornerLabels" "board" "LCornerLabels$Board;", Cond.fieldLink RX4 33 "CornerLabels" "plans" "LCornerLabels$Plans;", Cond.methodLink RX4 71 yX0_has, Cond.instanceMethod yX0_has, Cond.selects RX0 yX0_has yX0_has, Cond.initialized RX0, Cond.code yX0_has cX0_has 2 (some .boolean), Cond.fieldLink RX0 15 "CornerLabels$Board" "points" "I", Cond.methodLink RX4 120 yX2_look, Cond.instanceMethod yX2_look, Cond.selects RX2 yX2_look yX2_look, Cond.initialized RX2, Cond.code yX2_look cX2_look 4 none, Cond.fieldLink RX2 65 "CornerLabels$Board" "points" "I", Cond.fieldLink RX2 9 "CornerLabels$Plans" "points" "I", Cond.fieldLink RX2 15 "CornerLabels$Plans" "open" "[I"]
def wsL_ifPushed_r2 : List Cond := [Cond.fieldLink RX2 19 "CornerLabels$Plans" "weight" "[I", Cond.fieldLink RX2 72 "CornerLabels$Board" "cells" "[I", Cond.fieldLink RX2 22 "CornerLabels$Plans" "now" "[I", Cond.fieldLink RX2 25 "CornerLabels$Plans" "clashing" "[I", Cond.methodLink RX2 68 yX0_openMask, Cond.instanceMethod yX0_openMask, Cond.selects RX0 yX0_openMask yX0_openMask, Cond.code yX0_openMask cX0_openMask 4 (some .int), Cond.methodLink RX0 40 yX0_isOpen, Cond.instanceMethod yX0_isOpen, Cond.selects RX0 yX0_isOpen yX0_isOpen, Cond.code yX0_isOpen cX0_isOpen 10 (some .boolean), Cond.fieldLink RX0 11 "CornerLabels$Board" "cells" "[I", Cond.methodLink RX0 30 yX0_left, Cond.instanceMethod yX0_left, Cond.selects RX0 yX0_left yX0_left, Cond.code yX0_left cX0_left 4 (some .int), Cond.methodLink RX0 33 yX0_top, Cond.instanceMethod yX0_top, Cond.selects RX0 yX0_top yX0_top, Cond.code yX0_top cX0_top 4 (some .int), Cond.methodLink RX2 75 yX2_laterClashes, Cond.instanceMethod yX2_laterClashes, Cond.selects RX2 yX2_laterClashes yX2_laterClashes]
def wsL_ifPushed_r3 : List Cond := [Cond.code yX2_laterClashes cX2_laterClashes 7 (some .int), Cond.static yX4_hasBit, Cond.code yX4_hasBit cX4_hasBit 2 (some .boolean), Cond.methodLink RX2 83 yX0_sharedSquares, Cond.instanceMethod yX0_sharedSquares, Cond.selects RX0 yX0_sharedSquares yX0_sharedSquares, Cond.code yX0_sharedSquares cX0_sharedSquares 7 (some .int), Cond.methodLink RX0 53 yX0_sharedLength, Cond.static yX0_sharedLength, Cond.code yX0_sharedLength cX0_sharedLength 6 (some .int), Cond.methodLink RX0 57 Lib.Math.max.name, Cond.static Lib.Math.max.name, Cond.initialized "java/lang/Math", Cond.code Lib.Math.max.name Lib.Math.max.code 2 (some .int), Cond.methodLink RX0 62 Lib.Math.min.name, Cond.static Lib.Math.min.name, Cond.code Lib.Math.min.name Lib.Math.min.code 2 (some .int), Cond.methodLink RX4 129 yX2_findRoom, Cond.instanceMethod yX2_findRoom, Cond.selects RX2 yX2_findRoom yX2_findRoom, Cond.code yX2_findRoom cX2_findRoom 6 (some .int), Cond.fieldLink RX2 28 "CornerLabels$Plans" "allowed" "[I", Cond.fieldLink RX2 34 "CornerLabels$Plans" "mayDrop" "[Z", Cond.fieldLink RX2 38 "CornerLabels$Plans" "gain" "[I"]
def wsL_ifPushed_r4 : List Cond := [Cond.methodLink RX2 87 yX2_findTop, Cond.instanceMethod yX2_findTop, Cond.selects RX2 yX2_findTop yX2_findTop, Cond.code yX2_findTop cX2_findTop 2 (some .int), Cond.fieldLink RX2 44 "CornerLabels$Plans" "hope" "[I", Cond.fieldLink RX2 31 "CornerLabels$Plans" "allowedSpots" "I", Cond.fieldLink RX2 41 "CornerLabels$Plans" "mostGain" "[I", Cond.fieldLink RX2 53 "CornerLabels$Plans" "foundScore" "I", Cond.methodLink RX2 100 yX2_findMostGain, Cond.instanceMethod yX2_findMostGain, Cond.selects RX2 yX2_findMostGain yX2_findMostGain, Cond.code yX2_findMostGain cX2_findMostGain 4 (some .int), Cond.methodLink RX2 107 Lib.Math.max.name, Cond.methodLink RX2 103 yX2_seek, Cond.static yX2_seek, Cond.code yX2_seek cX2_seek 8 none, Cond.fieldLink RX2 47 "CornerLabels$Plans" "trial" "[I", Cond.methodLink RX2 113 yX2_keepTrial, Cond.instanceMethod yX2_keepTrial, Cond.selects RX2 yX2_keepTrial yX2_keepTrial, Cond.code yX2_keepTrial cX2_keepTrial 2 none, Cond.fieldLink RX2 50 "CornerLabels$Plans" "found" "[I", Cond.methodLink RX2 94 arraycopyName, Cond.native arraycopyName]
def wsL_ifPushed_r5 : List Cond := [Cond.static arraycopyName, Cond.initialized "java/lang/System"]
def wsL_ifPushed : List Cond := .codeWith yL_ifPushed cL_ifPushed 4 (some .int) [(0, 9, 12, 21)] :: ((wsL_ifPushed_r1 ++ (wsL_ifPushed_r2 ++ (wsL_ifPushed_r3 ++ (wsL_ifPushed_r4 ++ wsL_ifPushed_r5)))) ++ wsX40 ++ wsX00 ++ wsX20 ++ (vx_atS RX4 78 "java/lang/IndexOutOfBoundsException" ["java/lang/RuntimeException", "java/lang/Exception"]).filter goodWord)
def wsL_law0_r1 : List Cond := [Cond.classLink RL 8 RX4, Cond.instantiable RX4 4, Cond.initialized RX4, Cond.classLink RL 73 RX5, Cond.instantiable RX5 16, Cond.initialized RX5, Cond.arrayClass .long, Cond.methodLink RL 72 yX4_init, Cond.instanceMethod yX4_init, Cond.code yX4_init cX4_init 1 none, Cond.methodLink RX4 1 objectInit, Cond.instanceMethod objectInit, Cond.code objectInit ⟨#[0xb1]⟩ 1 none, Cond.classLink RX4 7 RX0, Cond.instantiable RX0 2, Cond.initialized RX0, Cond.fieldLink RX4 10 "CornerLabels" "board" "LCornerLabels$Board;", Cond.classLink RX4 16 RX1, Cond.instantiable RX1 3, Cond.initialized RX1, Cond.fieldLink RX4 19 "CornerLabels" "history" "LCornerLabels$History;", Cond.classLink RX4 23 RX3, Cond.instantiable RX3 6, Cond.initialized RX3]
def wsL_law0_r2 : List Cond := [Cond.fieldLink RX4 26 "CornerLabels" "typed" "LCornerLabels$Typed;", Cond.classLink RX4 30 RX2, Cond.instantiable RX2 17, Cond.initialized RX2, Cond.fieldLink RX4 33 "CornerLabels" "plans" "LCornerLabels$Plans;", Cond.instanceMethod yX0_init, Cond.code yX0_init cX0_init 1 none, Cond.methodLink RX0 3 objectInit, Cond.arrayClass .int, Cond.fieldLink RX0 11 "CornerLabels$Board" "cells" "[I", Cond.fieldLink RX0 15 "CornerLabels$Board" "points" "I", Cond.instanceMethod yX1_init, Cond.code yX1_init cX1_init 1 none, Cond.methodLink RX1 3 objectInit, Cond.fieldLink RX1 11 "CornerLabels$History" "cells" "[I", Cond.fieldLink RX1 17 "CornerLabels$History" "points" "[I", Cond.fieldLink RX1 20 "CornerLabels$History" "states" "I", Cond.instanceMethod yX3_init, Cond.code yX3_init cX3_init 1 none, Cond.methodLink RX3 3 objectInit, Cond.fieldLink RX3 9 "CornerLabels$Typed" "codes" "[I", Cond.fieldLink RX3 15 "CornerLabels$Typed" "length" "I", Cond.fieldLink RX3 19 "CornerLabels$Typed" "told" "[I", Cond.fieldLink RX3 22 "CornerLabels$Typed" "reading" "I"]
def wsL_law0_r3 : List Cond := [Cond.fieldLink RX3 25 "CornerLabels$Typed" "part" "I", Cond.fieldLink RX3 28 "CornerLabels$Typed" "value" "I", Cond.instanceMethod yX2_init, Cond.code yX2_init cX2_init 1 none, Cond.methodLink RX2 3 objectInit, Cond.fieldLink RX2 9 "CornerLabels$Plans" "points" "I", Cond.fieldLink RX2 15 "CornerLabels$Plans" "open" "[I", Cond.fieldLink RX2 19 "CornerLabels$Plans" "weight" "[I", Cond.fieldLink RX2 22 "CornerLabels$Plans" "now" "[I", Cond.fieldLink RX2 25 "CornerLabels$Plans" "clashing" "[I", Cond.fieldLink RX2 28 "CornerLabels$Plans" "allowed" "[I", Cond.fieldLink RX2 31 "CornerLabels$Plans" "allowedSpots" "I", Cond.arrayClass .boolean, Cond.fieldLink RX2 34 "CornerLabels$Plans" "mayDrop" "[Z", Cond.fieldLink RX2 38 "CornerLabels$Plans" "gain" "[I", Cond.fieldLink RX2 41 "CornerLabels$Plans" "mostGain" "[I", Cond.fieldLink RX2 44 "CornerLabels$Plans" "hope" "[I", Cond.fieldLink RX2 47 "CornerLabels$Plans" "trial" "[I", Cond.fieldLink RX2 50 "CornerLabels$Plans" "found" "[I", Cond.fieldLink RX2 53 "CornerLabels$Plans" "foundScore" "I", Cond.fieldLink RX2 56 "CornerLabels$Plans" "bestCorners" "[I", Cond.fieldLink RX2 59 "CornerLabels$Plans" "topWeight" "I", Cond.fieldLink RX2 62 "CornerLabels$Plans" "weightsWithout" "[I", Cond.methodLink RL 75 yX5_init]
def wsL_law0_r4 : List Cond := [Cond.instanceMethod yX5_init, Cond.code yX5_init cX5_init 1 none, Cond.methodLink RX5 1 objectInit, Cond.fieldLink RX5 7 "CornerLabelsModel" "s" "[I", Cond.fieldLink RX5 13 "CornerLabelsModel" "saved" "[I", Cond.fieldLink RX5 16 "CornerLabelsModel" "buffer" "[I", Cond.fieldLink RX5 19 "CornerLabelsModel" "told" "[I", Cond.fieldLink RX5 22 "CornerLabelsModel" "allowed" "[I", Cond.fieldLink RX5 25 "CornerLabelsModel" "plan" "[I", Cond.fieldLink RX5 28 "CornerLabelsModel" "read" "[I", Cond.fieldLink RX5 31 "CornerLabelsModel" "thrown" "I", Cond.methodLink RL 76 yL_add, Cond.static yL_add, Cond.initialized RL, Cond.codeWith yL_add cL_add 8 (some .int) [(0, 16, 19, 13), (0, 16, 23, 15)], Cond.classLink RL 13 "java/lang/IllegalArgumentException", Cond.classLink RL 15 "java/lang/IllegalStateException", Cond.methodLink RL 7 yX4_add, Cond.instanceMethod yX4_add, Cond.selects RX4 yX4_add yX4_add, Cond.code yX4_add cX4_add 6 (some .int), Cond.classLink RX4 48 "java/lang/IllegalArgumentException", Cond.initialized "java/lang/IllegalArgumentException", Cond.classLink RX4 58 "java/lang/IllegalStateException"]
def wsL_law0_r5 : List Cond := [Cond.initialized "java/lang/IllegalStateException", Cond.methodLink RX4 37 yX4_isSquare, Cond.static yX4_isSquare, Cond.code yX4_isSquare cX4_isSquare 2 (some .boolean), Cond.methodLink RX4 41 yX4_isSize, Cond.static yX4_isSize, Cond.code yX4_isSize cX4_isSize 2 (some .boolean), Cond.methodLink RX4 44 yX4_isWeight, Cond.static yX4_isWeight, Cond.code yX4_isWeight cX4_isWeight 1 (some .boolean), Cond.methodLink RX4 55 yX0_takesPointOn, Cond.instanceMethod yX0_takesPointOn, Cond.selects RX0 yX0_takesPointOn yX0_takesPointOn, Cond.code yX0_takesPointOn cX0_takesPointOn 3 (some .boolean), Cond.methodLink RX0 19 yX0_pointOn, Cond.instanceMethod yX0_pointOn, Cond.selects RX0 yX0_pointOn yX0_pointOn, Cond.code yX0_pointOn cX0_pointOn 4 (some .int), Cond.methodLink RX4 63 yX1_save, Cond.instanceMethod yX1_save, Cond.selects RX1 yX1_save yX1_save, Cond.code yX1_save cX1_save 2 none, Cond.fieldLink RX1 27 "CornerLabels$Board" "cells" "[I", Cond.methodLink RX1 28 arraycopyName]
def wsL_law0_r6 : List Cond := [Cond.native arraycopyName, Cond.static arraycopyName, Cond.initialized "java/lang/System", Cond.fieldLink RX1 34 "CornerLabels$Board" "points" "I", Cond.methodLink RX1 24 yX1_forgetOldest, Cond.instanceMethod yX1_forgetOldest, Cond.selects RX1 yX1_forgetOldest yX1_forgetOldest, Cond.code yX1_forgetOldest cX1_forgetOldest 1 none, Cond.methodLink RX4 67 yX0_insert, Cond.instanceMethod yX0_insert, Cond.selects RX0 yX0_insert yX0_insert, Cond.code yX0_insert cX0_insert 8 (some .int), Cond.methodLink RX0 23 yX0_labelOn, Cond.instanceMethod yX0_labelOn, Cond.selects RX0 yX0_labelOn yX0_labelOn, Cond.code yX0_labelOn cX0_labelOn 4 (some .int), Cond.methodLink RX0 26 yX0_stands, Cond.instanceMethod yX0_stands, Cond.selects RX0 yX0_stands yX0_stands, Cond.code yX0_stands cX0_stands 2 (some .boolean), Cond.methodLink RX0 36 yX0_covers, Cond.instanceMethod yX0_covers, Cond.selects RX0 yX0_covers yX0_covers, Cond.code yX0_covers cX0_covers 7 (some .boolean)]
def wsL_law0_r7 : List Cond := [Cond.methodLink RX0 30 yX0_left, Cond.instanceMethod yX0_left, Cond.selects RX0 yX0_left yX0_left, Cond.code yX0_left cX0_left 4 (some .int), Cond.methodLink RX0 33 yX0_top, Cond.instanceMethod yX0_top, Cond.selects RX0 yX0_top yX0_top, Cond.code yX0_top cX0_top 4 (some .int), Cond.methodLink RL 81 yX5_add, Cond.instanceMethod yX5_add, Cond.selects RX5 yX5_add yX5_add, Cond.code yX5_add cX5_add 6 (some .int), Cond.methodLink RX5 115 yX5_refusesAdd, Cond.instanceMethod yX5_refusesAdd, Cond.selects RX5 yX5_refusesAdd yX5_refusesAdd, Cond.code yX5_refusesAdd cX5_refusesAdd 7 (some .int), Cond.methodLink RX5 35 yX5_in, Cond.static yX5_in, Cond.code yX5_in cX5_in 3 (some .boolean), Cond.methodLink RX5 112 yX5_pointAt, Cond.instanceMethod yX5_pointAt, Cond.selects RX5 yX5_pointAt yX5_pointAt, Cond.code yX5_pointAt cX5_pointAt 4 (some .int), Cond.methodLink RX5 39 yX5_of]
def wsL_law0_r8 : List Cond := [Cond.instanceMethod yX5_of, Cond.selects RX5 yX5_of yX5_of, Cond.code yX5_of cX5_of 3 (some .int), Cond.methodLink RX5 119 yX5_saves, Cond.instanceMethod yX5_saves, Cond.selects RX5 yX5_saves yX5_saves, Cond.code yX5_saves cX5_saves 2 none, Cond.fieldLink RX5 43 "CornerLabelsModel" "savedMany" "I", Cond.methodLink RX5 122 yX5_comes, Cond.instanceMethod yX5_comes, Cond.selects RX5 yX5_comes yX5_comes, Cond.code yX5_comes cX5_comes 7 none, Cond.methodLink RX5 72 yX5_cornerOf, Cond.instanceMethod yX5_cornerOf, Cond.selects RX5 yX5_cornerOf yX5_cornerOf, Cond.code yX5_cornerOf cX5_cornerOf 2 (some .int), Cond.methodLink RX5 58 yX5_has, Cond.instanceMethod yX5_has, Cond.selects RX5 yX5_has yX5_has, Cond.code yX5_has cX5_has 5 (some .boolean), Cond.methodLink RX5 46 yX5_left, Cond.instanceMethod yX5_left, Cond.selects RX5 yX5_left yX5_left, Cond.code yX5_left cX5_left 3 (some .int)]
def wsL_law0_r9 : List Cond := [Cond.methodLink RX5 52 yX5_right, Cond.instanceMethod yX5_right, Cond.selects RX5 yX5_right yX5_right, Cond.code yX5_right cX5_right 3 (some .int), Cond.methodLink RX5 49 yX5_low, Cond.instanceMethod yX5_low, Cond.selects RX5 yX5_low yX5_low, Cond.code yX5_low cX5_low 3 (some .int), Cond.methodLink RX5 55 yX5_high, Cond.instanceMethod yX5_high, Cond.selects RX5 yX5_high yX5_high, Cond.code yX5_high cX5_high 3 (some .int), Cond.methodLink RX5 108 yX5_stands, Cond.instanceMethod yX5_stands, Cond.selects RX5 yX5_stands yX5_stands, Cond.code yX5_stands cX5_stands 3 none, Cond.methodLink RL 82 yX5_thrown, Cond.instanceMethod yX5_thrown, Cond.selects RX5 yX5_thrown yX5_thrown, Cond.code yX5_thrown cX5_thrown 1 (some .int), Cond.methodLink RL 85 yL_remove, Cond.static yL_remove, Cond.codeWith yL_remove cL_remove 4 (some .int) [(0, 9, 12, 21)], Cond.classLink RL 21 "java/lang/IndexOutOfBoundsException"]
def wsL_law0_r10 : List Cond := [Cond.methodLink RL 17 yX4_remove, Cond.instanceMethod yX4_remove, Cond.selects RX4 yX4_remove yX4_remove, Cond.code yX4_remove cX4_remove 3 (some .int), Cond.classLink RX4 74 "java/lang/IndexOutOfBoundsException", Cond.initialized "java/lang/IndexOutOfBoundsException", Cond.methodLink RX4 71 yX0_has, Cond.instanceMethod yX0_has, Cond.selects RX0 yX0_has yX0_has, Cond.code yX0_has cX0_has 2 (some .boolean), Cond.methodLink RX4 79 yX0_openCornersBeside, Cond.instanceMethod yX0_openCornersBeside, Cond.selects RX0 yX0_openCornersBeside yX0_openCornersBeside, Cond.code yX0_openCornersBeside cX0_openCornersBeside 4 (some .int), Cond.methodLink RX0 44 yX0_openMask, Cond.instanceMethod yX0_openMask, Cond.selects RX0 yX0_openMask yX0_openMask, Cond.code yX0_openMask cX0_openMask 4 (some .int), Cond.methodLink RX0 40 yX0_isOpen, Cond.instanceMethod yX0_isOpen, Cond.selects RX0 yX0_isOpen yX0_isOpen, Cond.code yX0_isOpen cX0_isOpen 10 (some .boolean), Cond.methodLink RX0 48 yJ6_bitCount_0f7a4, Cond.static yJ6_bitCount_0f7a4]
def wsL_law0_r11 : List Cond := [Cond.initialized RJ6, Cond.code yJ6_bitCount_0f7a4 cJ6_bitCount_0f7a4 1 (some .int), Cond.constant RJ6 265 (1431655765), Cond.constant RJ6 266 (858993459), Cond.constant RJ6 267 (252645135), Cond.methodLink RX4 83 yX0_takeOut, Cond.instanceMethod yX0_takeOut, Cond.selects RX0 yX0_takeOut yX0_takeOut, Cond.code yX0_takeOut cX0_takeOut 4 none, Cond.methodLink RL 88 yX5_remove, Cond.instanceMethod yX5_remove, Cond.selects RX5 yX5_remove yX5_remove, Cond.code yX5_remove cX5_remove 4 (some .int), Cond.methodLink RX5 129 yX5_isPoint, Cond.instanceMethod yX5_isPoint, Cond.selects RX5 yX5_isPoint yX5_isPoint, Cond.code yX5_isPoint cX5_isPoint 2 (some .boolean), Cond.methodLink RX5 132 yX5_fails, Cond.instanceMethod yX5_fails, Cond.selects RX5 yX5_fails yX5_fails, Cond.code yX5_fails cX5_fails 2 (some .int), Cond.methodLink RX5 135 yX5_openMany, Cond.instanceMethod yX5_openMany, Cond.selects RX5 yX5_openMany yX5_openMany]
def wsL_law0_r12 : List Cond := [Cond.code yX5_openMany cX5_openMany 4 (some .int), Cond.methodLink RX5 102 yX5_openOf, Cond.instanceMethod yX5_openOf, Cond.selects RX5 yX5_openOf yX5_openOf, Cond.code yX5_openOf cX5_openOf 4 (some .int), Cond.methodLink RX5 62 yX5_isOpen, Cond.instanceMethod yX5_isOpen, Cond.selects RX5 yX5_isOpen yX5_isOpen, Cond.code yX5_isOpen cX5_isOpen 5 (some .boolean), Cond.methodLink RX5 126 yX5_ones, Cond.static yX5_ones, Cond.code yX5_ones cX5_ones 1 (some .int), Cond.methodLink RL 89 yL_weigh, Cond.static yL_weigh, Cond.codeWith yL_weigh cL_weigh 5 (some .int) [(0, 10, 13, 21), (0, 10, 17, 13)], Cond.methodLink RL 23 yX4_weigh, Cond.instanceMethod yX4_weigh, Cond.selects RX4 yX4_weigh yX4_weigh, Cond.code yX4_weigh cX4_weigh 4 (some .int), Cond.fieldLink RX4 89 "CornerLabels$Board" "cells" "[I", Cond.methodLink RL 92 yX5_weigh, Cond.instanceMethod yX5_weigh, Cond.selects RX5 yX5_weigh yX5_weigh, Cond.code yX5_weigh cX5_weigh 4 (some .int)]
def wsL_law0_r13 : List Cond := [Cond.methodLink RL 93 yL_resize, Cond.static yL_resize, Cond.codeWith yL_resize cL_resize 6 (some .int) [(0, 12, 15, 21), (0, 12, 19, 13)], Cond.methodLink RL 27 yX4_resize, Cond.instanceMethod yX4_resize, Cond.selects RX4 yX4_resize yX4_resize, Cond.code yX4_resize cX4_resize 4 (some .int), Cond.methodLink RX4 95 yX0_openMask, Cond.methodLink RX4 98 yJ6_bitCount_0f7a4, Cond.methodLink RL 96 yX5_resize, Cond.instanceMethod yX5_resize, Cond.selects RX5 yX5_resize yX5_resize, Cond.code yX5_resize cX5_resize 4 (some .int), Cond.methodLink RL 97 yL_place, Cond.static yL_place, Cond.codeWith yL_place cL_place 5 (some .int) [(0, 10, 13, 21), (0, 10, 17, 13), (0, 10, 21, 15)], Cond.methodLink RL 31 yX4_place, Cond.instanceMethod yX4_place, Cond.selects RX4 yX4_place yX4_place, Cond.code yX4_place cX4_place 3 (some .int), Cond.methodLink RX4 103 yX4_isCorner, Cond.static yX4_isCorner, Cond.code yX4_isCorner cX4_isCorner 1 (some .boolean), Cond.methodLink RX4 108 yX0_freeMask]
def wsL_law0_r14 : List Cond := [Cond.instanceMethod yX0_freeMask, Cond.selects RX0 yX0_freeMask yX0_freeMask, Cond.code yX0_freeMask cX0_freeMask 4 (some .int), Cond.static yX4_hasBit, Cond.code yX4_hasBit cX4_hasBit 2 (some .boolean), Cond.methodLink RX0 71 yX0_clashesWithStanding, Cond.instanceMethod yX0_clashesWithStanding, Cond.selects RX0 yX0_clashesWithStanding yX0_clashesWithStanding, Cond.code yX0_clashesWithStanding cX0_clashesWithStanding 4 (some .boolean), Cond.methodLink RX0 65 yX0_sharedSquares, Cond.instanceMethod yX0_sharedSquares, Cond.selects RX0 yX0_sharedSquares yX0_sharedSquares, Cond.code yX0_sharedSquares cX0_sharedSquares 7 (some .int), Cond.methodLink RX0 53 yX0_sharedLength, Cond.static yX0_sharedLength, Cond.code yX0_sharedLength cX0_sharedLength 6 (some .int), Cond.methodLink RX0 57 Lib.Math.max.name, Cond.static Lib.Math.max.name, Cond.initialized "java/lang/Math", Cond.code Lib.Math.max.name Lib.Math.max.code 2 (some .int), Cond.methodLink RX0 62 Lib.Math.min.name, Cond.static Lib.Math.min.name, Cond.code Lib.Math.min.name Lib.Math.min.code 2 (some .int), Cond.methodLink RX4 111 yX4_hasBit]
def wsL_law0_r15 : List Cond := [Cond.methodLink RX4 116 yX4_putLabel, Cond.instanceMethod yX4_putLabel, Cond.selects RX4 yX4_putLabel yX4_putLabel, Cond.code yX4_putLabel cX4_putLabel 4 (some .int), Cond.methodLink RL 99 yX5_place, Cond.instanceMethod yX5_place, Cond.selects RX5 yX5_place yX5_place, Cond.code yX5_place cX5_place 4 (some .int), Cond.methodLink RX5 138 yX5_canStand, Cond.instanceMethod yX5_canStand, Cond.selects RX5 yX5_canStand yX5_canStand, Cond.code yX5_canStand cX5_canStand 5 (some .boolean), Cond.methodLink RX5 76 yX5_common, Cond.instanceMethod yX5_common, Cond.selects RX5 yX5_common yX5_common, Cond.code yX5_common cX5_common 7 (some .int), Cond.methodLink RX5 66 yX5_lesser, Cond.static yX5_lesser, Cond.code yX5_lesser cX5_lesser 2 (some .int), Cond.methodLink RX5 69 yX5_greater, Cond.static yX5_greater, Cond.code yX5_greater cX5_greater 2 (some .int), Cond.methodLink RL 100 yL_drop, Cond.static yL_drop]
def wsL_law0_r16 : List Cond := [Cond.codeWith yL_drop cL_drop 4 (some .int) [(0, 9, 12, 21)], Cond.methodLink RL 34 yX4_drop, Cond.instanceMethod yX4_drop, Cond.selects RX4 yX4_drop yX4_drop, Cond.code yX4_drop cX4_drop 2 (some .int), Cond.methodLink RL 102 yX5_drop, Cond.instanceMethod yX5_drop, Cond.selects RX5 yX5_drop yX5_drop, Cond.code yX5_drop cX5_drop 3 (some .int), Cond.methodLink RL 103 yX4_solve, Cond.instanceMethod yX4_solve, Cond.selects RX4 yX4_solve yX4_solve, Cond.code yX4_solve cX4_solve 2 (some .int), Cond.methodLink RX4 120 yX2_look, Cond.instanceMethod yX2_look, Cond.selects RX2 yX2_look yX2_look, Cond.code yX2_look cX2_look 4 none, Cond.fieldLink RX2 65 "CornerLabels$Board" "points" "I", Cond.fieldLink RX2 72 "CornerLabels$Board" "cells" "[I", Cond.methodLink RX2 68 yX0_openMask, Cond.methodLink RX2 75 yX2_laterClashes, Cond.instanceMethod yX2_laterClashes, Cond.selects RX2 yX2_laterClashes yX2_laterClashes, Cond.code yX2_laterClashes cX2_laterClashes 7 (some .int)]
def wsL_law0_r17 : List Cond := [Cond.methodLink RX2 83 yX0_sharedSquares, Cond.methodLink RX4 123 yX2_findHeaviest, Cond.instanceMethod yX2_findHeaviest, Cond.selects RX2 yX2_findHeaviest yX2_findHeaviest, Cond.code yX2_findHeaviest cX2_findHeaviest 4 (some .int), Cond.methodLink RX2 87 yX2_findTop, Cond.instanceMethod yX2_findTop, Cond.selects RX2 yX2_findTop yX2_findTop, Cond.code yX2_findTop cX2_findTop 2 (some .int), Cond.methodLink RX2 100 yX2_findMostGain, Cond.instanceMethod yX2_findMostGain, Cond.selects RX2 yX2_findMostGain yX2_findMostGain, Cond.code yX2_findMostGain cX2_findMostGain 4 (some .int), Cond.methodLink RX2 107 Lib.Math.max.name, Cond.methodLink RX2 103 yX2_seek, Cond.static yX2_seek, Cond.code yX2_seek cX2_seek 8 none, Cond.methodLink RX2 113 yX2_keepTrial, Cond.instanceMethod yX2_keepTrial, Cond.selects RX2 yX2_keepTrial yX2_keepTrial, Cond.code yX2_keepTrial cX2_keepTrial 2 none, Cond.methodLink RX2 94 arraycopyName, Cond.methodLink RX4 126 yX4_putLabelsAsFound, Cond.instanceMethod yX4_putLabelsAsFound]
def wsL_law0_r18 : List Cond := [Cond.selects RX4 yX4_putLabelsAsFound yX4_putLabelsAsFound, Cond.code yX4_putLabelsAsFound cX4_putLabelsAsFound 2 none, Cond.fieldLink RX4 242 "CornerLabels$Board" "points" "I", Cond.fieldLink RX4 245 "CornerLabels$Plans" "found" "[I", Cond.methodLink RL 106 yX5_solve, Cond.instanceMethod yX5_solve, Cond.selects RX5 yX5_solve yX5_solve, Cond.code yX5_solve cX5_solve 2 (some .int), Cond.methodLink RX5 141 yX5_heaviest, Cond.instanceMethod yX5_heaviest, Cond.selects RX5 yX5_heaviest yX5_heaviest, Cond.code yX5_heaviest cX5_heaviest 3 (some .int), Cond.methodLink RX5 105 yX5_searches, Cond.instanceMethod yX5_searches, Cond.selects RX5 yX5_searches yX5_searches, Cond.code yX5_searches cX5_searches 3 (some .int), Cond.fieldLink RX5 80 "CornerLabelsModel" "looksFor" "I", Cond.fieldLink RX5 83 "CornerLabelsModel" "best" "I", Cond.methodLink RX5 96 yX5_looksAt, Cond.instanceMethod yX5_looksAt, Cond.selects RX5 yX5_looksAt yX5_looksAt, Cond.code yX5_looksAt cX5_looksAt 2 none, Cond.methodLink RX5 92 yX5_canBe, Cond.instanceMethod yX5_canBe]
def wsL_law0_r19 : List Cond := [Cond.selects RX5 yX5_canBe yX5_canBe, Cond.code yX5_canBe cX5_canBe 2 (some .boolean), Cond.methodLink RX5 86 yX5_worth, Cond.instanceMethod yX5_worth, Cond.selects RX5 yX5_worth yX5_worth, Cond.code yX5_worth cX5_worth 5 (some .int), Cond.methodLink RX5 89 yX5_weightFrom, Cond.instanceMethod yX5_weightFrom, Cond.selects RX5 yX5_weightFrom yX5_weightFrom, Cond.code yX5_weightFrom cX5_weightFrom 4 (some .int), Cond.methodLink RX5 99 yX5_fits, Cond.instanceMethod yX5_fits, Cond.selects RX5 yX5_fits yX5_fits, Cond.code yX5_fits cX5_fits 5 (some .boolean), Cond.methodLink RX5 144 yX5_lays, Cond.instanceMethod yX5_lays, Cond.selects RX5 yX5_lays yX5_lays, Cond.code yX5_lays cX5_lays 2 none, Cond.methodLink RL 107 yL_push, Cond.static yL_push, Cond.codeWith yL_push cL_push 4 (some .int) [(0, 9, 12, 21), (0, 9, 15, 15)], Cond.methodLink RL 37 yX4_push, Cond.instanceMethod yX4_push, Cond.selects RX4 yX4_push yX4_push]
def wsL_law0_r20 : List Cond := [Cond.code yX4_push cX4_push 3 (some .int), Cond.methodLink RX4 129 yX2_findRoom, Cond.instanceMethod yX2_findRoom, Cond.selects RX2 yX2_findRoom yX2_findRoom, Cond.code yX2_findRoom cX2_findRoom 6 (some .int), Cond.methodLink RL 109 yX5_push, Cond.instanceMethod yX5_push, Cond.selects RX5 yX5_push yX5_push, Cond.code yX5_push cX5_push 3 (some .int), Cond.methodLink RX5 147 yX5_makesRoom, Cond.instanceMethod yX5_makesRoom, Cond.selects RX5 yX5_makesRoom yX5_makesRoom, Cond.code yX5_makesRoom cX5_makesRoom 3 (some .int), Cond.methodLink RL 110 yX4_mirror, Cond.instanceMethod yX4_mirror, Cond.selects RX4 yX4_mirror yX4_mirror, Cond.code yX4_mirror cX4_mirror 1 (some .int), Cond.methodLink RX4 134 yX0_flip, Cond.instanceMethod yX0_flip, Cond.selects RX0 yX0_flip yX0_flip, Cond.code yX0_flip cX0_flip 2 none, Cond.methodLink RX4 137 yX0_standingLabels, Cond.instanceMethod yX0_standingLabels, Cond.selects RX0 yX0_standingLabels yX0_standingLabels]
def wsL_law0_r21 : List Cond := [Cond.code yX0_standingLabels cX0_standingLabels 3 (some .int), Cond.methodLink RL 113 yX5_mirror, Cond.instanceMethod yX5_mirror, Cond.selects RX5 yX5_mirror yX5_mirror, Cond.code yX5_mirror cX5_mirror 2 (some .int), Cond.methodLink RX5 150 yX5_standing, Cond.instanceMethod yX5_standing, Cond.selects RX5 yX5_standing yX5_standing, Cond.code yX5_standing cX5_standing 3 (some .int), Cond.methodLink RL 114 yL_append, Cond.static yL_append, Cond.codeWith yL_append cL_append 4 (some .int) [(0, 9, 12, 13), (0, 9, 15, 15)], Cond.methodLink RL 40 yX4_append, Cond.instanceMethod yX4_append, Cond.selects RX4 yX4_append yX4_append, Cond.code yX4_append cX4_append 2 (some .int), Cond.fieldLink RX4 143 "CornerLabels$Typed" "length" "I", Cond.methodLink RX4 149 yX3_write, Cond.instanceMethod yX3_write, Cond.selects RX3 yX3_write yX3_write, Cond.code yX3_write cX3_write 2 none, Cond.methodLink RL 116 yX5_append, Cond.instanceMethod yX5_append, Cond.selects RX5 yX5_append yX5_append]
def wsL_law0_r22 : List Cond := [Cond.code yX5_append cX5_append 2 (some .int), Cond.fieldLink RX5 154 "CornerLabelsModel" "length" "I", Cond.methodLink RL 117 yX4_clearBuffer, Cond.instanceMethod yX4_clearBuffer, Cond.selects RX4 yX4_clearBuffer yX4_clearBuffer, Cond.code yX4_clearBuffer cX4_clearBuffer 2 (some .int), Cond.methodLink RL 120 yX5_clearBuffer, Cond.instanceMethod yX5_clearBuffer, Cond.selects RX5 yX5_clearBuffer yX5_clearBuffer, Cond.code yX5_clearBuffer cX5_clearBuffer 2 (some .int), Cond.methodLink RL 121 yX4_firstError, Cond.instanceMethod yX4_firstError, Cond.selects RX4 yX4_firstError yX4_firstError, Cond.code yX4_firstError cX4_firstError 1 (some .int), Cond.methodLink RX4 152 yX3_scan, Cond.instanceMethod yX3_scan, Cond.selects RX3 yX3_scan yX3_scan, Cond.code yX3_scan cX3_scan 2 (some .int), Cond.methodLink RX3 31 yX3_beginPoint, Cond.instanceMethod yX3_beginPoint, Cond.selects RX3 yX3_beginPoint yX3_beginPoint, Cond.code yX3_beginPoint cX3_beginPoint 1 (some .boolean), Cond.methodLink RX3 35 yX3_take, Cond.instanceMethod yX3_take]
def wsL_law0_r23 : List Cond := [Cond.selects RX3 yX3_take yX3_take, Cond.code yX3_take cX3_take 3 (some .boolean), Cond.methodLink RX3 39 yX3_takeDigit, Cond.instanceMethod yX3_takeDigit, Cond.selects RX3 yX3_takeDigit yX3_takeDigit, Cond.code yX3_takeDigit cX3_takeDigit 3 (some .boolean), Cond.fieldLink RX3 46 "CornerLabels$Typed" "LEAST" "[I", Cond.fieldLink RX3 49 "CornerLabels$Typed" "MOST" "[I", Cond.methodLink RX3 42 yX3_partAfter, Cond.static yX3_partAfter, Cond.code yX3_partAfter cX3_partAfter 2 (some .int), Cond.methodLink RL 124 yX5_firstError, Cond.instanceMethod yX5_firstError, Cond.selects RX5 yX5_firstError yX5_firstError, Cond.code yX5_firstError cX5_firstError 1 (some .int), Cond.fieldLink RX5 157 "CornerLabelsModel" "at" "I", Cond.methodLink RX5 179 yX5_readsAll, Cond.instanceMethod yX5_readsAll, Cond.selects RX5 yX5_readsAll yX5_readsAll, Cond.code yX5_readsAll cX5_readsAll 1 none, Cond.fieldLink RX5 160 "CornerLabelsModel" "isWell" "Z", Cond.fieldLink RX5 167 "CornerLabelsModel" "readMany" "I", Cond.methodLink RX5 176 yX5_readsPoint, Cond.instanceMethod yX5_readsPoint]
def wsL_law0_r24 : List Cond := [Cond.selects RX5 yX5_readsPoint yX5_readsPoint, Cond.code yX5_readsPoint cX5_readsPoint 2 none, Cond.methodLink RX5 170 yX5_number, Cond.instanceMethod yX5_number, Cond.selects RX5 yX5_number yX5_number, Cond.code yX5_number cX5_number 4 (some .int), Cond.methodLink RX5 164 yX5_sign, Cond.instanceMethod yX5_sign, Cond.selects RX5 yX5_sign yX5_sign, Cond.code yX5_sign cX5_sign 1 (some .int), Cond.methodLink RX5 173 yX5_takes, Cond.instanceMethod yX5_takes, Cond.selects RX5 yX5_takes yX5_takes, Cond.code yX5_takes cX5_takes 3 (some .boolean), Cond.methodLink RL 125 yL_read, Cond.static yL_read, Cond.codeWith yL_read cL_read 3 (some .int) [(0, 8, 11, 13)], Cond.methodLink RL 43 yX4_read, Cond.instanceMethod yX4_read, Cond.selects RX4 yX4_read yX4_read, Cond.code yX4_read cX4_read 2 (some .int), Cond.methodLink RX4 155 yX3_endsWithPoint, Cond.instanceMethod yX3_endsWithPoint, Cond.selects RX3 yX3_endsWithPoint yX3_endsWithPoint]
def wsL_law0_r25 : List Cond := [Cond.code yX3_endsWithPoint cX3_endsWithPoint 1 (some .boolean), Cond.methodLink RX4 161 yX4_insertTold, Cond.instanceMethod yX4_insertTold, Cond.selects RX4 yX4_insertTold yX4_insertTold, Cond.code yX4_insertTold cX4_insertTold 5 (some .int), Cond.methodLink RX4 248 yX3_pointsTold, Cond.instanceMethod yX3_pointsTold, Cond.selects RX3 yX3_pointsTold yX3_pointsTold, Cond.code yX3_pointsTold cX3_pointsTold 1 (some .int), Cond.methodLink RX4 251 yX3_part, Cond.instanceMethod yX3_part, Cond.selects RX3 yX3_part yX3_part, Cond.code yX3_part cX3_part 3 (some .int), Cond.methodLink RL 128 yX5_read, Cond.instanceMethod yX5_read, Cond.selects RX5 yX5_read yX5_read, Cond.code yX5_read cX5_read 2 (some .int), Cond.methodLink RL 129 yL_undo, Cond.static yL_undo, Cond.codeWith yL_undo cL_undo 3 (some .int) [(0, 8, 11, 15)], Cond.methodLink RL 47 yX4_undo, Cond.instanceMethod yX4_undo, Cond.selects RX4 yX4_undo yX4_undo, Cond.code yX4_undo cX4_undo 1 (some .int)]
def wsL_law0_r26 : List Cond := [Cond.fieldLink RX4 164 "CornerLabels$History" "states" "I", Cond.methodLink RX4 169 yX1_restore, Cond.instanceMethod yX1_restore, Cond.selects RX1 yX1_restore yX1_restore, Cond.code yX1_restore cX1_restore 2 none, Cond.methodLink RL 131 yX5_undo, Cond.instanceMethod yX5_undo, Cond.selects RX5 yX5_undo yX5_undo, Cond.code yX5_undo cX5_undo 2 (some .int), Cond.methodLink RL 132 yL_point, Cond.static yL_point, Cond.codeWith yL_point cL_point 5 (some .int) [(0, 10, 13, 21), (0, 10, 17, 13)], Cond.methodLink RL 50 yX4_point, Cond.instanceMethod yX4_point, Cond.selects RX4 yX4_point yX4_point, Cond.code yX4_point cX4_point 3 (some .int), Cond.methodLink RX4 174 yX4_property, Cond.instanceMethod yX4_property, Cond.selects RX4 yX4_property yX4_property, Cond.code yX4_property cX4_property 3 (some .int), Cond.methodLink RX4 254 yX0_leaderCrossings, Cond.instanceMethod yX0_leaderCrossings, Cond.selects RX0 yX0_leaderCrossings yX0_leaderCrossings, Cond.code yX0_leaderCrossings cX0_leaderCrossings 4 (some .int)]
def wsL_law0_r27 : List Cond := [Cond.methodLink RX0 74 yX0_isPointOnLeader, Cond.instanceMethod yX0_isPointOnLeader, Cond.selects RX0 yX0_isPointOnLeader yX0_isPointOnLeader, Cond.code yX0_isPointOnLeader cX0_isPointOnLeader 3 (some .boolean), Cond.methodLink RX0 77 yX0_isLabelOnLeader, Cond.instanceMethod yX0_isLabelOnLeader, Cond.selects RX0 yX0_isLabelOnLeader yX0_isLabelOnLeader, Cond.code yX0_isLabelOnLeader cX0_isLabelOnLeader 7 (some .boolean), Cond.methodLink RL 134 yX5_point, Cond.instanceMethod yX5_point, Cond.selects RX5 yX5_point yX5_point, Cond.code yX5_point cX5_point 3 (some .int), Cond.methodLink RX5 188 yX5_tellsPoint, Cond.instanceMethod yX5_tellsPoint, Cond.selects RX5 yX5_tellsPoint yX5_tellsPoint, Cond.code yX5_tellsPoint cX5_tellsPoint 3 (some .int), Cond.methodLink RX5 182 yX5_freeOf, Cond.instanceMethod yX5_freeOf, Cond.selects RX5 yX5_freeOf yX5_freeOf, Cond.code yX5_freeOf cX5_freeOf 4 (some .int), Cond.methodLink RX5 185 yX5_crosses, Cond.instanceMethod yX5_crosses, Cond.selects RX5 yX5_crosses yX5_crosses, Cond.code yX5_crosses cX5_crosses 6 (some .int)]
def wsL_law0_r28 : List Cond := [Cond.methodLink RL 135 yL_clash, Cond.static yL_clash, Cond.codeWith yL_clash cL_clash 7 (some .int) [(0, 14, 17, 21), (0, 14, 21, 13)], Cond.methodLink RL 53 yX4_clash, Cond.instanceMethod yX4_clash, Cond.selects RX4 yX4_clash yX4_clash, Cond.code yX4_clash cX4_clash 5 (some .int), Cond.methodLink RX4 179 yX0_sharedSquares, Cond.methodLink RL 138 yX5_clash, Cond.instanceMethod yX5_clash, Cond.selects RX5 yX5_clash yX5_clash, Cond.code yX5_clash cX5_clash 5 (some .int), Cond.methodLink RL 139 yL_at, Cond.static yL_at, Cond.codeWith yL_at cL_at 5 (some .int) [(0, 10, 13, 13)], Cond.methodLink RL 57 yX4_at, Cond.instanceMethod yX4_at, Cond.selects RX4 yX4_at yX4_at, Cond.code yX4_at cX4_at 5 (some .int), Cond.methodLink RX4 185 yX0_pointOn, Cond.methodLink RX4 188 yX0_labelOn, Cond.methodLink RL 141 yX5_at, Cond.instanceMethod yX5_at, Cond.selects RX5 yX5_at yX5_at]
def wsL_law0_r29 : List Cond := [Cond.code yX5_at cX5_at 3 (some .int), Cond.methodLink RX5 191 yX5_tellsAt, Cond.instanceMethod yX5_tellsAt, Cond.selects RX5 yX5_tellsAt yX5_tellsAt, Cond.code yX5_tellsAt cX5_tellsAt 4 (some .int), Cond.methodLink RL 142 yL_count, Cond.static yL_count, Cond.codeWith yL_count cL_count 4 (some .int) [(0, 9, 12, 13)], Cond.methodLink RL 60 yX4_count, Cond.instanceMethod yX4_count, Cond.selects RX4 yX4_count yX4_count, Cond.code yX4_count cX4_count 2 (some .int), Cond.methodLink RX4 191 yX4_number, Cond.instanceMethod yX4_number, Cond.selects RX4 yX4_number yX4_number, Cond.code yX4_number cX4_number 2 (some .int), Cond.methodLink RX4 212 yX0_standingWeight, Cond.instanceMethod yX0_standingWeight, Cond.selects RX0 yX0_standingWeight yX0_standingWeight, Cond.code yX0_standingWeight cX0_standingWeight 3 (some .int), Cond.methodLink RX4 209 yX0_allWeight, Cond.instanceMethod yX0_allWeight, Cond.selects RX0 yX0_allWeight yX0_allWeight, Cond.code yX0_allWeight cX0_allWeight 3 (some .int)]
def wsL_law0_r30 : List Cond := [Cond.methodLink RX4 257 yX0_standingSquares, Cond.instanceMethod yX0_standingSquares, Cond.selects RX0 yX0_standingSquares yX0_standingSquares, Cond.code yX0_standingSquares cX0_standingSquares 3 (some .int), Cond.methodLink RX4 260 yX0_pointsWithoutOpenCorner, Cond.instanceMethod yX0_pointsWithoutOpenCorner, Cond.selects RX0 yX0_pointsWithoutOpenCorner yX0_pointsWithoutOpenCorner, Cond.code yX0_pointsWithoutOpenCorner cX0_pointsWithoutOpenCorner 3 (some .int), Cond.methodLink RX4 263 yX2_clashingPairs, Cond.instanceMethod yX2_clashingPairs, Cond.selects RX2 yX2_clashingPairs yX2_clashingPairs, Cond.code yX2_clashingPairs cX2_clashingPairs 5 (some .int), Cond.methodLink RX4 266 yX0_crossingsOfDropped, Cond.instanceMethod yX0_crossingsOfDropped, Cond.selects RX0 yX0_crossingsOfDropped yX0_crossingsOfDropped, Cond.code yX0_crossingsOfDropped cX0_crossingsOfDropped 3 (some .int), Cond.methodLink RX0 80 yX0_leaderCrossings, Cond.methodLink RL 144 yX5_count, Cond.instanceMethod yX5_count, Cond.selects RX5 yX5_count yX5_count, Cond.code yX5_count cX5_count 2 (some .int), Cond.methodLink RX5 213 yX5_counts, Cond.instanceMethod yX5_counts, Cond.selects RX5 yX5_counts yX5_counts]
def wsL_law0_r31 : List Cond := [Cond.code yX5_counts cX5_counts 2 (some .int), Cond.methodLink RX5 197 yX5_weightOf, Cond.instanceMethod yX5_weightOf, Cond.selects RX5 yX5_weightOf yX5_weightOf, Cond.code yX5_weightOf cX5_weightOf 4 (some .int), Cond.methodLink RX5 201 yX5_squares, Cond.instanceMethod yX5_squares, Cond.selects RX5 yX5_squares yX5_squares, Cond.code yX5_squares cX5_squares 3 (some .int), Cond.methodLink RX5 204 yX5_closedMany, Cond.instanceMethod yX5_closedMany, Cond.selects RX5 yX5_closedMany yX5_closedMany, Cond.code yX5_closedMany cX5_closedMany 3 (some .int), Cond.methodLink RX5 207 yX5_clashing, Cond.instanceMethod yX5_clashing, Cond.selects RX5 yX5_clashing yX5_clashing, Cond.code yX5_clashing cX5_clashing 4 (some .int), Cond.methodLink RX5 194 yX5_mayClash, Cond.instanceMethod yX5_mayClash, Cond.selects RX5 yX5_mayClash yX5_mayClash, Cond.code yX5_mayClash cX5_mayClash 5 (some .boolean), Cond.methodLink RX5 210 yX5_crossed, Cond.instanceMethod yX5_crossed, Cond.selects RX5 yX5_crossed yX5_crossed]
def wsL_law0_r32 : List Cond := [Cond.code yX5_crossed cX5_crossed 3 (some .int), Cond.methodLink RL 145 yL_best, Cond.static yL_best, Cond.codeWith yL_best cL_best 4 (some .int) [(0, 9, 12, 21)], Cond.methodLink RL 63 yX4_best, Cond.instanceMethod yX4_best, Cond.selects RX4 yX4_best yX4_best, Cond.code yX4_best cX4_best 2 (some .int), Cond.fieldLink RX4 197 "CornerLabels$Plans" "bestCorners" "[I", Cond.methodLink RX4 194 yX2_findBest, Cond.instanceMethod yX2_findBest, Cond.selects RX2 yX2_findBest yX2_findBest, Cond.code yX2_findBest cX2_findBest 1 none, Cond.methodLink RX2 91 yX2_findHeaviest, Cond.methodLink RL 147 yX5_best, Cond.instanceMethod yX5_best, Cond.selects RX5 yX5_best yX5_best, Cond.code yX5_best cX5_best 2 (some .int), Cond.methodLink RX5 216 yX5_bestOf, Cond.instanceMethod yX5_bestOf, Cond.selects RX5 yX5_bestOf yX5_bestOf, Cond.code yX5_bestOf cX5_bestOf 2 (some .int), Cond.methodLink RL 148 yL_bestWeight, Cond.static yL_bestWeight]
def wsL_law0_r33 : List Cond := [Cond.codeWith yL_bestWeight cL_bestWeight 4 (some .int) [(0, 9, 12, 21)], Cond.methodLink RL 66 yX4_bestWeight, Cond.instanceMethod yX4_bestWeight, Cond.selects RX4 yX4_bestWeight yX4_bestWeight, Cond.code yX4_bestWeight cX4_bestWeight 2 (some .int), Cond.methodLink RL 150 yX5_bestWeight, Cond.instanceMethod yX5_bestWeight, Cond.selects RX5 yX5_bestWeight yX5_bestWeight, Cond.code yX5_bestWeight cX5_bestWeight 2 (some .int), Cond.methodLink RL 151 yL_ifPushed, Cond.static yL_ifPushed, Cond.codeWith yL_ifPushed cL_ifPushed 4 (some .int) [(0, 9, 12, 21)], Cond.methodLink RL 69 yX4_ifPushed, Cond.instanceMethod yX4_ifPushed, Cond.selects RX4 yX4_ifPushed yX4_ifPushed, Cond.code yX4_ifPushed cX4_ifPushed 2 (some .int), Cond.methodLink RL 153 yX5_ifPushed, Cond.instanceMethod yX5_ifPushed, Cond.selects RX5 yX5_ifPushed yX5_ifPushed, Cond.code yX5_ifPushed cX5_ifPushed 2 (some .int), Cond.methodLink RL 154 yX4_fullPlans, Cond.instanceMethod yX4_fullPlans, Cond.selects RX4 yX4_fullPlans yX4_fullPlans, Cond.code yX4_fullPlans cX4_fullPlans 1 (some .int)]
def wsL_law0_r34 : List Cond := [Cond.methodLink RX4 200 yX2_fullOnes, Cond.instanceMethod yX2_fullOnes, Cond.selects RX2 yX2_fullOnes yX2_fullOnes, Cond.code yX2_fullOnes cX2_fullOnes 1 (some .int), Cond.methodLink RX2 117 yX2_tally, Cond.static yX2_tally, Cond.code yX2_tally cX2_tally 8 (some .int), Cond.methodLink RL 157 yX5_fullPlans, Cond.instanceMethod yX5_fullPlans, Cond.selects RX5 yX5_fullPlans yX5_fullPlans, Cond.code yX5_fullPlans cX5_fullPlans 1 (some .int), Cond.methodLink RX5 219 yX5_fulls, Cond.instanceMethod yX5_fulls, Cond.selects RX5 yX5_fulls yX5_fulls, Cond.code yX5_fulls cX5_fulls 2 (some .int), Cond.methodLink RL 158 yX4_dearest, Cond.instanceMethod yX4_dearest, Cond.selects RX4 yX4_dearest yX4_dearest, Cond.code yX4_dearest cX4_dearest 1 (some .int), Cond.methodLink RX4 203 yX2_findWithoutEach, Cond.instanceMethod yX2_findWithoutEach, Cond.selects RX2 yX2_findWithoutEach yX2_findWithoutEach, Cond.code yX2_findWithoutEach cX2_findWithoutEach 2 none, Cond.methodLink RX4 206 yX4_findDearest]
def wsL_law0_r35 : List Cond := [Cond.instanceMethod yX4_findDearest, Cond.selects RX4 yX4_findDearest yX4_findDearest, Cond.code yX4_findDearest cX4_findDearest 5 (some .int), Cond.fieldLink RX4 269 "CornerLabels$Plans" "weightsWithout" "[I", Cond.methodLink RL 161 yX5_dearest, Cond.instanceMethod yX5_dearest, Cond.selects RX5 yX5_dearest yX5_dearest, Cond.code yX5_dearest cX5_dearest 1 (some .int), Cond.methodLink RX5 222 yX5_dear, Cond.instanceMethod yX5_dear, Cond.selects RX5 yX5_dear yX5_dear, Cond.code yX5_dear cX5_dear 5 (some .int), Cond.methodLink RL 162 yX4_standingShare, Cond.instanceMethod yX4_standingShare, Cond.selects RX4 yX4_standingShare yX4_standingShare, Cond.code yX4_standingShare cX4_standingShare 2 (some .double), Cond.methodLink RL 166 yX5_standingShare, Cond.instanceMethod yX5_standingShare, Cond.selects RX5 yX5_standingShare yX5_standingShare, Cond.code yX5_standingShare cX5_standingShare 1 (some .double), Cond.methodLink RX5 225 yX5_share, Cond.instanceMethod yX5_share, Cond.selects RX5 yX5_share yX5_share, Cond.code yX5_share cX5_share 3 (some .double)]
def wsL_law0_r36 : List Cond := [Cond.methodLink RL 167 yX4_digest, Cond.instanceMethod yX4_digest, Cond.selects RX4 yX4_digest yX4_digest, Cond.code yX4_digest cX4_digest 4 (some .long), Cond.constantLong RX4 215 (2833), Cond.fieldLink RX4 228 "CornerLabels$Plans" "topWeight" "I", Cond.methodLink RX4 217 yX4_mix, Cond.static yX4_mix, Cond.code yX4_mix cX4_mix 4 (some .long), Cond.constantLong RX4 272 (31), Cond.methodLink RX4 221 yX4_mixPoints, Cond.instanceMethod yX4_mixPoints, Cond.selects RX4 yX4_mixPoints yX4_mixPoints, Cond.code yX4_mixPoints cX4_mixPoints 7 (some .long), Cond.methodLink RX4 225 yX4_mixPairs, Cond.instanceMethod yX4_mixPairs, Cond.selects RX4 yX4_mixPairs yX4_mixPairs, Cond.code yX4_mixPairs cX4_mixPairs 7 (some .long), Cond.methodLink RX4 231 yX4_standingShare, Cond.methodLink RX4 235 yX4_bitsOf, Cond.static yX4_bitsOf, Cond.code yX4_bitsOf cX4_bitsOf 7 (some .long), Cond.constantLong RX4 277 (1023), Cond.constantDouble RX4 279 (4611686018427387904)]
def wsL_law0_r37 : List Cond := [Cond.constantDouble RX4 281 (4841369599423283200), Cond.methodLink RX4 239 yX4_mixBuffer, Cond.instanceMethod yX4_mixBuffer, Cond.selects RX4 yX4_mixBuffer yX4_mixBuffer, Cond.code yX4_mixBuffer cX4_mixBuffer 6 (some .long), Cond.methodLink RX4 274 yX3_code, Cond.instanceMethod yX3_code, Cond.selects RX3 yX3_code yX3_code, Cond.code yX3_code cX3_code 2 (some .int), Cond.methodLink RL 171 yX5_digest, Cond.instanceMethod yX5_digest, Cond.selects RX5 yX5_digest yX5_digest, Cond.code yX5_digest cX5_digest 3 (some .long), Cond.constantLong RX5 235 (2833), Cond.fieldLink RX5 231 "CornerLabelsModel" "hash" "J", Cond.methodLink RX5 237 yX5_hashes, Cond.instanceMethod yX5_hashes, Cond.selects RX5 yX5_hashes yX5_hashes, Cond.code yX5_hashes cX5_hashes 3 none, Cond.constantLong RX5 229 (31), Cond.methodLink RX5 241 yJxe99ae_doubleToLongBits_ccdee, Cond.static yJxe99ae_doubleToLongBits_ccdee, Cond.initialized RJxe99ae, Cond.code yJxe99ae_doubleToLongBits_ccdee cJxe99ae_doubleToLongBits_ccdee 2 (some .long)]
def wsL_law0_r38 : List Cond := [Cond.methodLink RJxe99ae 134 ⟨"java/lang/Double", "doubleToRawLongBits", "(D)J"⟩, Cond.native ⟨"java/lang/Double", "doubleToRawLongBits", "(D)J"⟩, Cond.static ⟨"java/lang/Double", "doubleToRawLongBits", "(D)J"⟩, Cond.initialized "java/lang/Double", Cond.constantLong RJxe99ae 137 (9221120237041090560), Cond.methodLink RJxe99ae 122 yJxe99ae_isNaN_b9ae7, Cond.static yJxe99ae_isNaN_b9ae7, Cond.code yJxe99ae_isNaN_b9ae7 cJxe99ae_isNaN_b9ae7 2 (some .boolean)]
def wsL_law0 : List Cond := (wsL_law0_r1 ++ (wsL_law0_r2 ++ (wsL_law0_r3 ++ (wsL_law0_r4 ++ (wsL_law0_r5 ++ (wsL_law0_r6 ++ (wsL_law0_r7 ++ (wsL_law0_r8 ++ (wsL_law0_r9 ++ (wsL_law0_r10 ++ (wsL_law0_r11 ++ (wsL_law0_r12 ++ (wsL_law0_r13 ++ (wsL_law0_r14 ++ (wsL_law0_r15 ++ (wsL_law0_r16 ++ (wsL_law0_r17 ++ (wsL_law0_r18 ++ (wsL_law0_r19 ++ (wsL_law0_r20 ++ (wsL_law0_r21 ++ (wsL_law0_r22 ++ (wsL_law0_r23 ++ (wsL_law0_r24 ++ (wsL_law0_r25 ++ (wsL_law0_r26 ++ (wsL_law0_r27 ++ (wsL_law0_r28 ++ (wsL_law0_r29 ++ (wsL_law0_r30 ++ (wsL_law0_r31 ++ (wsL_law0_r32 ++ (wsL_law0_r33 ++ (wsL_law0_r34 ++ (wsL_law0_r35 ++ (wsL_law0_r36 ++ (wsL_law0_r37 ++ wsL_law0_r38))))))))))))))))))))))))))))))))))))) ++ wsX40 ++ wsX50 ++ wsX00 ++ wsX10 ++ wsX30 ++ wsX20 ++ ([] : List Cond)
def wsL_law : List Cond := wsL_law0 ++ (vx_atS RX4 52 "java/lang/IllegalArgumentException" ["java/lang/RuntimeException", "java/lang/Exception"]).filter goodWord ++ (vx_atS RX4 62 "java/lang/IllegalStateException" ["java/lang/RuntimeException", "java/lang/Exception"]).filter goodWord ++ (vx_atS RX4 78 "java/lang/IndexOutOfBoundsException" ["java/lang/RuntimeException", "java/lang/Exception"]).filter goodWord
end
section
theorem dX0_init_0 : decode cX0_init 0 = .ok (.aload_n 0, 1) := by decide +kernel
theorem dX0_init_1 : decode cX0_init 1 = .ok (.invokespecial 3, 3) := by decide +kernel
theorem dX0_init_4 : decode cX0_init 4 = .ok (.aload_n 0, 1) := by decide +kernel
theorem dX0_init_5 : decode cX0_init 5 = .ok (.bipush 48, 2) := by decide +kernel
theorem dX0_init_7 : decode cX0_init 7 = .ok (.newarray .int, 2) := by decide +kernel
theorem dX0_init_9 : decode cX0_init 9 = .ok (.putfield 11, 3) := by decide +kernel
theorem dX0_init_12 : decode cX0_init 12 = .ok (.aload_n 0, 1) := by decide +kernel
theorem dX0_init_13 : decode cX0_init 13 = .ok (.iconst 0, 1) := by decide +kernel
theorem dX0_init_14 : decode cX0_init 14 = .ok (.putfield 15, 3) := by decide +kernel
theorem dX0_init_17 : decode cX0_init 17 = .ok (.return_, 1) := by decide +kernel
theorem dX0_has_0 : decode cX0_has 0 = .ok (.iload_n 1, 1) := by decide +kernel
theorem dX0_has_1 : decode cX0_has 1 = .ok (.ifCond .lt 15, 3) := by decide +kernel
theorem dX0_has_4 : decode cX0_has 4 = .ok (.iload_n 1, 1) := by decide +kernel
theorem dX0_has_5 : decode cX0_has 5 = .ok (.aload_n 0, 1) := by decide +kernel
theorem dX0_has_6 : decode cX0_has 6 = .ok (.getfield 15, 3) := by decide +kernel
theorem dX0_has_9 : decode cX0_has 9 = .ok (.if_icmp .ge 7, 3) := by decide +kernel
theorem dX0_has_12 : decode cX0_has 12 = .ok (.iconst 1, 1) := by decide +kernel
theorem dX0_has_13 : decode cX0_has 13 = .ok (.goto 4, 3) := by decide +kernel
theorem dX0_has_16 : decode cX0_has 16 = .ok (.iconst 0, 1) := by decide +kernel
theorem dX0_has_17 : decode cX0_has 17 = .ok (.ireturn, 1) := by decide +kernel
theorem dX0_stands_0 : decode cX0_stands 0 = .ok (.aload_n 0, 1) := by decide +kernel
theorem dX0_stands_1 : decode cX0_stands 1 = .ok (.getfield 11, 3) := by decide +kernel
theorem dX0_stands_4 : decode cX0_stands 4 = .ok (.bipush 40, 2) := by decide +kernel
theorem dX0_stands_6 : decode cX0_stands 6 = .ok (.iload_n 1, 1) := by decide +kernel
theorem dX0_stands_7 : decode cX0_stands 7 = .ok (.iadd, 1) := by decide +kernel
theorem dX0_stands_8 : decode cX0_stands 8 = .ok (.iaload, 1) := by decide +kernel
theorem dX0_stands_9 : decode cX0_stands 9 = .ok (.iconst (-1), 1) := by decide +kernel
theorem dX0_stands_10 : decode cX0_stands 10 = .ok (.if_icmp .eq 7, 3) := by decide +kernel
theorem dX0_stands_13 : decode cX0_stands 13 = .ok (.iconst 1, 1) := by decide +kernel
theorem dX0_stands_14 : decode cX0_stands 14 = .ok (.goto 4, 3) := by decide +kernel
theorem dX0_stands_17 : decode cX0_stands 17 = .ok (.iconst 0, 1) := by decide +kernel
theorem dX0_stands_18 : decode cX0_stands 18 = .ok (.ireturn, 1) := by decide +kernel
set_option maxRecDepth 20000 in
theorem ggX0_takesPointOn_X0_pointOn : GoodIn wsX0_takesPointOn wsX0_pointOn := goodIn_r _ [6, 1, 7, 8, 9] (by decide +kernel) (by decide +kernel)
set_option maxRecDepth 20000 in
theorem gX0_takesPointOn_X0_pointOn : GoodIn wsX0_takesPointOn (wsV RX0 19 RX0 yX0_pointOn wsX0_pointOn) := goodIn_app (goodIn_of _ (by decide +kernel)) ggX0_takesPointOn_X0_pointOn
theorem dX0_takesPointOn_0 : decode cX0_takesPointOn 0 = .ok (.aload_n 0, 1) := by decide +kernel
theorem dX0_takesPointOn_1 : decode cX0_takesPointOn 1 = .ok (.getfield 15, 3) := by decide +kernel
theorem dX0_takesPointOn_4 : decode cX0_takesPointOn 4 = .ok (.bipush 8, 2) := by decide +kernel
theorem dX0_takesPointOn_6 : decode cX0_takesPointOn 6 = .ok (.if_icmp .ge 17, 3) := by decide +kernel
theorem dX0_takesPointOn_9 : decode cX0_takesPointOn 9 = .ok (.aload_n 0, 1) := by decide +kernel
theorem dX0_takesPointOn_10 : decode cX0_takesPointOn 10 = .ok (.iload_n 1, 1) := by decide +kernel
theorem dX0_takesPointOn_11 : decode cX0_takesPointOn 11 = .ok (.iload_n 2, 1) := by decide +kernel
theorem dX0_takesPointOn_12 : decode cX0_takesPointOn 12 = .ok (.invokevirtual 19, 3) := by decide +kernel
theorem dX0_takesPointOn_15 : decode cX0_takesPointOn 15 = .ok (.iconst (-1), 1) := by decide +kernel
theorem dX0_takesPointOn_16 : decode cX0_takesPointOn 16 = .ok (.if_icmp .ne 7, 3) := by decide +kernel
theorem dX0_takesPointOn_19 : decode cX0_takesPointOn 19 = .ok (.iconst 1, 1) := by decide +kernel
theorem dX0_takesPointOn_20 : decode cX0_takesPointOn 20 = .ok (.goto 4, 3) := by decide +kernel
theorem dX0_takesPointOn_23 : decode cX0_takesPointOn 23 = .ok (.iconst 0, 1) := by decide +kernel
theorem dX0_takesPointOn_24 : decode cX0_takesPointOn 24 = .ok (.ireturn, 1) := by decide +kernel
set_option maxRecDepth 20000 in
theorem ggX0_insert_X0_labelOn : GoodIn wsX0_insert wsX0_labelOn := goodIn_r _ [7, 2, 1, 8, 9, 10, 6, 11, 12, 13, 14, 15, 16, 17, 18, 19, 20, 21, 22, 23, 24, 25] (by decide +kernel) (by decide +kernel)
set_option maxRecDepth 20000 in
theorem gX0_insert_X0_labelOn : GoodIn wsX0_insert (wsV RX0 23 RX0 yX0_labelOn wsX0_labelOn) := goodIn_app (goodIn_of _ (by decide +kernel)) ggX0_insert_X0_labelOn
theorem dX0_insert_0 : decode cX0_insert 0 = .ok (.aload_n 0, 1) := by decide +kernel
theorem dX0_insert_1 : decode cX0_insert 1 = .ok (.iload_n 1, 1) := by decide +kernel
theorem dX0_insert_2 : decode cX0_insert 2 = .ok (.iload_n 2, 1) := by decide +kernel
theorem dX0_insert_3 : decode cX0_insert 3 = .ok (.invokevirtual 23, 3) := by decide +kernel
theorem dX0_insert_6 : decode cX0_insert 6 = .ok (.istore 6, 2) := by decide +kernel
theorem dX0_insert_8 : decode cX0_insert 8 = .ok (.iload 6, 2) := by decide +kernel
theorem dX0_insert_10 : decode cX0_insert 10 = .ok (.iconst (-1), 1) := by decide +kernel
theorem dX0_insert_11 : decode cX0_insert 11 = .ok (.if_icmp .eq 14, 3) := by decide +kernel
theorem dX0_insert_14 : decode cX0_insert 14 = .ok (.aload_n 0, 1) := by decide +kernel
theorem dX0_insert_15 : decode cX0_insert 15 = .ok (.getfield 11, 3) := by decide +kernel
theorem dX0_insert_18 : decode cX0_insert 18 = .ok (.bipush 40, 2) := by decide +kernel
theorem dX0_insert_20 : decode cX0_insert 20 = .ok (.iload 6, 2) := by decide +kernel
theorem dX0_insert_22 : decode cX0_insert 22 = .ok (.iadd, 1) := by decide +kernel
theorem dX0_insert_23 : decode cX0_insert 23 = .ok (.iconst (-1), 1) := by decide +kernel
theorem dX0_insert_24 : decode cX0_insert 24 = .ok (.iastore, 1) := by decide +kernel
theorem dX0_insert_25 : decode cX0_insert 25 = .ok (.aload_n 0, 1) := by decide +kernel
theorem dX0_insert_26 : decode cX0_insert 26 = .ok (.getfield 15, 3) := by decide +kernel
theorem dX0_insert_29 : decode cX0_insert 29 = .ok (.istore 7, 2) := by decide +kernel
theorem dX0_insert_31 : decode cX0_insert 31 = .ok (.aload_n 0, 1) := by decide +kernel
theorem dX0_insert_32 : decode cX0_insert 32 = .ok (.dup, 1) := by decide +kernel
theorem dX0_insert_33 : decode cX0_insert 33 = .ok (.getfield 15, 3) := by decide +kernel
theorem dX0_insert_36 : decode cX0_insert 36 = .ok (.iconst 1, 1) := by decide +kernel
theorem dX0_insert_37 : decode cX0_insert 37 = .ok (.iadd, 1) := by decide +kernel
theorem dX0_insert_38 : decode cX0_insert 38 = .ok (.putfield 15, 3) := by decide +kernel
theorem dX0_insert_41 : decode cX0_insert 41 = .ok (.aload_n 0, 1) := by decide +kernel
theorem dX0_insert_42 : decode cX0_insert 42 = .ok (.getfield 11, 3) := by decide +kernel
theorem dX0_insert_45 : decode cX0_insert 45 = .ok (.iconst 0, 1) := by decide +kernel
theorem dX0_insert_46 : decode cX0_insert 46 = .ok (.iload 7, 2) := by decide +kernel
theorem dX0_insert_48 : decode cX0_insert 48 = .ok (.iadd, 1) := by decide +kernel
theorem dX0_insert_49 : decode cX0_insert 49 = .ok (.iload_n 1, 1) := by decide +kernel
theorem dX0_insert_50 : decode cX0_insert 50 = .ok (.iastore, 1) := by decide +kernel
theorem dX0_insert_51 : decode cX0_insert 51 = .ok (.aload_n 0, 1) := by decide +kernel
theorem dX0_insert_52 : decode cX0_insert 52 = .ok (.getfield 11, 3) := by decide +kernel
theorem dX0_insert_55 : decode cX0_insert 55 = .ok (.bipush 8, 2) := by decide +kernel
theorem dX0_insert_57 : decode cX0_insert 57 = .ok (.iload 7, 2) := by decide +kernel
theorem dX0_insert_59 : decode cX0_insert 59 = .ok (.iadd, 1) := by decide +kernel
theorem dX0_insert_60 : decode cX0_insert 60 = .ok (.iload_n 2, 1) := by decide +kernel
theorem dX0_insert_61 : decode cX0_insert 61 = .ok (.iastore, 1) := by decide +kernel
theorem dX0_insert_62 : decode cX0_insert 62 = .ok (.aload_n 0, 1) := by decide +kernel
theorem dX0_insert_63 : decode cX0_insert 63 = .ok (.getfield 11, 3) := by decide +kernel
theorem dX0_insert_66 : decode cX0_insert 66 = .ok (.bipush 16, 2) := by decide +kernel
theorem dX0_insert_68 : decode cX0_insert 68 = .ok (.iload 7, 2) := by decide +kernel
theorem dX0_insert_70 : decode cX0_insert 70 = .ok (.iadd, 1) := by decide +kernel
theorem dX0_insert_71 : decode cX0_insert 71 = .ok (.iload_n 3, 1) := by decide +kernel
theorem dX0_insert_72 : decode cX0_insert 72 = .ok (.iastore, 1) := by decide +kernel
theorem dX0_insert_73 : decode cX0_insert 73 = .ok (.aload_n 0, 1) := by decide +kernel
theorem dX0_insert_74 : decode cX0_insert 74 = .ok (.getfield 11, 3) := by decide +kernel
theorem dX0_insert_77 : decode cX0_insert 77 = .ok (.bipush 24, 2) := by decide +kernel
theorem dX0_insert_79 : decode cX0_insert 79 = .ok (.iload 7, 2) := by decide +kernel
theorem dX0_insert_81 : decode cX0_insert 81 = .ok (.iadd, 1) := by decide +kernel
theorem dX0_insert_82 : decode cX0_insert 82 = .ok (.iload 4, 2) := by decide +kernel
theorem dX0_insert_84 : decode cX0_insert 84 = .ok (.iastore, 1) := by decide +kernel
theorem dX0_insert_85 : decode cX0_insert 85 = .ok (.aload_n 0, 1) := by decide +kernel
theorem dX0_insert_86 : decode cX0_insert 86 = .ok (.getfield 11, 3) := by decide +kernel
theorem dX0_insert_89 : decode cX0_insert 89 = .ok (.bipush 32, 2) := by decide +kernel
theorem dX0_insert_91 : decode cX0_insert 91 = .ok (.iload 7, 2) := by decide +kernel
theorem dX0_insert_93 : decode cX0_insert 93 = .ok (.iadd, 1) := by decide +kernel
theorem dX0_insert_94 : decode cX0_insert 94 = .ok (.iload 5, 2) := by decide +kernel
theorem dX0_insert_96 : decode cX0_insert 96 = .ok (.iastore, 1) := by decide +kernel
theorem dX0_insert_97 : decode cX0_insert 97 = .ok (.aload_n 0, 1) := by decide +kernel
theorem dX0_insert_98 : decode cX0_insert 98 = .ok (.getfield 11, 3) := by decide +kernel
theorem dX0_insert_101 : decode cX0_insert 101 = .ok (.bipush 40, 2) := by decide +kernel
theorem dX0_insert_103 : decode cX0_insert 103 = .ok (.iload 7, 2) := by decide +kernel
theorem dX0_insert_105 : decode cX0_insert 105 = .ok (.iadd, 1) := by decide +kernel
theorem dX0_insert_106 : decode cX0_insert 106 = .ok (.iconst (-1), 1) := by decide +kernel
theorem dX0_insert_107 : decode cX0_insert 107 = .ok (.iastore, 1) := by decide +kernel
theorem dX0_insert_108 : decode cX0_insert 108 = .ok (.iload 7, 2) := by decide +kernel
theorem dX0_insert_110 : decode cX0_insert 110 = .ok (.ireturn, 1) := by decide +kernel
theorem dX0_takeOut_0 : decode cX0_takeOut 0 = .ok (.aload_n 0, 1) := by decide +kernel
theorem dX0_takeOut_1 : decode cX0_takeOut 1 = .ok (.dup, 1) := by decide +kernel
theorem dX0_takeOut_2 : decode cX0_takeOut 2 = .ok (.getfield 15, 3) := by decide +kernel
theorem dX0_takeOut_5 : decode cX0_takeOut 5 = .ok (.iconst 1, 1) := by decide +kernel
theorem dX0_takeOut_6 : decode cX0_takeOut 6 = .ok (.isub, 1) := by decide +kernel
theorem dX0_takeOut_7 : decode cX0_takeOut 7 = .ok (.putfield 15, 3) := by decide +kernel
theorem dX0_takeOut_10 : decode cX0_takeOut 10 = .ok (.iconst 0, 1) := by decide +kernel
theorem dX0_takeOut_11 : decode cX0_takeOut 11 = .ok (.istore_n 2, 1) := by decide +kernel
theorem dX0_takeOut_12 : decode cX0_takeOut 12 = .ok (.iload_n 2, 1) := by decide +kernel
theorem dX0_takeOut_13 : decode cX0_takeOut 13 = .ok (.bipush 48, 2) := by decide +kernel
theorem dX0_takeOut_15 : decode cX0_takeOut 15 = .ok (.if_icmp .ge 43, 3) := by decide +kernel
theorem dX0_takeOut_18 : decode cX0_takeOut 18 = .ok (.iload_n 1, 1) := by decide +kernel
theorem dX0_takeOut_19 : decode cX0_takeOut 19 = .ok (.istore_n 3, 1) := by decide +kernel
theorem dX0_takeOut_20 : decode cX0_takeOut 20 = .ok (.iload_n 3, 1) := by decide +kernel
theorem dX0_takeOut_21 : decode cX0_takeOut 21 = .ok (.aload_n 0, 1) := by decide +kernel
theorem dX0_takeOut_22 : decode cX0_takeOut 22 = .ok (.getfield 15, 3) := by decide +kernel
theorem dX0_takeOut_25 : decode cX0_takeOut 25 = .ok (.if_icmp .ge 27, 3) := by decide +kernel
theorem dX0_takeOut_28 : decode cX0_takeOut 28 = .ok (.aload_n 0, 1) := by decide +kernel
theorem dX0_takeOut_29 : decode cX0_takeOut 29 = .ok (.getfield 11, 3) := by decide +kernel
theorem dX0_takeOut_32 : decode cX0_takeOut 32 = .ok (.iload_n 2, 1) := by decide +kernel
theorem dX0_takeOut_33 : decode cX0_takeOut 33 = .ok (.iload_n 3, 1) := by decide +kernel
theorem dX0_takeOut_34 : decode cX0_takeOut 34 = .ok (.iadd, 1) := by decide +kernel
theorem dX0_takeOut_35 : decode cX0_takeOut 35 = .ok (.aload_n 0, 1) := by decide +kernel
theorem dX0_takeOut_36 : decode cX0_takeOut 36 = .ok (.getfield 11, 3) := by decide +kernel
theorem dX0_takeOut_39 : decode cX0_takeOut 39 = .ok (.iload_n 2, 1) := by decide +kernel
theorem dX0_takeOut_40 : decode cX0_takeOut 40 = .ok (.iload_n 3, 1) := by decide +kernel
theorem dX0_takeOut_41 : decode cX0_takeOut 41 = .ok (.iadd, 1) := by decide +kernel
theorem dX0_takeOut_42 : decode cX0_takeOut 42 = .ok (.iconst 1, 1) := by decide +kernel
theorem dX0_takeOut_43 : decode cX0_takeOut 43 = .ok (.iadd, 1) := by decide +kernel
theorem dX0_takeOut_44 : decode cX0_takeOut 44 = .ok (.iaload, 1) := by decide +kernel
theorem dX0_takeOut_45 : decode cX0_takeOut 45 = .ok (.iastore, 1) := by decide +kernel
theorem dX0_takeOut_46 : decode cX0_takeOut 46 = .ok (.iinc 3 1, 3) := by decide +kernel
theorem dX0_takeOut_49 : decode cX0_takeOut 49 = .ok (.goto (-29), 3) := by decide +kernel
theorem dX0_takeOut_52 : decode cX0_takeOut 52 = .ok (.iinc 2 8, 3) := by decide +kernel
theorem dX0_takeOut_55 : decode cX0_takeOut 55 = .ok (.goto (-43), 3) := by decide +kernel
theorem dX0_takeOut_58 : decode cX0_takeOut 58 = .ok (.return_, 1) := by decide +kernel
set_option maxRecDepth 20000 in
theorem ggX0_flip_X0_stands : GoodIn wsX0_flip wsX0_stands := goodIn_r _ [7, 2, 8, 9] (by decide +kernel) (by decide +kernel)
set_option maxRecDepth 20000 in
theorem gX0_flip_X0_stands : GoodIn wsX0_flip (wsV RX0 26 RX0 yX0_stands wsX0_stands) := goodIn_app (goodIn_of _ (by decide +kernel)) ggX0_flip_X0_stands
theorem dX0_flip_0 : decode cX0_flip 0 = .ok (.iconst 0, 1) := by decide +kernel
theorem dX0_flip_1 : decode cX0_flip 1 = .ok (.istore_n 1, 1) := by decide +kernel
theorem dX0_flip_2 : decode cX0_flip 2 = .ok (.iload_n 1, 1) := by decide +kernel
theorem dX0_flip_3 : decode cX0_flip 3 = .ok (.aload_n 0, 1) := by decide +kernel
theorem dX0_flip_4 : decode cX0_flip 4 = .ok (.getfield 15, 3) := by decide +kernel
theorem dX0_flip_7 : decode cX0_flip 7 = .ok (.if_icmp .ge 56, 3) := by decide +kernel
theorem dX0_flip_10 : decode cX0_flip 10 = .ok (.aload_n 0, 1) := by decide +kernel
theorem dX0_flip_11 : decode cX0_flip 11 = .ok (.getfield 11, 3) := by decide +kernel
theorem dX0_flip_14 : decode cX0_flip 14 = .ok (.iconst 0, 1) := by decide +kernel
theorem dX0_flip_15 : decode cX0_flip 15 = .ok (.iload_n 1, 1) := by decide +kernel
theorem dX0_flip_16 : decode cX0_flip 16 = .ok (.iadd, 1) := by decide +kernel
theorem dX0_flip_17 : decode cX0_flip 17 = .ok (.bipush 59, 2) := by decide +kernel
theorem dX0_flip_19 : decode cX0_flip 19 = .ok (.aload_n 0, 1) := by decide +kernel
theorem dX0_flip_20 : decode cX0_flip 20 = .ok (.getfield 11, 3) := by decide +kernel
theorem dX0_flip_23 : decode cX0_flip 23 = .ok (.iconst 0, 1) := by decide +kernel
theorem dX0_flip_24 : decode cX0_flip 24 = .ok (.iload_n 1, 1) := by decide +kernel
theorem dX0_flip_25 : decode cX0_flip 25 = .ok (.iadd, 1) := by decide +kernel
theorem dX0_flip_26 : decode cX0_flip 26 = .ok (.iaload, 1) := by decide +kernel
theorem dX0_flip_27 : decode cX0_flip 27 = .ok (.isub, 1) := by decide +kernel
theorem dX0_flip_28 : decode cX0_flip 28 = .ok (.iastore, 1) := by decide +kernel
theorem dX0_flip_29 : decode cX0_flip 29 = .ok (.aload_n 0, 1) := by decide +kernel
theorem dX0_flip_30 : decode cX0_flip 30 = .ok (.iload_n 1, 1) := by decide +kernel
theorem dX0_flip_31 : decode cX0_flip 31 = .ok (.invokevirtual 26, 3) := by decide +kernel
theorem dX0_flip_34 : decode cX0_flip 34 = .ok (.ifCond .eq 23, 3) := by decide +kernel
theorem dX0_flip_37 : decode cX0_flip 37 = .ok (.aload_n 0, 1) := by decide +kernel
theorem dX0_flip_38 : decode cX0_flip 38 = .ok (.getfield 11, 3) := by decide +kernel
theorem dX0_flip_41 : decode cX0_flip 41 = .ok (.bipush 40, 2) := by decide +kernel
theorem dX0_flip_43 : decode cX0_flip 43 = .ok (.iload_n 1, 1) := by decide +kernel
theorem dX0_flip_44 : decode cX0_flip 44 = .ok (.iadd, 1) := by decide +kernel
theorem dX0_flip_45 : decode cX0_flip 45 = .ok (.aload_n 0, 1) := by decide +kernel
theorem dX0_flip_46 : decode cX0_flip 46 = .ok (.getfield 11, 3) := by decide +kernel
theorem dX0_flip_49 : decode cX0_flip 49 = .ok (.bipush 40, 2) := by decide +kernel
theorem dX0_flip_51 : decode cX0_flip 51 = .ok (.iload_n 1, 1) := by decide +kernel
theorem dX0_flip_52 : decode cX0_flip 52 = .ok (.iadd, 1) := by decide +kernel
theorem dX0_flip_53 : decode cX0_flip 53 = .ok (.iaload, 1) := by decide +kernel
theorem dX0_flip_54 : decode cX0_flip 54 = .ok (.iconst 1, 1) := by decide +kernel
theorem dX0_flip_55 : decode cX0_flip 55 = .ok (.ixor, 1) := by decide +kernel
theorem dX0_flip_56 : decode cX0_flip 56 = .ok (.iastore, 1) := by decide +kernel
theorem dX0_flip_57 : decode cX0_flip 57 = .ok (.iinc 1 1, 3) := by decide +kernel
theorem dX0_flip_60 : decode cX0_flip 60 = .ok (.goto (-58), 3) := by decide +kernel
theorem dX0_flip_63 : decode cX0_flip 63 = .ok (.return_, 1) := by decide +kernel
theorem dX0_left_0 : decode cX0_left 0 = .ok (.iload_n 2, 1) := by decide +kernel
theorem dX0_left_1 : decode cX0_left 1 = .ok (.ifCond .eq 8, 3) := by decide +kernel
theorem dX0_left_4 : decode cX0_left 4 = .ok (.iload_n 2, 1) := by decide +kernel
theorem dX0_left_5 : decode cX0_left 5 = .ok (.iconst 3, 1) := by decide +kernel
theorem dX0_left_6 : decode cX0_left 6 = .ok (.if_icmp .ne 7, 3) := by decide +kernel
theorem dX0_left_9 : decode cX0_left 9 = .ok (.iconst 1, 1) := by decide +kernel
theorem dX0_left_10 : decode cX0_left 10 = .ok (.goto 4, 3) := by decide +kernel
theorem dX0_left_13 : decode cX0_left 13 = .ok (.iconst 0, 1) := by decide +kernel
theorem dX0_left_14 : decode cX0_left 14 = .ok (.istore_n 3, 1) := by decide +kernel
theorem dX0_left_15 : decode cX0_left 15 = .ok (.iload_n 3, 1) := by decide +kernel
theorem dX0_left_16 : decode cX0_left 16 = .ok (.ifCond .eq 16, 3) := by decide +kernel
theorem dX0_left_19 : decode cX0_left 19 = .ok (.aload_n 0, 1) := by decide +kernel
theorem dX0_left_20 : decode cX0_left 20 = .ok (.getfield 11, 3) := by decide +kernel
theorem dX0_left_23 : decode cX0_left 23 = .ok (.iconst 0, 1) := by decide +kernel
theorem dX0_left_24 : decode cX0_left 24 = .ok (.iload_n 1, 1) := by decide +kernel
theorem dX0_left_25 : decode cX0_left 25 = .ok (.iadd, 1) := by decide +kernel
theorem dX0_left_26 : decode cX0_left 26 = .ok (.iaload, 1) := by decide +kernel
theorem dX0_left_27 : decode cX0_left 27 = .ok (.iconst 1, 1) := by decide +kernel
theorem dX0_left_28 : decode cX0_left 28 = .ok (.iadd, 1) := by decide +kernel
theorem dX0_left_29 : decode cX0_left 29 = .ok (.goto 21, 3) := by decide +kernel
theorem dX0_left_32 : decode cX0_left 32 = .ok (.aload_n 0, 1) := by decide +kernel
theorem dX0_left_33 : decode cX0_left 33 = .ok (.getfield 11, 3) := by decide +kernel
theorem dX0_left_36 : decode cX0_left 36 = .ok (.iconst 0, 1) := by decide +kernel
theorem dX0_left_37 : decode cX0_left 37 = .ok (.iload_n 1, 1) := by decide +kernel
theorem dX0_left_38 : decode cX0_left 38 = .ok (.iadd, 1) := by decide +kernel
theorem dX0_left_39 : decode cX0_left 39 = .ok (.iaload, 1) := by decide +kernel
theorem dX0_left_40 : decode cX0_left 40 = .ok (.aload_n 0, 1) := by decide +kernel
theorem dX0_left_41 : decode cX0_left 41 = .ok (.getfield 11, 3) := by decide +kernel
theorem dX0_left_44 : decode cX0_left 44 = .ok (.bipush 16, 2) := by decide +kernel
theorem dX0_left_46 : decode cX0_left 46 = .ok (.iload_n 1, 1) := by decide +kernel
theorem dX0_left_47 : decode cX0_left 47 = .ok (.iadd, 1) := by decide +kernel
theorem dX0_left_48 : decode cX0_left 48 = .ok (.iaload, 1) := by decide +kernel
theorem dX0_left_49 : decode cX0_left 49 = .ok (.isub, 1) := by decide +kernel
theorem dX0_left_50 : decode cX0_left 50 = .ok (.ireturn, 1) := by decide +kernel
theorem dX0_top_0 : decode cX0_top 0 = .ok (.iload_n 2, 1) := by decide +kernel
theorem dX0_top_1 : decode cX0_top 1 = .ok (.ifCond .eq 8, 3) := by decide +kernel
theorem dX0_top_4 : decode cX0_top 4 = .ok (.iload_n 2, 1) := by decide +kernel
theorem dX0_top_5 : decode cX0_top 5 = .ok (.iconst 1, 1) := by decide +kernel
theorem dX0_top_6 : decode cX0_top 6 = .ok (.if_icmp .ne 7, 3) := by decide +kernel
theorem dX0_top_9 : decode cX0_top 9 = .ok (.iconst 1, 1) := by decide +kernel
theorem dX0_top_10 : decode cX0_top 10 = .ok (.goto 4, 3) := by decide +kernel
theorem dX0_top_13 : decode cX0_top 13 = .ok (.iconst 0, 1) := by decide +kernel
theorem dX0_top_14 : decode cX0_top 14 = .ok (.istore_n 3, 1) := by decide +kernel
theorem dX0_top_15 : decode cX0_top 15 = .ok (.iload_n 3, 1) := by decide +kernel
theorem dX0_top_16 : decode cX0_top 16 = .ok (.ifCond .eq 17, 3) := by decide +kernel
theorem dX0_top_19 : decode cX0_top 19 = .ok (.aload_n 0, 1) := by decide +kernel
theorem dX0_top_20 : decode cX0_top 20 = .ok (.getfield 11, 3) := by decide +kernel
theorem dX0_top_23 : decode cX0_top 23 = .ok (.bipush 8, 2) := by decide +kernel
theorem dX0_top_25 : decode cX0_top 25 = .ok (.iload_n 1, 1) := by decide +kernel
theorem dX0_top_26 : decode cX0_top 26 = .ok (.iadd, 1) := by decide +kernel
theorem dX0_top_27 : decode cX0_top 27 = .ok (.iaload, 1) := by decide +kernel
theorem dX0_top_28 : decode cX0_top 28 = .ok (.iconst 1, 1) := by decide +kernel
theorem dX0_top_29 : decode cX0_top 29 = .ok (.iadd, 1) := by decide +kernel
theorem dX0_top_30 : decode cX0_top 30 = .ok (.goto 22, 3) := by decide +kernel
theorem dX0_top_33 : decode cX0_top 33 = .ok (.aload_n 0, 1) := by decide +kernel
theorem dX0_top_34 : decode cX0_top 34 = .ok (.getfield 11, 3) := by decide +kernel
theorem dX0_top_37 : decode cX0_top 37 = .ok (.bipush 8, 2) := by decide +kernel
theorem dX0_top_39 : decode cX0_top 39 = .ok (.iload_n 1, 1) := by decide +kernel
theorem dX0_top_40 : decode cX0_top 40 = .ok (.iadd, 1) := by decide +kernel
theorem dX0_top_41 : decode cX0_top 41 = .ok (.iaload, 1) := by decide +kernel
theorem dX0_top_42 : decode cX0_top 42 = .ok (.aload_n 0, 1) := by decide +kernel
theorem dX0_top_43 : decode cX0_top 43 = .ok (.getfield 11, 3) := by decide +kernel
theorem dX0_top_46 : decode cX0_top 46 = .ok (.bipush 24, 2) := by decide +kernel
theorem dX0_top_48 : decode cX0_top 48 = .ok (.iload_n 1, 1) := by decide +kernel
theorem dX0_top_49 : decode cX0_top 49 = .ok (.iadd, 1) := by decide +kernel
theorem dX0_top_50 : decode cX0_top 50 = .ok (.iaload, 1) := by decide +kernel
theorem dX0_top_51 : decode cX0_top 51 = .ok (.isub, 1) := by decide +kernel
theorem dX0_top_52 : decode cX0_top 52 = .ok (.ireturn, 1) := by decide +kernel
set_option maxRecDepth 20000 in
theorem ggX0_covers_X0_left : GoodIn wsX0_covers wsX0_left := goodIn_r _ [6, 1, 11, 12] (by decide +kernel) (by decide +kernel)
set_option maxRecDepth 20000 in
theorem gX0_covers_X0_left : GoodIn wsX0_covers (wsV RX0 30 RX0 yX0_left wsX0_left) := goodIn_app (goodIn_of _ (by decide +kernel)) ggX0_covers_X0_left
set_option maxRecDepth 20000 in
theorem ggX0_covers_X0_top : GoodIn wsX0_covers wsX0_top := goodIn_r _ [10, 1, 11, 12] (by decide +kernel) (by decide +kernel)
set_option maxRecDepth 20000 in
theorem gX0_covers_X0_top : GoodIn wsX0_covers (wsV RX0 33 RX0 yX0_top wsX0_top) := goodIn_app (goodIn_of _ (by decide +kernel)) ggX0_covers_X0_top
theorem dX0_covers_0 : decode cX0_covers 0 = .ok (.aload_n 0, 1) := by decide +kernel
theorem dX0_covers_1 : decode cX0_covers 1 = .ok (.iload_n 1, 1) := by decide +kernel
theorem dX0_covers_2 : decode cX0_covers 2 = .ok (.iload_n 2, 1) := by decide +kernel
theorem dX0_covers_3 : decode cX0_covers 3 = .ok (.invokevirtual 30, 3) := by decide +kernel
theorem dX0_covers_6 : decode cX0_covers 6 = .ok (.istore 5, 2) := by decide +kernel
theorem dX0_covers_8 : decode cX0_covers 8 = .ok (.aload_n 0, 1) := by decide +kernel
theorem dX0_covers_9 : decode cX0_covers 9 = .ok (.iload_n 1, 1) := by decide +kernel
theorem dX0_covers_10 : decode cX0_covers 10 = .ok (.iload_n 2, 1) := by decide +kernel
theorem dX0_covers_11 : decode cX0_covers 11 = .ok (.invokevirtual 33, 3) := by decide +kernel
theorem dX0_covers_14 : decode cX0_covers 14 = .ok (.istore 6, 2) := by decide +kernel
theorem dX0_covers_16 : decode cX0_covers 16 = .ok (.iload_n 3, 1) := by decide +kernel
theorem dX0_covers_17 : decode cX0_covers 17 = .ok (.iload 5, 2) := by decide +kernel
theorem dX0_covers_19 : decode cX0_covers 19 = .ok (.if_icmp .lt 47, 3) := by decide +kernel
theorem dX0_covers_22 : decode cX0_covers 22 = .ok (.iload_n 3, 1) := by decide +kernel
theorem dX0_covers_23 : decode cX0_covers 23 = .ok (.iload 5, 2) := by decide +kernel
theorem dX0_covers_25 : decode cX0_covers 25 = .ok (.aload_n 0, 1) := by decide +kernel
theorem dX0_covers_26 : decode cX0_covers 26 = .ok (.getfield 11, 3) := by decide +kernel
theorem dX0_covers_29 : decode cX0_covers 29 = .ok (.bipush 16, 2) := by decide +kernel
theorem dX0_covers_31 : decode cX0_covers 31 = .ok (.iload_n 1, 1) := by decide +kernel
theorem dX0_covers_32 : decode cX0_covers 32 = .ok (.iadd, 1) := by decide +kernel
theorem dX0_covers_33 : decode cX0_covers 33 = .ok (.iaload, 1) := by decide +kernel
theorem dX0_covers_34 : decode cX0_covers 34 = .ok (.iadd, 1) := by decide +kernel
theorem dX0_covers_35 : decode cX0_covers 35 = .ok (.if_icmp .ge 31, 3) := by decide +kernel
theorem dX0_covers_38 : decode cX0_covers 38 = .ok (.iload 4, 2) := by decide +kernel
theorem dX0_covers_40 : decode cX0_covers 40 = .ok (.iload 6, 2) := by decide +kernel
theorem dX0_covers_42 : decode cX0_covers 42 = .ok (.if_icmp .lt 24, 3) := by decide +kernel
theorem dX0_covers_45 : decode cX0_covers 45 = .ok (.iload 4, 2) := by decide +kernel
theorem dX0_covers_47 : decode cX0_covers 47 = .ok (.iload 6, 2) := by decide +kernel
theorem dX0_covers_49 : decode cX0_covers 49 = .ok (.aload_n 0, 1) := by decide +kernel
theorem dX0_covers_50 : decode cX0_covers 50 = .ok (.getfield 11, 3) := by decide +kernel
theorem dX0_covers_53 : decode cX0_covers 53 = .ok (.bipush 24, 2) := by decide +kernel
theorem dX0_covers_55 : decode cX0_covers 55 = .ok (.iload_n 1, 1) := by decide +kernel
theorem dX0_covers_56 : decode cX0_covers 56 = .ok (.iadd, 1) := by decide +kernel
theorem dX0_covers_57 : decode cX0_covers 57 = .ok (.iaload, 1) := by decide +kernel
theorem dX0_covers_58 : decode cX0_covers 58 = .ok (.iadd, 1) := by decide +kernel
theorem dX0_covers_59 : decode cX0_covers 59 = .ok (.if_icmp .ge 7, 3) := by decide +kernel
theorem dX0_covers_62 : decode cX0_covers 62 = .ok (.iconst 1, 1) := by decide +kernel
theorem dX0_covers_63 : decode cX0_covers 63 = .ok (.goto 4, 3) := by decide +kernel
theorem dX0_covers_66 : decode cX0_covers 66 = .ok (.iconst 0, 1) := by decide +kernel
theorem dX0_covers_67 : decode cX0_covers 67 = .ok (.ireturn, 1) := by decide +kernel
theorem dX0_pointOn_0 : decode cX0_pointOn 0 = .ok (.iconst 0, 1) := by decide +kernel
theorem dX0_pointOn_1 : decode cX0_pointOn 1 = .ok (.istore_n 3, 1) := by decide +kernel
theorem dX0_pointOn_2 : decode cX0_pointOn 2 = .ok (.iload_n 3, 1) := by decide +kernel
theorem dX0_pointOn_3 : decode cX0_pointOn 3 = .ok (.aload_n 0, 1) := by decide +kernel
theorem dX0_pointOn_4 : decode cX0_pointOn 4 = .ok (.getfield 15, 3) := by decide +kernel
theorem dX0_pointOn_7 : decode cX0_pointOn 7 = .ok (.if_icmp .ge 36, 3) := by decide +kernel
theorem dX0_pointOn_10 : decode cX0_pointOn 10 = .ok (.aload_n 0, 1) := by decide +kernel
theorem dX0_pointOn_11 : decode cX0_pointOn 11 = .ok (.getfield 11, 3) := by decide +kernel
theorem dX0_pointOn_14 : decode cX0_pointOn 14 = .ok (.iconst 0, 1) := by decide +kernel
theorem dX0_pointOn_15 : decode cX0_pointOn 15 = .ok (.iload_n 3, 1) := by decide +kernel
theorem dX0_pointOn_16 : decode cX0_pointOn 16 = .ok (.iadd, 1) := by decide +kernel
theorem dX0_pointOn_17 : decode cX0_pointOn 17 = .ok (.iaload, 1) := by decide +kernel
theorem dX0_pointOn_18 : decode cX0_pointOn 18 = .ok (.iload_n 1, 1) := by decide +kernel
theorem dX0_pointOn_19 : decode cX0_pointOn 19 = .ok (.if_icmp .ne 18, 3) := by decide +kernel
theorem dX0_pointOn_22 : decode cX0_pointOn 22 = .ok (.aload_n 0, 1) := by decide +kernel
theorem dX0_pointOn_23 : decode cX0_pointOn 23 = .ok (.getfield 11, 3) := by decide +kernel
theorem dX0_pointOn_26 : decode cX0_pointOn 26 = .ok (.bipush 8, 2) := by decide +kernel
theorem dX0_pointOn_28 : decode cX0_pointOn 28 = .ok (.iload_n 3, 1) := by decide +kernel
theorem dX0_pointOn_29 : decode cX0_pointOn 29 = .ok (.iadd, 1) := by decide +kernel
theorem dX0_pointOn_30 : decode cX0_pointOn 30 = .ok (.iaload, 1) := by decide +kernel
theorem dX0_pointOn_31 : decode cX0_pointOn 31 = .ok (.iload_n 2, 1) := by decide +kernel
theorem dX0_pointOn_32 : decode cX0_pointOn 32 = .ok (.if_icmp .ne 5, 3) := by decide +kernel
theorem dX0_pointOn_35 : decode cX0_pointOn 35 = .ok (.iload_n 3, 1) := by decide +kernel
theorem dX0_pointOn_36 : decode cX0_pointOn 36 = .ok (.ireturn, 1) := by decide +kernel
theorem dX0_pointOn_37 : decode cX0_pointOn 37 = .ok (.iinc 3 1, 3) := by decide +kernel
theorem dX0_pointOn_40 : decode cX0_pointOn 40 = .ok (.goto (-38), 3) := by decide +kernel
theorem dX0_pointOn_43 : decode cX0_pointOn 43 = .ok (.iconst (-1), 1) := by decide +kernel
theorem dX0_pointOn_44 : decode cX0_pointOn 44 = .ok (.ireturn, 1) := by decide +kernel
set_option maxRecDepth 20000 in
theorem ggX0_labelOn_X0_stands : GoodIn wsX0_labelOn wsX0_stands := goodIn_r _ [7, 2, 20, 21] (by decide +kernel) (by decide +kernel)
set_option maxRecDepth 20000 in
theorem gX0_labelOn_X0_stands : GoodIn wsX0_labelOn (wsV RX0 26 RX0 yX0_stands wsX0_stands) := goodIn_app (goodIn_of _ (by decide +kernel)) ggX0_labelOn_X0_stands
set_option maxRecDepth 20000 in
theorem ggX0_labelOn_X0_covers : GoodIn wsX0_labelOn wsX0_covers := goodIn_r _ [11, 2, 12, 13, 14, 6, 15, 16, 17, 18, 19, 20, 21] (by decide +kernel) (by decide +kernel)
set_option maxRecDepth 20000 in
theorem gX0_labelOn_X0_covers : GoodIn wsX0_labelOn (wsV RX0 36 RX0 yX0_covers wsX0_covers) := goodIn_app (goodIn_of _ (by decide +kernel)) ggX0_labelOn_X0_covers
theorem dX0_labelOn_0 : decode cX0_labelOn 0 = .ok (.iconst 0, 1) := by decide +kernel
theorem dX0_labelOn_1 : decode cX0_labelOn 1 = .ok (.istore_n 3, 1) := by decide +kernel
theorem dX0_labelOn_2 : decode cX0_labelOn 2 = .ok (.iload_n 3, 1) := by decide +kernel
theorem dX0_labelOn_3 : decode cX0_labelOn 3 = .ok (.aload_n 0, 1) := by decide +kernel
theorem dX0_labelOn_4 : decode cX0_labelOn 4 = .ok (.getfield 15, 3) := by decide +kernel
theorem dX0_labelOn_7 : decode cX0_labelOn 7 = .ok (.if_icmp .ge 38, 3) := by decide +kernel
theorem dX0_labelOn_10 : decode cX0_labelOn 10 = .ok (.aload_n 0, 1) := by decide +kernel
theorem dX0_labelOn_11 : decode cX0_labelOn 11 = .ok (.iload_n 3, 1) := by decide +kernel
theorem dX0_labelOn_12 : decode cX0_labelOn 12 = .ok (.invokevirtual 26, 3) := by decide +kernel
theorem dX0_labelOn_15 : decode cX0_labelOn 15 = .ok (.ifCond .eq 24, 3) := by decide +kernel
theorem dX0_labelOn_18 : decode cX0_labelOn 18 = .ok (.aload_n 0, 1) := by decide +kernel
theorem dX0_labelOn_19 : decode cX0_labelOn 19 = .ok (.iload_n 3, 1) := by decide +kernel
theorem dX0_labelOn_20 : decode cX0_labelOn 20 = .ok (.aload_n 0, 1) := by decide +kernel
theorem dX0_labelOn_21 : decode cX0_labelOn 21 = .ok (.getfield 11, 3) := by decide +kernel
theorem dX0_labelOn_24 : decode cX0_labelOn 24 = .ok (.bipush 40, 2) := by decide +kernel
theorem dX0_labelOn_26 : decode cX0_labelOn 26 = .ok (.iload_n 3, 1) := by decide +kernel
theorem dX0_labelOn_27 : decode cX0_labelOn 27 = .ok (.iadd, 1) := by decide +kernel
theorem dX0_labelOn_28 : decode cX0_labelOn 28 = .ok (.iaload, 1) := by decide +kernel
theorem dX0_labelOn_29 : decode cX0_labelOn 29 = .ok (.iload_n 1, 1) := by decide +kernel
theorem dX0_labelOn_30 : decode cX0_labelOn 30 = .ok (.iload_n 2, 1) := by decide +kernel
theorem dX0_labelOn_31 : decode cX0_labelOn 31 = .ok (.invokevirtual 36, 3) := by decide +kernel
theorem dX0_labelOn_34 : decode cX0_labelOn 34 = .ok (.ifCond .eq 5, 3) := by decide +kernel
theorem dX0_labelOn_37 : decode cX0_labelOn 37 = .ok (.iload_n 3, 1) := by decide +kernel
theorem dX0_labelOn_38 : decode cX0_labelOn 38 = .ok (.ireturn, 1) := by decide +kernel
theorem dX0_labelOn_39 : decode cX0_labelOn 39 = .ok (.iinc 3 1, 3) := by decide +kernel
theorem dX0_labelOn_42 : decode cX0_labelOn 42 = .ok (.goto (-40), 3) := by decide +kernel
theorem dX0_labelOn_45 : decode cX0_labelOn 45 = .ok (.iconst (-1), 1) := by decide +kernel
theorem dX0_labelOn_46 : decode cX0_labelOn 46 = .ok (.ireturn, 1) := by decide +kernel
set_option maxRecDepth 20000 in
theorem ggX0_isOpen_X0_left : GoodIn wsX0_isOpen wsX0_left := goodIn_r _ [7, 1, 12, 13] (by decide +kernel) (by decide +kernel)
set_option maxRecDepth 20000 in
theorem gX0_isOpen_X0_left : GoodIn wsX0_isOpen (wsV RX0 30 RX0 yX0_left wsX0_left) := goodIn_app (goodIn_of _ (by decide +kernel)) ggX0_isOpen_X0_left
set_option maxRecDepth 20000 in
theorem ggX0_isOpen_X0_top : GoodIn wsX0_isOpen wsX0_top := goodIn_r _ [11, 1, 12, 13] (by decide +kernel) (by decide +kernel)
set_option maxRecDepth 20000 in
theorem gX0_isOpen_X0_top : GoodIn wsX0_isOpen (wsV RX0 33 RX0 yX0_top wsX0_top) := goodIn_app (goodIn_of _ (by decide +kernel)) ggX0_isOpen_X0_top
theorem dX0_isOpen_0 : decode cX0_isOpen 0 = .ok (.aload_n 0, 1) := by decide +kernel
theorem dX0_isOpen_1 : decode cX0_isOpen 1 = .ok (.iload_n 1, 1) := by decide +kernel
theorem dX0_isOpen_2 : decode cX0_isOpen 2 = .ok (.iload_n 2, 1) := by decide +kernel
theorem dX0_isOpen_3 : decode cX0_isOpen 3 = .ok (.invokevirtual 30, 3) := by decide +kernel
theorem dX0_isOpen_6 : decode cX0_isOpen 6 = .ok (.istore_n 3, 1) := by decide +kernel
theorem dX0_isOpen_7 : decode cX0_isOpen 7 = .ok (.iload_n 3, 1) := by decide +kernel
theorem dX0_isOpen_8 : decode cX0_isOpen 8 = .ok (.aload_n 0, 1) := by decide +kernel
theorem dX0_isOpen_9 : decode cX0_isOpen 9 = .ok (.getfield 11, 3) := by decide +kernel
theorem dX0_isOpen_12 : decode cX0_isOpen 12 = .ok (.bipush 16, 2) := by decide +kernel
theorem dX0_isOpen_14 : decode cX0_isOpen 14 = .ok (.iload_n 1, 1) := by decide +kernel
theorem dX0_isOpen_15 : decode cX0_isOpen 15 = .ok (.iadd, 1) := by decide +kernel
theorem dX0_isOpen_16 : decode cX0_isOpen 16 = .ok (.iaload, 1) := by decide +kernel
theorem dX0_isOpen_17 : decode cX0_isOpen 17 = .ok (.iadd, 1) := by decide +kernel
theorem dX0_isOpen_18 : decode cX0_isOpen 18 = .ok (.iconst 1, 1) := by decide +kernel
theorem dX0_isOpen_19 : decode cX0_isOpen 19 = .ok (.isub, 1) := by decide +kernel
theorem dX0_isOpen_20 : decode cX0_isOpen 20 = .ok (.istore 4, 2) := by decide +kernel
theorem dX0_isOpen_22 : decode cX0_isOpen 22 = .ok (.aload_n 0, 1) := by decide +kernel
theorem dX0_isOpen_23 : decode cX0_isOpen 23 = .ok (.iload_n 1, 1) := by decide +kernel
theorem dX0_isOpen_24 : decode cX0_isOpen 24 = .ok (.iload_n 2, 1) := by decide +kernel
theorem dX0_isOpen_25 : decode cX0_isOpen 25 = .ok (.invokevirtual 33, 3) := by decide +kernel
theorem dX0_isOpen_28 : decode cX0_isOpen 28 = .ok (.istore 5, 2) := by decide +kernel
theorem dX0_isOpen_30 : decode cX0_isOpen 30 = .ok (.iload 5, 2) := by decide +kernel
theorem dX0_isOpen_32 : decode cX0_isOpen 32 = .ok (.aload_n 0, 1) := by decide +kernel
theorem dX0_isOpen_33 : decode cX0_isOpen 33 = .ok (.getfield 11, 3) := by decide +kernel
theorem dX0_isOpen_36 : decode cX0_isOpen 36 = .ok (.bipush 24, 2) := by decide +kernel
theorem dX0_isOpen_38 : decode cX0_isOpen 38 = .ok (.iload_n 1, 1) := by decide +kernel
theorem dX0_isOpen_39 : decode cX0_isOpen 39 = .ok (.iadd, 1) := by decide +kernel
theorem dX0_isOpen_40 : decode cX0_isOpen 40 = .ok (.iaload, 1) := by decide +kernel
theorem dX0_isOpen_41 : decode cX0_isOpen 41 = .ok (.iadd, 1) := by decide +kernel
theorem dX0_isOpen_42 : decode cX0_isOpen 42 = .ok (.iconst 1, 1) := by decide +kernel
theorem dX0_isOpen_43 : decode cX0_isOpen 43 = .ok (.isub, 1) := by decide +kernel
theorem dX0_isOpen_44 : decode cX0_isOpen 44 = .ok (.istore 6, 2) := by decide +kernel
theorem dX0_isOpen_46 : decode cX0_isOpen 46 = .ok (.iload_n 3, 1) := by decide +kernel
theorem dX0_isOpen_47 : decode cX0_isOpen 47 = .ok (.ifCond .lt 22, 3) := by decide +kernel
theorem dX0_isOpen_50 : decode cX0_isOpen 50 = .ok (.iload 4, 2) := by decide +kernel
theorem dX0_isOpen_52 : decode cX0_isOpen 52 = .ok (.bipush 60, 2) := by decide +kernel
theorem dX0_isOpen_54 : decode cX0_isOpen 54 = .ok (.if_icmp .ge 15, 3) := by decide +kernel
theorem dX0_isOpen_57 : decode cX0_isOpen 57 = .ok (.iload 5, 2) := by decide +kernel
theorem dX0_isOpen_59 : decode cX0_isOpen 59 = .ok (.ifCond .lt 10, 3) := by decide +kernel
theorem dX0_isOpen_62 : decode cX0_isOpen 62 = .ok (.iload 6, 2) := by decide +kernel
theorem dX0_isOpen_64 : decode cX0_isOpen 64 = .ok (.bipush 40, 2) := by decide +kernel
theorem dX0_isOpen_66 : decode cX0_isOpen 66 = .ok (.if_icmp .lt 5, 3) := by decide +kernel
theorem dX0_isOpen_69 : decode cX0_isOpen 69 = .ok (.iconst 0, 1) := by decide +kernel
theorem dX0_isOpen_70 : decode cX0_isOpen 70 = .ok (.ireturn, 1) := by decide +kernel
theorem dX0_isOpen_71 : decode cX0_isOpen 71 = .ok (.iconst 0, 1) := by decide +kernel
theorem dX0_isOpen_72 : decode cX0_isOpen 72 = .ok (.istore 7, 2) := by decide +kernel
theorem dX0_isOpen_74 : decode cX0_isOpen 74 = .ok (.iload 7, 2) := by decide +kernel
theorem dX0_isOpen_76 : decode cX0_isOpen 76 = .ok (.aload_n 0, 1) := by decide +kernel
theorem dX0_isOpen_77 : decode cX0_isOpen 77 = .ok (.getfield 15, 3) := by decide +kernel
theorem dX0_isOpen_80 : decode cX0_isOpen 80 = .ok (.if_icmp .ge 61, 3) := by decide +kernel
theorem dX0_isOpen_83 : decode cX0_isOpen 83 = .ok (.aload_n 0, 1) := by decide +kernel
theorem dX0_isOpen_84 : decode cX0_isOpen 84 = .ok (.getfield 11, 3) := by decide +kernel
theorem dX0_isOpen_87 : decode cX0_isOpen 87 = .ok (.iconst 0, 1) := by decide +kernel
theorem dX0_isOpen_88 : decode cX0_isOpen 88 = .ok (.iload 7, 2) := by decide +kernel
theorem dX0_isOpen_90 : decode cX0_isOpen 90 = .ok (.iadd, 1) := by decide +kernel
theorem dX0_isOpen_91 : decode cX0_isOpen 91 = .ok (.iaload, 1) := by decide +kernel
theorem dX0_isOpen_92 : decode cX0_isOpen 92 = .ok (.istore 8, 2) := by decide +kernel
theorem dX0_isOpen_94 : decode cX0_isOpen 94 = .ok (.aload_n 0, 1) := by decide +kernel
theorem dX0_isOpen_95 : decode cX0_isOpen 95 = .ok (.getfield 11, 3) := by decide +kernel
theorem dX0_isOpen_98 : decode cX0_isOpen 98 = .ok (.bipush 8, 2) := by decide +kernel
theorem dX0_isOpen_100 : decode cX0_isOpen 100 = .ok (.iload 7, 2) := by decide +kernel
theorem dX0_isOpen_102 : decode cX0_isOpen 102 = .ok (.iadd, 1) := by decide +kernel
theorem dX0_isOpen_103 : decode cX0_isOpen 103 = .ok (.iaload, 1) := by decide +kernel
theorem dX0_isOpen_104 : decode cX0_isOpen 104 = .ok (.istore 9, 2) := by decide +kernel
theorem dX0_isOpen_106 : decode cX0_isOpen 106 = .ok (.iload 8, 2) := by decide +kernel
theorem dX0_isOpen_108 : decode cX0_isOpen 108 = .ok (.iload_n 3, 1) := by decide +kernel
theorem dX0_isOpen_109 : decode cX0_isOpen 109 = .ok (.if_icmp .lt 26, 3) := by decide +kernel
theorem dX0_isOpen_112 : decode cX0_isOpen 112 = .ok (.iload 8, 2) := by decide +kernel
theorem dX0_isOpen_114 : decode cX0_isOpen 114 = .ok (.iload 4, 2) := by decide +kernel
theorem dX0_isOpen_116 : decode cX0_isOpen 116 = .ok (.if_icmp .gt 19, 3) := by decide +kernel
theorem dX0_isOpen_119 : decode cX0_isOpen 119 = .ok (.iload 9, 2) := by decide +kernel
theorem dX0_isOpen_121 : decode cX0_isOpen 121 = .ok (.iload 5, 2) := by decide +kernel
theorem dX0_isOpen_123 : decode cX0_isOpen 123 = .ok (.if_icmp .lt 12, 3) := by decide +kernel
theorem dX0_isOpen_126 : decode cX0_isOpen 126 = .ok (.iload 9, 2) := by decide +kernel
theorem dX0_isOpen_128 : decode cX0_isOpen 128 = .ok (.iload 6, 2) := by decide +kernel
theorem dX0_isOpen_130 : decode cX0_isOpen 130 = .ok (.if_icmp .gt 5, 3) := by decide +kernel
theorem dX0_isOpen_133 : decode cX0_isOpen 133 = .ok (.iconst 0, 1) := by decide +kernel
theorem dX0_isOpen_134 : decode cX0_isOpen 134 = .ok (.ireturn, 1) := by decide +kernel
theorem dX0_isOpen_135 : decode cX0_isOpen 135 = .ok (.iinc 7 1, 3) := by decide +kernel
theorem dX0_isOpen_138 : decode cX0_isOpen 138 = .ok (.goto (-64), 3) := by decide +kernel
theorem dX0_isOpen_141 : decode cX0_isOpen 141 = .ok (.iconst 1, 1) := by decide +kernel
theorem dX0_isOpen_142 : decode cX0_isOpen 142 = .ok (.ireturn, 1) := by decide +kernel
set_option maxRecDepth 20000 in
theorem ggX0_openMask_X0_isOpen : GoodIn wsX0_openMask wsX0_isOpen := goodIn_r _ [5, 6, 7, 8, 9, 10, 4, 11, 12, 13, 14, 15, 16, 17] (by decide +kernel) (by decide +kernel)
set_option maxRecDepth 20000 in
theorem gX0_openMask_X0_isOpen : GoodIn wsX0_openMask (wsV RX0 40 RX0 yX0_isOpen wsX0_isOpen) := goodIn_app (goodIn_of _ (by decide +kernel)) ggX0_openMask_X0_isOpen
theorem dX0_openMask_0 : decode cX0_openMask 0 = .ok (.iconst 0, 1) := by decide +kernel
theorem dX0_openMask_1 : decode cX0_openMask 1 = .ok (.istore_n 2, 1) := by decide +kernel
theorem dX0_openMask_2 : decode cX0_openMask 2 = .ok (.iconst 0, 1) := by decide +kernel
theorem dX0_openMask_3 : decode cX0_openMask 3 = .ok (.istore_n 3, 1) := by decide +kernel
theorem dX0_openMask_4 : decode cX0_openMask 4 = .ok (.iload_n 3, 1) := by decide +kernel
theorem dX0_openMask_5 : decode cX0_openMask 5 = .ok (.iconst 4, 1) := by decide +kernel
theorem dX0_openMask_6 : decode cX0_openMask 6 = .ok (.if_icmp .ge 24, 3) := by decide +kernel
theorem dX0_openMask_9 : decode cX0_openMask 9 = .ok (.aload_n 0, 1) := by decide +kernel
theorem dX0_openMask_10 : decode cX0_openMask 10 = .ok (.iload_n 1, 1) := by decide +kernel
theorem dX0_openMask_11 : decode cX0_openMask 11 = .ok (.iload_n 3, 1) := by decide +kernel
theorem dX0_openMask_12 : decode cX0_openMask 12 = .ok (.invokevirtual 40, 3) := by decide +kernel
theorem dX0_openMask_15 : decode cX0_openMask 15 = .ok (.ifCond .eq 9, 3) := by decide +kernel
theorem dX0_openMask_18 : decode cX0_openMask 18 = .ok (.iload_n 2, 1) := by decide +kernel
theorem dX0_openMask_19 : decode cX0_openMask 19 = .ok (.iconst 1, 1) := by decide +kernel
theorem dX0_openMask_20 : decode cX0_openMask 20 = .ok (.iload_n 3, 1) := by decide +kernel
theorem dX0_openMask_21 : decode cX0_openMask 21 = .ok (.ishl, 1) := by decide +kernel
theorem dX0_openMask_22 : decode cX0_openMask 22 = .ok (.ior, 1) := by decide +kernel
theorem dX0_openMask_23 : decode cX0_openMask 23 = .ok (.istore_n 2, 1) := by decide +kernel
theorem dX0_openMask_24 : decode cX0_openMask 24 = .ok (.iinc 3 1, 3) := by decide +kernel
theorem dX0_openMask_27 : decode cX0_openMask 27 = .ok (.goto (-23), 3) := by decide +kernel
theorem dX0_openMask_30 : decode cX0_openMask 30 = .ok (.iload_n 2, 1) := by decide +kernel
theorem dX0_openMask_31 : decode cX0_openMask 31 = .ok (.ireturn, 1) := by decide +kernel
set_option maxRecDepth 20000 in
theorem ggX0_openCornersBeside_X0_openMask : GoodIn wsX0_openCornersBeside wsX0_openMask := goodIn_r _ [6, 7, 8, 9, 5, 10, 11, 1, 12, 13, 14, 15, 16, 17, 18, 19, 27, 28] (by decide +kernel) (by decide +kernel)
set_option maxRecDepth 20000 in
theorem gX0_openCornersBeside_X0_openMask : GoodIn wsX0_openCornersBeside (wsV RX0 44 RX0 yX0_openMask wsX0_openMask) := goodIn_app (goodIn_of _ (by decide +kernel)) ggX0_openCornersBeside_X0_openMask
set_option maxRecDepth 20000 in
theorem ggX0_openCornersBeside_J6_bitCount_0f7a4 : GoodIn wsX0_openCornersBeside wsJ6_bitCount_0f7a4 := goodIn_r _ [23, 24, 25, 26] (by decide +kernel) (by decide +kernel)
set_option maxRecDepth 20000 in
theorem gX0_openCornersBeside_J6_bitCount_0f7a4 : GoodIn wsX0_openCornersBeside (va_wsS RX0 48 yJ6_bitCount_0f7a4 wsJ6_bitCount_0f7a4) := goodIn_app (goodIn_of _ (by decide +kernel)) ggX0_openCornersBeside_J6_bitCount_0f7a4
theorem dX0_openCornersBeside_0 : decode cX0_openCornersBeside 0 = .ok (.iconst 0, 1) := by decide +kernel
theorem dX0_openCornersBeside_1 : decode cX0_openCornersBeside 1 = .ok (.istore_n 2, 1) := by decide +kernel
theorem dX0_openCornersBeside_2 : decode cX0_openCornersBeside 2 = .ok (.iconst 0, 1) := by decide +kernel
theorem dX0_openCornersBeside_3 : decode cX0_openCornersBeside 3 = .ok (.istore_n 3, 1) := by decide +kernel
theorem dX0_openCornersBeside_4 : decode cX0_openCornersBeside 4 = .ok (.iload_n 3, 1) := by decide +kernel
theorem dX0_openCornersBeside_5 : decode cX0_openCornersBeside 5 = .ok (.aload_n 0, 1) := by decide +kernel
theorem dX0_openCornersBeside_6 : decode cX0_openCornersBeside 6 = .ok (.getfield 15, 3) := by decide +kernel
theorem dX0_openCornersBeside_9 : decode cX0_openCornersBeside 9 = .ok (.if_icmp .ge 25, 3) := by decide +kernel
theorem dX0_openCornersBeside_12 : decode cX0_openCornersBeside 12 = .ok (.iload_n 3, 1) := by decide +kernel
theorem dX0_openCornersBeside_13 : decode cX0_openCornersBeside 13 = .ok (.iload_n 1, 1) := by decide +kernel
theorem dX0_openCornersBeside_14 : decode cX0_openCornersBeside 14 = .ok (.if_icmp .eq 14, 3) := by decide +kernel
theorem dX0_openCornersBeside_17 : decode cX0_openCornersBeside 17 = .ok (.iload_n 2, 1) := by decide +kernel
theorem dX0_openCornersBeside_18 : decode cX0_openCornersBeside 18 = .ok (.aload_n 0, 1) := by decide +kernel
theorem dX0_openCornersBeside_19 : decode cX0_openCornersBeside 19 = .ok (.iload_n 3, 1) := by decide +kernel
theorem dX0_openCornersBeside_20 : decode cX0_openCornersBeside 20 = .ok (.invokevirtual 44, 3) := by decide +kernel
theorem dX0_openCornersBeside_23 : decode cX0_openCornersBeside 23 = .ok (.invokestatic 48, 3) := by decide +kernel
theorem dX0_openCornersBeside_26 : decode cX0_openCornersBeside 26 = .ok (.iadd, 1) := by decide +kernel
theorem dX0_openCornersBeside_27 : decode cX0_openCornersBeside 27 = .ok (.istore_n 2, 1) := by decide +kernel
theorem dX0_openCornersBeside_28 : decode cX0_openCornersBeside 28 = .ok (.iinc 3 1, 3) := by decide +kernel
theorem dX0_openCornersBeside_31 : decode cX0_openCornersBeside 31 = .ok (.goto (-27), 3) := by decide +kernel
theorem dX0_openCornersBeside_34 : decode cX0_openCornersBeside 34 = .ok (.iload_n 2, 1) := by decide +kernel
theorem dX0_openCornersBeside_35 : decode cX0_openCornersBeside 35 = .ok (.ireturn, 1) := by decide +kernel
set_option maxRecDepth 20000 in
theorem ggX0_sharedSquares_X0_left : GoodIn wsX0_sharedSquares wsX0_left := goodIn_r _ [6, 1, 21, 22] (by decide +kernel) (by decide +kernel)
set_option maxRecDepth 20000 in
theorem gX0_sharedSquares_X0_left : GoodIn wsX0_sharedSquares (wsV RX0 30 RX0 yX0_left wsX0_left) := goodIn_app (goodIn_of _ (by decide +kernel)) ggX0_sharedSquares_X0_left
set_option maxRecDepth 20000 in
theorem ggX0_sharedSquares_X0_sharedLength : GoodIn wsX0_sharedSquares wsX0_sharedLength := goodIn_r _ [9, 10, 11, 12, 13, 14, 15, 16] (by decide +kernel) (by decide +kernel)
set_option maxRecDepth 20000 in
theorem gX0_sharedSquares_X0_sharedLength : GoodIn wsX0_sharedSquares (va_wsS RX0 53 yX0_sharedLength wsX0_sharedLength) := goodIn_app (goodIn_of _ (by decide +kernel)) ggX0_sharedSquares_X0_sharedLength
set_option maxRecDepth 20000 in
theorem ggX0_sharedSquares_X0_top : GoodIn wsX0_sharedSquares wsX0_top := goodIn_r _ [20, 1, 21, 22] (by decide +kernel) (by decide +kernel)
set_option maxRecDepth 20000 in
theorem gX0_sharedSquares_X0_top : GoodIn wsX0_sharedSquares (wsV RX0 33 RX0 yX0_top wsX0_top) := goodIn_app (goodIn_of _ (by decide +kernel)) ggX0_sharedSquares_X0_top
theorem dX0_sharedSquares_0 : decode cX0_sharedSquares 0 = .ok (.aload_n 0, 1) := by decide +kernel
theorem dX0_sharedSquares_1 : decode cX0_sharedSquares 1 = .ok (.iload_n 1, 1) := by decide +kernel
theorem dX0_sharedSquares_2 : decode cX0_sharedSquares 2 = .ok (.iload_n 2, 1) := by decide +kernel
theorem dX0_sharedSquares_3 : decode cX0_sharedSquares 3 = .ok (.invokevirtual 30, 3) := by decide +kernel
theorem dX0_sharedSquares_6 : decode cX0_sharedSquares 6 = .ok (.aload_n 0, 1) := by decide +kernel
theorem dX0_sharedSquares_7 : decode cX0_sharedSquares 7 = .ok (.getfield 11, 3) := by decide +kernel
theorem dX0_sharedSquares_10 : decode cX0_sharedSquares 10 = .ok (.bipush 16, 2) := by decide +kernel
theorem dX0_sharedSquares_12 : decode cX0_sharedSquares 12 = .ok (.iload_n 1, 1) := by decide +kernel
theorem dX0_sharedSquares_13 : decode cX0_sharedSquares 13 = .ok (.iadd, 1) := by decide +kernel
theorem dX0_sharedSquares_14 : decode cX0_sharedSquares 14 = .ok (.iaload, 1) := by decide +kernel
theorem dX0_sharedSquares_15 : decode cX0_sharedSquares 15 = .ok (.aload_n 0, 1) := by decide +kernel
theorem dX0_sharedSquares_16 : decode cX0_sharedSquares 16 = .ok (.iload_n 3, 1) := by decide +kernel
theorem dX0_sharedSquares_17 : decode cX0_sharedSquares 17 = .ok (.iload 4, 2) := by decide +kernel
theorem dX0_sharedSquares_19 : decode cX0_sharedSquares 19 = .ok (.invokevirtual 30, 3) := by decide +kernel
theorem dX0_sharedSquares_22 : decode cX0_sharedSquares 22 = .ok (.aload_n 0, 1) := by decide +kernel
theorem dX0_sharedSquares_23 : decode cX0_sharedSquares 23 = .ok (.getfield 11, 3) := by decide +kernel
theorem dX0_sharedSquares_26 : decode cX0_sharedSquares 26 = .ok (.bipush 16, 2) := by decide +kernel
theorem dX0_sharedSquares_28 : decode cX0_sharedSquares 28 = .ok (.iload_n 3, 1) := by decide +kernel
theorem dX0_sharedSquares_29 : decode cX0_sharedSquares 29 = .ok (.iadd, 1) := by decide +kernel
theorem dX0_sharedSquares_30 : decode cX0_sharedSquares 30 = .ok (.iaload, 1) := by decide +kernel
theorem dX0_sharedSquares_31 : decode cX0_sharedSquares 31 = .ok (.invokestatic 53, 3) := by decide +kernel
theorem dX0_sharedSquares_34 : decode cX0_sharedSquares 34 = .ok (.istore 5, 2) := by decide +kernel
theorem dX0_sharedSquares_36 : decode cX0_sharedSquares 36 = .ok (.aload_n 0, 1) := by decide +kernel
theorem dX0_sharedSquares_37 : decode cX0_sharedSquares 37 = .ok (.iload_n 1, 1) := by decide +kernel
theorem dX0_sharedSquares_38 : decode cX0_sharedSquares 38 = .ok (.iload_n 2, 1) := by decide +kernel
theorem dX0_sharedSquares_39 : decode cX0_sharedSquares 39 = .ok (.invokevirtual 33, 3) := by decide +kernel
theorem dX0_sharedSquares_42 : decode cX0_sharedSquares 42 = .ok (.aload_n 0, 1) := by decide +kernel
theorem dX0_sharedSquares_43 : decode cX0_sharedSquares 43 = .ok (.getfield 11, 3) := by decide +kernel
theorem dX0_sharedSquares_46 : decode cX0_sharedSquares 46 = .ok (.bipush 24, 2) := by decide +kernel
theorem dX0_sharedSquares_48 : decode cX0_sharedSquares 48 = .ok (.iload_n 1, 1) := by decide +kernel
theorem dX0_sharedSquares_49 : decode cX0_sharedSquares 49 = .ok (.iadd, 1) := by decide +kernel
theorem dX0_sharedSquares_50 : decode cX0_sharedSquares 50 = .ok (.iaload, 1) := by decide +kernel
theorem dX0_sharedSquares_51 : decode cX0_sharedSquares 51 = .ok (.aload_n 0, 1) := by decide +kernel
theorem dX0_sharedSquares_52 : decode cX0_sharedSquares 52 = .ok (.iload_n 3, 1) := by decide +kernel
theorem dX0_sharedSquares_53 : decode cX0_sharedSquares 53 = .ok (.iload 4, 2) := by decide +kernel
theorem dX0_sharedSquares_55 : decode cX0_sharedSquares 55 = .ok (.invokevirtual 33, 3) := by decide +kernel
theorem dX0_sharedSquares_58 : decode cX0_sharedSquares 58 = .ok (.aload_n 0, 1) := by decide +kernel
theorem dX0_sharedSquares_59 : decode cX0_sharedSquares 59 = .ok (.getfield 11, 3) := by decide +kernel
theorem dX0_sharedSquares_62 : decode cX0_sharedSquares 62 = .ok (.bipush 24, 2) := by decide +kernel
theorem dX0_sharedSquares_64 : decode cX0_sharedSquares 64 = .ok (.iload_n 3, 1) := by decide +kernel
theorem dX0_sharedSquares_65 : decode cX0_sharedSquares 65 = .ok (.iadd, 1) := by decide +kernel
theorem dX0_sharedSquares_66 : decode cX0_sharedSquares 66 = .ok (.iaload, 1) := by decide +kernel
theorem dX0_sharedSquares_67 : decode cX0_sharedSquares 67 = .ok (.invokestatic 53, 3) := by decide +kernel
theorem dX0_sharedSquares_70 : decode cX0_sharedSquares 70 = .ok (.istore 6, 2) := by decide +kernel
theorem dX0_sharedSquares_72 : decode cX0_sharedSquares 72 = .ok (.iload 5, 2) := by decide +kernel
theorem dX0_sharedSquares_74 : decode cX0_sharedSquares 74 = .ok (.iload 6, 2) := by decide +kernel
theorem dX0_sharedSquares_76 : decode cX0_sharedSquares 76 = .ok (.imul, 1) := by decide +kernel
theorem dX0_sharedSquares_77 : decode cX0_sharedSquares 77 = .ok (.ireturn, 1) := by decide +kernel
theorem dX0_sharedLength_0 : decode cX0_sharedLength 0 = .ok (.iload_n 0, 1) := by decide +kernel
theorem dX0_sharedLength_1 : decode cX0_sharedLength 1 = .ok (.iload_n 2, 1) := by decide +kernel
theorem dX0_sharedLength_2 : decode cX0_sharedLength 2 = .ok (.invokestatic 57, 3) := by decide +kernel
theorem dX0_sharedLength_5 : decode cX0_sharedLength 5 = .ok (.istore 4, 2) := by decide +kernel
theorem dX0_sharedLength_7 : decode cX0_sharedLength 7 = .ok (.iload_n 0, 1) := by decide +kernel
theorem dX0_sharedLength_8 : decode cX0_sharedLength 8 = .ok (.iload_n 1, 1) := by decide +kernel
theorem dX0_sharedLength_9 : decode cX0_sharedLength 9 = .ok (.iadd, 1) := by decide +kernel
theorem dX0_sharedLength_10 : decode cX0_sharedLength 10 = .ok (.iload_n 2, 1) := by decide +kernel
theorem dX0_sharedLength_11 : decode cX0_sharedLength 11 = .ok (.iload_n 3, 1) := by decide +kernel
theorem dX0_sharedLength_12 : decode cX0_sharedLength 12 = .ok (.iadd, 1) := by decide +kernel
theorem dX0_sharedLength_13 : decode cX0_sharedLength 13 = .ok (.invokestatic 62, 3) := by decide +kernel
theorem dX0_sharedLength_16 : decode cX0_sharedLength 16 = .ok (.istore 5, 2) := by decide +kernel
theorem dX0_sharedLength_18 : decode cX0_sharedLength 18 = .ok (.iconst 0, 1) := by decide +kernel
theorem dX0_sharedLength_19 : decode cX0_sharedLength 19 = .ok (.iload 5, 2) := by decide +kernel
theorem dX0_sharedLength_21 : decode cX0_sharedLength 21 = .ok (.iload 4, 2) := by decide +kernel
theorem dX0_sharedLength_23 : decode cX0_sharedLength 23 = .ok (.isub, 1) := by decide +kernel
theorem dX0_sharedLength_24 : decode cX0_sharedLength 24 = .ok (.invokestatic 57, 3) := by decide +kernel
theorem dX0_sharedLength_27 : decode cX0_sharedLength 27 = .ok (.ireturn, 1) := by decide +kernel
set_option maxRecDepth 20000 in
theorem ggX0_clashesWithStanding_X0_stands : GoodIn wsX0_clashesWithStanding wsX0_stands := goodIn_r _ [7, 2, 30, 31] (by decide +kernel) (by decide +kernel)
set_option maxRecDepth 20000 in
theorem gX0_clashesWithStanding_X0_stands : GoodIn wsX0_clashesWithStanding (wsV RX0 26 RX0 yX0_stands wsX0_stands) := goodIn_app (goodIn_of _ (by decide +kernel)) ggX0_clashesWithStanding_X0_stands
set_option maxRecDepth 20000 in
theorem ggX0_clashesWithStanding_X0_sharedSquares : GoodIn wsX0_clashesWithStanding wsX0_sharedSquares := goodIn_r _ [11, 2, 12, 13, 14, 6, 15, 16, 17, 18, 19, 20, 21, 22, 23, 24, 25, 26, 27, 28, 29, 30, 31] (by decide +kernel) (by decide +kernel)
set_option maxRecDepth 20000 in
theorem gX0_clashesWithStanding_X0_sharedSquares : GoodIn wsX0_clashesWithStanding (wsV RX0 65 RX0 yX0_sharedSquares wsX0_sharedSquares) := goodIn_app (goodIn_of _ (by decide +kernel)) ggX0_clashesWithStanding_X0_sharedSquares
theorem dX0_clashesWithStanding_0 : decode cX0_clashesWithStanding 0 = .ok (.iconst 0, 1) := by decide +kernel
theorem dX0_clashesWithStanding_1 : decode cX0_clashesWithStanding 1 = .ok (.istore_n 3, 1) := by decide +kernel
theorem dX0_clashesWithStanding_2 : decode cX0_clashesWithStanding 2 = .ok (.iload_n 3, 1) := by decide +kernel
theorem dX0_clashesWithStanding_3 : decode cX0_clashesWithStanding 3 = .ok (.aload_n 0, 1) := by decide +kernel
theorem dX0_clashesWithStanding_4 : decode cX0_clashesWithStanding 4 = .ok (.getfield 15, 3) := by decide +kernel
theorem dX0_clashesWithStanding_7 : decode cX0_clashesWithStanding 7 = .ok (.if_icmp .ge 43, 3) := by decide +kernel
theorem dX0_clashesWithStanding_10 : decode cX0_clashesWithStanding 10 = .ok (.iload_n 3, 1) := by decide +kernel
theorem dX0_clashesWithStanding_11 : decode cX0_clashesWithStanding 11 = .ok (.iload_n 1, 1) := by decide +kernel
theorem dX0_clashesWithStanding_12 : decode cX0_clashesWithStanding 12 = .ok (.if_icmp .eq 32, 3) := by decide +kernel
theorem dX0_clashesWithStanding_15 : decode cX0_clashesWithStanding 15 = .ok (.aload_n 0, 1) := by decide +kernel
theorem dX0_clashesWithStanding_16 : decode cX0_clashesWithStanding 16 = .ok (.iload_n 3, 1) := by decide +kernel
theorem dX0_clashesWithStanding_17 : decode cX0_clashesWithStanding 17 = .ok (.invokevirtual 26, 3) := by decide +kernel
theorem dX0_clashesWithStanding_20 : decode cX0_clashesWithStanding 20 = .ok (.ifCond .eq 24, 3) := by decide +kernel
theorem dX0_clashesWithStanding_23 : decode cX0_clashesWithStanding 23 = .ok (.aload_n 0, 1) := by decide +kernel
theorem dX0_clashesWithStanding_24 : decode cX0_clashesWithStanding 24 = .ok (.iload_n 1, 1) := by decide +kernel
theorem dX0_clashesWithStanding_25 : decode cX0_clashesWithStanding 25 = .ok (.iload_n 2, 1) := by decide +kernel
theorem dX0_clashesWithStanding_26 : decode cX0_clashesWithStanding 26 = .ok (.iload_n 3, 1) := by decide +kernel
theorem dX0_clashesWithStanding_27 : decode cX0_clashesWithStanding 27 = .ok (.aload_n 0, 1) := by decide +kernel
theorem dX0_clashesWithStanding_28 : decode cX0_clashesWithStanding 28 = .ok (.getfield 11, 3) := by decide +kernel
theorem dX0_clashesWithStanding_31 : decode cX0_clashesWithStanding 31 = .ok (.bipush 40, 2) := by decide +kernel
theorem dX0_clashesWithStanding_33 : decode cX0_clashesWithStanding 33 = .ok (.iload_n 3, 1) := by decide +kernel
theorem dX0_clashesWithStanding_34 : decode cX0_clashesWithStanding 34 = .ok (.iadd, 1) := by decide +kernel
theorem dX0_clashesWithStanding_35 : decode cX0_clashesWithStanding 35 = .ok (.iaload, 1) := by decide +kernel
theorem dX0_clashesWithStanding_36 : decode cX0_clashesWithStanding 36 = .ok (.invokevirtual 65, 3) := by decide +kernel
theorem dX0_clashesWithStanding_39 : decode cX0_clashesWithStanding 39 = .ok (.ifCond .le 5, 3) := by decide +kernel
theorem dX0_clashesWithStanding_42 : decode cX0_clashesWithStanding 42 = .ok (.iconst 1, 1) := by decide +kernel
theorem dX0_clashesWithStanding_43 : decode cX0_clashesWithStanding 43 = .ok (.ireturn, 1) := by decide +kernel
theorem dX0_clashesWithStanding_44 : decode cX0_clashesWithStanding 44 = .ok (.iinc 3 1, 3) := by decide +kernel
theorem dX0_clashesWithStanding_47 : decode cX0_clashesWithStanding 47 = .ok (.goto (-45), 3) := by decide +kernel
theorem dX0_clashesWithStanding_50 : decode cX0_clashesWithStanding 50 = .ok (.iconst 0, 1) := by decide +kernel
theorem dX0_clashesWithStanding_51 : decode cX0_clashesWithStanding 51 = .ok (.ireturn, 1) := by decide +kernel
set_option maxRecDepth 20000 in
theorem ggX0_freeMask_X0_openMask : GoodIn wsX0_freeMask wsX0_openMask := goodIn_r _ [5, 6, 7, 8, 4, 9, 10, 11, 12, 13, 14, 15, 16, 17, 18, 19, 45, 46] (by decide +kernel) (by decide +kernel)
set_option maxRecDepth 20000 in
theorem gX0_freeMask_X0_openMask : GoodIn wsX0_freeMask (wsV RX0 44 RX0 yX0_openMask wsX0_openMask) := goodIn_app (goodIn_of _ (by decide +kernel)) ggX0_freeMask_X0_openMask
set_option maxRecDepth 20000 in
theorem ggX0_freeMask_X4_hasBit : GoodIn wsX0_freeMask wsX4_hasBit := goodIn_r _ [22] (by decide +kernel) (by decide +kernel)
set_option maxRecDepth 20000 in
theorem gX0_freeMask_X4_hasBit_n68 : GoodIn wsX0_freeMask (wsX4_hasBit) := ggX0_freeMask_X4_hasBit
set_option maxRecDepth 20000 in
theorem ggX0_freeMask_X0_clashesWithStanding : GoodIn wsX0_freeMask wsX0_clashesWithStanding := goodIn_r _ [26, 11, 10, 27, 28, 29, 4, 30, 31, 32, 33, 34, 12, 13, 14, 15, 35, 36, 37, 38, 39, 40, 41, 42, 43, 44, 16, 17, 18, 19, 45, 46] (by decide +kernel) (by decide +kernel)
set_option maxRecDepth 20000 in
theorem gX0_freeMask_X0_clashesWithStanding : GoodIn wsX0_freeMask (wsV RX0 71 RX0 yX0_clashesWithStanding wsX0_clashesWithStanding) := goodIn_app (goodIn_of _ (by decide +kernel)) ggX0_freeMask_X0_clashesWithStanding
theorem dX0_freeMask_0 : decode cX0_freeMask 0 = .ok (.aload_n 0, 1) := by decide +kernel
theorem dX0_freeMask_1 : decode cX0_freeMask 1 = .ok (.iload_n 1, 1) := by decide +kernel
theorem dX0_freeMask_2 : decode cX0_freeMask 2 = .ok (.invokevirtual 44, 3) := by decide +kernel
theorem dX0_freeMask_5 : decode cX0_freeMask 5 = .ok (.istore_n 2, 1) := by decide +kernel
theorem dX0_freeMask_6 : decode cX0_freeMask 6 = .ok (.iconst 0, 1) := by decide +kernel
theorem dX0_freeMask_7 : decode cX0_freeMask 7 = .ok (.istore_n 3, 1) := by decide +kernel
theorem dX0_freeMask_8 : decode cX0_freeMask 8 = .ok (.iload_n 3, 1) := by decide +kernel
theorem dX0_freeMask_9 : decode cX0_freeMask 9 = .ok (.iconst 4, 1) := by decide +kernel
theorem dX0_freeMask_10 : decode cX0_freeMask 10 = .ok (.if_icmp .ge 34, 3) := by decide +kernel
theorem dX0_freeMask_13 : decode cX0_freeMask 13 = .ok (.iload_n 2, 1) := by decide +kernel
theorem dX0_freeMask_14 : decode cX0_freeMask 14 = .ok (.iload_n 3, 1) := by decide +kernel
theorem dX0_freeMask_15 : decode cX0_freeMask 15 = .ok (.invokestatic 68, 3) := by decide +kernel
theorem dX0_freeMask_18 : decode cX0_freeMask 18 = .ok (.ifCond .eq 20, 3) := by decide +kernel
theorem dX0_freeMask_21 : decode cX0_freeMask 21 = .ok (.aload_n 0, 1) := by decide +kernel
theorem dX0_freeMask_22 : decode cX0_freeMask 22 = .ok (.iload_n 1, 1) := by decide +kernel
theorem dX0_freeMask_23 : decode cX0_freeMask 23 = .ok (.iload_n 3, 1) := by decide +kernel
theorem dX0_freeMask_24 : decode cX0_freeMask 24 = .ok (.invokevirtual 71, 3) := by decide +kernel
theorem dX0_freeMask_27 : decode cX0_freeMask 27 = .ok (.ifCond .eq 11, 3) := by decide +kernel
theorem dX0_freeMask_30 : decode cX0_freeMask 30 = .ok (.iload_n 2, 1) := by decide +kernel
theorem dX0_freeMask_31 : decode cX0_freeMask 31 = .ok (.iconst 1, 1) := by decide +kernel
theorem dX0_freeMask_32 : decode cX0_freeMask 32 = .ok (.iload_n 3, 1) := by decide +kernel
theorem dX0_freeMask_33 : decode cX0_freeMask 33 = .ok (.ishl, 1) := by decide +kernel
theorem dX0_freeMask_34 : decode cX0_freeMask 34 = .ok (.iconst (-1), 1) := by decide +kernel
theorem dX0_freeMask_35 : decode cX0_freeMask 35 = .ok (.ixor, 1) := by decide +kernel
theorem dX0_freeMask_36 : decode cX0_freeMask 36 = .ok (.iand, 1) := by decide +kernel
theorem dX0_freeMask_37 : decode cX0_freeMask 37 = .ok (.istore_n 2, 1) := by decide +kernel
theorem dX0_freeMask_38 : decode cX0_freeMask 38 = .ok (.iinc 3 1, 3) := by decide +kernel
theorem dX0_freeMask_41 : decode cX0_freeMask 41 = .ok (.goto (-33), 3) := by decide +kernel
theorem dX0_freeMask_44 : decode cX0_freeMask 44 = .ok (.iload_n 2, 1) := by decide +kernel
theorem dX0_freeMask_45 : decode cX0_freeMask 45 = .ok (.ireturn, 1) := by decide +kernel
set_option maxRecDepth 20000 in
theorem ggX0_leaderCrossings_X0_isPointOnLeader : GoodIn wsX0_leaderCrossings wsX0_isPointOnLeader := goodIn_r _ [6, 7, 24, 25] (by decide +kernel) (by decide +kernel)
set_option maxRecDepth 20000 in
theorem gX0_leaderCrossings_X0_isPointOnLeader : GoodIn wsX0_leaderCrossings (wsV RX0 74 RX0 yX0_isPointOnLeader wsX0_isPointOnLeader) := goodIn_app (goodIn_of _ (by decide +kernel)) ggX0_leaderCrossings_X0_isPointOnLeader
set_option maxRecDepth 20000 in
theorem ggX0_leaderCrossings_X0_isLabelOnLeader : GoodIn wsX0_leaderCrossings wsX0_isLabelOnLeader := goodIn_r _ [11, 7, 12, 13, 14, 5, 15, 16, 17, 18, 19, 20, 21, 22, 23, 24, 25] (by decide +kernel) (by decide +kernel)
set_option maxRecDepth 20000 in
theorem gX0_leaderCrossings_X0_isLabelOnLeader : GoodIn wsX0_leaderCrossings (wsV RX0 77 RX0 yX0_isLabelOnLeader wsX0_isLabelOnLeader) := goodIn_app (goodIn_of _ (by decide +kernel)) ggX0_leaderCrossings_X0_isLabelOnLeader
theorem dX0_leaderCrossings_0 : decode cX0_leaderCrossings 0 = .ok (.iconst 0, 1) := by decide +kernel
theorem dX0_leaderCrossings_1 : decode cX0_leaderCrossings 1 = .ok (.istore_n 2, 1) := by decide +kernel
theorem dX0_leaderCrossings_2 : decode cX0_leaderCrossings 2 = .ok (.iconst 0, 1) := by decide +kernel
theorem dX0_leaderCrossings_3 : decode cX0_leaderCrossings 3 = .ok (.istore_n 3, 1) := by decide +kernel
theorem dX0_leaderCrossings_4 : decode cX0_leaderCrossings 4 = .ok (.iload_n 3, 1) := by decide +kernel
theorem dX0_leaderCrossings_5 : decode cX0_leaderCrossings 5 = .ok (.aload_n 0, 1) := by decide +kernel
theorem dX0_leaderCrossings_6 : decode cX0_leaderCrossings 6 = .ok (.getfield 15, 3) := by decide +kernel
theorem dX0_leaderCrossings_9 : decode cX0_leaderCrossings 9 = .ok (.if_icmp .ge 33, 3) := by decide +kernel
theorem dX0_leaderCrossings_12 : decode cX0_leaderCrossings 12 = .ok (.aload_n 0, 1) := by decide +kernel
theorem dX0_leaderCrossings_13 : decode cX0_leaderCrossings 13 = .ok (.iload_n 1, 1) := by decide +kernel
theorem dX0_leaderCrossings_14 : decode cX0_leaderCrossings 14 = .ok (.iload_n 3, 1) := by decide +kernel
theorem dX0_leaderCrossings_15 : decode cX0_leaderCrossings 15 = .ok (.invokevirtual 74, 3) := by decide +kernel
theorem dX0_leaderCrossings_18 : decode cX0_leaderCrossings 18 = .ok (.ifCond .eq 6, 3) := by decide +kernel
theorem dX0_leaderCrossings_21 : decode cX0_leaderCrossings 21 = .ok (.iinc 2 1, 3) := by decide +kernel
theorem dX0_leaderCrossings_24 : decode cX0_leaderCrossings 24 = .ok (.aload_n 0, 1) := by decide +kernel
theorem dX0_leaderCrossings_25 : decode cX0_leaderCrossings 25 = .ok (.iload_n 1, 1) := by decide +kernel
theorem dX0_leaderCrossings_26 : decode cX0_leaderCrossings 26 = .ok (.iload_n 3, 1) := by decide +kernel
theorem dX0_leaderCrossings_27 : decode cX0_leaderCrossings 27 = .ok (.invokevirtual 77, 3) := by decide +kernel
theorem dX0_leaderCrossings_30 : decode cX0_leaderCrossings 30 = .ok (.ifCond .eq 6, 3) := by decide +kernel
theorem dX0_leaderCrossings_33 : decode cX0_leaderCrossings 33 = .ok (.iinc 2 1, 3) := by decide +kernel
theorem dX0_leaderCrossings_36 : decode cX0_leaderCrossings 36 = .ok (.iinc 3 1, 3) := by decide +kernel
theorem dX0_leaderCrossings_39 : decode cX0_leaderCrossings 39 = .ok (.goto (-35), 3) := by decide +kernel
theorem dX0_leaderCrossings_42 : decode cX0_leaderCrossings 42 = .ok (.iload_n 2, 1) := by decide +kernel
theorem dX0_leaderCrossings_43 : decode cX0_leaderCrossings 43 = .ok (.ireturn, 1) := by decide +kernel
theorem dX0_isPointOnLeader_0 : decode cX0_isPointOnLeader 0 = .ok (.aload_n 0, 1) := by decide +kernel
theorem dX0_isPointOnLeader_1 : decode cX0_isPointOnLeader 1 = .ok (.getfield 11, 3) := by decide +kernel
theorem dX0_isPointOnLeader_4 : decode cX0_isPointOnLeader 4 = .ok (.bipush 8, 2) := by decide +kernel
theorem dX0_isPointOnLeader_6 : decode cX0_isPointOnLeader 6 = .ok (.iload_n 2, 1) := by decide +kernel
theorem dX0_isPointOnLeader_7 : decode cX0_isPointOnLeader 7 = .ok (.iadd, 1) := by decide +kernel
theorem dX0_isPointOnLeader_8 : decode cX0_isPointOnLeader 8 = .ok (.iaload, 1) := by decide +kernel
theorem dX0_isPointOnLeader_9 : decode cX0_isPointOnLeader 9 = .ok (.aload_n 0, 1) := by decide +kernel
theorem dX0_isPointOnLeader_10 : decode cX0_isPointOnLeader 10 = .ok (.getfield 11, 3) := by decide +kernel
theorem dX0_isPointOnLeader_13 : decode cX0_isPointOnLeader 13 = .ok (.bipush 8, 2) := by decide +kernel
theorem dX0_isPointOnLeader_15 : decode cX0_isPointOnLeader 15 = .ok (.iload_n 1, 1) := by decide +kernel
theorem dX0_isPointOnLeader_16 : decode cX0_isPointOnLeader 16 = .ok (.iadd, 1) := by decide +kernel
theorem dX0_isPointOnLeader_17 : decode cX0_isPointOnLeader 17 = .ok (.iaload, 1) := by decide +kernel
theorem dX0_isPointOnLeader_18 : decode cX0_isPointOnLeader 18 = .ok (.if_icmp .ne 26, 3) := by decide +kernel
theorem dX0_isPointOnLeader_21 : decode cX0_isPointOnLeader 21 = .ok (.aload_n 0, 1) := by decide +kernel
theorem dX0_isPointOnLeader_22 : decode cX0_isPointOnLeader 22 = .ok (.getfield 11, 3) := by decide +kernel
theorem dX0_isPointOnLeader_25 : decode cX0_isPointOnLeader 25 = .ok (.iconst 0, 1) := by decide +kernel
theorem dX0_isPointOnLeader_26 : decode cX0_isPointOnLeader 26 = .ok (.iload_n 2, 1) := by decide +kernel
theorem dX0_isPointOnLeader_27 : decode cX0_isPointOnLeader 27 = .ok (.iadd, 1) := by decide +kernel
theorem dX0_isPointOnLeader_28 : decode cX0_isPointOnLeader 28 = .ok (.iaload, 1) := by decide +kernel
theorem dX0_isPointOnLeader_29 : decode cX0_isPointOnLeader 29 = .ok (.aload_n 0, 1) := by decide +kernel
theorem dX0_isPointOnLeader_30 : decode cX0_isPointOnLeader 30 = .ok (.getfield 11, 3) := by decide +kernel
theorem dX0_isPointOnLeader_33 : decode cX0_isPointOnLeader 33 = .ok (.iconst 0, 1) := by decide +kernel
theorem dX0_isPointOnLeader_34 : decode cX0_isPointOnLeader 34 = .ok (.iload_n 1, 1) := by decide +kernel
theorem dX0_isPointOnLeader_35 : decode cX0_isPointOnLeader 35 = .ok (.iadd, 1) := by decide +kernel
theorem dX0_isPointOnLeader_36 : decode cX0_isPointOnLeader 36 = .ok (.iaload, 1) := by decide +kernel
theorem dX0_isPointOnLeader_37 : decode cX0_isPointOnLeader 37 = .ok (.if_icmp .le 7, 3) := by decide +kernel
theorem dX0_isPointOnLeader_40 : decode cX0_isPointOnLeader 40 = .ok (.iconst 1, 1) := by decide +kernel
theorem dX0_isPointOnLeader_41 : decode cX0_isPointOnLeader 41 = .ok (.goto 4, 3) := by decide +kernel
theorem dX0_isPointOnLeader_44 : decode cX0_isPointOnLeader 44 = .ok (.iconst 0, 1) := by decide +kernel
theorem dX0_isPointOnLeader_45 : decode cX0_isPointOnLeader 45 = .ok (.ireturn, 1) := by decide +kernel
set_option maxRecDepth 20000 in
theorem ggX0_isLabelOnLeader_X0_stands : GoodIn wsX0_isLabelOnLeader wsX0_stands := goodIn_r _ [6, 1, 15, 16] (by decide +kernel) (by decide +kernel)
set_option maxRecDepth 20000 in
theorem gX0_isLabelOnLeader_X0_stands : GoodIn wsX0_isLabelOnLeader (wsV RX0 26 RX0 yX0_stands wsX0_stands) := goodIn_app (goodIn_of _ (by decide +kernel)) ggX0_isLabelOnLeader_X0_stands
set_option maxRecDepth 20000 in
theorem ggX0_isLabelOnLeader_X0_left : GoodIn wsX0_isLabelOnLeader wsX0_left := goodIn_r _ [10, 1, 15, 16] (by decide +kernel) (by decide +kernel)
set_option maxRecDepth 20000 in
theorem gX0_isLabelOnLeader_X0_left : GoodIn wsX0_isLabelOnLeader (wsV RX0 30 RX0 yX0_left wsX0_left) := goodIn_app (goodIn_of _ (by decide +kernel)) ggX0_isLabelOnLeader_X0_left
set_option maxRecDepth 20000 in
theorem ggX0_isLabelOnLeader_X0_top : GoodIn wsX0_isLabelOnLeader wsX0_top := goodIn_r _ [14, 1, 15, 16] (by decide +kernel) (by decide +kernel)
set_option maxRecDepth 20000 in
theorem gX0_isLabelOnLeader_X0_top : GoodIn wsX0_isLabelOnLeader (wsV RX0 33 RX0 yX0_top wsX0_top) := goodIn_app (goodIn_of _ (by decide +kernel)) ggX0_isLabelOnLeader_X0_top
theorem dX0_isLabelOnLeader_0 : decode cX0_isLabelOnLeader 0 = .ok (.aload_n 0, 1) := by decide +kernel
theorem dX0_isLabelOnLeader_1 : decode cX0_isLabelOnLeader 1 = .ok (.iload_n 2, 1) := by decide +kernel
theorem dX0_isLabelOnLeader_2 : decode cX0_isLabelOnLeader 2 = .ok (.invokevirtual 26, 3) := by decide +kernel
theorem dX0_isLabelOnLeader_5 : decode cX0_isLabelOnLeader 5 = .ok (.ifCond .ne 5, 3) := by decide +kernel
theorem dX0_isLabelOnLeader_8 : decode cX0_isLabelOnLeader 8 = .ok (.iconst 0, 1) := by decide +kernel
theorem dX0_isLabelOnLeader_9 : decode cX0_isLabelOnLeader 9 = .ok (.ireturn, 1) := by decide +kernel
theorem dX0_isLabelOnLeader_10 : decode cX0_isLabelOnLeader 10 = .ok (.aload_n 0, 1) := by decide +kernel
theorem dX0_isLabelOnLeader_11 : decode cX0_isLabelOnLeader 11 = .ok (.getfield 11, 3) := by decide +kernel
theorem dX0_isLabelOnLeader_14 : decode cX0_isLabelOnLeader 14 = .ok (.bipush 40, 2) := by decide +kernel
theorem dX0_isLabelOnLeader_16 : decode cX0_isLabelOnLeader 16 = .ok (.iload_n 2, 1) := by decide +kernel
theorem dX0_isLabelOnLeader_17 : decode cX0_isLabelOnLeader 17 = .ok (.iadd, 1) := by decide +kernel
theorem dX0_isLabelOnLeader_18 : decode cX0_isLabelOnLeader 18 = .ok (.iaload, 1) := by decide +kernel
theorem dX0_isLabelOnLeader_19 : decode cX0_isLabelOnLeader 19 = .ok (.istore_n 3, 1) := by decide +kernel
theorem dX0_isLabelOnLeader_20 : decode cX0_isLabelOnLeader 20 = .ok (.aload_n 0, 1) := by decide +kernel
theorem dX0_isLabelOnLeader_21 : decode cX0_isLabelOnLeader 21 = .ok (.iload_n 2, 1) := by decide +kernel
theorem dX0_isLabelOnLeader_22 : decode cX0_isLabelOnLeader 22 = .ok (.iload_n 3, 1) := by decide +kernel
theorem dX0_isLabelOnLeader_23 : decode cX0_isLabelOnLeader 23 = .ok (.invokevirtual 30, 3) := by decide +kernel
theorem dX0_isLabelOnLeader_26 : decode cX0_isLabelOnLeader 26 = .ok (.aload_n 0, 1) := by decide +kernel
theorem dX0_isLabelOnLeader_27 : decode cX0_isLabelOnLeader 27 = .ok (.getfield 11, 3) := by decide +kernel
theorem dX0_isLabelOnLeader_30 : decode cX0_isLabelOnLeader 30 = .ok (.bipush 16, 2) := by decide +kernel
theorem dX0_isLabelOnLeader_32 : decode cX0_isLabelOnLeader 32 = .ok (.iload_n 2, 1) := by decide +kernel
theorem dX0_isLabelOnLeader_33 : decode cX0_isLabelOnLeader 33 = .ok (.iadd, 1) := by decide +kernel
theorem dX0_isLabelOnLeader_34 : decode cX0_isLabelOnLeader 34 = .ok (.iaload, 1) := by decide +kernel
theorem dX0_isLabelOnLeader_35 : decode cX0_isLabelOnLeader 35 = .ok (.iadd, 1) := by decide +kernel
theorem dX0_isLabelOnLeader_36 : decode cX0_isLabelOnLeader 36 = .ok (.istore 4, 2) := by decide +kernel
theorem dX0_isLabelOnLeader_38 : decode cX0_isLabelOnLeader 38 = .ok (.aload_n 0, 1) := by decide +kernel
theorem dX0_isLabelOnLeader_39 : decode cX0_isLabelOnLeader 39 = .ok (.iload_n 2, 1) := by decide +kernel
theorem dX0_isLabelOnLeader_40 : decode cX0_isLabelOnLeader 40 = .ok (.iload_n 3, 1) := by decide +kernel
theorem dX0_isLabelOnLeader_41 : decode cX0_isLabelOnLeader 41 = .ok (.invokevirtual 33, 3) := by decide +kernel
theorem dX0_isLabelOnLeader_44 : decode cX0_isLabelOnLeader 44 = .ok (.istore 5, 2) := by decide +kernel
theorem dX0_isLabelOnLeader_46 : decode cX0_isLabelOnLeader 46 = .ok (.aload_n 0, 1) := by decide +kernel
theorem dX0_isLabelOnLeader_47 : decode cX0_isLabelOnLeader 47 = .ok (.getfield 11, 3) := by decide +kernel
theorem dX0_isLabelOnLeader_50 : decode cX0_isLabelOnLeader 50 = .ok (.bipush 8, 2) := by decide +kernel
theorem dX0_isLabelOnLeader_52 : decode cX0_isLabelOnLeader 52 = .ok (.iload_n 1, 1) := by decide +kernel
theorem dX0_isLabelOnLeader_53 : decode cX0_isLabelOnLeader 53 = .ok (.iadd, 1) := by decide +kernel
theorem dX0_isLabelOnLeader_54 : decode cX0_isLabelOnLeader 54 = .ok (.iaload, 1) := by decide +kernel
theorem dX0_isLabelOnLeader_55 : decode cX0_isLabelOnLeader 55 = .ok (.istore 6, 2) := by decide +kernel
theorem dX0_isLabelOnLeader_57 : decode cX0_isLabelOnLeader 57 = .ok (.iload 4, 2) := by decide +kernel
theorem dX0_isLabelOnLeader_59 : decode cX0_isLabelOnLeader 59 = .ok (.aload_n 0, 1) := by decide +kernel
theorem dX0_isLabelOnLeader_60 : decode cX0_isLabelOnLeader 60 = .ok (.getfield 11, 3) := by decide +kernel
theorem dX0_isLabelOnLeader_63 : decode cX0_isLabelOnLeader 63 = .ok (.iconst 0, 1) := by decide +kernel
theorem dX0_isLabelOnLeader_64 : decode cX0_isLabelOnLeader 64 = .ok (.iload_n 1, 1) := by decide +kernel
theorem dX0_isLabelOnLeader_65 : decode cX0_isLabelOnLeader 65 = .ok (.iadd, 1) := by decide +kernel
theorem dX0_isLabelOnLeader_66 : decode cX0_isLabelOnLeader 66 = .ok (.iaload, 1) := by decide +kernel
theorem dX0_isLabelOnLeader_67 : decode cX0_isLabelOnLeader 67 = .ok (.iconst 1, 1) := by decide +kernel
theorem dX0_isLabelOnLeader_68 : decode cX0_isLabelOnLeader 68 = .ok (.iadd, 1) := by decide +kernel
theorem dX0_isLabelOnLeader_69 : decode cX0_isLabelOnLeader 69 = .ok (.if_icmp .le 31, 3) := by decide +kernel
theorem dX0_isLabelOnLeader_72 : decode cX0_isLabelOnLeader 72 = .ok (.iload 6, 2) := by decide +kernel
theorem dX0_isLabelOnLeader_74 : decode cX0_isLabelOnLeader 74 = .ok (.iload 5, 2) := by decide +kernel
theorem dX0_isLabelOnLeader_76 : decode cX0_isLabelOnLeader 76 = .ok (.if_icmp .lt 24, 3) := by decide +kernel
theorem dX0_isLabelOnLeader_79 : decode cX0_isLabelOnLeader 79 = .ok (.iload 6, 2) := by decide +kernel
theorem dX0_isLabelOnLeader_81 : decode cX0_isLabelOnLeader 81 = .ok (.iload 5, 2) := by decide +kernel
theorem dX0_isLabelOnLeader_83 : decode cX0_isLabelOnLeader 83 = .ok (.aload_n 0, 1) := by decide +kernel
theorem dX0_isLabelOnLeader_84 : decode cX0_isLabelOnLeader 84 = .ok (.getfield 11, 3) := by decide +kernel
theorem dX0_isLabelOnLeader_87 : decode cX0_isLabelOnLeader 87 = .ok (.bipush 24, 2) := by decide +kernel
theorem dX0_isLabelOnLeader_89 : decode cX0_isLabelOnLeader 89 = .ok (.iload_n 2, 1) := by decide +kernel
theorem dX0_isLabelOnLeader_90 : decode cX0_isLabelOnLeader 90 = .ok (.iadd, 1) := by decide +kernel
theorem dX0_isLabelOnLeader_91 : decode cX0_isLabelOnLeader 91 = .ok (.iaload, 1) := by decide +kernel
theorem dX0_isLabelOnLeader_92 : decode cX0_isLabelOnLeader 92 = .ok (.iadd, 1) := by decide +kernel
theorem dX0_isLabelOnLeader_93 : decode cX0_isLabelOnLeader 93 = .ok (.if_icmp .ge 7, 3) := by decide +kernel
theorem dX0_isLabelOnLeader_96 : decode cX0_isLabelOnLeader 96 = .ok (.iconst 1, 1) := by decide +kernel
theorem dX0_isLabelOnLeader_97 : decode cX0_isLabelOnLeader 97 = .ok (.goto 4, 3) := by decide +kernel
theorem dX0_isLabelOnLeader_100 : decode cX0_isLabelOnLeader 100 = .ok (.iconst 0, 1) := by decide +kernel
theorem dX0_isLabelOnLeader_101 : decode cX0_isLabelOnLeader 101 = .ok (.ireturn, 1) := by decide +kernel
set_option maxRecDepth 20000 in
theorem ggX0_standingLabels_X0_stands : GoodIn wsX0_standingLabels wsX0_stands := goodIn_r _ [6, 7, 8, 9] (by decide +kernel) (by decide +kernel)
set_option maxRecDepth 20000 in
theorem gX0_standingLabels_X0_stands : GoodIn wsX0_standingLabels (wsV RX0 26 RX0 yX0_stands wsX0_stands) := goodIn_app (goodIn_of _ (by decide +kernel)) ggX0_standingLabels_X0_stands
theorem dX0_standingLabels_0 : decode cX0_standingLabels 0 = .ok (.iconst 0, 1) := by decide +kernel
theorem dX0_standingLabels_1 : decode cX0_standingLabels 1 = .ok (.istore_n 1, 1) := by decide +kernel
theorem dX0_standingLabels_2 : decode cX0_standingLabels 2 = .ok (.iconst 0, 1) := by decide +kernel
theorem dX0_standingLabels_3 : decode cX0_standingLabels 3 = .ok (.istore_n 2, 1) := by decide +kernel
theorem dX0_standingLabels_4 : decode cX0_standingLabels 4 = .ok (.iload_n 2, 1) := by decide +kernel
theorem dX0_standingLabels_5 : decode cX0_standingLabels 5 = .ok (.aload_n 0, 1) := by decide +kernel
theorem dX0_standingLabels_6 : decode cX0_standingLabels 6 = .ok (.getfield 15, 3) := by decide +kernel
theorem dX0_standingLabels_9 : decode cX0_standingLabels 9 = .ok (.if_icmp .ge 20, 3) := by decide +kernel
theorem dX0_standingLabels_12 : decode cX0_standingLabels 12 = .ok (.aload_n 0, 1) := by decide +kernel
theorem dX0_standingLabels_13 : decode cX0_standingLabels 13 = .ok (.iload_n 2, 1) := by decide +kernel
theorem dX0_standingLabels_14 : decode cX0_standingLabels 14 = .ok (.invokevirtual 26, 3) := by decide +kernel
theorem dX0_standingLabels_17 : decode cX0_standingLabels 17 = .ok (.ifCond .eq 6, 3) := by decide +kernel
theorem dX0_standingLabels_20 : decode cX0_standingLabels 20 = .ok (.iinc 1 1, 3) := by decide +kernel
theorem dX0_standingLabels_23 : decode cX0_standingLabels 23 = .ok (.iinc 2 1, 3) := by decide +kernel
theorem dX0_standingLabels_26 : decode cX0_standingLabels 26 = .ok (.goto (-22), 3) := by decide +kernel
theorem dX0_standingLabels_29 : decode cX0_standingLabels 29 = .ok (.iload_n 1, 1) := by decide +kernel
theorem dX0_standingLabels_30 : decode cX0_standingLabels 30 = .ok (.ireturn, 1) := by decide +kernel
set_option maxRecDepth 20000 in
theorem ggX0_standingWeight_X0_stands : GoodIn wsX0_standingWeight wsX0_stands := goodIn_r _ [7, 2, 8, 9] (by decide +kernel) (by decide +kernel)
set_option maxRecDepth 20000 in
theorem gX0_standingWeight_X0_stands : GoodIn wsX0_standingWeight (wsV RX0 26 RX0 yX0_stands wsX0_stands) := goodIn_app (goodIn_of _ (by decide +kernel)) ggX0_standingWeight_X0_stands
theorem dX0_standingWeight_0 : decode cX0_standingWeight 0 = .ok (.iconst 0, 1) := by decide +kernel
theorem dX0_standingWeight_1 : decode cX0_standingWeight 1 = .ok (.istore_n 1, 1) := by decide +kernel
theorem dX0_standingWeight_2 : decode cX0_standingWeight 2 = .ok (.iconst 0, 1) := by decide +kernel
theorem dX0_standingWeight_3 : decode cX0_standingWeight 3 = .ok (.istore_n 2, 1) := by decide +kernel
theorem dX0_standingWeight_4 : decode cX0_standingWeight 4 = .ok (.iload_n 2, 1) := by decide +kernel
theorem dX0_standingWeight_5 : decode cX0_standingWeight 5 = .ok (.aload_n 0, 1) := by decide +kernel
theorem dX0_standingWeight_6 : decode cX0_standingWeight 6 = .ok (.getfield 15, 3) := by decide +kernel
theorem dX0_standingWeight_9 : decode cX0_standingWeight 9 = .ok (.if_icmp .ge 29, 3) := by decide +kernel
theorem dX0_standingWeight_12 : decode cX0_standingWeight 12 = .ok (.aload_n 0, 1) := by decide +kernel
theorem dX0_standingWeight_13 : decode cX0_standingWeight 13 = .ok (.iload_n 2, 1) := by decide +kernel
theorem dX0_standingWeight_14 : decode cX0_standingWeight 14 = .ok (.invokevirtual 26, 3) := by decide +kernel
theorem dX0_standingWeight_17 : decode cX0_standingWeight 17 = .ok (.ifCond .eq 15, 3) := by decide +kernel
theorem dX0_standingWeight_20 : decode cX0_standingWeight 20 = .ok (.iload_n 1, 1) := by decide +kernel
theorem dX0_standingWeight_21 : decode cX0_standingWeight 21 = .ok (.aload_n 0, 1) := by decide +kernel
theorem dX0_standingWeight_22 : decode cX0_standingWeight 22 = .ok (.getfield 11, 3) := by decide +kernel
theorem dX0_standingWeight_25 : decode cX0_standingWeight 25 = .ok (.bipush 32, 2) := by decide +kernel
theorem dX0_standingWeight_27 : decode cX0_standingWeight 27 = .ok (.iload_n 2, 1) := by decide +kernel
theorem dX0_standingWeight_28 : decode cX0_standingWeight 28 = .ok (.iadd, 1) := by decide +kernel
theorem dX0_standingWeight_29 : decode cX0_standingWeight 29 = .ok (.iaload, 1) := by decide +kernel
theorem dX0_standingWeight_30 : decode cX0_standingWeight 30 = .ok (.iadd, 1) := by decide +kernel
theorem dX0_standingWeight_31 : decode cX0_standingWeight 31 = .ok (.istore_n 1, 1) := by decide +kernel
theorem dX0_standingWeight_32 : decode cX0_standingWeight 32 = .ok (.iinc 2 1, 3) := by decide +kernel
theorem dX0_standingWeight_35 : decode cX0_standingWeight 35 = .ok (.goto (-31), 3) := by decide +kernel
theorem dX0_standingWeight_38 : decode cX0_standingWeight 38 = .ok (.iload_n 1, 1) := by decide +kernel
theorem dX0_standingWeight_39 : decode cX0_standingWeight 39 = .ok (.ireturn, 1) := by decide +kernel
theorem dX0_allWeight_0 : decode cX0_allWeight 0 = .ok (.iconst 0, 1) := by decide +kernel
theorem dX0_allWeight_1 : decode cX0_allWeight 1 = .ok (.istore_n 1, 1) := by decide +kernel
theorem dX0_allWeight_2 : decode cX0_allWeight 2 = .ok (.iconst 0, 1) := by decide +kernel
theorem dX0_allWeight_3 : decode cX0_allWeight 3 = .ok (.istore_n 2, 1) := by decide +kernel
theorem dX0_allWeight_4 : decode cX0_allWeight 4 = .ok (.iload_n 2, 1) := by decide +kernel
theorem dX0_allWeight_5 : decode cX0_allWeight 5 = .ok (.aload_n 0, 1) := by decide +kernel
theorem dX0_allWeight_6 : decode cX0_allWeight 6 = .ok (.getfield 15, 3) := by decide +kernel
theorem dX0_allWeight_9 : decode cX0_allWeight 9 = .ok (.if_icmp .ge 21, 3) := by decide +kernel
theorem dX0_allWeight_12 : decode cX0_allWeight 12 = .ok (.iload_n 1, 1) := by decide +kernel
theorem dX0_allWeight_13 : decode cX0_allWeight 13 = .ok (.aload_n 0, 1) := by decide +kernel
theorem dX0_allWeight_14 : decode cX0_allWeight 14 = .ok (.getfield 11, 3) := by decide +kernel
theorem dX0_allWeight_17 : decode cX0_allWeight 17 = .ok (.bipush 32, 2) := by decide +kernel
theorem dX0_allWeight_19 : decode cX0_allWeight 19 = .ok (.iload_n 2, 1) := by decide +kernel
theorem dX0_allWeight_20 : decode cX0_allWeight 20 = .ok (.iadd, 1) := by decide +kernel
theorem dX0_allWeight_21 : decode cX0_allWeight 21 = .ok (.iaload, 1) := by decide +kernel
theorem dX0_allWeight_22 : decode cX0_allWeight 22 = .ok (.iadd, 1) := by decide +kernel
theorem dX0_allWeight_23 : decode cX0_allWeight 23 = .ok (.istore_n 1, 1) := by decide +kernel
theorem dX0_allWeight_24 : decode cX0_allWeight 24 = .ok (.iinc 2 1, 3) := by decide +kernel
theorem dX0_allWeight_27 : decode cX0_allWeight 27 = .ok (.goto (-23), 3) := by decide +kernel
theorem dX0_allWeight_30 : decode cX0_allWeight 30 = .ok (.iload_n 1, 1) := by decide +kernel
theorem dX0_allWeight_31 : decode cX0_allWeight 31 = .ok (.ireturn, 1) := by decide +kernel
set_option maxRecDepth 20000 in
theorem ggX0_standingSquares_X0_stands : GoodIn wsX0_standingSquares wsX0_stands := goodIn_r _ [7, 2, 8, 9] (by decide +kernel) (by decide +kernel)
set_option maxRecDepth 20000 in
theorem gX0_standingSquares_X0_stands : GoodIn wsX0_standingSquares (wsV RX0 26 RX0 yX0_stands wsX0_stands) := goodIn_app (goodIn_of _ (by decide +kernel)) ggX0_standingSquares_X0_stands
theorem dX0_standingSquares_0 : decode cX0_standingSquares 0 = .ok (.iconst 0, 1) := by decide +kernel
theorem dX0_standingSquares_1 : decode cX0_standingSquares 1 = .ok (.istore_n 1, 1) := by decide +kernel
theorem dX0_standingSquares_2 : decode cX0_standingSquares 2 = .ok (.iconst 0, 1) := by decide +kernel
theorem dX0_standingSquares_3 : decode cX0_standingSquares 3 = .ok (.istore_n 2, 1) := by decide +kernel
theorem dX0_standingSquares_4 : decode cX0_standingSquares 4 = .ok (.iload_n 2, 1) := by decide +kernel
theorem dX0_standingSquares_5 : decode cX0_standingSquares 5 = .ok (.aload_n 0, 1) := by decide +kernel
theorem dX0_standingSquares_6 : decode cX0_standingSquares 6 = .ok (.getfield 15, 3) := by decide +kernel
theorem dX0_standingSquares_9 : decode cX0_standingSquares 9 = .ok (.if_icmp .ge 39, 3) := by decide +kernel
theorem dX0_standingSquares_12 : decode cX0_standingSquares 12 = .ok (.aload_n 0, 1) := by decide +kernel
theorem dX0_standingSquares_13 : decode cX0_standingSquares 13 = .ok (.iload_n 2, 1) := by decide +kernel
theorem dX0_standingSquares_14 : decode cX0_standingSquares 14 = .ok (.invokevirtual 26, 3) := by decide +kernel
theorem dX0_standingSquares_17 : decode cX0_standingSquares 17 = .ok (.ifCond .eq 25, 3) := by decide +kernel
theorem dX0_standingSquares_20 : decode cX0_standingSquares 20 = .ok (.iload_n 1, 1) := by decide +kernel
theorem dX0_standingSquares_21 : decode cX0_standingSquares 21 = .ok (.aload_n 0, 1) := by decide +kernel
theorem dX0_standingSquares_22 : decode cX0_standingSquares 22 = .ok (.getfield 11, 3) := by decide +kernel
theorem dX0_standingSquares_25 : decode cX0_standingSquares 25 = .ok (.bipush 16, 2) := by decide +kernel
theorem dX0_standingSquares_27 : decode cX0_standingSquares 27 = .ok (.iload_n 2, 1) := by decide +kernel
theorem dX0_standingSquares_28 : decode cX0_standingSquares 28 = .ok (.iadd, 1) := by decide +kernel
theorem dX0_standingSquares_29 : decode cX0_standingSquares 29 = .ok (.iaload, 1) := by decide +kernel
theorem dX0_standingSquares_30 : decode cX0_standingSquares 30 = .ok (.aload_n 0, 1) := by decide +kernel
theorem dX0_standingSquares_31 : decode cX0_standingSquares 31 = .ok (.getfield 11, 3) := by decide +kernel
theorem dX0_standingSquares_34 : decode cX0_standingSquares 34 = .ok (.bipush 24, 2) := by decide +kernel
theorem dX0_standingSquares_36 : decode cX0_standingSquares 36 = .ok (.iload_n 2, 1) := by decide +kernel
theorem dX0_standingSquares_37 : decode cX0_standingSquares 37 = .ok (.iadd, 1) := by decide +kernel
theorem dX0_standingSquares_38 : decode cX0_standingSquares 38 = .ok (.iaload, 1) := by decide +kernel
theorem dX0_standingSquares_39 : decode cX0_standingSquares 39 = .ok (.imul, 1) := by decide +kernel
theorem dX0_standingSquares_40 : decode cX0_standingSquares 40 = .ok (.iadd, 1) := by decide +kernel
theorem dX0_standingSquares_41 : decode cX0_standingSquares 41 = .ok (.istore_n 1, 1) := by decide +kernel
theorem dX0_standingSquares_42 : decode cX0_standingSquares 42 = .ok (.iinc 2 1, 3) := by decide +kernel
theorem dX0_standingSquares_45 : decode cX0_standingSquares 45 = .ok (.goto (-41), 3) := by decide +kernel
theorem dX0_standingSquares_48 : decode cX0_standingSquares 48 = .ok (.iload_n 1, 1) := by decide +kernel
theorem dX0_standingSquares_49 : decode cX0_standingSquares 49 = .ok (.ireturn, 1) := by decide +kernel
set_option maxRecDepth 20000 in
theorem ggX0_pointsWithoutOpenCorner_X0_openMask : GoodIn wsX0_pointsWithoutOpenCorner wsX0_openMask := goodIn_r _ [6, 7, 8, 9, 5, 10, 11, 1, 12, 13, 14, 15, 16, 17, 18, 19, 20, 21] (by decide +kernel) (by decide +kernel)
set_option maxRecDepth 20000 in
theorem gX0_pointsWithoutOpenCorner_X0_openMask : GoodIn wsX0_pointsWithoutOpenCorner (wsV RX0 44 RX0 yX0_openMask wsX0_openMask) := goodIn_app (goodIn_of _ (by decide +kernel)) ggX0_pointsWithoutOpenCorner_X0_openMask
theorem dX0_pointsWithoutOpenCorner_0 : decode cX0_pointsWithoutOpenCorner 0 = .ok (.iconst 0, 1) := by decide +kernel
theorem dX0_pointsWithoutOpenCorner_1 : decode cX0_pointsWithoutOpenCorner 1 = .ok (.istore_n 1, 1) := by decide +kernel
theorem dX0_pointsWithoutOpenCorner_2 : decode cX0_pointsWithoutOpenCorner 2 = .ok (.iconst 0, 1) := by decide +kernel
theorem dX0_pointsWithoutOpenCorner_3 : decode cX0_pointsWithoutOpenCorner 3 = .ok (.istore_n 2, 1) := by decide +kernel
theorem dX0_pointsWithoutOpenCorner_4 : decode cX0_pointsWithoutOpenCorner 4 = .ok (.iload_n 2, 1) := by decide +kernel
theorem dX0_pointsWithoutOpenCorner_5 : decode cX0_pointsWithoutOpenCorner 5 = .ok (.aload_n 0, 1) := by decide +kernel
theorem dX0_pointsWithoutOpenCorner_6 : decode cX0_pointsWithoutOpenCorner 6 = .ok (.getfield 15, 3) := by decide +kernel
theorem dX0_pointsWithoutOpenCorner_9 : decode cX0_pointsWithoutOpenCorner 9 = .ok (.if_icmp .ge 20, 3) := by decide +kernel
theorem dX0_pointsWithoutOpenCorner_12 : decode cX0_pointsWithoutOpenCorner 12 = .ok (.aload_n 0, 1) := by decide +kernel
theorem dX0_pointsWithoutOpenCorner_13 : decode cX0_pointsWithoutOpenCorner 13 = .ok (.iload_n 2, 1) := by decide +kernel
theorem dX0_pointsWithoutOpenCorner_14 : decode cX0_pointsWithoutOpenCorner 14 = .ok (.invokevirtual 44, 3) := by decide +kernel
theorem dX0_pointsWithoutOpenCorner_17 : decode cX0_pointsWithoutOpenCorner 17 = .ok (.ifCond .ne 6, 3) := by decide +kernel
theorem dX0_pointsWithoutOpenCorner_20 : decode cX0_pointsWithoutOpenCorner 20 = .ok (.iinc 1 1, 3) := by decide +kernel
theorem dX0_pointsWithoutOpenCorner_23 : decode cX0_pointsWithoutOpenCorner 23 = .ok (.iinc 2 1, 3) := by decide +kernel
theorem dX0_pointsWithoutOpenCorner_26 : decode cX0_pointsWithoutOpenCorner 26 = .ok (.goto (-22), 3) := by decide +kernel
theorem dX0_pointsWithoutOpenCorner_29 : decode cX0_pointsWithoutOpenCorner 29 = .ok (.iload_n 1, 1) := by decide +kernel
theorem dX0_pointsWithoutOpenCorner_30 : decode cX0_pointsWithoutOpenCorner 30 = .ok (.ireturn, 1) := by decide +kernel
set_option maxRecDepth 20000 in
theorem ggX0_crossingsOfDropped_X0_stands : GoodIn wsX0_crossingsOfDropped wsX0_stands := goodIn_r _ [6, 7, 28, 29] (by decide +kernel) (by decide +kernel)
set_option maxRecDepth 20000 in
theorem gX0_crossingsOfDropped_X0_stands : GoodIn wsX0_crossingsOfDropped (wsV RX0 26 RX0 yX0_stands wsX0_stands) := goodIn_app (goodIn_of _ (by decide +kernel)) ggX0_crossingsOfDropped_X0_stands
set_option maxRecDepth 20000 in
theorem ggX0_crossingsOfDropped_X0_leaderCrossings : GoodIn wsX0_crossingsOfDropped wsX0_leaderCrossings := goodIn_r _ [11, 1, 12, 13, 14, 5, 15, 7, 16, 17, 18, 19, 2, 3, 4, 6, 20, 21, 22, 23, 24, 25, 26, 27, 28, 29] (by decide +kernel) (by decide +kernel)
set_option maxRecDepth 20000 in
theorem gX0_crossingsOfDropped_X0_leaderCrossings : GoodIn wsX0_crossingsOfDropped (wsV RX0 80 RX0 yX0_leaderCrossings wsX0_leaderCrossings) := goodIn_app (goodIn_of _ (by decide +kernel)) ggX0_crossingsOfDropped_X0_leaderCrossings
theorem dX0_crossingsOfDropped_0 : decode cX0_crossingsOfDropped 0 = .ok (.iconst 0, 1) := by decide +kernel
theorem dX0_crossingsOfDropped_1 : decode cX0_crossingsOfDropped 1 = .ok (.istore_n 1, 1) := by decide +kernel
theorem dX0_crossingsOfDropped_2 : decode cX0_crossingsOfDropped 2 = .ok (.iconst 0, 1) := by decide +kernel
theorem dX0_crossingsOfDropped_3 : decode cX0_crossingsOfDropped 3 = .ok (.istore_n 2, 1) := by decide +kernel
theorem dX0_crossingsOfDropped_4 : decode cX0_crossingsOfDropped 4 = .ok (.iload_n 2, 1) := by decide +kernel
theorem dX0_crossingsOfDropped_5 : decode cX0_crossingsOfDropped 5 = .ok (.aload_n 0, 1) := by decide +kernel
theorem dX0_crossingsOfDropped_6 : decode cX0_crossingsOfDropped 6 = .ok (.getfield 15, 3) := by decide +kernel
theorem dX0_crossingsOfDropped_9 : decode cX0_crossingsOfDropped 9 = .ok (.if_icmp .ge 25, 3) := by decide +kernel
theorem dX0_crossingsOfDropped_12 : decode cX0_crossingsOfDropped 12 = .ok (.aload_n 0, 1) := by decide +kernel
theorem dX0_crossingsOfDropped_13 : decode cX0_crossingsOfDropped 13 = .ok (.iload_n 2, 1) := by decide +kernel
theorem dX0_crossingsOfDropped_14 : decode cX0_crossingsOfDropped 14 = .ok (.invokevirtual 26, 3) := by decide +kernel
theorem dX0_crossingsOfDropped_17 : decode cX0_crossingsOfDropped 17 = .ok (.ifCond .ne 11, 3) := by decide +kernel
theorem dX0_crossingsOfDropped_20 : decode cX0_crossingsOfDropped 20 = .ok (.iload_n 1, 1) := by decide +kernel
theorem dX0_crossingsOfDropped_21 : decode cX0_crossingsOfDropped 21 = .ok (.aload_n 0, 1) := by decide +kernel
theorem dX0_crossingsOfDropped_22 : decode cX0_crossingsOfDropped 22 = .ok (.iload_n 2, 1) := by decide +kernel
theorem dX0_crossingsOfDropped_23 : decode cX0_crossingsOfDropped 23 = .ok (.invokevirtual 80, 3) := by decide +kernel
theorem dX0_crossingsOfDropped_26 : decode cX0_crossingsOfDropped 26 = .ok (.iadd, 1) := by decide +kernel
theorem dX0_crossingsOfDropped_27 : decode cX0_crossingsOfDropped 27 = .ok (.istore_n 1, 1) := by decide +kernel
theorem dX0_crossingsOfDropped_28 : decode cX0_crossingsOfDropped 28 = .ok (.iinc 2 1, 3) := by decide +kernel
theorem dX0_crossingsOfDropped_31 : decode cX0_crossingsOfDropped 31 = .ok (.goto (-27), 3) := by decide +kernel
theorem dX0_crossingsOfDropped_34 : decode cX0_crossingsOfDropped 34 = .ok (.iload_n 1, 1) := by decide +kernel
theorem dX0_crossingsOfDropped_35 : decode cX0_crossingsOfDropped 35 = .ok (.ireturn, 1) := by decide +kernel
theorem dX1_init_0 : decode cX1_init 0 = .ok (.aload_n 0, 1) := by decide +kernel
theorem dX1_init_1 : decode cX1_init 1 = .ok (.invokespecial 3, 3) := by decide +kernel
theorem dX1_init_4 : decode cX1_init 4 = .ok (.aload_n 0, 1) := by decide +kernel
theorem dX1_init_5 : decode cX1_init 5 = .ok (.sipush 288, 3) := by decide +kernel
theorem dX1_init_8 : decode cX1_init 8 = .ok (.newarray .int, 2) := by decide +kernel
theorem dX1_init_10 : decode cX1_init 10 = .ok (.putfield 11, 3) := by decide +kernel
theorem dX1_init_13 : decode cX1_init 13 = .ok (.aload_n 0, 1) := by decide +kernel
theorem dX1_init_14 : decode cX1_init 14 = .ok (.bipush 6, 2) := by decide +kernel
theorem dX1_init_16 : decode cX1_init 16 = .ok (.newarray .int, 2) := by decide +kernel
theorem dX1_init_18 : decode cX1_init 18 = .ok (.putfield 17, 3) := by decide +kernel
theorem dX1_init_21 : decode cX1_init 21 = .ok (.aload_n 0, 1) := by decide +kernel
theorem dX1_init_22 : decode cX1_init 22 = .ok (.iconst 0, 1) := by decide +kernel
theorem dX1_init_23 : decode cX1_init 23 = .ok (.putfield 20, 3) := by decide +kernel
theorem dX1_init_26 : decode cX1_init 26 = .ok (.return_, 1) := by decide +kernel
set_option maxRecDepth 20000 in
theorem ggX1_save_X1_forgetOldest : GoodIn wsX1_save wsX1_forgetOldest := goodIn_r _ [14, 3, 4, 5, 6, 7, 8, 1, 15, 16, 17] (by decide +kernel) (by decide +kernel)
set_option maxRecDepth 20000 in
theorem gX1_save_X1_forgetOldest : GoodIn wsX1_save (wsV RX1 24 RX1 yX1_forgetOldest wsX1_forgetOldest) := goodIn_app (goodIn_of _ (by decide +kernel)) ggX1_save_X1_forgetOldest
theorem dX1_save_0 : decode cX1_save 0 = .ok (.aload_n 0, 1) := by decide +kernel
theorem dX1_save_1 : decode cX1_save 1 = .ok (.getfield 20, 3) := by decide +kernel
theorem dX1_save_4 : decode cX1_save 4 = .ok (.bipush 6, 2) := by decide +kernel
theorem dX1_save_6 : decode cX1_save 6 = .ok (.if_icmp .lt 7, 3) := by decide +kernel
theorem dX1_save_9 : decode cX1_save 9 = .ok (.aload_n 0, 1) := by decide +kernel
theorem dX1_save_10 : decode cX1_save 10 = .ok (.invokevirtual 24, 3) := by decide +kernel
theorem dX1_save_13 : decode cX1_save 13 = .ok (.aload_n 1, 1) := by decide +kernel
theorem dX1_save_14 : decode cX1_save 14 = .ok (.getfield 27, 3) := by decide +kernel
theorem dX1_save_17 : decode cX1_save 17 = .ok (.iconst 0, 1) := by decide +kernel
theorem dX1_save_18 : decode cX1_save 18 = .ok (.aload_n 0, 1) := by decide +kernel
theorem dX1_save_19 : decode cX1_save 19 = .ok (.getfield 11, 3) := by decide +kernel
theorem dX1_save_22 : decode cX1_save 22 = .ok (.aload_n 0, 1) := by decide +kernel
theorem dX1_save_23 : decode cX1_save 23 = .ok (.getfield 20, 3) := by decide +kernel
theorem dX1_save_26 : decode cX1_save 26 = .ok (.bipush 48, 2) := by decide +kernel
theorem dX1_save_28 : decode cX1_save 28 = .ok (.imul, 1) := by decide +kernel
theorem dX1_save_29 : decode cX1_save 29 = .ok (.bipush 48, 2) := by decide +kernel
theorem dX1_save_31 : decode cX1_save 31 = .ok (.invokestatic 28, 3) := by decide +kernel
theorem dX1_save_34 : decode cX1_save 34 = .ok (.aload_n 0, 1) := by decide +kernel
theorem dX1_save_35 : decode cX1_save 35 = .ok (.getfield 17, 3) := by decide +kernel
theorem dX1_save_38 : decode cX1_save 38 = .ok (.aload_n 0, 1) := by decide +kernel
theorem dX1_save_39 : decode cX1_save 39 = .ok (.getfield 20, 3) := by decide +kernel
theorem dX1_save_42 : decode cX1_save 42 = .ok (.aload_n 1, 1) := by decide +kernel
theorem dX1_save_43 : decode cX1_save 43 = .ok (.getfield 34, 3) := by decide +kernel
theorem dX1_save_46 : decode cX1_save 46 = .ok (.iastore, 1) := by decide +kernel
theorem dX1_save_47 : decode cX1_save 47 = .ok (.aload_n 0, 1) := by decide +kernel
theorem dX1_save_48 : decode cX1_save 48 = .ok (.dup, 1) := by decide +kernel
theorem dX1_save_49 : decode cX1_save 49 = .ok (.getfield 20, 3) := by decide +kernel
theorem dX1_save_52 : decode cX1_save 52 = .ok (.iconst 1, 1) := by decide +kernel
theorem dX1_save_53 : decode cX1_save 53 = .ok (.iadd, 1) := by decide +kernel
theorem dX1_save_54 : decode cX1_save 54 = .ok (.putfield 20, 3) := by decide +kernel
theorem dX1_save_57 : decode cX1_save 57 = .ok (.return_, 1) := by decide +kernel
theorem dX1_forgetOldest_0 : decode cX1_forgetOldest 0 = .ok (.aload_n 0, 1) := by decide +kernel
theorem dX1_forgetOldest_1 : decode cX1_forgetOldest 1 = .ok (.getfield 11, 3) := by decide +kernel
theorem dX1_forgetOldest_4 : decode cX1_forgetOldest 4 = .ok (.bipush 48, 2) := by decide +kernel
theorem dX1_forgetOldest_6 : decode cX1_forgetOldest 6 = .ok (.aload_n 0, 1) := by decide +kernel
theorem dX1_forgetOldest_7 : decode cX1_forgetOldest 7 = .ok (.getfield 11, 3) := by decide +kernel
theorem dX1_forgetOldest_10 : decode cX1_forgetOldest 10 = .ok (.iconst 0, 1) := by decide +kernel
theorem dX1_forgetOldest_11 : decode cX1_forgetOldest 11 = .ok (.sipush 240, 3) := by decide +kernel
theorem dX1_forgetOldest_14 : decode cX1_forgetOldest 14 = .ok (.invokestatic 28, 3) := by decide +kernel
theorem dX1_forgetOldest_17 : decode cX1_forgetOldest 17 = .ok (.aload_n 0, 1) := by decide +kernel
theorem dX1_forgetOldest_18 : decode cX1_forgetOldest 18 = .ok (.getfield 17, 3) := by decide +kernel
theorem dX1_forgetOldest_21 : decode cX1_forgetOldest 21 = .ok (.iconst 1, 1) := by decide +kernel
theorem dX1_forgetOldest_22 : decode cX1_forgetOldest 22 = .ok (.aload_n 0, 1) := by decide +kernel
theorem dX1_forgetOldest_23 : decode cX1_forgetOldest 23 = .ok (.getfield 17, 3) := by decide +kernel
theorem dX1_forgetOldest_26 : decode cX1_forgetOldest 26 = .ok (.iconst 0, 1) := by decide +kernel
theorem dX1_forgetOldest_27 : decode cX1_forgetOldest 27 = .ok (.iconst 5, 1) := by decide +kernel
theorem dX1_forgetOldest_28 : decode cX1_forgetOldest 28 = .ok (.invokestatic 28, 3) := by decide +kernel
theorem dX1_forgetOldest_31 : decode cX1_forgetOldest 31 = .ok (.aload_n 0, 1) := by decide +kernel
theorem dX1_forgetOldest_32 : decode cX1_forgetOldest 32 = .ok (.iconst 5, 1) := by decide +kernel
theorem dX1_forgetOldest_33 : decode cX1_forgetOldest 33 = .ok (.putfield 20, 3) := by decide +kernel
theorem dX1_forgetOldest_36 : decode cX1_forgetOldest 36 = .ok (.return_, 1) := by decide +kernel
theorem dX1_restore_0 : decode cX1_restore 0 = .ok (.aload_n 0, 1) := by decide +kernel
theorem dX1_restore_1 : decode cX1_restore 1 = .ok (.dup, 1) := by decide +kernel
theorem dX1_restore_2 : decode cX1_restore 2 = .ok (.getfield 20, 3) := by decide +kernel
theorem dX1_restore_5 : decode cX1_restore 5 = .ok (.iconst 1, 1) := by decide +kernel
theorem dX1_restore_6 : decode cX1_restore 6 = .ok (.isub, 1) := by decide +kernel
theorem dX1_restore_7 : decode cX1_restore 7 = .ok (.putfield 20, 3) := by decide +kernel
theorem dX1_restore_10 : decode cX1_restore 10 = .ok (.aload_n 0, 1) := by decide +kernel
theorem dX1_restore_11 : decode cX1_restore 11 = .ok (.getfield 11, 3) := by decide +kernel
theorem dX1_restore_14 : decode cX1_restore 14 = .ok (.aload_n 0, 1) := by decide +kernel
theorem dX1_restore_15 : decode cX1_restore 15 = .ok (.getfield 20, 3) := by decide +kernel
theorem dX1_restore_18 : decode cX1_restore 18 = .ok (.bipush 48, 2) := by decide +kernel
theorem dX1_restore_20 : decode cX1_restore 20 = .ok (.imul, 1) := by decide +kernel
theorem dX1_restore_21 : decode cX1_restore 21 = .ok (.aload_n 1, 1) := by decide +kernel
theorem dX1_restore_22 : decode cX1_restore 22 = .ok (.getfield 27, 3) := by decide +kernel
theorem dX1_restore_25 : decode cX1_restore 25 = .ok (.iconst 0, 1) := by decide +kernel
theorem dX1_restore_26 : decode cX1_restore 26 = .ok (.bipush 48, 2) := by decide +kernel
theorem dX1_restore_28 : decode cX1_restore 28 = .ok (.invokestatic 28, 3) := by decide +kernel
theorem dX1_restore_31 : decode cX1_restore 31 = .ok (.aload_n 1, 1) := by decide +kernel
theorem dX1_restore_32 : decode cX1_restore 32 = .ok (.aload_n 0, 1) := by decide +kernel
theorem dX1_restore_33 : decode cX1_restore 33 = .ok (.getfield 17, 3) := by decide +kernel
theorem dX1_restore_36 : decode cX1_restore 36 = .ok (.aload_n 0, 1) := by decide +kernel
theorem dX1_restore_37 : decode cX1_restore 37 = .ok (.getfield 20, 3) := by decide +kernel
theorem dX1_restore_40 : decode cX1_restore 40 = .ok (.iaload, 1) := by decide +kernel
theorem dX1_restore_41 : decode cX1_restore 41 = .ok (.putfield 34, 3) := by decide +kernel
theorem dX1_restore_44 : decode cX1_restore 44 = .ok (.return_, 1) := by decide +kernel
end
section
theorem dX4_hasBit_0 : decode cX4_hasBit 0 = .ok (.iload_n 0, 1) := by decide +kernel
theorem dX4_hasBit_1 : decode cX4_hasBit 1 = .ok (.iload_n 1, 1) := by decide +kernel
theorem dX4_hasBit_2 : decode cX4_hasBit 2 = .ok (.iushr, 1) := by decide +kernel
theorem dX4_hasBit_3 : decode cX4_hasBit 3 = .ok (.iconst 1, 1) := by decide +kernel
theorem dX4_hasBit_4 : decode cX4_hasBit 4 = .ok (.iand, 1) := by decide +kernel
theorem dX4_hasBit_5 : decode cX4_hasBit 5 = .ok (.ifCond .eq 7, 3) := by decide +kernel
theorem dX4_hasBit_8 : decode cX4_hasBit 8 = .ok (.iconst 1, 1) := by decide +kernel
theorem dX4_hasBit_9 : decode cX4_hasBit 9 = .ok (.goto 4, 3) := by decide +kernel
theorem dX4_hasBit_12 : decode cX4_hasBit 12 = .ok (.iconst 0, 1) := by decide +kernel
theorem dX4_hasBit_13 : decode cX4_hasBit 13 = .ok (.ireturn, 1) := by decide +kernel
end
section
abbrev vwCl : List vw_C := [(RX0, TX0, 2), (RX1, TX1, 3), (RX2, TX2, 17), (RX3, TX3, 6), (RX4, TX4, 4), (RX5, TX5, 16)]
/-! OUR OWN ROWS OVER THE KIT: reading methods (the heap stays), Nat views of ints, booleans as bI -/
def bI (b : Bool) : Int32 := if b then 1 else 0
theorem bI_t : bI true = 1 := rfl
theorem bI_f : bI false = 0 := rfl
theorem bI_0 (b : Bool) : bI b = 0 ↔ b = false := by cases b <;> decide
theorem bI_n (b : Bool) : narrow .boolean (.int (bI b)) = .int (bI b) := by cases b <;> rfl
theorem bI_fit (b : Bool) : fits .boolean (.int (bI b)) = true := by cases b <;> rfl
/-- the links of nest mates that are used when the program runs -/
def nw_ok (U : State) : Prop := va_Nw (.methodLinkNest RX0 68 yX4_hasBit RX4) U ∧ va_Nw (.methodLinkNest RX2 79 yX4_hasBit RX4) U
theorem nw_ok.same {u U : State} (h : u.vm = U.vm) (hn : nw_ok u) : nw_ok U := ⟨hn.1.same rfl h, hn.2.same rfl h⟩
theorem nw_ok.warm {s U : State} (hW : s.WarmedH U.vm) (hn : nw_ok s) : nw_ok U := ⟨hn.1.warmM hW, hn.2.warmM hW⟩
def rd_B (D : va_G) (cl : List vw_C) (w : va_W) (tys : List (ClassId × FieldType)) : State → Prop := fun U => va_P D cl w U.heap ∧ va_K D cl tys U ∧ nw_ok U
theorem rd_blind {av : List Value} {D : va_G} {cl : List vw_C} {w : va_W} {tys : List (ClassId × FieldType)} : FrameBlind (va_Pc av (rd_B D cl w tys)) := by
  intro a U g mk q
  obtain ⟨q0, qP, qK, qN⟩ := q
  exact ⟨q0, qP, va_K.moved (u := U) (U := U.calling g mk a) (Vm.Alike.refl U.vm) qK, nw_ok.same (u := U) rfl qN⟩
/-- a method that reads: it answers r, and the heap stays -/
def rd_M (l : Launch) (y : MethodName) (ws : List Cond) (rm : Room) (D : va_G) (w : va_W) (tys : List (ClassId × FieldType)) (av : List Value) (r : Int32) : Prop :=
  Met l y ws rm (va_Pc av (rd_B D vwCl w tys)) (QcRead r) 0 0 (fun _ => False)
abbrev rd_W (p : Program) (l : Launch) (e : Env) (ws : List Cond) (rm : Room) (s : State) (m : MethodId) (av : List Value) (below : List Frame) (meth : Method) (c : Code) (r : Int32) (g : JFrame) : Prop :=
  W p l e (headSpec ws rm).room s m av.toArray below meth c s.heap [] 0 0 (MQ below (QcRead r) av.toArray s 0 0 (fun _ => False)) g
set_option maxHeartbeats 1000000 in
theorem rd_of {l : Launch} {y : MethodName} {ws ws' : List Cond} {rm : Room} {D : va_G} {w : va_W} {tys : List (ClassId × FieldType)} {av : List Value} {r : Int32} {cc : ByteArray} {maxL : Nat} {ret : Option FieldType}
    (hy : plainName y.cls = true) (hw : ws = Cond.code y cc maxL ret :: ws') (hlen : (lg_sl av).length ≤ maxL)
    (body : ∀ (p : Program) (e : Env) (s : State) (m : MethodId) (below : List Frame) (meth : Method) (c : Code), p.tables.exec = Jvm.exec → c.code = cc → meth.sig.returnType = ret → c.maxLocals = maxL → (∀ w ∈ ws, w.before av.toArray s = true) → s.vm.findClass y.cls = some m.cls → meth.locks = false → va_P D vwCl w s.heap → va_K D vwCl tys s → nw_ok s →
      ∀ ls : Array Slot, lv_has ls maxL (lv_args 0 av) → rd_W p l e ws rm s m av below meth c r (F0 m 0 ls [])) : rd_M l y ws rm D w tys av r := by
  refine Met.ofW (cc := cc) (maxL := maxL) (ret := ret) hy hw ?_
  intro p e s m args below meth c s₁ B hml hv
  obtain ⟨rfl, hP, hK, hN⟩ := hv
  have hown : s.vm.findClass y.cls = some m.cls := findClass_of_methodNamed B.named
  have hl := lv_entry av (n := maxL) hlen
  rw [lg_entry_eq]
  exact body p e s m below meth c B.exec B.bytes B.returns hml (atoms_spec (ws := ws) B.pre) hown B.notSynchronized hP hK hN _ hl
section RD
variable {p : Program} {l : Launch} {e : Env} {R : Room} {s : State} {m : MethodId} {args : Array Value} {below : List Frame} {meth : Method} {c : Code} {H : Heap} {locs : List Loc} {cells slots : Nat} {Q : State → Prop}
variable {cc : ByteArray} {pc : Nat} {ls : Array Slot} {rest st0 : List Value} {D : va_G} {w : va_W} {tys : List (ClassId × FieldType)}
/-- the top of the stack under another name -/
theorem lv_asi {x y : Int32} (h : x = y) (k : W p l e R s m args below meth c H locs cells slots Q (F0 m pc ls (.int y :: rest))) : W p l e R s m args below meth c H locs cells slots Q (F0 m pc ls (.int x :: rest)) := by
  rw [h]; exact k
/-- an int array's element, by a number -/
theorem rd_ald {a : Nat} {cA : ClassId} {N : Nat} {f : Nat → Int32} {i : Int32} {j : Nat} {v : Int32} {q0 t0 : Nat} (hexec : p.tables.exec = Jvm.exec) (hb : c.code = cc) (hK : va_K D vwCl tys s) (hP : va_P D vwCl w H) (ha : w[q0]? = some (a, .inl (cA, N, .inl f))) (ht : tys[t0]? = some (cA, .int)) (hi : i = nI j) (hj : j < N) (hN : N < 2 ^ 31) (hv : f j = v) (hdg : decode cc pc = .ok (.iaload, 1))
    (kk : W p l e R s m args below meth c H locs cells slots Q (F0 m (pc + 1) ls (.int v :: rest))) : W p l e R s m args below meth c H locs cells slots Q (F0 m pc ls (.int i :: .ref a :: rest)) := by
  refine va_iald hexec hb hK hP q0 t0 ha ht (by rw [hi]; exact vp_in_nI hj hN) hdg ?_
  rw [hi, nI_clamp (by omega), hv]
  exact kk
theorem rd_zald {a : Nat} {cA : ClassId} {N : Nat} {f : Nat → Int32} {i : Int32} {j : Nat} {v : Int32} {q0 t0 : Nat} (hexec : p.tables.exec = Jvm.exec) (hb : c.code = cc) (hK : va_K D vwCl tys s) (hP : va_P D vwCl w H) (ha : w[q0]? = some (a, .inl (cA, N, .inl f))) (ht : tys[t0]? = some (cA, .boolean)) (hi : i = nI j) (hj : j < N) (hN : N < 2 ^ 31) (hv : f j = v) (hdg : decode cc pc = .ok (.baload, 1))
    (kk : W p l e R s m args below meth c H locs cells slots Q (F0 m (pc + 1) ls (.int v :: rest))) : W p l e R s m args below meth c H locs cells slots Q (F0 m pc ls (.int i :: .ref a :: rest)) := by
  refine va_zald hexec hb hK hP q0 t0 ha ht (by rw [hi]; exact vp_in_nI hj hN) hdg ?_
  rw [hi, nI_clamp (by omega), hv]
  exact kk
/-- branches over booleans -/
theorem rd_ifeq_b {b : Bool} {off : Int} {tgt : Nat} (hexec : p.tables.exec = Jvm.exec) (hb : c.code = cc) (hdg : decode cc pc = .ok (.ifCond .eq off, 3)) (ht : (pc : Int) + off = (tgt : Int))
    (kt : b = false → W p l e R s m args below meth c H locs cells slots Q (F0 m tgt ls rest)) (kf : b = true → W p l e R s m args below meth c H locs cells slots Q (F0 m (pc + 3) ls rest)) : W p l e R s m args below meth c H locs cells slots Q (F0 m pc ls (.int (bI b) :: rest)) :=
  lv_if_eq hexec hb hdg ht (fun h => kt ((bI_0 b).mp h)) (fun h => kf (by cases b <;> simp_all [bI_0]))
theorem rd_ifne_b {b : Bool} {off : Int} {tgt : Nat} (hexec : p.tables.exec = Jvm.exec) (hb : c.code = cc) (hdg : decode cc pc = .ok (.ifCond .ne off, 3)) (ht : (pc : Int) + off = (tgt : Int))
    (kt : b = true → W p l e R s m args below meth c H locs cells slots Q (F0 m tgt ls rest)) (kf : b = false → W p l e R s m args below meth c H locs cells slots Q (F0 m (pc + 3) ls rest)) : W p l e R s m args below meth c H locs cells slots Q (F0 m pc ls (.int (bI b) :: rest)) :=
  lv_if_ne hexec hb hdg ht (fun h => kt (by cases b <;> simp_all [bI_0])) (fun h => kf (by cases b <;> simp_all [bI_t]))
/-- branches over numbers -/
theorem rd_icmp_ge_n {a b : Nat} {off : Int} {tgt : Nat} (ha : a < 2 ^ 31) (hb2 : b < 2 ^ 31) (hexec : p.tables.exec = Jvm.exec) (hb : c.code = cc) (hdg : decode cc pc = .ok (.if_icmp .ge off, 3)) (ht : (pc : Int) + off = (tgt : Int))
    (kt : b ≤ a → W p l e R s m args below meth c H locs cells slots Q (F0 m tgt ls rest)) (kf : a < b → W p l e R s m args below meth c H locs cells slots Q (F0 m (pc + 3) ls rest)) : W p l e R s m args below meth c H locs cells slots Q (F0 m pc ls (.int (nI b) :: .int (nI a) :: rest)) :=
  lv_icmp_ge hexec hb hdg ht (fun h => kt ((nI_leI hb2 ha).mp h)) (fun h => kf (Nat.lt_of_not_le (fun q => h ((nI_leI hb2 ha).mpr q))))
theorem rd_icmp_eq_n {a b : Nat} {off : Int} {tgt : Nat} (ha : a < 2 ^ 31) (hb2 : b < 2 ^ 31) (hexec : p.tables.exec = Jvm.exec) (hb : c.code = cc) (hdg : decode cc pc = .ok (.if_icmp .eq off, 3)) (ht : (pc : Int) + off = (tgt : Int))
    (kt : a = b → W p l e R s m args below meth c H locs cells slots Q (F0 m tgt ls rest)) (kf : ¬ a = b → W p l e R s m args below meth c H locs cells slots Q (F0 m (pc + 3) ls rest)) : W p l e R s m args below meth c H locs cells slots Q (F0 m pc ls (.int (nI b) :: .int (nI a) :: rest)) :=
  lv_icmp_eq hexec hb hdg ht (fun h => kt ((nI_eq ha hb2).mp h)) (fun h => kf (fun q => h ((nI_eq ha hb2).mpr q)))
theorem rd_icmp_ne_n {a b : Nat} {off : Int} {tgt : Nat} (ha : a < 2 ^ 31) (hb2 : b < 2 ^ 31) (hexec : p.tables.exec = Jvm.exec) (hb : c.code = cc) (hdg : decode cc pc = .ok (.if_icmp .ne off, 3)) (ht : (pc : Int) + off = (tgt : Int))
    (kt : ¬ a = b → W p l e R s m args below meth c H locs cells slots Q (F0 m tgt ls rest)) (kf : a = b → W p l e R s m args below meth c H locs cells slots Q (F0 m (pc + 3) ls rest)) : W p l e R s m args below meth c H locs cells slots Q (F0 m pc ls (.int (nI b) :: .int (nI a) :: rest)) :=
  lv_icmp_ne hexec hb hdg ht (fun h => kt (fun q => h ((nI_eq ha hb2).mpr q))) (fun h => kf ((nI_eq ha hb2).mp h))
variable {y : MethodName} {bytes : ByteArray} {maxL nL n index : Nat} {ret : Option FieldType} {ws : List Cond} {rm : Room} {Ts : List Cond} {own C : String} {b : Addr} {As : List Value}
theorem rd_callV {r : Int32} {q0 ci N : Nat} {fs : List Value} {T : u_T} (S : CallFix p m c cc nL s args Ts own) (hM : rd_M l y ws rm D w tys (.ref b :: As) r) (cw : CallW R s args own C index y bytes maxL ret ws rm 0 0 n) (hK : va_K D vwCl tys s) (hN : nw_ok s) (hP : va_P D vwCl w H)
    (he : w[q0]? = some (b, .inr (ci, fs))) (hc : vwCl[ci]? = some (C, T, N)) (hn : As.length = n) (hsize : ls.size = nL) (hst : st0 = As.reverse ++ .ref b :: rest) (hW : (rest.map fun v => v.category).sum ≤ 8) (hf : cells ≤ R.cells ∧ slots ≤ R.slots) (hdg : decode cc pc = .ok (.invokevirtual index, 3))
    (kk : W p l e R s m args below meth c H locs cells slots Q (F0 m (pc + 3) ls (.int r :: rest))) : W p l e R s m args below meth c H locs cells slots Q (F0 m pc ls st0) := by
  have hrec := va_recv hK hP hc he
  exact W.callR (W.runV (g := F0 m pc ls st0) S hM cw ⟨rd_blind, hrec, fun U hU hW => ⟨rfl, by rw [hU]; exact hP, va_K.moved hW.alike hK, hN.warm hW⟩⟩ rfl hn hsize hst (lv_room (ls := ls) (rest := rest) (pc := pc) (m := m) hW) hdg ⟨by omega, by omega⟩) kk
theorem rd_callS {r : Int32} (S : CallFix p m c cc nL s args Ts own) (hM : rd_M l y ws rm D w tys As r) (cw : CallB R s args own index y bytes maxL ret ws rm 0 0 n ∧ (Cond.static y).before args s = true) (hK : va_K D vwCl tys s) (hN : nw_ok s) (hP : va_P D vwCl w H)
    (hn : As.length = n) (hsize : ls.size = nL) (hst : st0 = As.reverse ++ rest) (hW : (rest.map fun v => v.category).sum ≤ 8) (hf : cells ≤ R.cells ∧ slots ≤ R.slots) (hdg : decode cc pc = .ok (.invokestatic index, 3))
    (kk : W p l e R s m args below meth c H locs cells slots Q (F0 m (pc + 3) ls (.int r :: rest))) : W p l e R s m args below meth c H locs cells slots Q (F0 m pc ls st0) := by
  exact W.callR (W.runS (g := F0 m pc ls st0) S hM cw ⟨rd_blind, fun U hU hW => ⟨rfl, by rw [hU]; exact hP, va_K.moved hW.alike hK, hN.warm hW⟩⟩ rfl hn hsize hst (lv_room (ls := ls) (rest := rest) (pc := pc) (m := m) hW) hdg ⟨by omega, by omega⟩) kk
theorem rd_callSN {host : String} {r : Int32} (S : CallFix p m c cc nL s args Ts own) (hM : rd_M l y ws rm D w tys As r) (cw : va_CN R s args own index y host bytes maxL ret ws rm 0 0 n ∧ (Cond.static y).before args s = true ∧ True) (hK : va_K D vwCl tys s) (hN : nw_ok s) (hP : va_P D vwCl w H)
    (hn : As.length = n) (hsize : ls.size = nL) (hst : st0 = As.reverse ++ rest) (hW : (rest.map fun v => v.category).sum ≤ 8) (hf : cells ≤ R.cells ∧ slots ≤ R.slots) (hdg : decode cc pc = .ok (.invokestatic index, 3))
    (kk : W p l e R s m args below meth c H locs cells slots Q (F0 m (pc + 3) ls (.int r :: rest))) : W p l e R s m args below meth c H locs cells slots Q (F0 m pc ls st0) := by
  have hr := va_runSN (meth := meth) (below := below) (e := e) (mc := 0) (ms := 0) (cells := cells) (slots := slots) (locs := locs) (g := F0 m pc ls st0) S hM cw ⟨rd_blind, fun U hU hW => ⟨rfl, by rw [hU]; exact hP, va_K.moved hW.alike hK, hN.warm hW⟩⟩ rfl hn hsize hst (lv_room (ls := ls) (rest := rest) (pc := pc) (m := m) hW) hdg ⟨by omega, by omega⟩
  intro T hT X
  obtain ⟨v, st₀, t, T', L, h0, X', hL, e1, e2, ⟨hv, hh⟩, st⟩ := hr T hT X
  cases hv
  obtain ⟨t2, a1, b1⟩ := kk T' (by rw [e1, hh, h0]) (Stand.forget X' (fun q h => (hL q h).elim))
  exact ⟨t2, st t2 a1, b1⟩
end RD
section RE
variable {p : Program} {l : Launch} {e : Env} {ws : List Cond} {rm : Room} {s : State} {m : MethodId} {av : List Value} {below : List Frame} {meth : Method} {c : Code} {cc : ByteArray} {pc : Nat} {ls : Array Slot} {r : Int32}
theorem rd_iret {v : Int32} (hexec : p.tables.exec = Jvm.exec) (hb : c.code = cc) (hr : meth.sig.returnType = some .int) (hlocks : meth.locks = false) (hdg : decode cc pc = .ok (.ireturn, 1)) (hv : v = r) : rd_W p l e ws rm s m av below meth c r (F0 m pc ls [.int v]) :=
  W.iret hexec hb hr (fun t ht hW => ⟨by rw [hv], ht⟩) (fun q hq => by cases hq) hdg hlocks
theorem rd_zret {v : Int32} {b : Bool} (hexec : p.tables.exec = Jvm.exec) (hb : c.code = cc) (hr : meth.sig.returnType = some .boolean) (hlocks : meth.locks = false) (hdg : decode cc pc = .ok (.ireturn, 1)) (hv : v = bI b) : rd_W p l e ws rm s m av below meth c (bI b) (F0 m pc ls [.int v]) :=
  W.zret hexec hb hr (by rw [hv]; exact bI_n b) (fun t ht hW => ⟨by rw [hv], ht⟩) (fun q hq => by cases hq) hdg hlocks
end RE
/-! folds from i up to n -/
def gFold (f : Nat → Int32 → Int32) : Nat → Nat → Int32 → Int32
  | 0, _, a => a
  | k + 1, i, a => gFold f k (i + 1) (f i a)
def gF (n : Nat) (f : Nat → Int32 → Int32) (i : Nat) (a : Int32) : Int32 := gFold f (n - i) i a
theorem gF_step {n i : Nat} {f : Nat → Int32 → Int32} {a : Int32} (h : i < n) : gF n f i a = gF n f (i + 1) (f i a) := by
  unfold gF
  rw [show n - i = (n - (i + 1)) + 1 by omega]
  rfl
theorem gF_end {n i : Nat} {f : Nat → Int32 → Int32} {a : Int32} (h : n ≤ i) : gF n f i a = a := by
  unfold gF
  rw [show n - i = 0 by omega]
  rfl
/-- the first i up to n at which b holds gives g i; else z -/
def gFnd (b : Nat → Bool) (g : Nat → Int32) (z : Int32) : Nat → Nat → Int32
  | 0, _ => z
  | k + 1, i => if b i then g i else gFnd b g z k (i + 1)
def gS (n : Nat) (b : Nat → Bool) (g : Nat → Int32) (z : Int32) (i : Nat) : Int32 := gFnd b g z (n - i) i
theorem gS_step {n i : Nat} {b : Nat → Bool} {g : Nat → Int32} {z : Int32} (h : i < n) : gS n b g z i = if b i then g i else gS n b g z (i + 1) := by
  unfold gS
  rw [show n - i = (n - (i + 1)) + 1 by omega]
  rfl
theorem gS_end {n i : Nat} {b : Nat → Bool} {g : Nat → Int32} {z : Int32} (h : n ≤ i) : gS n b g z i = z := by
  unfold gS
  rw [show n - i = 0 by omega]
  rfl
/-- some i up to n -/
def gAnyF (b : Nat → Bool) : Nat → Nat → Bool
  | 0, _ => false
  | k + 1, i => b i || gAnyF b k (i + 1)
def gE (n : Nat) (b : Nat → Bool) (i : Nat) : Bool := gAnyF b (n - i) i
theorem gE_step {n i : Nat} {b : Nat → Bool} (h : i < n) : gE n b i = (b i || gE n b (i + 1)) := by
  unfold gE
  rw [show n - i = (n - (i + 1)) + 1 by omega]
  rfl
theorem gE_end {n i : Nat} {b : Nat → Bool} (h : n ≤ i) : gE n b i = false := by
  unfold gE
  rw [show n - i = 0 by omega]
  rfl
end
section
/-! THE WORDS OF THE BOARD: n points, P i k the k-th number of the point i (x, y, width, height, weight, corner) -/
def iMax (x y : Int32) : Int32 := if x < y then y else x
def iMin (x y : Int32) : Int32 := if y < x then y else x
def gL (P : Nat → Nat → Int32) (i : Nat) (c : Int32) : Int32 := if c = 0 ∨ c = 3 then P i 0 + 1 else P i 0 - P i 2
def gT (P : Nat → Nat → Int32) (i : Nat) (c : Int32) : Int32 := if c = 0 ∨ c = 1 then P i 1 + 1 else P i 1 - P i 3
def gSt (P : Nat → Nat → Int32) (i : Nat) : Bool := decide (¬ P i 5 = -1)
def gCov (P : Nat → Nat → Int32) (i : Nat) (c x y : Int32) : Bool := decide (gL P i c ≤ x ∧ x < gL P i c + P i 2 ∧ gT P i c ≤ y ∧ y < gT P i c + P i 3)
def gPt (n : Nat) (P : Nat → Nat → Int32) (x y : Int32) : Int32 := gS n (fun i => decide (P i 0 = x ∧ P i 1 = y)) nI (-1) 0
def gLb (n : Nat) (P : Nat → Nat → Int32) (x y : Int32) : Int32 := gS n (fun i => gSt P i && gCov P i (P i 5) x y) nI (-1) 0
def gTk (n : Nat) (P : Nat → Nat → Int32) (x y : Int32) : Bool := decide (n < 8) && decide (gPt n P x y = -1)
def gOpM (P : Nat → Nat → Int32) (i : Nat) (c : Int32) : Bool := decide (0 ≤ gL P i c ∧ gL P i c + P i 2 - 1 < 60 ∧ 0 ≤ gT P i c ∧ gT P i c + P i 3 - 1 < 40)
def gHit (P : Nat → Nat → Int32) (i : Nat) (c : Int32) (j : Nat) : Bool := decide (gL P i c ≤ P j 0 ∧ P j 0 ≤ gL P i c + P i 2 - 1 ∧ gT P i c ≤ P j 1 ∧ P j 1 ≤ gT P i c + P i 3 - 1)
def gOp (n : Nat) (P : Nat → Nat → Int32) (i : Nat) (c : Int32) : Bool := gOpM P i c && !gE n (gHit P i c) 0
def gBit (k : Nat) : Int32 := 1 <<< (nI k &&& 31)
def gMkF (n : Nat) (P : Nat → Nat → Int32) (i : Nat) (k : Nat) (m : Int32) : Int32 := if gOp n P i (nI k) then m ||| gBit k else m
def gMk (n : Nat) (P : Nat → Nat → Int32) (i : Nat) : Int32 := gF 4 (gMkF n P i) 0 0
def gLen (a la b lb : Int32) : Int32 := iMax 0 (iMin (a + la) (b + lb) - iMax a b)
def gSh (P : Nat → Nat → Int32) (i : Nat) (c : Int32) (j : Nat) (d : Int32) : Int32 := gLen (gL P i c) (P i 2) (gL P j d) (P j 2) * gLen (gT P i c) (P i 3) (gT P j d) (P j 3)
def gClB (P : Nat → Nat → Int32) (i : Nat) (c : Int32) (j : Nat) : Bool := decide (¬ j = i) && (gSt P j && decide (0 < gSh P i c j (P j 5)))
def gCl (n : Nat) (P : Nat → Nat → Int32) (i : Nat) (c : Int32) : Bool := gE n (gClB P i c) 0
def hB (m b : Int32) : Bool := decide (¬ ((m.toUInt32 >>> (b.toUInt32 &&& Int32.toUInt32 31)).toInt32 &&& 1) = 0)
def gFrF (n : Nat) (P : Nat → Nat → Int32) (i : Nat) (k : Nat) (m : Int32) : Int32 := if hB m (nI k) && gCl n P i (nI k) then m &&& (gBit k ^^^ (-1)) else m
def gFr (n : Nat) (P : Nat → Nat → Int32) (i : Nat) : Int32 := gF 4 (gFrF n P i) 0 (gMk n P i)
def gPL (P : Nat → Nat → Int32) (i j : Nat) : Bool := decide (P j 1 = P i 1 ∧ P i 0 < P j 0)
def gLL (P : Nat → Nat → Int32) (i j : Nat) : Bool := gSt P j && decide (P i 0 + 1 < gL P j (P j 5) + P j 2 ∧ gT P j (P j 5) ≤ P i 1 ∧ P i 1 < gT P j (P j 5) + P j 3)
def gCrF (P : Nat → Nat → Int32) (i j : Nat) (a : Int32) : Int32 := if gLL P i j then (if gPL P i j then a + 1 else a) + 1 else if gPL P i j then a + 1 else a
def gCr (n : Nat) (P : Nat → Nat → Int32) (i : Nat) : Int32 := gF n (gCrF P i) 0 0
def gNF (P : Nat → Nat → Int32) (i : Nat) (a : Int32) : Int32 := if gSt P i then a + 1 else a
def gN (n : Nat) (P : Nat → Nat → Int32) : Int32 := gF n (gNF P) 0 0
def gSWF (P : Nat → Nat → Int32) (i : Nat) (a : Int32) : Int32 := if gSt P i then a + P i 4 else a
def gSW (n : Nat) (P : Nat → Nat → Int32) : Int32 := gF n (gSWF P) 0 0
def gAWF (P : Nat → Nat → Int32) (i : Nat) (a : Int32) : Int32 := a + P i 4
def gAW (n : Nat) (P : Nat → Nat → Int32) : Int32 := gF n (gAWF P) 0 0
def gSQF (P : Nat → Nat → Int32) (i : Nat) (a : Int32) : Int32 := if gSt P i then a + P i 2 * P i 3 else a
def gSQ (n : Nat) (P : Nat → Nat → Int32) : Int32 := gF n (gSQF P) 0 0
def gWOF (n : Nat) (P : Nat → Nat → Int32) (i : Nat) (a : Int32) : Int32 := if gMk n P i = 0 then a + 1 else a
def gWO (n : Nat) (P : Nat → Nat → Int32) : Int32 := gF n (gWOF n P) 0 0
def gCDF (n : Nat) (P : Nat → Nat → Int32) (i : Nat) (a : Int32) : Int32 := if gSt P i then a else a + gCr n P i
def gCD (n : Nat) (P : Nat → Nat → Int32) : Int32 := gF n (gCDF n P) 0 0
/-- a board of n points stands in a world -/
def bd_in (w : va_W) (tys : List (ClassId × FieldType)) (ob n : Nat) (P : Nat → Nat → Int32) : Prop :=
  ∃ (qb qc t0 oc : Nat) (cI : ClassId) (f : Nat → Int32), w[qb]? = some (ob, .inr (0, [.ref oc, .int (nI n)])) ∧ w[qc]? = some (oc, .inl (cI, 48, .inl f)) ∧ tys[t0]? = some (cI, .int) ∧ n ≤ 8 ∧ ∀ i, i < n → ∀ k, k < 6 → f (8 * k + i) = P i k
end
section
/-! ARITHMETIC OF SMALL NUMBERS: the reference's forms are the class's -/
theorem ti_bm {z : Int} (h1 : -2147483648 ≤ z) (h2 : z < 2147483648) : z.bmod (2 ^ 32) = z := by
  rw [Int.bmod_eq_of_le] <;> omega
theorem ti_add {a b : Int32} (h1 : -2147483648 ≤ a.toInt + b.toInt) (h2 : a.toInt + b.toInt < 2147483648) : (a + b).toInt = a.toInt + b.toInt := by rw [Int32.toInt_add, ti_bm h1 h2]
theorem ti_sub {a b : Int32} (h1 : -2147483648 ≤ a.toInt - b.toInt) (h2 : a.toInt - b.toInt < 2147483648) : (a - b).toInt = a.toInt - b.toInt := by rw [Int32.toInt_sub, ti_bm h1 h2]
theorem ti_mul {a b : Int32} (h1 : -2147483648 ≤ a.toInt * b.toInt) (h2 : a.toInt * b.toInt < 2147483648) : (a * b).toInt = a.toInt * b.toInt := by rw [Int32.toInt_mul, ti_bm h1 h2]
theorem ti_1 : (1 : Int32).toInt = 1 := by decide
theorem ti_0 : (0 : Int32).toInt = 0 := by decide
theorem ti_inj {a b : Int32} (h : a.toInt = b.toInt) : a = b := Int32.toInt_inj.mp h
def ok4 (c : Int32) : Prop := c = 0 ∨ c = 1 ∨ c = 2 ∨ c = 3
theorem ok4_nI {k : Nat} (h : k < 4) : ok4 (nI k) := by
  rcases (show k = 0 ∨ k = 1 ∨ k = 2 ∨ k = 3 by omega) with rfl | rfl | rfl | rfl
  · exact Or.inl rfl
  · exact Or.inr (Or.inl rfl)
  · exact Or.inr (Or.inr (Or.inl rfl))
  · exact Or.inr (Or.inr (Or.inr rfl))
/-- the numbers of n points are in their ranges -/
def bd_ok (n : Nat) (P : Nat → Nat → Int32) : Prop := ∀ i, i < n → (0 ≤ (P i 0).toInt ∧ (P i 0).toInt ≤ 59) ∧ (0 ≤ (P i 1).toInt ∧ (P i 1).toInt ≤ 39) ∧ (1 ≤ (P i 2).toInt ∧ (P i 2).toInt ≤ 20) ∧ (1 ≤ (P i 3).toInt ∧ (P i 3).toInt ≤ 9) ∧ (1 ≤ (P i 4).toInt ∧ (P i 4).toInt ≤ 99) ∧ (P i 5 = -1 ∨ ok4 (P i 5))
theorem gL_rng {n : Nat} {P : Nat → Nat → Int32} (h : bd_ok n P) {i : Nat} (hi : i < n) (c : Int32) : -20 ≤ (gL P i c).toInt ∧ (gL P i c).toInt ≤ 60 := by
  obtain ⟨⟨h1, h2⟩, -, ⟨h3, h4⟩, -⟩ := h i hi
  unfold gL
  split
  · rw [ti_add (by rw [ti_1]; omega) (by rw [ti_1]; omega), ti_1]; omega
  · rw [ti_sub (by omega) (by omega)]; omega
theorem gT_rng {n : Nat} {P : Nat → Nat → Int32} (h : bd_ok n P) {i : Nat} (hi : i < n) (c : Int32) : -9 ≤ (gT P i c).toInt ∧ (gT P i c).toInt ≤ 40 := by
  obtain ⟨-, ⟨h1, h2⟩, -, ⟨h3, h4⟩, -⟩ := h i hi
  unfold gT
  split
  · rw [ti_add (by rw [ti_1]; omega) (by rw [ti_1]; omega), ti_1]; omega
  · rw [ti_sub (by omega) (by omega)]; omega
/-- a square lies on a label: the reference's words -/
def mHs (P : Nat → Nat → Int32) (i : Nat) (c x y : Int32) : Bool := decide (gL P i c ≤ x ∧ x ≤ gL P i c + P i 2 - 1 ∧ gT P i c ≤ y ∧ y ≤ gT P i c + P i 3 - 1)
theorem ti_end {a b : Int32} (h1 : -1000 ≤ a.toInt) (h2 : a.toInt ≤ 1000) (h3 : -1000 ≤ b.toInt) (h4 : b.toInt ≤ 1000) : (a + b - 1).toInt = a.toInt + b.toInt - 1 ∧ (a + b).toInt = a.toInt + b.toInt := by
  have e : (a + b).toInt = a.toInt + b.toInt := ti_add (by omega) (by omega)
  refine ⟨?_, e⟩
  rw [ti_sub (by rw [e, ti_1]; omega) (by rw [e, ti_1]; omega), e, ti_1]
theorem ti_lt_end {a b x : Int32} (h1 : -1000 ≤ a.toInt) (h2 : a.toInt ≤ 1000) (h3 : -1000 ≤ b.toInt) (h4 : b.toInt ≤ 1000) : x < a + b ↔ x ≤ a + b - 1 := by
  obtain ⟨e1, e2⟩ := ti_end h1 h2 h3 h4
  rw [Int32.lt_iff_toInt_lt, Int32.le_iff_toInt_le, e1, e2]
  omega
theorem mHs_cov {n : Nat} {P : Nat → Nat → Int32} (h : bd_ok n P) {i : Nat} (hi : i < n) (c x y : Int32) : mHs P i c x y = gCov P i c x y := by
  have h1 := gL_rng h hi c
  have h2 := gT_rng h hi c
  obtain ⟨-, -, ⟨h3, h4⟩, ⟨h5, h6⟩, -⟩ := h i hi
  unfold mHs gCov
  rw [decide_eq_decide, ti_lt_end (by omega) (by omega) (by omega) (by omega), ti_lt_end (by omega) (by omega) (by omega) (by omega)]
theorem gHit_mHs (P : Nat → Nat → Int32) (i : Nat) (c : Int32) (j : Nat) : gHit P i c j = mHs P i c (P j 0) (P j 1) := rfl
theorem ti_iMax (a b : Int32) : (iMax a b).toInt = max a.toInt b.toInt := by
  unfold iMax
  split
  · rename_i h; rw [Int32.lt_iff_toInt_lt] at h; omega
  · rename_i h; rw [Int32.lt_iff_toInt_lt] at h; omega
theorem ti_iMin (a b : Int32) : (iMin a b).toInt = min a.toInt b.toInt := by
  unfold iMin
  split
  · rename_i h; rw [Int32.lt_iff_toInt_lt] at h; omega
  · rename_i h; rw [Int32.lt_iff_toInt_lt] at h; omega
theorem iMin_alt (a b : Int32) : iMin a b = if a < b then a else b := by
  apply ti_inj
  rw [ti_iMin]
  split
  · rename_i h; rw [Int32.lt_iff_toInt_lt] at h; omega
  · rename_i h; rw [Int32.lt_iff_toInt_lt] at h; omega
theorem iMax_alt (a b : Int32) : iMax a b = if b < a then a else b := by
  apply ti_inj
  rw [ti_iMax]
  split
  · rename_i h; rw [Int32.lt_iff_toInt_lt] at h; omega
  · rename_i h; rw [Int32.lt_iff_toInt_lt] at h; omega
def mAc (a la b lb : Int32) : Int32 := iMin (a + la - 1) (b + lb - 1) - iMax a b + 1
def mSh (P : Nat → Nat → Int32) (i : Nat) (c : Int32) (j : Nat) (d : Int32) : Int32 := if 0 < mAc (gL P i c) (P i 2) (gL P j d) (P j 2) ∧ 0 < mAc (gT P i c) (P i 3) (gT P j d) (P j 3) then mAc (gL P i c) (P i 2) (gL P j d) (P j 2) * mAc (gT P i c) (P i 3) (gT P j d) (P j 3) else 0
theorem mAc_ti {a la b lb : Int32} (h1 : -100 ≤ a.toInt ∧ a.toInt ≤ 100) (h2 : 0 ≤ la.toInt ∧ la.toInt ≤ 100) (h3 : -100 ≤ b.toInt ∧ b.toInt ≤ 100) (h4 : 0 ≤ lb.toInt ∧ lb.toInt ≤ 100) :
    (mAc a la b lb).toInt = min (a.toInt + la.toInt) (b.toInt + lb.toInt) - max a.toInt b.toInt ∧ (gLen a la b lb).toInt = max 0 (min (a.toInt + la.toInt) (b.toInt + lb.toInt) - max a.toInt b.toInt) := by
  have e1 := ti_end (a := a) (b := la) (by omega) (by omega) (by omega) (by omega)
  have e2 := ti_end (a := b) (b := lb) (by omega) (by omega) (by omega) (by omega)
  have m1 : (iMin (a + la - 1) (b + lb - 1)).toInt = min (a.toInt + la.toInt) (b.toInt + lb.toInt) - 1 := by rw [ti_iMin, e1.1, e2.1]; omega
  have m2 : (iMin (a + la) (b + lb)).toInt = min (a.toInt + la.toInt) (b.toInt + lb.toInt) := by rw [ti_iMin, e1.2, e2.2]
  have m3 : (iMax a b).toInt = max a.toInt b.toInt := ti_iMax a b
  constructor
  · unfold mAc
    have s1 : (iMin (a + la - 1) (b + lb - 1) - iMax a b).toInt = min (a.toInt + la.toInt) (b.toInt + lb.toInt) - 1 - max a.toInt b.toInt := by rw [ti_sub (by rw [m1, m3]; omega) (by rw [m1, m3]; omega), m1, m3]
    rw [ti_add (by rw [s1, ti_1]; omega) (by rw [s1, ti_1]; omega), s1, ti_1]; omega
  · unfold gLen
    rw [ti_iMax, ti_0, ti_sub (by rw [m2, m3]; omega) (by rw [m2, m3]; omega), m2, m3]
theorem mSh_eq {n : Nat} {P : Nat → Nat → Int32} (h : bd_ok n P) {i : Nat} (hi : i < n) (c : Int32) {j : Nat} (hj : j < n) (d : Int32) : mSh P i c j d = gSh P i c j d := by
  have h1 := gL_rng h hi c
  have h2 := gT_rng h hi c
  have h3 := gL_rng h hj d
  have h4 := gT_rng h hj d
  obtain ⟨-, -, w1, v1, -⟩ := h i hi
  obtain ⟨-, -, w2, v2, -⟩ := h j hj
  have a1 := mAc_ti (a := gL P i c) (la := P i 2) (b := gL P j d) (lb := P j 2) (by omega) (by omega) (by omega) (by omega)
  have a2 := mAc_ti (a := gT P i c) (la := P i 3) (b := gT P j d) (lb := P j 3) (by omega) (by omega) (by omega) (by omega)
  unfold mSh gSh
  split
  · rename_i q
    rw [Int32.lt_iff_toInt_lt, Int32.lt_iff_toInt_lt, ti_0] at q
    rw [ti_inj (a := mAc (gL P i c) (P i 2) (gL P j d) (P j 2)) (b := gLen (gL P i c) (P i 2) (gL P j d) (P j 2)) (by omega), ti_inj (a := mAc (gT P i c) (P i 3) (gT P j d) (P j 3)) (b := gLen (gT P i c) (P i 3) (gT P j d) (P j 3)) (by omega)]
  · rename_i q
    rw [Int32.lt_iff_toInt_lt, Int32.lt_iff_toInt_lt, ti_0] at q
    rcases Int.lt_or_le 0 (mAc (gL P i c) (P i 2) (gL P j d) (P j 2)).toInt with r | r
    · rw [ti_inj (a := gLen (gT P i c) (P i 3) (gT P j d) (P j 3)) (b := 0) (by rw [ti_0]; omega)]
      exact (Int32.mul_zero).symm
    · rw [ti_inj (a := gLen (gL P i c) (P i 2) (gL P j d) (P j 2)) (b := 0) (by rw [ti_0]; omega)]
      exact (Int32.zero_mul).symm
theorem gSh_rng {n : Nat} {P : Nat → Nat → Int32} (h : bd_ok n P) {i : Nat} (hi : i < n) (c : Int32) {j : Nat} (hj : j < n) (d : Int32) : 0 ≤ (gSh P i c j d).toInt ∧ (gSh P i c j d).toInt ≤ 180 := by
  have h1 := gL_rng h hi c
  have h2 := gT_rng h hi c
  have h3 := gL_rng h hj d
  have h4 := gT_rng h hj d
  obtain ⟨-, -, w1, v1, -⟩ := h i hi
  obtain ⟨-, -, w2, v2, -⟩ := h j hj
  have a1 := (mAc_ti (a := gL P i c) (la := P i 2) (b := gL P j d) (lb := P j 2) (by omega) (by omega) (by omega) (by omega)).2
  have a2 := (mAc_ti (a := gT P i c) (la := P i 3) (b := gT P j d) (lb := P j 3) (by omega) (by omega) (by omega) (by omega)).2
  have b1 : 0 ≤ (gLen (gL P i c) (P i 2) (gL P j d) (P j 2)).toInt ∧ (gLen (gL P i c) (P i 2) (gL P j d) (P j 2)).toInt ≤ 20 := by omega
  have b2 : 0 ≤ (gLen (gT P i c) (P i 3) (gT P j d) (P j 3)).toInt ∧ (gLen (gT P i c) (P i 3) (gT P j d) (P j 3)).toInt ≤ 9 := by omega
  have p1 : 0 ≤ (gLen (gL P i c) (P i 2) (gL P j d) (P j 2)).toInt * (gLen (gT P i c) (P i 3) (gT P j d) (P j 3)).toInt := Int.mul_nonneg b1.1 b2.1
  have p2 : (gLen (gL P i c) (P i 2) (gL P j d) (P j 2)).toInt * (gLen (gT P i c) (P i 3) (gT P j d) (P j 3)).toInt ≤ 20 * 9 := Int.mul_le_mul b1.2 b2.2 b2.1 (by omega)
  unfold gSh
  rw [ti_mul (by omega) (by omega)]
  omega
theorem gSh_pos {n : Nat} {P : Nat → Nat → Int32} (h : bd_ok n P) {i : Nat} (hi : i < n) (c : Int32) {j : Nat} (hj : j < n) (d : Int32) : gSh P i c j d = 0 ↔ ¬ 0 < gSh P i c j d := by
  have := gSh_rng h hi c hj d
  rw [Int32.lt_iff_toInt_lt, ti_0]
  constructor
  · intro q; rw [q, ti_0]; omega
  · intro q; apply ti_inj; rw [ti_0]; omega
/-- a number is a point's -/
def gHas (n : Nat) (x : Int32) : Bool := decide (0 ≤ x ∧ x < nI n)
theorem gHas_iff {n : Nat} (hn : n ≤ 8) {x : Int32} : gHas n x = true ↔ ∃ i, i < n ∧ x = nI i := by
  unfold gHas
  rw [decide_eq_true_iff]
  constructor
  · rintro ⟨h1, h2⟩
    obtain ⟨j, hj, rfl⟩ := nI_of (x := x) (Int32.not_lt.mpr h1)
    exact ⟨j, (nI_ltI hj (by omega)).mp h2, rfl⟩
  · rintro ⟨i, hi, rfl⟩
    exact ⟨nI_pos' (by omega), nI_lt hi (by omega)⟩
theorem gHas_alt {n : Nat} (hn : n ≤ 8) (x : Int32) : gHas n x = decide (0 ≤ x ∧ x ≤ nI n - 1) := by
  unfold gHas
  have e : (nI n).toInt = n := nI_toInt (by omega)
  have e2 : (nI n - 1).toInt = (n : Int) - 1 := by rw [ti_sub (by rw [e, ti_1]; omega) (by rw [e, ti_1]; omega), e, ti_1]
  rw [decide_eq_decide]
  have q1 : x < nI n ↔ x.toInt < n := by rw [Int32.lt_iff_toInt_lt, e]
  have q2 : x ≤ nI n - 1 ↔ x.toInt ≤ (n : Int) - 1 := by rw [Int32.le_iff_toInt_le, e2]
  rw [q1, q2]
  constructor <;> rintro ⟨h1, h2⟩ <;> exact ⟨h1, by omega⟩
/-- the leader: the reference's words -/
theorem gLL_alt {n : Nat} {P : Nat → Nat → Int32} (h : bd_ok n P) {i : Nat} (hi : i < n) {j : Nat} (hj : j < n) : gLL P i j = (gSt P j && decide (gT P j (P j 5) ≤ P i 1 ∧ P i 1 ≤ gT P j (P j 5) + P j 3 - 1 ∧ P i 0 < gL P j (P j 5) + P j 2 - 1)) := by
  unfold gLL
  have h1 := gL_rng h hj (P j 5)
  have h2 := gT_rng h hj (P j 5)
  obtain ⟨x1, -, -⟩ := h i hi
  obtain ⟨-, -, w2, v2, -⟩ := h j hj
  have e1 := ti_end (a := gL P j (P j 5)) (b := P j 2) (by omega) (by omega) (by omega) (by omega)
  have e2 : (P i 0 + 1).toInt = (P i 0).toInt + 1 := by rw [ti_add (by rw [ti_1]; omega) (by rw [ti_1]; omega), ti_1]
  have q1 : P i 0 + 1 < gL P j (P j 5) + P j 2 ↔ P i 0 < gL P j (P j 5) + P j 2 - 1 := by
    rw [Int32.lt_iff_toInt_lt, Int32.lt_iff_toInt_lt, e1.1, e1.2, e2]; omega
  have q2 : P i 1 < gT P j (P j 5) + P j 3 ↔ P i 1 ≤ gT P j (P j 5) + P j 3 - 1 := ti_lt_end (by omega) (by omega) (by omega) (by omega)
  congr 1
  rw [decide_eq_decide, q1, q2]
  constructor
  · rintro ⟨q1, q2, q3⟩; exact ⟨q2, q3, q1⟩
  · rintro ⟨q2, q3, q1⟩; exact ⟨q1, q2, q3⟩
end
section
set_option maxHeartbeats 4000000 in
set_option maxRecDepth 100000 in
theorem c_X4_hasBit (l : Launch) (D : va_G) {w : va_W} {tys : List (ClassId × FieldType)} (a b : Int32) : rd_M l yX4_hasBit wsX4_hasBit ({ frames := 0, cells := 0, slots := 0, locals := 0 } : Room) D w tys [.int a, .int b] (bI (hB a b)) := by
  refine rd_of (cc := cX4_hasBit) (maxL := 2) (ret := some .boolean) (by decide) rfl (Nat.le_of_ble_eq_true rfl) ?_
  intro p e s m below meth c hx hb hr hml hts hown hlocks hP hK hN ls hl
  have hown : s.vm.findClass RX4 = some m.cls := hown
  have hl : lv_has ls 2 [(0, .int a), (1, .int b)] := hl
  refine lv_iload_n hx hb dX4_hasBit_0 rfl (lv_at hl 0 rfl) ?_
  refine lv_iload_n hx hb dX4_hasBit_1 rfl (lv_at hl 1 rfl) ?_
  refine lv_iushr hx hb dX4_hasBit_2 rfl ?_
  refine lv_iconst (v := 1) hx hb dX4_hasBit_3 (by decide) ?_
  refine lv_iand hx hb dX4_hasBit_4 ?_
  refine lv_if_eq (tgt := 12) hx hb dX4_hasBit_5 (by decide) (fun c_5 => ?_) (fun c_5 => ?_)
  · refine lv_iconst (v := 0) hx hb dX4_hasBit_12 (by decide) ?_
    exact rd_zret hx hb hr hlocks dX4_hasBit_13 (by simp [hB, bI, c_5])
  · refine lv_iconst (v := 1) hx hb dX4_hasBit_8 (by decide) ?_
    refine lv_goto (tgt := 13) hx hb dX4_hasBit_9 (by decide) ?_
    exact rd_zret hx hb hr hlocks dX4_hasBit_13 (by simp [hB, bI, c_5])
set_option maxHeartbeats 4000000 in
set_option maxRecDepth 100000 in
theorem c_X0_sharedLength (l : Launch) (D : va_G) {w : va_W} {tys : List (ClassId × FieldType)} (a la b lb : Int32) : rd_M l yX0_sharedLength wsX0_sharedLength ({ frames := 1, cells := 0, slots := 0, locals := 21 } : Room) D w tys [.int a, .int la, .int b, .int lb] (gLen a la b lb) := by
  refine rd_of (cc := cX0_sharedLength) (maxL := 6) (ret := some .int) (by decide) rfl (Nat.le_of_ble_eq_true rfl) ?_
  intro p e s m below meth c hx hb hr hml hts hown hlocks hP hK hN ls hl
  have hown : s.vm.findClass RX0 = some m.cls := hown
  have hl : lv_has ls 6 [(0, .int a), (1, .int la), (2, .int b), (3, .int lb)] := hl
  refine lv_iload_n hx hb dX0_sharedLength_0 rfl (lv_at hl 0 rfl) ?_
  refine lv_iload_n hx hb dX0_sharedLength_1 rfl (lv_at hl 2 rfl) ?_
  refine va_mmax hx hb (hml.trans hl.1.symm) hown (hts (.methodLink RX0 57 Lib.Math.max.name) (by decide +kernel)) (hts (.static Lib.Math.max.name) (by decide +kernel)) (hts (.initialized "java/lang/Math") (by decide +kernel)) (hts (.code Lib.Math.max.name Lib.Math.max.code 2 (some .int)) (by decide +kernel)) (by decide) (by decide) (by decide) (by decide) dX0_sharedLength_2 ?_
  refine lv_asi (y := iMax a b) rfl ?_
  refine lv_istore (lv' := [(4, .int (iMax a b)), (0, .int a), (1, .int la), (2, .int b), (3, .int lb)]) hx hb dX0_sharedLength_5 hl (by decide) rfl (fun ls hl => ?_)
  refine lv_iload_n hx hb dX0_sharedLength_7 rfl (lv_at hl 1 rfl) ?_
  refine lv_iload_n hx hb dX0_sharedLength_8 rfl (lv_at hl 2 rfl) ?_
  refine lv_iadd hx hb dX0_sharedLength_9 ?_
  refine lv_iload_n hx hb dX0_sharedLength_10 rfl (lv_at hl 3 rfl) ?_
  refine lv_iload_n hx hb dX0_sharedLength_11 rfl (lv_at hl 4 rfl) ?_
  refine lv_iadd hx hb dX0_sharedLength_12 ?_
  refine va_mmin hx hb (hml.trans hl.1.symm) hown (hts (.methodLink RX0 62 Lib.Math.min.name) (by decide +kernel)) (hts (.static Lib.Math.min.name) (by decide +kernel)) (hts (.initialized "java/lang/Math") (by decide +kernel)) (hts (.code Lib.Math.min.name Lib.Math.min.code 2 (some .int)) (by decide +kernel)) (by decide) (by decide) (by decide) (by decide) dX0_sharedLength_13 ?_
  refine lv_asi (y := iMin (a + la) (b + lb)) rfl ?_
  refine lv_istore (lv' := [(5, .int (iMin (a + la) (b + lb))), (4, .int (iMax a b)), (0, .int a), (1, .int la), (2, .int b), (3, .int lb)]) hx hb dX0_sharedLength_16 hl (by decide) rfl (fun ls hl => ?_)
  refine lv_iconst (v := 0) hx hb dX0_sharedLength_18 (by decide) ?_
  refine lv_iload hx hb dX0_sharedLength_19 (lv_at hl 0 rfl) ?_
  refine lv_iload hx hb dX0_sharedLength_21 (lv_at hl 1 rfl) ?_
  refine lv_isub hx hb dX0_sharedLength_23 ?_
  refine va_mmax hx hb (hml.trans hl.1.symm) hown (hts (.methodLink RX0 57 Lib.Math.max.name) (by decide +kernel)) (hts (.static Lib.Math.max.name) (by decide +kernel)) (hts (.initialized "java/lang/Math") (by decide +kernel)) (hts (.code Lib.Math.max.name Lib.Math.max.code 2 (some .int)) (by decide +kernel)) (by decide) (by decide) (by decide) (by decide) dX0_sharedLength_24 ?_
  refine lv_asi (y := iMax 0 ((iMin (a + la) (b + lb)) - (iMax a b))) rfl ?_
  exact rd_iret hx hb hr hlocks dX0_sharedLength_27 (by rfl)
set_option maxHeartbeats 4000000 in
set_option maxRecDepth 100000 in
theorem c_X0_left (l : Launch) (D : va_G) {w : va_W} {tys : List (ClassId × FieldType)} {ob n : Nat} {P : Nat → Nat → Int32} (hbd : bd_in w tys ob n P) {i : Nat} (hi : i < n) (k : Int32) : rd_M l yX0_left wsX0_left ({ frames := 0, cells := 0, slots := 0, locals := 0 } : Room) D w tys [.ref ob, .int (nI i), .int k] (gL P i k) := by
  obtain ⟨qb, qc, t0, oc, cI, f, hqb, hqc, ht0, hn8, hf⟩ := id hbd
  refine rd_of (cc := cX0_left) (maxL := 4) (ret := some .int) (by decide) rfl (Nat.le_of_ble_eq_true rfl) ?_
  intro p e s m below meth c hx hb hr hml hts hown hlocks hP hK hN ls hl
  have hown : s.vm.findClass RX0 = some m.cls := hown
  have hl : lv_has ls 4 [(0, .ref ob), (1, .int (nI i)), (2, .int k)] := hl
  have hw11 := hts (.fieldLink RX0 11 "CornerLabels$Board" "cells" "[I") (by decide +kernel)
  have hinX0 : ∀ w ∈ u_ws RX0 TX0 2, w ∈ wsX0_left := by decide +kernel
  refine lv_iload_n hx hb dX0_left_0 rfl (lv_at hl 2 rfl) ?_
  refine lv_if_eq (tgt := 9) hx hb dX0_left_1 (by decide) (fun c_1 => ?_) (fun c_1 => ?_)
  · refine lv_iconst (v := 1) hx hb dX0_left_9 (by decide) ?_
    refine lv_goto (tgt := 14) hx hb dX0_left_10 (by decide) ?_
    refine lv_istore_n (lv' := [(3, .int 1), (0, .ref ob), (1, .int (nI i)), (2, .int k)]) hx hb dX0_left_14 rfl hl (by decide) rfl (fun ls hl => ?_)
    refine lv_iload_n hx hb dX0_left_15 rfl (lv_at hl 0 rfl) ?_
    refine lv_if_eq (tgt := 32) hx hb dX0_left_16 (by decide) (fun h9 => absurd h9 (by decide)) (fun _ => ?_)
    refine lv_aload_n hx hb dX0_left_19 rfl (lv_at hl 1 rfl) ?_
    refine va_get (D := D) (ci := 0) (v := .ref oc) (C := RX0) (T := TX0) (N := 2) hx hb hts hinX0 hown hK hP qb hqb rfl 0 (by decide) hw11 (fun _ h9 => h9) rfl dX0_left_20 ?_
    refine lv_iconst (v := 0) hx hb dX0_left_23 (by decide) ?_
    refine lv_iload_n hx hb dX0_left_24 rfl (lv_at hl 2 rfl) ?_
    refine lv_iadd hx hb dX0_left_25 ?_
    refine lv_asi (y := nI (0 + i)) (nI_add 0 i) ?_
    refine rd_ald (q0 := qc) (t0 := t0) (j := 0 + i) (v := P i 0) hx hb hK hP hqc ht0 (rfl) (by omega) (by decide) (by rw [show 0 + i = 8 * 0 + i by omega]; exact hf i hi 0 (by decide)) dX0_left_26 ?_
    refine lv_iconst (v := 1) hx hb dX0_left_27 (by decide) ?_
    refine lv_iadd hx hb dX0_left_28 ?_
    refine lv_goto (tgt := 50) hx hb dX0_left_29 (by decide) ?_
    exact rd_iret hx hb hr hlocks dX0_left_50 (by simp [gL, bI, c_1])
  · refine lv_iload_n hx hb dX0_left_4 rfl (lv_at hl 2 rfl) ?_
    refine lv_iconst (v := 3) hx hb dX0_left_5 (by decide) ?_
    refine lv_icmp_ne (tgt := 13) hx hb dX0_left_6 (by decide) (fun c_6 => ?_) (fun c_6 => ?_)
    · refine lv_iconst (v := 0) hx hb dX0_left_13 (by decide) ?_
      refine lv_istore_n (lv' := [(3, .int 0), (0, .ref ob), (1, .int (nI i)), (2, .int k)]) hx hb dX0_left_14 rfl hl (by decide) rfl (fun ls hl => ?_)
      refine lv_iload_n hx hb dX0_left_15 rfl (lv_at hl 0 rfl) ?_
      refine lv_if_eq (tgt := 32) hx hb dX0_left_16 (by decide) (fun _ => ?_) (fun h9 => absurd (by decide) h9)
      refine lv_aload_n hx hb dX0_left_32 rfl (lv_at hl 1 rfl) ?_
      refine va_get (D := D) (ci := 0) (v := .ref oc) (C := RX0) (T := TX0) (N := 2) hx hb hts hinX0 hown hK hP qb hqb rfl 0 (by decide) hw11 (fun _ h9 => h9) rfl dX0_left_33 ?_
      refine lv_iconst (v := 0) hx hb dX0_left_36 (by decide) ?_
      refine lv_iload_n hx hb dX0_left_37 rfl (lv_at hl 2 rfl) ?_
      refine lv_iadd hx hb dX0_left_38 ?_
      refine lv_asi (y := nI (0 + i)) (nI_add 0 i) ?_
      refine rd_ald (q0 := qc) (t0 := t0) (j := 0 + i) (v := P i 0) hx hb hK hP hqc ht0 (rfl) (by omega) (by decide) (by rw [show 0 + i = 8 * 0 + i by omega]; exact hf i hi 0 (by decide)) dX0_left_39 ?_
      refine lv_aload_n hx hb dX0_left_40 rfl (lv_at hl 1 rfl) ?_
      refine va_get (D := D) (ci := 0) (v := .ref oc) (C := RX0) (T := TX0) (N := 2) hx hb hts hinX0 hown hK hP qb hqb rfl 0 (by decide) hw11 (fun _ h9 => h9) rfl dX0_left_41 ?_
      refine lv_bipush (v := 16) hx hb dX0_left_44 (by decide) ?_
      refine lv_iload_n hx hb dX0_left_46 rfl (lv_at hl 2 rfl) ?_
      refine lv_iadd hx hb dX0_left_47 ?_
      refine lv_asi (y := nI (16 + i)) (nI_add 16 i) ?_
      refine rd_ald (q0 := qc) (t0 := t0) (j := 16 + i) (v := P i 2) hx hb hK hP hqc ht0 (rfl) (by omega) (by decide) (by rw [show 16 + i = 8 * 2 + i by omega]; exact hf i hi 2 (by decide)) dX0_left_48 ?_
      refine lv_isub hx hb dX0_left_49 ?_
      exact rd_iret hx hb hr hlocks dX0_left_50 (by simp [gL, bI, c_1, c_6])
    · refine lv_iconst (v := 1) hx hb dX0_left_9 (by decide) ?_
      refine lv_goto (tgt := 14) hx hb dX0_left_10 (by decide) ?_
      refine lv_istore_n (lv' := [(3, .int 1), (0, .ref ob), (1, .int (nI i)), (2, .int k)]) hx hb dX0_left_14 rfl hl (by decide) rfl (fun ls hl => ?_)
      refine lv_iload_n hx hb dX0_left_15 rfl (lv_at hl 0 rfl) ?_
      refine lv_if_eq (tgt := 32) hx hb dX0_left_16 (by decide) (fun h9 => absurd h9 (by decide)) (fun _ => ?_)
      refine lv_aload_n hx hb dX0_left_19 rfl (lv_at hl 1 rfl) ?_
      refine va_get (D := D) (ci := 0) (v := .ref oc) (C := RX0) (T := TX0) (N := 2) hx hb hts hinX0 hown hK hP qb hqb rfl 0 (by decide) hw11 (fun _ h9 => h9) rfl dX0_left_20 ?_
      refine lv_iconst (v := 0) hx hb dX0_left_23 (by decide) ?_
      refine lv_iload_n hx hb dX0_left_24 rfl (lv_at hl 2 rfl) ?_
      refine lv_iadd hx hb dX0_left_25 ?_
      refine lv_asi (y := nI (0 + i)) (nI_add 0 i) ?_
      refine rd_ald (q0 := qc) (t0 := t0) (j := 0 + i) (v := P i 0) hx hb hK hP hqc ht0 (rfl) (by omega) (by decide) (by rw [show 0 + i = 8 * 0 + i by omega]; exact hf i hi 0 (by decide)) dX0_left_26 ?_
      refine lv_iconst (v := 1) hx hb dX0_left_27 (by decide) ?_
      refine lv_iadd hx hb dX0_left_28 ?_
      refine lv_goto (tgt := 50) hx hb dX0_left_29 (by decide) ?_
      exact rd_iret hx hb hr hlocks dX0_left_50 (by simp [gL, bI, c_1, c_6])
set_option maxHeartbeats 4000000 in
set_option maxRecDepth 100000 in
theorem c_X0_top (l : Launch) (D : va_G) {w : va_W} {tys : List (ClassId × FieldType)} {ob n : Nat} {P : Nat → Nat → Int32} (hbd : bd_in w tys ob n P) {i : Nat} (hi : i < n) (k : Int32) : rd_M l yX0_top wsX0_top ({ frames := 0, cells := 0, slots := 0, locals := 0 } : Room) D w tys [.ref ob, .int (nI i), .int k] (gT P i k) := by
  obtain ⟨qb, qc, t0, oc, cI, f, hqb, hqc, ht0, hn8, hf⟩ := id hbd
  refine rd_of (cc := cX0_top) (maxL := 4) (ret := some .int) (by decide) rfl (Nat.le_of_ble_eq_true rfl) ?_
  intro p e s m below meth c hx hb hr hml hts hown hlocks hP hK hN ls hl
  have hown : s.vm.findClass RX0 = some m.cls := hown
  have hl : lv_has ls 4 [(0, .ref ob), (1, .int (nI i)), (2, .int k)] := hl
  have hw11 := hts (.fieldLink RX0 11 "CornerLabels$Board" "cells" "[I") (by decide +kernel)
  have hinX0 : ∀ w ∈ u_ws RX0 TX0 2, w ∈ wsX0_top := by decide +kernel
  refine lv_iload_n hx hb dX0_top_0 rfl (lv_at hl 2 rfl) ?_
  refine lv_if_eq (tgt := 9) hx hb dX0_top_1 (by decide) (fun c_1 => ?_) (fun c_1 => ?_)
  · refine lv_iconst (v := 1) hx hb dX0_top_9 (by decide) ?_
    refine lv_goto (tgt := 14) hx hb dX0_top_10 (by decide) ?_
    refine lv_istore_n (lv' := [(3, .int 1), (0, .ref ob), (1, .int (nI i)), (2, .int k)]) hx hb dX0_top_14 rfl hl (by decide) rfl (fun ls hl => ?_)
    refine lv_iload_n hx hb dX0_top_15 rfl (lv_at hl 0 rfl) ?_
    refine lv_if_eq (tgt := 33) hx hb dX0_top_16 (by decide) (fun h9 => absurd h9 (by decide)) (fun _ => ?_)
    refine lv_aload_n hx hb dX0_top_19 rfl (lv_at hl 1 rfl) ?_
    refine va_get (D := D) (ci := 0) (v := .ref oc) (C := RX0) (T := TX0) (N := 2) hx hb hts hinX0 hown hK hP qb hqb rfl 0 (by decide) hw11 (fun _ h9 => h9) rfl dX0_top_20 ?_
    refine lv_bipush (v := 8) hx hb dX0_top_23 (by decide) ?_
    refine lv_iload_n hx hb dX0_top_25 rfl (lv_at hl 2 rfl) ?_
    refine lv_iadd hx hb dX0_top_26 ?_
    refine lv_asi (y := nI (8 + i)) (nI_add 8 i) ?_
    refine rd_ald (q0 := qc) (t0 := t0) (j := 8 + i) (v := P i 1) hx hb hK hP hqc ht0 (rfl) (by omega) (by decide) (by rw [show 8 + i = 8 * 1 + i by omega]; exact hf i hi 1 (by decide)) dX0_top_27 ?_
    refine lv_iconst (v := 1) hx hb dX0_top_28 (by decide) ?_
    refine lv_iadd hx hb dX0_top_29 ?_
    refine lv_goto (tgt := 52) hx hb dX0_top_30 (by decide) ?_
    exact rd_iret hx hb hr hlocks dX0_top_52 (by simp [gT, bI, c_1])
  · refine lv_iload_n hx hb dX0_top_4 rfl (lv_at hl 2 rfl) ?_
    refine lv_iconst (v := 1) hx hb dX0_top_5 (by decide) ?_
    refine lv_icmp_ne (tgt := 13) hx hb dX0_top_6 (by decide) (fun c_6 => ?_) (fun c_6 => ?_)
    · refine lv_iconst (v := 0) hx hb dX0_top_13 (by decide) ?_
      refine lv_istore_n (lv' := [(3, .int 0), (0, .ref ob), (1, .int (nI i)), (2, .int k)]) hx hb dX0_top_14 rfl hl (by decide) rfl (fun ls hl => ?_)
      refine lv_iload_n hx hb dX0_top_15 rfl (lv_at hl 0 rfl) ?_
      refine lv_if_eq (tgt := 33) hx hb dX0_top_16 (by decide) (fun _ => ?_) (fun h9 => absurd (by decide) h9)
      refine lv_aload_n hx hb dX0_top_33 rfl (lv_at hl 1 rfl) ?_
      refine va_get (D := D) (ci := 0) (v := .ref oc) (C := RX0) (T := TX0) (N := 2) hx hb hts hinX0 hown hK hP qb hqb rfl 0 (by decide) hw11 (fun _ h9 => h9) rfl dX0_top_34 ?_
      refine lv_bipush (v := 8) hx hb dX0_top_37 (by decide) ?_
      refine lv_iload_n hx hb dX0_top_39 rfl (lv_at hl 2 rfl) ?_
      refine lv_iadd hx hb dX0_top_40 ?_
      refine lv_asi (y := nI (8 + i)) (nI_add 8 i) ?_
      refine rd_ald (q0 := qc) (t0 := t0) (j := 8 + i) (v := P i 1) hx hb hK hP hqc ht0 (rfl) (by omega) (by decide) (by rw [show 8 + i = 8 * 1 + i by omega]; exact hf i hi 1 (by decide)) dX0_top_41 ?_
      refine lv_aload_n hx hb dX0_top_42 rfl (lv_at hl 1 rfl) ?_
      refine va_get (D := D) (ci := 0) (v := .ref oc) (C := RX0) (T := TX0) (N := 2) hx hb hts hinX0 hown hK hP qb hqb rfl 0 (by decide) hw11 (fun _ h9 => h9) rfl dX0_top_43 ?_
      refine lv_bipush (v := 24) hx hb dX0_top_46 (by decide) ?_
      refine lv_iload_n hx hb dX0_top_48 rfl (lv_at hl 2 rfl) ?_
      refine lv_iadd hx hb dX0_top_49 ?_
      refine lv_asi (y := nI (24 + i)) (nI_add 24 i) ?_
      refine rd_ald (q0 := qc) (t0 := t0) (j := 24 + i) (v := P i 3) hx hb hK hP hqc ht0 (rfl) (by omega) (by decide) (by rw [show 24 + i = 8 * 3 + i by omega]; exact hf i hi 3 (by decide)) dX0_top_50 ?_
      refine lv_isub hx hb dX0_top_51 ?_
      exact rd_iret hx hb hr hlocks dX0_top_52 (by simp [gT, bI, c_1, c_6])
    · refine lv_iconst (v := 1) hx hb dX0_top_9 (by decide) ?_
      refine lv_goto (tgt := 14) hx hb dX0_top_10 (by decide) ?_
      refine lv_istore_n (lv' := [(3, .int 1), (0, .ref ob), (1, .int (nI i)), (2, .int k)]) hx hb dX0_top_14 rfl hl (by decide) rfl (fun ls hl => ?_)
      refine lv_iload_n hx hb dX0_top_15 rfl (lv_at hl 0 rfl) ?_
      refine lv_if_eq (tgt := 33) hx hb dX0_top_16 (by decide) (fun h9 => absurd h9 (by decide)) (fun _ => ?_)
      refine lv_aload_n hx hb dX0_top_19 rfl (lv_at hl 1 rfl) ?_
      refine va_get (D := D) (ci := 0) (v := .ref oc) (C := RX0) (T := TX0) (N := 2) hx hb hts hinX0 hown hK hP qb hqb rfl 0 (by decide) hw11 (fun _ h9 => h9) rfl dX0_top_20 ?_
      refine lv_bipush (v := 8) hx hb dX0_top_23 (by decide) ?_
      refine lv_iload_n hx hb dX0_top_25 rfl (lv_at hl 2 rfl) ?_
      refine lv_iadd hx hb dX0_top_26 ?_
      refine lv_asi (y := nI (8 + i)) (nI_add 8 i) ?_
      refine rd_ald (q0 := qc) (t0 := t0) (j := 8 + i) (v := P i 1) hx hb hK hP hqc ht0 (rfl) (by omega) (by decide) (by rw [show 8 + i = 8 * 1 + i by omega]; exact hf i hi 1 (by decide)) dX0_top_27 ?_
      refine lv_iconst (v := 1) hx hb dX0_top_28 (by decide) ?_
      refine lv_iadd hx hb dX0_top_29 ?_
      refine lv_goto (tgt := 52) hx hb dX0_top_30 (by decide) ?_
      exact rd_iret hx hb hr hlocks dX0_top_52 (by simp [gT, bI, c_1, c_6])
set_option maxHeartbeats 4000000 in
set_option maxRecDepth 100000 in
theorem c_X0_stands (l : Launch) (D : va_G) {w : va_W} {tys : List (ClassId × FieldType)} {ob n : Nat} {P : Nat → Nat → Int32} (hbd : bd_in w tys ob n P) {i : Nat} (hi : i < n) : rd_M l yX0_stands wsX0_stands ({ frames := 0, cells := 0, slots := 0, locals := 0 } : Room) D w tys [.ref ob, .int (nI i)] (bI (gSt P i)) := by
  obtain ⟨qb, qc, t0, oc, cI, f, hqb, hqc, ht0, hn8, hf⟩ := id hbd
  refine rd_of (cc := cX0_stands) (maxL := 2) (ret := some .boolean) (by decide) rfl (Nat.le_of_ble_eq_true rfl) ?_
  intro p e s m below meth c hx hb hr hml hts hown hlocks hP hK hN ls hl
  have hown : s.vm.findClass RX0 = some m.cls := hown
  have hl : lv_has ls 2 [(0, .ref ob), (1, .int (nI i))] := hl
  have hw11 := hts (.fieldLink RX0 11 "CornerLabels$Board" "cells" "[I") (by decide +kernel)
  have hinX0 : ∀ w ∈ u_ws RX0 TX0 2, w ∈ wsX0_stands := by decide +kernel
  refine lv_aload_n hx hb dX0_stands_0 rfl (lv_at hl 0 rfl) ?_
  refine va_get (D := D) (ci := 0) (v := .ref oc) (C := RX0) (T := TX0) (N := 2) hx hb hts hinX0 hown hK hP qb hqb rfl 0 (by decide) hw11 (fun _ h9 => h9) rfl dX0_stands_1 ?_
  refine lv_bipush (v := 40) hx hb dX0_stands_4 (by decide) ?_
  refine lv_iload_n hx hb dX0_stands_6 rfl (lv_at hl 1 rfl) ?_
  refine lv_iadd hx hb dX0_stands_7 ?_
  refine lv_asi (y := nI (40 + i)) (nI_add 40 i) ?_
  refine rd_ald (q0 := qc) (t0 := t0) (j := 40 + i) (v := P i 5) hx hb hK hP hqc ht0 (rfl) (by omega) (by decide) (by rw [show 40 + i = 8 * 5 + i by omega]; exact hf i hi 5 (by decide)) dX0_stands_8 ?_
  refine lv_iconst (v := (-1)) hx hb dX0_stands_9 (by decide) ?_
  refine lv_icmp_eq (tgt := 17) hx hb dX0_stands_10 (by decide) (fun c_10 => ?_) (fun c_10 => ?_)
  · refine lv_iconst (v := 0) hx hb dX0_stands_17 (by decide) ?_
    exact rd_zret hx hb hr hlocks dX0_stands_18 (by simp [gSt, bI, c_10])
  · refine lv_iconst (v := 1) hx hb dX0_stands_13 (by decide) ?_
    refine lv_goto (tgt := 18) hx hb dX0_stands_14 (by decide) ?_
    exact rd_zret hx hb hr hlocks dX0_stands_18 (by simp [gSt, bI, c_10])
set_option maxHeartbeats 4000000 in
set_option maxRecDepth 100000 in
theorem c_X0_covers (l : Launch) (D : va_G) {w : va_W} {tys : List (ClassId × FieldType)} {ob n : Nat} {P : Nat → Nat → Int32} (hbd : bd_in w tys ob n P) {i : Nat} (hi : i < n) (k x y : Int32) : rd_M l yX0_covers wsX0_covers ({ frames := 1, cells := 0, slots := 0, locals := 23 } : Room) D w tys [.ref ob, .int (nI i), .int k, .int x, .int y] (bI (gCov P i k x y)) := by
  obtain ⟨qb, qc, t0, oc, cI, f, hqb, hqc, ht0, hn8, hf⟩ := id hbd
  refine rd_of (cc := cX0_covers) (maxL := 7) (ret := some .boolean) (by decide) rfl (Nat.le_of_ble_eq_true rfl) ?_
  intro p e s m below meth c hx hb hr hml hts hown hlocks hP hK hN ls hl
  have hown : s.vm.findClass RX0 = some m.cls := hown
  have hl : lv_has ls 7 [(0, .ref ob), (1, .int (nI i)), (2, .int k), (3, .int x), (4, .int y)] := hl
  have hw11 := hts (.fieldLink RX0 11 "CornerLabels$Board" "cells" "[I") (by decide +kernel)
  have hinX0 : ∀ w ∈ u_ws RX0 TX0 2, w ∈ wsX0_covers := by decide +kernel
  refine lv_aload_n hx hb dX0_covers_0 rfl (lv_at hl 0 rfl) ?_
  refine lv_iload_n hx hb dX0_covers_1 rfl (lv_at hl 1 rfl) ?_
  refine lv_iload_n hx hb dX0_covers_2 rfl (lv_at hl 2 rfl) ?_
  refine rd_callV (As := [.int (nI i), .int k]) (rest := []) ⟨hx, hb, hml, hown, hts⟩ (c_X0_left l D hbd hi k) (cwV 2 hts gX0_covers_X0_left rfl rfl rfl (by decide +kernel) ⟨by decide, by decide⟩) hK hN hP hqb rfl rfl hl.1 rfl (Nat.le_of_ble_eq_true rfl) ⟨by decide, by decide⟩ dX0_covers_3 ?_
  refine lv_istore (lv' := [(5, .int (gL P i k)), (0, .ref ob), (1, .int (nI i)), (2, .int k), (3, .int x), (4, .int y)]) hx hb dX0_covers_6 hl (by decide) rfl (fun ls hl => ?_)
  refine lv_aload_n hx hb dX0_covers_8 rfl (lv_at hl 1 rfl) ?_
  refine lv_iload_n hx hb dX0_covers_9 rfl (lv_at hl 2 rfl) ?_
  refine lv_iload_n hx hb dX0_covers_10 rfl (lv_at hl 3 rfl) ?_
  refine rd_callV (As := [.int (nI i), .int k]) (rest := []) ⟨hx, hb, hml, hown, hts⟩ (c_X0_top l D hbd hi k) (cwV 2 hts gX0_covers_X0_top rfl rfl rfl (by decide +kernel) ⟨by decide, by decide⟩) hK hN hP hqb rfl rfl hl.1 rfl (Nat.le_of_ble_eq_true rfl) ⟨by decide, by decide⟩ dX0_covers_11 ?_
  refine lv_istore (lv' := [(6, .int (gT P i k)), (5, .int (gL P i k)), (0, .ref ob), (1, .int (nI i)), (2, .int k), (3, .int x), (4, .int y)]) hx hb dX0_covers_14 hl (by decide) rfl (fun ls hl => ?_)
  refine lv_iload_n hx hb dX0_covers_16 rfl (lv_at hl 5 rfl) ?_
  refine lv_iload hx hb dX0_covers_17 (lv_at hl 1 rfl) ?_
  refine lv_icmp_lt (tgt := 66) hx hb dX0_covers_19 (by decide) (fun c_19 => ?_) (fun c_19 => ?_)
  · have c_19n := Int32.not_le.mpr c_19
    refine lv_iconst (v := 0) hx hb dX0_covers_66 (by decide) ?_
    exact rd_zret hx hb hr hlocks dX0_covers_67 (by simp [gCov, bI, c_19, c_19n])
  · have c_19n := Int32.not_lt.mp c_19
    refine lv_iload_n hx hb dX0_covers_22 rfl (lv_at hl 5 rfl) ?_
    refine lv_iload hx hb dX0_covers_23 (lv_at hl 1 rfl) ?_
    refine lv_aload_n hx hb dX0_covers_25 rfl (lv_at hl 2 rfl) ?_
    refine va_get (D := D) (ci := 0) (v := .ref oc) (C := RX0) (T := TX0) (N := 2) hx hb hts hinX0 hown hK hP qb hqb rfl 0 (by decide) hw11 (fun _ h9 => h9) rfl dX0_covers_26 ?_
    refine lv_bipush (v := 16) hx hb dX0_covers_29 (by decide) ?_
    refine lv_iload_n hx hb dX0_covers_31 rfl (lv_at hl 3 rfl) ?_
    refine lv_iadd hx hb dX0_covers_32 ?_
    refine lv_asi (y := nI (16 + i)) (nI_add 16 i) ?_
    refine rd_ald (q0 := qc) (t0 := t0) (j := 16 + i) (v := P i 2) hx hb hK hP hqc ht0 (rfl) (by omega) (by decide) (by rw [show 16 + i = 8 * 2 + i by omega]; exact hf i hi 2 (by decide)) dX0_covers_33 ?_
    refine lv_iadd hx hb dX0_covers_34 ?_
    refine lv_icmp_ge (tgt := 66) hx hb dX0_covers_35 (by decide) (fun c_35 => ?_) (fun c_35 => ?_)
    · have c_35n := Int32.not_lt.mpr c_35
      refine lv_iconst (v := 0) hx hb dX0_covers_66 (by decide) ?_
      exact rd_zret hx hb hr hlocks dX0_covers_67 (by simp [gCov, bI, c_19, c_19n, c_35, c_35n])
    · have c_35n := Int32.not_le.mp c_35
      refine lv_iload hx hb dX0_covers_38 (lv_at hl 6 rfl) ?_
      refine lv_iload hx hb dX0_covers_40 (lv_at hl 0 rfl) ?_
      refine lv_icmp_lt (tgt := 66) hx hb dX0_covers_42 (by decide) (fun c_42 => ?_) (fun c_42 => ?_)
      · have c_42n := Int32.not_le.mpr c_42
        refine lv_iconst (v := 0) hx hb dX0_covers_66 (by decide) ?_
        exact rd_zret hx hb hr hlocks dX0_covers_67 (by simp [gCov, bI, c_19, c_19n, c_35, c_35n, c_42, c_42n])
      · have c_42n := Int32.not_lt.mp c_42
        refine lv_iload hx hb dX0_covers_45 (lv_at hl 6 rfl) ?_
        refine lv_iload hx hb dX0_covers_47 (lv_at hl 0 rfl) ?_
        refine lv_aload_n hx hb dX0_covers_49 rfl (lv_at hl 2 rfl) ?_
        refine va_get (D := D) (ci := 0) (v := .ref oc) (C := RX0) (T := TX0) (N := 2) hx hb hts hinX0 hown hK hP qb hqb rfl 0 (by decide) hw11 (fun _ h9 => h9) rfl dX0_covers_50 ?_
        refine lv_bipush (v := 24) hx hb dX0_covers_53 (by decide) ?_
        refine lv_iload_n hx hb dX0_covers_55 rfl (lv_at hl 3 rfl) ?_
        refine lv_iadd hx hb dX0_covers_56 ?_
        refine lv_asi (y := nI (24 + i)) (nI_add 24 i) ?_
        refine rd_ald (q0 := qc) (t0 := t0) (j := 24 + i) (v := P i 3) hx hb hK hP hqc ht0 (rfl) (by omega) (by decide) (by rw [show 24 + i = 8 * 3 + i by omega]; exact hf i hi 3 (by decide)) dX0_covers_57 ?_
        refine lv_iadd hx hb dX0_covers_58 ?_
        refine lv_icmp_ge (tgt := 66) hx hb dX0_covers_59 (by decide) (fun c_59 => ?_) (fun c_59 => ?_)
        · have c_59n := Int32.not_lt.mpr c_59
          refine lv_iconst (v := 0) hx hb dX0_covers_66 (by decide) ?_
          exact rd_zret hx hb hr hlocks dX0_covers_67 (by simp [gCov, bI, c_19, c_19n, c_35, c_35n, c_42, c_42n, c_59, c_59n])
        · have c_59n := Int32.not_le.mp c_59
          refine lv_iconst (v := 1) hx hb dX0_covers_62 (by decide) ?_
          refine lv_goto (tgt := 67) hx hb dX0_covers_63 (by decide) ?_
          exact rd_zret hx hb hr hlocks dX0_covers_67 (by simp [gCov, bI, c_19, c_19n, c_35, c_35n, c_42, c_42n, c_59, c_59n])
set_option maxHeartbeats 4000000 in
set_option maxRecDepth 100000 in
theorem c_X0_pointOn (l : Launch) (D : va_G) {w : va_W} {tys : List (ClassId × FieldType)} {ob n : Nat} {P : Nat → Nat → Int32} (hbd : bd_in w tys ob n P) (x y : Int32) : rd_M l yX0_pointOn wsX0_pointOn ({ frames := 0, cells := 0, slots := 0, locals := 0 } : Room) D w tys [.ref ob, .int x, .int y] (gPt n P x y) := by
  obtain ⟨qb, qc, t0, oc, cI, f, hqb, hqc, ht0, hn8, hf⟩ := id hbd
  refine rd_of (cc := cX0_pointOn) (maxL := 4) (ret := some .int) (by decide) rfl (Nat.le_of_ble_eq_true rfl) ?_
  intro p e s m below meth c hx hb hr hml hts hown hlocks hP hK hN ls hl
  have hown : s.vm.findClass RX0 = some m.cls := hown
  have hl : lv_has ls 4 [(0, .ref ob), (1, .int x), (2, .int y)] := hl
  have hw15 := hts (.fieldLink RX0 15 "CornerLabels$Board" "points" "I") (by decide +kernel)
  have hinX0 : ∀ w ∈ u_ws RX0 TX0 2, w ∈ wsX0_pointOn := by decide +kernel
  have hw11 := hts (.fieldLink RX0 11 "CornerLabels$Board" "cells" "[I") (by decide +kernel)
  refine lv_iconst (v := 0) hx hb dX0_pointOn_0 (by decide) ?_
  refine lv_istore_n (lv' := [(3, .int 0), (0, .ref ob), (1, .int x), (2, .int y)]) hx hb dX0_pointOn_1 rfl hl (by decide) rfl (fun ls hl => ?_)
  suffices loop2 : ∀ (k2 i : Nat) (ls : Array Slot), i ≤ n → n + 1 ≤ i + k2 → (gPt n P x y = gS n (fun i => decide (P i 0 = x ∧ P i 1 = y)) nI (-1) i) → lv_has ls 4 [(0, .ref ob), (1, .int x), (2, .int y), (3, .int (nI i))] → rd_W p l e wsX0_pointOn ({ frames := 0, cells := 0, slots := 0, locals := 0 } : Room) s m [.ref ob, .int x, .int y] below meth c (gPt n P x y) (F0 m 2 ls []) from
    loop2 (n + 1) 0 ls (by omega) (by omega) (by rfl) (lv_sub hl [1, 2, 3, 0] rfl)
  intro k2
  induction k2 with
  | zero => intro i ls h1 h2; exact absurd h2 (by omega)
  | succ k2 ih2 =>
    intro i ls hle2 hlt2 inv2 hl
    refine lv_iload_n hx hb dX0_pointOn_2 rfl (lv_at hl 3 rfl) ?_
    refine lv_aload_n hx hb dX0_pointOn_3 rfl (lv_at hl 0 rfl) ?_
    refine va_get (D := D) (ci := 0) (v := .int (nI n)) (C := RX0) (T := TX0) (N := 2) hx hb hts hinX0 hown hK hP qb hqb rfl 1 (by decide) hw15 (fun _ h9 => h9) rfl dX0_pointOn_4 ?_
    refine rd_icmp_ge_n (a := i) (b := n) (tgt := 43) (by omega) (by omega) hx hb dX0_pointOn_7 (by decide) (fun c_7 => ?_) (fun c_7 => ?_)
    · have c_7n := Nat.not_lt.mpr c_7
      refine lv_iconst (v := (-1)) hx hb dX0_pointOn_43 (by decide) ?_
      exact rd_iret hx hb hr hlocks dX0_pointOn_44 (by rw [inv2, gS_end c_7])
    · have c_7n := Nat.not_le.mpr c_7
      refine lv_aload_n hx hb dX0_pointOn_10 rfl (lv_at hl 0 rfl) ?_
      refine va_get (D := D) (ci := 0) (v := .ref oc) (C := RX0) (T := TX0) (N := 2) hx hb hts hinX0 hown hK hP qb hqb rfl 0 (by decide) hw11 (fun _ h9 => h9) rfl dX0_pointOn_11 ?_
      refine lv_iconst (v := 0) hx hb dX0_pointOn_14 (by decide) ?_
      refine lv_iload_n hx hb dX0_pointOn_15 rfl (lv_at hl 3 rfl) ?_
      refine lv_iadd hx hb dX0_pointOn_16 ?_
      refine lv_asi (y := nI (0 + i)) (nI_add 0 i) ?_
      refine rd_ald (q0 := qc) (t0 := t0) (j := 0 + i) (v := P i 0) hx hb hK hP hqc ht0 (rfl) (by omega) (by decide) (by rw [show 0 + i = 8 * 0 + i by omega]; exact hf i c_7 0 (by decide)) dX0_pointOn_17 ?_
      refine lv_iload_n hx hb dX0_pointOn_18 rfl (lv_at hl 1 rfl) ?_
      refine lv_icmp_ne (tgt := 37) hx hb dX0_pointOn_19 (by decide) (fun c_19 => ?_) (fun c_19 => ?_)
      · refine lv_iinc (v := nI (i + 1)) (lv' := [(3, .int (nI (i + 1))), (0, .ref ob), (1, .int x), (2, .int y)]) hx hb dX0_pointOn_37 hl (k := 3) rfl (nI_add i 1) (by decide) rfl (fun ls hl => ?_)
        refine lv_goto (tgt := 2) hx hb dX0_pointOn_40 (by decide) ?_
        exact ih2 (i + 1) ls (by omega) (by omega) (by rw [inv2, gS_step c_7]; simp [bI, c_7n, c_19]) (lv_sub hl [1, 2, 3, 0] rfl)
      · refine lv_aload_n hx hb dX0_pointOn_22 rfl (lv_at hl 0 rfl) ?_
        refine va_get (D := D) (ci := 0) (v := .ref oc) (C := RX0) (T := TX0) (N := 2) hx hb hts hinX0 hown hK hP qb hqb rfl 0 (by decide) hw11 (fun _ h9 => h9) rfl dX0_pointOn_23 ?_
        refine lv_bipush (v := 8) hx hb dX0_pointOn_26 (by decide) ?_
        refine lv_iload_n hx hb dX0_pointOn_28 rfl (lv_at hl 3 rfl) ?_
        refine lv_iadd hx hb dX0_pointOn_29 ?_
        refine lv_asi (y := nI (8 + i)) (nI_add 8 i) ?_
        refine rd_ald (q0 := qc) (t0 := t0) (j := 8 + i) (v := P i 1) hx hb hK hP hqc ht0 (rfl) (by omega) (by decide) (by rw [show 8 + i = 8 * 1 + i by omega]; exact hf i c_7 1 (by decide)) dX0_pointOn_30 ?_
        refine lv_iload_n hx hb dX0_pointOn_31 rfl (lv_at hl 2 rfl) ?_
        refine lv_icmp_ne (tgt := 37) hx hb dX0_pointOn_32 (by decide) (fun c_32 => ?_) (fun c_32 => ?_)
        · refine lv_iinc (v := nI (i + 1)) (lv' := [(3, .int (nI (i + 1))), (0, .ref ob), (1, .int x), (2, .int y)]) hx hb dX0_pointOn_37 hl (k := 3) rfl (nI_add i 1) (by decide) rfl (fun ls hl => ?_)
          refine lv_goto (tgt := 2) hx hb dX0_pointOn_40 (by decide) ?_
          exact ih2 (i + 1) ls (by omega) (by omega) (by rw [inv2, gS_step c_7]; simp [bI, c_7n, c_19, c_32]) (lv_sub hl [1, 2, 3, 0] rfl)
        · refine lv_iload_n hx hb dX0_pointOn_35 rfl (lv_at hl 3 rfl) ?_
          exact rd_iret hx hb hr hlocks dX0_pointOn_36 (by rw [inv2, gS_step c_7]; simp [bI, c_7n, c_19, c_32])
set_option maxHeartbeats 4000000 in
set_option maxRecDepth 100000 in
theorem c_X0_labelOn (l : Launch) (D : va_G) {w : va_W} {tys : List (ClassId × FieldType)} {ob n : Nat} {P : Nat → Nat → Int32} (hbd : bd_in w tys ob n P) (x y : Int32) : rd_M l yX0_labelOn wsX0_labelOn ({ frames := 2, cells := 0, slots := 0, locals := 49 } : Room) D w tys [.ref ob, .int x, .int y] (gLb n P x y) := by
  obtain ⟨qb, qc, t0, oc, cI, f, hqb, hqc, ht0, hn8, hf⟩ := id hbd
  refine rd_of (cc := cX0_labelOn) (maxL := 4) (ret := some .int) (by decide) rfl (Nat.le_of_ble_eq_true rfl) ?_
  intro p e s m below meth c hx hb hr hml hts hown hlocks hP hK hN ls hl
  have hown : s.vm.findClass RX0 = some m.cls := hown
  have hl : lv_has ls 4 [(0, .ref ob), (1, .int x), (2, .int y)] := hl
  have hw15 := hts (.fieldLink RX0 15 "CornerLabels$Board" "points" "I") (by decide +kernel)
  have hinX0 : ∀ w ∈ u_ws RX0 TX0 2, w ∈ wsX0_labelOn := by decide +kernel
  have hw11 := hts (.fieldLink RX0 11 "CornerLabels$Board" "cells" "[I") (by decide +kernel)
  refine lv_iconst (v := 0) hx hb dX0_labelOn_0 (by decide) ?_
  refine lv_istore_n (lv' := [(3, .int 0), (0, .ref ob), (1, .int x), (2, .int y)]) hx hb dX0_labelOn_1 rfl hl (by decide) rfl (fun ls hl => ?_)
  suffices loop2 : ∀ (k2 i : Nat) (ls : Array Slot), i ≤ n → n + 1 ≤ i + k2 → (gLb n P x y = gS n (fun i => gSt P i && gCov P i (P i 5) x y) nI (-1) i) → lv_has ls 4 [(0, .ref ob), (1, .int x), (2, .int y), (3, .int (nI i))] → rd_W p l e wsX0_labelOn ({ frames := 2, cells := 0, slots := 0, locals := 49 } : Room) s m [.ref ob, .int x, .int y] below meth c (gLb n P x y) (F0 m 2 ls []) from
    loop2 (n + 1) 0 ls (by omega) (by omega) (by rfl) (lv_sub hl [1, 2, 3, 0] rfl)
  intro k2
  induction k2 with
  | zero => intro i ls h1 h2; exact absurd h2 (by omega)
  | succ k2 ih2 =>
    intro i ls hle2 hlt2 inv2 hl
    refine lv_iload_n hx hb dX0_labelOn_2 rfl (lv_at hl 3 rfl) ?_
    refine lv_aload_n hx hb dX0_labelOn_3 rfl (lv_at hl 0 rfl) ?_
    refine va_get (D := D) (ci := 0) (v := .int (nI n)) (C := RX0) (T := TX0) (N := 2) hx hb hts hinX0 hown hK hP qb hqb rfl 1 (by decide) hw15 (fun _ h9 => h9) rfl dX0_labelOn_4 ?_
    refine rd_icmp_ge_n (a := i) (b := n) (tgt := 45) (by omega) (by omega) hx hb dX0_labelOn_7 (by decide) (fun c_7 => ?_) (fun c_7 => ?_)
    · have c_7n := Nat.not_lt.mpr c_7
      refine lv_iconst (v := (-1)) hx hb dX0_labelOn_45 (by decide) ?_
      exact rd_iret hx hb hr hlocks dX0_labelOn_46 (by rw [inv2, gS_end c_7])
    · have c_7n := Nat.not_le.mpr c_7
      refine lv_aload_n hx hb dX0_labelOn_10 rfl (lv_at hl 0 rfl) ?_
      refine lv_iload_n hx hb dX0_labelOn_11 rfl (lv_at hl 3 rfl) ?_
      refine rd_callV (As := [.int (nI i)]) (rest := []) ⟨hx, hb, hml, hown, hts⟩ (c_X0_stands l D hbd c_7) (cwV 1 hts gX0_labelOn_X0_stands rfl rfl rfl (by decide +kernel) ⟨by decide, by decide⟩) hK hN hP hqb rfl rfl hl.1 rfl (Nat.le_of_ble_eq_true rfl) ⟨by decide, by decide⟩ dX0_labelOn_12 ?_
      refine rd_ifeq_b (tgt := 39) hx hb dX0_labelOn_15 (by decide) (fun c_15 => ?_) (fun c_15 => ?_)
      · refine lv_iinc (v := nI (i + 1)) (lv' := [(3, .int (nI (i + 1))), (0, .ref ob), (1, .int x), (2, .int y)]) hx hb dX0_labelOn_39 hl (k := 3) rfl (nI_add i 1) (by decide) rfl (fun ls hl => ?_)
        refine lv_goto (tgt := 2) hx hb dX0_labelOn_42 (by decide) ?_
        exact ih2 (i + 1) ls (by omega) (by omega) (by rw [inv2, gS_step c_7]; simp [bI, c_7n, c_15]) (lv_sub hl [1, 2, 3, 0] rfl)
      · refine lv_aload_n hx hb dX0_labelOn_18 rfl (lv_at hl 0 rfl) ?_
        refine lv_iload_n hx hb dX0_labelOn_19 rfl (lv_at hl 3 rfl) ?_
        refine lv_aload_n hx hb dX0_labelOn_20 rfl (lv_at hl 0 rfl) ?_
        refine va_get (D := D) (ci := 0) (v := .ref oc) (C := RX0) (T := TX0) (N := 2) hx hb hts hinX0 hown hK hP qb hqb rfl 0 (by decide) hw11 (fun _ h9 => h9) rfl dX0_labelOn_21 ?_
        refine lv_bipush (v := 40) hx hb dX0_labelOn_24 (by decide) ?_
        refine lv_iload_n hx hb dX0_labelOn_26 rfl (lv_at hl 3 rfl) ?_
        refine lv_iadd hx hb dX0_labelOn_27 ?_
        refine lv_asi (y := nI (40 + i)) (nI_add 40 i) ?_
        refine rd_ald (q0 := qc) (t0 := t0) (j := 40 + i) (v := P i 5) hx hb hK hP hqc ht0 (rfl) (by omega) (by decide) (by rw [show 40 + i = 8 * 5 + i by omega]; exact hf i c_7 5 (by decide)) dX0_labelOn_28 ?_
        refine lv_iload_n hx hb dX0_labelOn_29 rfl (lv_at hl 1 rfl) ?_
        refine lv_iload_n hx hb dX0_labelOn_30 rfl (lv_at hl 2 rfl) ?_
        refine rd_callV (As := [.int (nI i), .int (P i 5), .int x, .int y]) (rest := []) ⟨hx, hb, hml, hown, hts⟩ (c_X0_covers l D hbd c_7 (P i 5) x y) (cwV 4 hts gX0_labelOn_X0_covers rfl rfl rfl (by decide +kernel) ⟨by decide, by decide⟩) hK hN hP hqb rfl rfl hl.1 rfl (Nat.le_of_ble_eq_true rfl) ⟨by decide, by decide⟩ dX0_labelOn_31 ?_
        refine rd_ifeq_b (tgt := 39) hx hb dX0_labelOn_34 (by decide) (fun c_34 => ?_) (fun c_34 => ?_)
        · refine lv_iinc (v := nI (i + 1)) (lv' := [(3, .int (nI (i + 1))), (0, .ref ob), (1, .int x), (2, .int y)]) hx hb dX0_labelOn_39 hl (k := 3) rfl (nI_add i 1) (by decide) rfl (fun ls hl => ?_)
          refine lv_goto (tgt := 2) hx hb dX0_labelOn_42 (by decide) ?_
          exact ih2 (i + 1) ls (by omega) (by omega) (by rw [inv2, gS_step c_7]; simp [bI, c_7n, c_15, c_34]) (lv_sub hl [1, 2, 3, 0] rfl)
        · refine lv_iload_n hx hb dX0_labelOn_37 rfl (lv_at hl 3 rfl) ?_
          exact rd_iret hx hb hr hlocks dX0_labelOn_38 (by rw [inv2, gS_step c_7]; simp [bI, c_7n, c_15, c_34])
set_option maxHeartbeats 4000000 in
set_option maxRecDepth 100000 in
theorem c_X0_takesPointOn (l : Launch) (D : va_G) {w : va_W} {tys : List (ClassId × FieldType)} {ob n : Nat} {P : Nat → Nat → Int32} (hbd : bd_in w tys ob n P) (x y : Int32) : rd_M l yX0_takesPointOn wsX0_takesPointOn ({ frames := 1, cells := 0, slots := 0, locals := 23 } : Room) D w tys [.ref ob, .int x, .int y] (bI (gTk n P x y)) := by
  obtain ⟨qb, qc, t0, oc, cI, f, hqb, hqc, ht0, hn8, hf⟩ := id hbd
  refine rd_of (cc := cX0_takesPointOn) (maxL := 3) (ret := some .boolean) (by decide) rfl (Nat.le_of_ble_eq_true rfl) ?_
  intro p e s m below meth c hx hb hr hml hts hown hlocks hP hK hN ls hl
  have hown : s.vm.findClass RX0 = some m.cls := hown
  have hl : lv_has ls 3 [(0, .ref ob), (1, .int x), (2, .int y)] := hl
  have hw15 := hts (.fieldLink RX0 15 "CornerLabels$Board" "points" "I") (by decide +kernel)
  have hinX0 : ∀ w ∈ u_ws RX0 TX0 2, w ∈ wsX0_takesPointOn := by decide +kernel
  refine lv_aload_n hx hb dX0_takesPointOn_0 rfl (lv_at hl 0 rfl) ?_
  refine va_get (D := D) (ci := 0) (v := .int (nI n)) (C := RX0) (T := TX0) (N := 2) hx hb hts hinX0 hown hK hP qb hqb rfl 1 (by decide) hw15 (fun _ h9 => h9) rfl dX0_takesPointOn_1 ?_
  refine lv_bipush (v := 8) hx hb dX0_takesPointOn_4 (by decide) ?_
  refine rd_icmp_ge_n (a := n) (b := 8) (tgt := 23) (by omega) (by omega) hx hb dX0_takesPointOn_6 (by decide) (fun c_6 => ?_) (fun c_6 => ?_)
  · have c_6n := Nat.not_lt.mpr c_6
    refine lv_iconst (v := 0) hx hb dX0_takesPointOn_23 (by decide) ?_
    exact rd_zret hx hb hr hlocks dX0_takesPointOn_24 (by simp [gTk, bI, c_6, c_6n])
  · have c_6n := Nat.not_le.mpr c_6
    refine lv_aload_n hx hb dX0_takesPointOn_9 rfl (lv_at hl 0 rfl) ?_
    refine lv_iload_n hx hb dX0_takesPointOn_10 rfl (lv_at hl 1 rfl) ?_
    refine lv_iload_n hx hb dX0_takesPointOn_11 rfl (lv_at hl 2 rfl) ?_
    refine rd_callV (As := [.int x, .int y]) (rest := []) ⟨hx, hb, hml, hown, hts⟩ (c_X0_pointOn l D hbd x y) (cwV 2 hts gX0_takesPointOn_X0_pointOn rfl rfl rfl (by decide +kernel) ⟨by decide, by decide⟩) hK hN hP hqb rfl rfl hl.1 rfl (Nat.le_of_ble_eq_true rfl) ⟨by decide, by decide⟩ dX0_takesPointOn_12 ?_
    refine lv_iconst (v := (-1)) hx hb dX0_takesPointOn_15 (by decide) ?_
    refine lv_icmp_ne (tgt := 23) hx hb dX0_takesPointOn_16 (by decide) (fun c_16 => ?_) (fun c_16 => ?_)
    · refine lv_iconst (v := 0) hx hb dX0_takesPointOn_23 (by decide) ?_
      exact rd_zret hx hb hr hlocks dX0_takesPointOn_24 (by simp [gTk, bI, c_6, c_6n, c_16])
    · refine lv_iconst (v := 1) hx hb dX0_takesPointOn_19 (by decide) ?_
      refine lv_goto (tgt := 24) hx hb dX0_takesPointOn_20 (by decide) ?_
      exact rd_zret hx hb hr hlocks dX0_takesPointOn_24 (by simp [gTk, bI, c_6, c_6n, c_16])
set_option maxHeartbeats 4000000 in
set_option maxRecDepth 100000 in
theorem c_X0_isOpen (l : Launch) (D : va_G) {w : va_W} {tys : List (ClassId × FieldType)} {ob n : Nat} {P : Nat → Nat → Int32} (hbd : bd_in w tys ob n P) {i : Nat} (hi : i < n) (k : Int32) : rd_M l yX0_isOpen wsX0_isOpen ({ frames := 1, cells := 0, slots := 0, locals := 23 } : Room) D w tys [.ref ob, .int (nI i), .int k] (bI (gOp n P i k)) := by
  obtain ⟨qb, qc, t0, oc, cI, f, hqb, hqc, ht0, hn8, hf⟩ := id hbd
  refine rd_of (cc := cX0_isOpen) (maxL := 10) (ret := some .boolean) (by decide) rfl (Nat.le_of_ble_eq_true rfl) ?_
  intro p e s m below meth c hx hb hr hml hts hown hlocks hP hK hN ls hl
  have hown : s.vm.findClass RX0 = some m.cls := hown
  have hl : lv_has ls 10 [(0, .ref ob), (1, .int (nI i)), (2, .int k)] := hl
  have hw11 := hts (.fieldLink RX0 11 "CornerLabels$Board" "cells" "[I") (by decide +kernel)
  have hinX0 : ∀ w ∈ u_ws RX0 TX0 2, w ∈ wsX0_isOpen := by decide +kernel
  have hw15 := hts (.fieldLink RX0 15 "CornerLabels$Board" "points" "I") (by decide +kernel)
  refine lv_aload_n hx hb dX0_isOpen_0 rfl (lv_at hl 0 rfl) ?_
  refine lv_iload_n hx hb dX0_isOpen_1 rfl (lv_at hl 1 rfl) ?_
  refine lv_iload_n hx hb dX0_isOpen_2 rfl (lv_at hl 2 rfl) ?_
  refine rd_callV (As := [.int (nI i), .int k]) (rest := []) ⟨hx, hb, hml, hown, hts⟩ (c_X0_left l D hbd hi k) (cwV 2 hts gX0_isOpen_X0_left rfl rfl rfl (by decide +kernel) ⟨by decide, by decide⟩) hK hN hP hqb rfl rfl hl.1 rfl (Nat.le_of_ble_eq_true rfl) ⟨by decide, by decide⟩ dX0_isOpen_3 ?_
  refine lv_istore_n (lv' := [(3, .int (gL P i k)), (0, .ref ob), (1, .int (nI i)), (2, .int k)]) hx hb dX0_isOpen_6 rfl hl (by decide) rfl (fun ls hl => ?_)
  refine lv_iload_n hx hb dX0_isOpen_7 rfl (lv_at hl 0 rfl) ?_
  refine lv_aload_n hx hb dX0_isOpen_8 rfl (lv_at hl 1 rfl) ?_
  refine va_get (D := D) (ci := 0) (v := .ref oc) (C := RX0) (T := TX0) (N := 2) hx hb hts hinX0 hown hK hP qb hqb rfl 0 (by decide) hw11 (fun _ h9 => h9) rfl dX0_isOpen_9 ?_
  refine lv_bipush (v := 16) hx hb dX0_isOpen_12 (by decide) ?_
  refine lv_iload_n hx hb dX0_isOpen_14 rfl (lv_at hl 2 rfl) ?_
  refine lv_iadd hx hb dX0_isOpen_15 ?_
  refine lv_asi (y := nI (16 + i)) (nI_add 16 i) ?_
  refine rd_ald (q0 := qc) (t0 := t0) (j := 16 + i) (v := P i 2) hx hb hK hP hqc ht0 (rfl) (by omega) (by decide) (by rw [show 16 + i = 8 * 2 + i by omega]; exact hf i hi 2 (by decide)) dX0_isOpen_16 ?_
  refine lv_iadd hx hb dX0_isOpen_17 ?_
  refine lv_iconst (v := 1) hx hb dX0_isOpen_18 (by decide) ?_
  refine lv_isub hx hb dX0_isOpen_19 ?_
  refine lv_istore (lv' := [(4, .int (((gL P i k) + (P i 2)) - 1)), (3, .int (gL P i k)), (0, .ref ob), (1, .int (nI i)), (2, .int k)]) hx hb dX0_isOpen_20 hl (by decide) rfl (fun ls hl => ?_)
  refine lv_aload_n hx hb dX0_isOpen_22 rfl (lv_at hl 2 rfl) ?_
  refine lv_iload_n hx hb dX0_isOpen_23 rfl (lv_at hl 3 rfl) ?_
  refine lv_iload_n hx hb dX0_isOpen_24 rfl (lv_at hl 4 rfl) ?_
  refine rd_callV (As := [.int (nI i), .int k]) (rest := []) ⟨hx, hb, hml, hown, hts⟩ (c_X0_top l D hbd hi k) (cwV 2 hts gX0_isOpen_X0_top rfl rfl rfl (by decide +kernel) ⟨by decide, by decide⟩) hK hN hP hqb rfl rfl hl.1 rfl (Nat.le_of_ble_eq_true rfl) ⟨by decide, by decide⟩ dX0_isOpen_25 ?_
  refine lv_istore (lv' := [(5, .int (gT P i k)), (4, .int (((gL P i k) + (P i 2)) - 1)), (3, .int (gL P i k)), (0, .ref ob), (1, .int (nI i)), (2, .int k)]) hx hb dX0_isOpen_28 hl (by decide) rfl (fun ls hl => ?_)
  refine lv_iload hx hb dX0_isOpen_30 (lv_at hl 0 rfl) ?_
  refine lv_aload_n hx hb dX0_isOpen_32 rfl (lv_at hl 3 rfl) ?_
  refine va_get (D := D) (ci := 0) (v := .ref oc) (C := RX0) (T := TX0) (N := 2) hx hb hts hinX0 hown hK hP qb hqb rfl 0 (by decide) hw11 (fun _ h9 => h9) rfl dX0_isOpen_33 ?_
  refine lv_bipush (v := 24) hx hb dX0_isOpen_36 (by decide) ?_
  refine lv_iload_n hx hb dX0_isOpen_38 rfl (lv_at hl 4 rfl) ?_
  refine lv_iadd hx hb dX0_isOpen_39 ?_
  refine lv_asi (y := nI (24 + i)) (nI_add 24 i) ?_
  refine rd_ald (q0 := qc) (t0 := t0) (j := 24 + i) (v := P i 3) hx hb hK hP hqc ht0 (rfl) (by omega) (by decide) (by rw [show 24 + i = 8 * 3 + i by omega]; exact hf i hi 3 (by decide)) dX0_isOpen_40 ?_
  refine lv_iadd hx hb dX0_isOpen_41 ?_
  refine lv_iconst (v := 1) hx hb dX0_isOpen_42 (by decide) ?_
  refine lv_isub hx hb dX0_isOpen_43 ?_
  refine lv_istore (lv' := [(6, .int (((gT P i k) + (P i 3)) - 1)), (5, .int (gT P i k)), (4, .int (((gL P i k) + (P i 2)) - 1)), (3, .int (gL P i k)), (0, .ref ob), (1, .int (nI i)), (2, .int k)]) hx hb dX0_isOpen_44 hl (by decide) rfl (fun ls hl => ?_)
  refine lv_iload_n hx hb dX0_isOpen_46 rfl (lv_at hl 3 rfl) ?_
  refine lv_if_lt (tgt := 69) hx hb dX0_isOpen_47 (by decide) (fun c_47 => ?_) (fun c_47 => ?_)
  · have c_47n := Int32.not_le.mpr c_47
    refine lv_iconst (v := 0) hx hb dX0_isOpen_69 (by decide) ?_
    exact rd_zret hx hb hr hlocks dX0_isOpen_70 (by simp [gOp, gOpM, bI, c_47, c_47n])
  · have c_47n := Int32.not_lt.mp c_47
    refine lv_iload hx hb dX0_isOpen_50 (lv_at hl 2 rfl) ?_
    refine lv_bipush (v := 60) hx hb dX0_isOpen_52 (by decide) ?_
    refine lv_icmp_ge (tgt := 69) hx hb dX0_isOpen_54 (by decide) (fun c_54 => ?_) (fun c_54 => ?_)
    · have c_54n := Int32.not_lt.mpr c_54
      refine lv_iconst (v := 0) hx hb dX0_isOpen_69 (by decide) ?_
      exact rd_zret hx hb hr hlocks dX0_isOpen_70 (by simp [gOp, gOpM, bI, c_47, c_47n, c_54, c_54n])
    · have c_54n := Int32.not_le.mp c_54
      refine lv_iload hx hb dX0_isOpen_57 (lv_at hl 1 rfl) ?_
      refine lv_if_lt (tgt := 69) hx hb dX0_isOpen_59 (by decide) (fun c_59 => ?_) (fun c_59 => ?_)
      · have c_59n := Int32.not_le.mpr c_59
        refine lv_iconst (v := 0) hx hb dX0_isOpen_69 (by decide) ?_
        exact rd_zret hx hb hr hlocks dX0_isOpen_70 (by simp [gOp, gOpM, bI, c_47, c_47n, c_54, c_54n, c_59, c_59n])
      · have c_59n := Int32.not_lt.mp c_59
        refine lv_iload hx hb dX0_isOpen_62 (lv_at hl 0 rfl) ?_
        refine lv_bipush (v := 40) hx hb dX0_isOpen_64 (by decide) ?_
        refine lv_icmp_lt (tgt := 71) hx hb dX0_isOpen_66 (by decide) (fun c_66 => ?_) (fun c_66 => ?_)
        · have c_66n := Int32.not_le.mpr c_66
          refine lv_iconst (v := 0) hx hb dX0_isOpen_71 (by decide) ?_
          refine lv_istore (lv' := [(7, .int 0), (6, .int (((gT P i k) + (P i 3)) - 1)), (5, .int (gT P i k)), (4, .int (((gL P i k) + (P i 2)) - 1)), (3, .int (gL P i k)), (0, .ref ob), (1, .int (nI i)), (2, .int k)]) hx hb dX0_isOpen_72 hl (by decide) rfl (fun ls hl => ?_)
          suffices loop74 : ∀ (k74 j : Nat) (ls : Array Slot), j ≤ n → n + 1 ≤ j + k74 → (gOp n P i k = !gE n (gHit P i k) j) → lv_has ls 10 [(0, .ref ob), (1, .int (nI i)), (2, .int k), (3, .int (gL P i k)), (4, .int (((gL P i k) + (P i 2)) - 1)), (5, .int (gT P i k)), (6, .int (((gT P i k) + (P i 3)) - 1)), (7, .int (nI j))] → rd_W p l e wsX0_isOpen ({ frames := 1, cells := 0, slots := 0, locals := 23 } : Room) s m [.ref ob, .int (nI i), .int k] below meth c (bI (gOp n P i k)) (F0 m 74 ls []) from
            loop74 (n + 1) 0 ls (by omega) (by omega) (by simp [gOp, gOpM, c_47, c_47n, c_54, c_54n, c_59, c_59n, c_66, c_66n]) (lv_sub hl [5, 6, 7, 4, 3, 2, 1, 0] rfl)
          intro k74
          induction k74 with
          | zero => intro j ls h1 h2; exact absurd h2 (by omega)
          | succ k74 ih74 =>
            intro j ls hle74 hlt74 inv74 hl
            refine lv_iload hx hb dX0_isOpen_74 (lv_at hl 7 rfl) ?_
            refine lv_aload_n hx hb dX0_isOpen_76 rfl (lv_at hl 0 rfl) ?_
            refine va_get (D := D) (ci := 0) (v := .int (nI n)) (C := RX0) (T := TX0) (N := 2) hx hb hts hinX0 hown hK hP qb hqb rfl 1 (by decide) hw15 (fun _ h9 => h9) rfl dX0_isOpen_77 ?_
            refine rd_icmp_ge_n (a := j) (b := n) (tgt := 141) (by omega) (by omega) hx hb dX0_isOpen_80 (by decide) (fun c_80 => ?_) (fun c_80 => ?_)
            · have c_80n := Nat.not_lt.mpr c_80
              refine lv_iconst (v := 1) hx hb dX0_isOpen_141 (by decide) ?_
              exact rd_zret hx hb hr hlocks dX0_isOpen_142 (by rw [inv74, gE_end c_80]; rfl)
            · have c_80n := Nat.not_le.mpr c_80
              refine lv_aload_n hx hb dX0_isOpen_83 rfl (lv_at hl 0 rfl) ?_
              refine va_get (D := D) (ci := 0) (v := .ref oc) (C := RX0) (T := TX0) (N := 2) hx hb hts hinX0 hown hK hP qb hqb rfl 0 (by decide) hw11 (fun _ h9 => h9) rfl dX0_isOpen_84 ?_
              refine lv_iconst (v := 0) hx hb dX0_isOpen_87 (by decide) ?_
              refine lv_iload hx hb dX0_isOpen_88 (lv_at hl 7 rfl) ?_
              refine lv_iadd hx hb dX0_isOpen_90 ?_
              refine lv_asi (y := nI (0 + j)) (nI_add 0 j) ?_
              refine rd_ald (q0 := qc) (t0 := t0) (j := 0 + j) (v := P j 0) hx hb hK hP hqc ht0 (rfl) (by omega) (by decide) (by rw [show 0 + j = 8 * 0 + j by omega]; exact hf j c_80 0 (by decide)) dX0_isOpen_91 ?_
              refine lv_istore (lv' := [(8, .int (P j 0)), (0, .ref ob), (1, .int (nI i)), (2, .int k), (3, .int (gL P i k)), (4, .int (((gL P i k) + (P i 2)) - 1)), (5, .int (gT P i k)), (6, .int (((gT P i k) + (P i 3)) - 1)), (7, .int (nI j))]) hx hb dX0_isOpen_92 hl (by decide) rfl (fun ls hl => ?_)
              refine lv_aload_n hx hb dX0_isOpen_94 rfl (lv_at hl 1 rfl) ?_
              refine va_get (D := D) (ci := 0) (v := .ref oc) (C := RX0) (T := TX0) (N := 2) hx hb hts hinX0 hown hK hP qb hqb rfl 0 (by decide) hw11 (fun _ h9 => h9) rfl dX0_isOpen_95 ?_
              refine lv_bipush (v := 8) hx hb dX0_isOpen_98 (by decide) ?_
              refine lv_iload hx hb dX0_isOpen_100 (lv_at hl 8 rfl) ?_
              refine lv_iadd hx hb dX0_isOpen_102 ?_
              refine lv_asi (y := nI (8 + j)) (nI_add 8 j) ?_
              refine rd_ald (q0 := qc) (t0 := t0) (j := 8 + j) (v := P j 1) hx hb hK hP hqc ht0 (rfl) (by omega) (by decide) (by rw [show 8 + j = 8 * 1 + j by omega]; exact hf j c_80 1 (by decide)) dX0_isOpen_103 ?_
              refine lv_istore (lv' := [(9, .int (P j 1)), (8, .int (P j 0)), (0, .ref ob), (1, .int (nI i)), (2, .int k), (3, .int (gL P i k)), (4, .int (((gL P i k) + (P i 2)) - 1)), (5, .int (gT P i k)), (6, .int (((gT P i k) + (P i 3)) - 1)), (7, .int (nI j))]) hx hb dX0_isOpen_104 hl (by decide) rfl (fun ls hl => ?_)
              refine lv_iload hx hb dX0_isOpen_106 (lv_at hl 1 rfl) ?_
              refine lv_iload_n hx hb dX0_isOpen_108 rfl (lv_at hl 5 rfl) ?_
              refine lv_icmp_lt (tgt := 135) hx hb dX0_isOpen_109 (by decide) (fun c_109 => ?_) (fun c_109 => ?_)
              · have c_109n := Int32.not_le.mpr c_109
                refine lv_iinc (v := nI (j + 1)) (lv' := [(7, .int (nI (j + 1))), (9, .int (P j 1)), (8, .int (P j 0)), (0, .ref ob), (1, .int (nI i)), (2, .int k), (3, .int (gL P i k)), (4, .int (((gL P i k) + (P i 2)) - 1)), (5, .int (gT P i k)), (6, .int (((gT P i k) + (P i 3)) - 1))]) hx hb dX0_isOpen_135 hl (k := 9) rfl (nI_add j 1) (by decide) rfl (fun ls hl => ?_)
                refine lv_goto (tgt := 74) hx hb dX0_isOpen_138 (by decide) ?_
                exact ih74 (j + 1) ls (by omega) (by omega) (by rw [inv74, gE_step c_80]; simp [gHit, bI, c_47, c_47n, c_54, c_54n, c_59, c_59n, c_66, c_66n, c_80n, c_109, c_109n]) (lv_sub hl [3, 4, 5, 6, 7, 8, 9, 0] rfl)
              · have c_109n := Int32.not_lt.mp c_109
                refine lv_iload hx hb dX0_isOpen_112 (lv_at hl 1 rfl) ?_
                refine lv_iload hx hb dX0_isOpen_114 (lv_at hl 6 rfl) ?_
                refine lv_icmp_gt (tgt := 135) hx hb dX0_isOpen_116 (by decide) (fun c_116 => ?_) (fun c_116 => ?_)
                · have c_116n := Int32.not_le.mpr c_116
                  refine lv_iinc (v := nI (j + 1)) (lv' := [(7, .int (nI (j + 1))), (9, .int (P j 1)), (8, .int (P j 0)), (0, .ref ob), (1, .int (nI i)), (2, .int k), (3, .int (gL P i k)), (4, .int (((gL P i k) + (P i 2)) - 1)), (5, .int (gT P i k)), (6, .int (((gT P i k) + (P i 3)) - 1))]) hx hb dX0_isOpen_135 hl (k := 9) rfl (nI_add j 1) (by decide) rfl (fun ls hl => ?_)
                  refine lv_goto (tgt := 74) hx hb dX0_isOpen_138 (by decide) ?_
                  exact ih74 (j + 1) ls (by omega) (by omega) (by rw [inv74, gE_step c_80]; simp [gHit, bI, c_47, c_47n, c_54, c_54n, c_59, c_59n, c_66, c_66n, c_80n, c_109, c_109n, c_116, c_116n]) (lv_sub hl [3, 4, 5, 6, 7, 8, 9, 0] rfl)
                · have c_116n := Int32.not_lt.mp c_116
                  refine lv_iload hx hb dX0_isOpen_119 (lv_at hl 0 rfl) ?_
                  refine lv_iload hx hb dX0_isOpen_121 (lv_at hl 7 rfl) ?_
                  refine lv_icmp_lt (tgt := 135) hx hb dX0_isOpen_123 (by decide) (fun c_123 => ?_) (fun c_123 => ?_)
                  · have c_123n := Int32.not_le.mpr c_123
                    refine lv_iinc (v := nI (j + 1)) (lv' := [(7, .int (nI (j + 1))), (9, .int (P j 1)), (8, .int (P j 0)), (0, .ref ob), (1, .int (nI i)), (2, .int k), (3, .int (gL P i k)), (4, .int (((gL P i k) + (P i 2)) - 1)), (5, .int (gT P i k)), (6, .int (((gT P i k) + (P i 3)) - 1))]) hx hb dX0_isOpen_135 hl (k := 9) rfl (nI_add j 1) (by decide) rfl (fun ls hl => ?_)
                    refine lv_goto (tgt := 74) hx hb dX0_isOpen_138 (by decide) ?_
                    exact ih74 (j + 1) ls (by omega) (by omega) (by rw [inv74, gE_step c_80]; simp [gHit, bI, c_47, c_47n, c_54, c_54n, c_59, c_59n, c_66, c_66n, c_80n, c_109, c_109n, c_116, c_116n, c_123, c_123n]) (lv_sub hl [3, 4, 5, 6, 7, 8, 9, 0] rfl)
                  · have c_123n := Int32.not_lt.mp c_123
                    refine lv_iload hx hb dX0_isOpen_126 (lv_at hl 0 rfl) ?_
                    refine lv_iload hx hb dX0_isOpen_128 (lv_at hl 8 rfl) ?_
                    refine lv_icmp_gt (tgt := 135) hx hb dX0_isOpen_130 (by decide) (fun c_130 => ?_) (fun c_130 => ?_)
                    · have c_130n := Int32.not_le.mpr c_130
                      refine lv_iinc (v := nI (j + 1)) (lv' := [(7, .int (nI (j + 1))), (9, .int (P j 1)), (8, .int (P j 0)), (0, .ref ob), (1, .int (nI i)), (2, .int k), (3, .int (gL P i k)), (4, .int (((gL P i k) + (P i 2)) - 1)), (5, .int (gT P i k)), (6, .int (((gT P i k) + (P i 3)) - 1))]) hx hb dX0_isOpen_135 hl (k := 9) rfl (nI_add j 1) (by decide) rfl (fun ls hl => ?_)
                      refine lv_goto (tgt := 74) hx hb dX0_isOpen_138 (by decide) ?_
                      exact ih74 (j + 1) ls (by omega) (by omega) (by rw [inv74, gE_step c_80]; simp [gHit, bI, c_47, c_47n, c_54, c_54n, c_59, c_59n, c_66, c_66n, c_80n, c_109, c_109n, c_116, c_116n, c_123, c_123n, c_130, c_130n]) (lv_sub hl [3, 4, 5, 6, 7, 8, 9, 0] rfl)
                    · have c_130n := Int32.not_lt.mp c_130
                      refine lv_iconst (v := 0) hx hb dX0_isOpen_133 (by decide) ?_
                      exact rd_zret hx hb hr hlocks dX0_isOpen_134 (by rw [inv74, gE_step c_80]; simp [gHit, bI, c_47, c_47n, c_54, c_54n, c_59, c_59n, c_66, c_66n, c_80n, c_109, c_109n, c_116, c_116n, c_123, c_123n, c_130, c_130n])
        · have c_66n := Int32.not_lt.mp c_66
          refine lv_iconst (v := 0) hx hb dX0_isOpen_69 (by decide) ?_
          exact rd_zret hx hb hr hlocks dX0_isOpen_70 (by simp [gOp, gOpM, bI, c_47, c_47n, c_54, c_54n, c_59, c_59n, c_66, c_66n])
set_option maxHeartbeats 4000000 in
set_option maxRecDepth 100000 in
theorem c_X0_openMask (l : Launch) (D : va_G) {w : va_W} {tys : List (ClassId × FieldType)} {ob n : Nat} {P : Nat → Nat → Int32} (hbd : bd_in w tys ob n P) {i : Nat} (hi : i < n) : rd_M l yX0_openMask wsX0_openMask ({ frames := 2, cells := 0, slots := 0, locals := 52 } : Room) D w tys [.ref ob, .int (nI i)] (gMk n P i) := by
  obtain ⟨qb, qc, t0, oc, cI, f, hqb, hqc, ht0, hn8, hf⟩ := id hbd
  refine rd_of (cc := cX0_openMask) (maxL := 4) (ret := some .int) (by decide) rfl (Nat.le_of_ble_eq_true rfl) ?_
  intro p e s m below meth c hx hb hr hml hts hown hlocks hP hK hN ls hl
  have hown : s.vm.findClass RX0 = some m.cls := hown
  have hl : lv_has ls 4 [(0, .ref ob), (1, .int (nI i))] := hl
  refine lv_iconst (v := 0) hx hb dX0_openMask_0 (by decide) ?_
  refine lv_istore_n (lv' := [(2, .int 0), (0, .ref ob), (1, .int (nI i))]) hx hb dX0_openMask_1 rfl hl (by decide) rfl (fun ls hl => ?_)
  refine lv_iconst (v := 0) hx hb dX0_openMask_2 (by decide) ?_
  refine lv_istore_n (lv' := [(3, .int 0), (2, .int 0), (0, .ref ob), (1, .int (nI i))]) hx hb dX0_openMask_3 rfl hl (by decide) rfl (fun ls hl => ?_)
  suffices loop4 : ∀ (k4 k : Nat) (a : Int32) (ls : Array Slot), k ≤ 4 → 4 + 1 ≤ k + k4 → (gMk n P i = gF 4 (gMkF n P i) k a) → lv_has ls 4 [(0, .ref ob), (1, .int (nI i)), (2, .int a), (3, .int (nI k))] → rd_W p l e wsX0_openMask ({ frames := 2, cells := 0, slots := 0, locals := 52 } : Room) s m [.ref ob, .int (nI i)] below meth c (gMk n P i) (F0 m 4 ls []) from
    loop4 (4 + 1) 0 0 ls (by omega) (by omega) (by rfl) (lv_sub hl [2, 3, 1, 0] rfl)
  intro k4
  induction k4 with
  | zero => intro k a ls h1 h2; exact absurd h2 (by omega)
  | succ k4 ih4 =>
    intro k a ls hle4 hlt4 inv4 hl
    refine lv_iload_n hx hb dX0_openMask_4 rfl (lv_at hl 3 rfl) ?_
    refine lv_iconst (v := 4) hx hb dX0_openMask_5 (by decide) ?_
    refine rd_icmp_ge_n (a := k) (b := 4) (tgt := 30) (by omega) (by omega) hx hb dX0_openMask_6 (by decide) (fun c_6 => ?_) (fun c_6 => ?_)
    · have c_6n := Nat.not_lt.mpr c_6
      refine lv_iload_n hx hb dX0_openMask_30 rfl (lv_at hl 2 rfl) ?_
      exact rd_iret hx hb hr hlocks dX0_openMask_31 (by rw [inv4, gF_end c_6])
    · have c_6n := Nat.not_le.mpr c_6
      refine lv_aload_n hx hb dX0_openMask_9 rfl (lv_at hl 0 rfl) ?_
      refine lv_iload_n hx hb dX0_openMask_10 rfl (lv_at hl 1 rfl) ?_
      refine lv_iload_n hx hb dX0_openMask_11 rfl (lv_at hl 3 rfl) ?_
      refine rd_callV (As := [.int (nI i), .int (nI k)]) (rest := []) ⟨hx, hb, hml, hown, hts⟩ (c_X0_isOpen l D hbd hi (nI k)) (cwV 2 hts gX0_openMask_X0_isOpen rfl rfl rfl (by decide +kernel) ⟨by decide, by decide⟩) hK hN hP hqb rfl rfl hl.1 rfl (Nat.le_of_ble_eq_true rfl) ⟨by decide, by decide⟩ dX0_openMask_12 ?_
      refine rd_ifeq_b (tgt := 24) hx hb dX0_openMask_15 (by decide) (fun c_15 => ?_) (fun c_15 => ?_)
      · refine lv_iinc (v := nI (k + 1)) (lv' := [(3, .int (nI (k + 1))), (0, .ref ob), (1, .int (nI i)), (2, .int a)]) hx hb dX0_openMask_24 hl (k := 3) rfl (nI_add k 1) (by decide) rfl (fun ls hl => ?_)
        refine lv_goto (tgt := 4) hx hb dX0_openMask_27 (by decide) ?_
        exact ih4 (k + 1) a ls (by omega) (by omega) (by rw [inv4, gF_step c_6]; simp [gMkF, gBit, bI, c_6n, c_15]) (lv_sub hl [1, 2, 3, 0] rfl)
      · refine lv_iload_n hx hb dX0_openMask_18 rfl (lv_at hl 2 rfl) ?_
        refine lv_iconst (v := 1) hx hb dX0_openMask_19 (by decide) ?_
        refine lv_iload_n hx hb dX0_openMask_20 rfl (lv_at hl 3 rfl) ?_
        refine lv_ishl hx hb dX0_openMask_21 ?_
        refine lv_ior hx hb dX0_openMask_22 ?_
        refine lv_istore_n (lv' := [(2, .int (a ||| (1 <<< (nI k &&& 31)))), (0, .ref ob), (1, .int (nI i)), (3, .int (nI k))]) hx hb dX0_openMask_23 rfl hl (by decide) rfl (fun ls hl => ?_)
        refine lv_iinc (v := nI (k + 1)) (lv' := [(3, .int (nI (k + 1))), (2, .int (a ||| (1 <<< (nI k &&& 31)))), (0, .ref ob), (1, .int (nI i))]) hx hb dX0_openMask_24 hl (k := 3) rfl (nI_add k 1) (by decide) rfl (fun ls hl => ?_)
        refine lv_goto (tgt := 4) hx hb dX0_openMask_27 (by decide) ?_
        exact ih4 (k + 1) (a ||| (1 <<< (nI k &&& 31))) ls (by omega) (by omega) (by rw [inv4, gF_step c_6]; simp [gMkF, gBit, bI, c_6n, c_15]) (lv_sub hl [2, 3, 1, 0] rfl)
set_option maxHeartbeats 4000000 in
set_option maxRecDepth 100000 in
theorem c_X0_sharedSquares (l : Launch) (D : va_G) {w : va_W} {tys : List (ClassId × FieldType)} {ob n : Nat} {P : Nat → Nat → Int32} (hbd : bd_in w tys ob n P) {i : Nat} (hi : i < n) (k : Int32) {j : Nat} (hj : j < n) (d : Int32) : rd_M l yX0_sharedSquares wsX0_sharedSquares ({ frames := 2, cells := 0, slots := 0, locals := 46 } : Room) D w tys [.ref ob, .int (nI i), .int k, .int (nI j), .int d] (gSh P i k j d) := by
  obtain ⟨qb, qc, t0, oc, cI, f, hqb, hqc, ht0, hn8, hf⟩ := id hbd
  refine rd_of (cc := cX0_sharedSquares) (maxL := 7) (ret := some .int) (by decide) rfl (Nat.le_of_ble_eq_true rfl) ?_
  intro p e s m below meth c hx hb hr hml hts hown hlocks hP hK hN ls hl
  have hown : s.vm.findClass RX0 = some m.cls := hown
  have hl : lv_has ls 7 [(0, .ref ob), (1, .int (nI i)), (2, .int k), (3, .int (nI j)), (4, .int d)] := hl
  have hw11 := hts (.fieldLink RX0 11 "CornerLabels$Board" "cells" "[I") (by decide +kernel)
  have hinX0 : ∀ w ∈ u_ws RX0 TX0 2, w ∈ wsX0_sharedSquares := by decide +kernel
  refine lv_aload_n hx hb dX0_sharedSquares_0 rfl (lv_at hl 0 rfl) ?_
  refine lv_iload_n hx hb dX0_sharedSquares_1 rfl (lv_at hl 1 rfl) ?_
  refine lv_iload_n hx hb dX0_sharedSquares_2 rfl (lv_at hl 2 rfl) ?_
  refine rd_callV (As := [.int (nI i), .int k]) (rest := []) ⟨hx, hb, hml, hown, hts⟩ (c_X0_left l D hbd hi k) (cwV 2 hts gX0_sharedSquares_X0_left rfl rfl rfl (by decide +kernel) ⟨by decide, by decide⟩) hK hN hP hqb rfl rfl hl.1 rfl (Nat.le_of_ble_eq_true rfl) ⟨by decide, by decide⟩ dX0_sharedSquares_3 ?_
  refine lv_aload_n hx hb dX0_sharedSquares_6 rfl (lv_at hl 0 rfl) ?_
  refine va_get (D := D) (ci := 0) (v := .ref oc) (C := RX0) (T := TX0) (N := 2) hx hb hts hinX0 hown hK hP qb hqb rfl 0 (by decide) hw11 (fun _ h9 => h9) rfl dX0_sharedSquares_7 ?_
  refine lv_bipush (v := 16) hx hb dX0_sharedSquares_10 (by decide) ?_
  refine lv_iload_n hx hb dX0_sharedSquares_12 rfl (lv_at hl 1 rfl) ?_
  refine lv_iadd hx hb dX0_sharedSquares_13 ?_
  refine lv_asi (y := nI (16 + i)) (nI_add 16 i) ?_
  refine rd_ald (q0 := qc) (t0 := t0) (j := 16 + i) (v := P i 2) hx hb hK hP hqc ht0 (rfl) (by omega) (by decide) (by rw [show 16 + i = 8 * 2 + i by omega]; exact hf i hi 2 (by decide)) dX0_sharedSquares_14 ?_
  refine lv_aload_n hx hb dX0_sharedSquares_15 rfl (lv_at hl 0 rfl) ?_
  refine lv_iload_n hx hb dX0_sharedSquares_16 rfl (lv_at hl 3 rfl) ?_
  refine lv_iload hx hb dX0_sharedSquares_17 (lv_at hl 4 rfl) ?_
  refine rd_callV (As := [.int (nI j), .int d]) (rest := [.int (P i 2), .int (gL P i k)]) ⟨hx, hb, hml, hown, hts⟩ (c_X0_left l D hbd hj d) (cwV 2 hts gX0_sharedSquares_X0_left rfl rfl rfl (by decide +kernel) ⟨by decide, by decide⟩) hK hN hP hqb rfl rfl hl.1 rfl (Nat.le_of_ble_eq_true rfl) ⟨by decide, by decide⟩ dX0_sharedSquares_19 ?_
  refine lv_aload_n hx hb dX0_sharedSquares_22 rfl (lv_at hl 0 rfl) ?_
  refine va_get (D := D) (ci := 0) (v := .ref oc) (C := RX0) (T := TX0) (N := 2) hx hb hts hinX0 hown hK hP qb hqb rfl 0 (by decide) hw11 (fun _ h9 => h9) rfl dX0_sharedSquares_23 ?_
  refine lv_bipush (v := 16) hx hb dX0_sharedSquares_26 (by decide) ?_
  refine lv_iload_n hx hb dX0_sharedSquares_28 rfl (lv_at hl 3 rfl) ?_
  refine lv_iadd hx hb dX0_sharedSquares_29 ?_
  refine lv_asi (y := nI (16 + j)) (nI_add 16 j) ?_
  refine rd_ald (q0 := qc) (t0 := t0) (j := 16 + j) (v := P j 2) hx hb hK hP hqc ht0 (rfl) (by omega) (by decide) (by rw [show 16 + j = 8 * 2 + j by omega]; exact hf j hj 2 (by decide)) dX0_sharedSquares_30 ?_
  refine rd_callS (As := [.int (gL P i k), .int (P i 2), .int (gL P j d), .int (P j 2)]) (rest := []) ⟨hx, hb, hml, hown, hts⟩ (c_X0_sharedLength l D (gL P i k) (P i 2) (gL P j d) (P j 2)) (va_cwS 4 hts gX0_sharedSquares_X0_sharedLength rfl rfl rfl (by decide +kernel) ⟨by decide, by decide⟩) hK hN hP rfl hl.1 rfl (Nat.le_of_ble_eq_true rfl) ⟨by decide, by decide⟩ dX0_sharedSquares_31 ?_
  refine lv_istore (lv' := [(5, .int (gLen (gL P i k) (P i 2) (gL P j d) (P j 2))), (0, .ref ob), (1, .int (nI i)), (2, .int k), (3, .int (nI j)), (4, .int d)]) hx hb dX0_sharedSquares_34 hl (by decide) rfl (fun ls hl => ?_)
  refine lv_aload_n hx hb dX0_sharedSquares_36 rfl (lv_at hl 1 rfl) ?_
  refine lv_iload_n hx hb dX0_sharedSquares_37 rfl (lv_at hl 2 rfl) ?_
  refine lv_iload_n hx hb dX0_sharedSquares_38 rfl (lv_at hl 3 rfl) ?_
  refine rd_callV (As := [.int (nI i), .int k]) (rest := []) ⟨hx, hb, hml, hown, hts⟩ (c_X0_top l D hbd hi k) (cwV 2 hts gX0_sharedSquares_X0_top rfl rfl rfl (by decide +kernel) ⟨by decide, by decide⟩) hK hN hP hqb rfl rfl hl.1 rfl (Nat.le_of_ble_eq_true rfl) ⟨by decide, by decide⟩ dX0_sharedSquares_39 ?_
  refine lv_aload_n hx hb dX0_sharedSquares_42 rfl (lv_at hl 1 rfl) ?_
  refine va_get (D := D) (ci := 0) (v := .ref oc) (C := RX0) (T := TX0) (N := 2) hx hb hts hinX0 hown hK hP qb hqb rfl 0 (by decide) hw11 (fun _ h9 => h9) rfl dX0_sharedSquares_43 ?_
  refine lv_bipush (v := 24) hx hb dX0_sharedSquares_46 (by decide) ?_
  refine lv_iload_n hx hb dX0_sharedSquares_48 rfl (lv_at hl 2 rfl) ?_
  refine lv_iadd hx hb dX0_sharedSquares_49 ?_
  refine lv_asi (y := nI (24 + i)) (nI_add 24 i) ?_
  refine rd_ald (q0 := qc) (t0 := t0) (j := 24 + i) (v := P i 3) hx hb hK hP hqc ht0 (rfl) (by omega) (by decide) (by rw [show 24 + i = 8 * 3 + i by omega]; exact hf i hi 3 (by decide)) dX0_sharedSquares_50 ?_
  refine lv_aload_n hx hb dX0_sharedSquares_51 rfl (lv_at hl 1 rfl) ?_
  refine lv_iload_n hx hb dX0_sharedSquares_52 rfl (lv_at hl 4 rfl) ?_
  refine lv_iload hx hb dX0_sharedSquares_53 (lv_at hl 5 rfl) ?_
  refine rd_callV (As := [.int (nI j), .int d]) (rest := [.int (P i 3), .int (gT P i k)]) ⟨hx, hb, hml, hown, hts⟩ (c_X0_top l D hbd hj d) (cwV 2 hts gX0_sharedSquares_X0_top rfl rfl rfl (by decide +kernel) ⟨by decide, by decide⟩) hK hN hP hqb rfl rfl hl.1 rfl (Nat.le_of_ble_eq_true rfl) ⟨by decide, by decide⟩ dX0_sharedSquares_55 ?_
  refine lv_aload_n hx hb dX0_sharedSquares_58 rfl (lv_at hl 1 rfl) ?_
  refine va_get (D := D) (ci := 0) (v := .ref oc) (C := RX0) (T := TX0) (N := 2) hx hb hts hinX0 hown hK hP qb hqb rfl 0 (by decide) hw11 (fun _ h9 => h9) rfl dX0_sharedSquares_59 ?_
  refine lv_bipush (v := 24) hx hb dX0_sharedSquares_62 (by decide) ?_
  refine lv_iload_n hx hb dX0_sharedSquares_64 rfl (lv_at hl 4 rfl) ?_
  refine lv_iadd hx hb dX0_sharedSquares_65 ?_
  refine lv_asi (y := nI (24 + j)) (nI_add 24 j) ?_
  refine rd_ald (q0 := qc) (t0 := t0) (j := 24 + j) (v := P j 3) hx hb hK hP hqc ht0 (rfl) (by omega) (by decide) (by rw [show 24 + j = 8 * 3 + j by omega]; exact hf j hj 3 (by decide)) dX0_sharedSquares_66 ?_
  refine rd_callS (As := [.int (gT P i k), .int (P i 3), .int (gT P j d), .int (P j 3)]) (rest := []) ⟨hx, hb, hml, hown, hts⟩ (c_X0_sharedLength l D (gT P i k) (P i 3) (gT P j d) (P j 3)) (va_cwS 4 hts gX0_sharedSquares_X0_sharedLength rfl rfl rfl (by decide +kernel) ⟨by decide, by decide⟩) hK hN hP rfl hl.1 rfl (Nat.le_of_ble_eq_true rfl) ⟨by decide, by decide⟩ dX0_sharedSquares_67 ?_
  refine lv_istore (lv' := [(6, .int (gLen (gT P i k) (P i 3) (gT P j d) (P j 3))), (5, .int (gLen (gL P i k) (P i 2) (gL P j d) (P j 2))), (0, .ref ob), (1, .int (nI i)), (2, .int k), (3, .int (nI j)), (4, .int d)]) hx hb dX0_sharedSquares_70 hl (by decide) rfl (fun ls hl => ?_)
  refine lv_iload hx hb dX0_sharedSquares_72 (lv_at hl 1 rfl) ?_
  refine lv_iload hx hb dX0_sharedSquares_74 (lv_at hl 0 rfl) ?_
  refine lv_imul hx hb dX0_sharedSquares_76 ?_
  exact rd_iret hx hb hr hlocks dX0_sharedSquares_77 (by rfl)
set_option maxHeartbeats 4000000 in
set_option maxRecDepth 100000 in
theorem c_X0_clashesWithStanding (l : Launch) (D : va_G) {w : va_W} {tys : List (ClassId × FieldType)} {ob n : Nat} {P : Nat → Nat → Int32} (hbd : bd_in w tys ob n P) {i : Nat} (hi : i < n) (k : Int32) : rd_M l yX0_clashesWithStanding wsX0_clashesWithStanding ({ frames := 3, cells := 0, slots := 0, locals := 72 } : Room) D w tys [.ref ob, .int (nI i), .int k] (bI (gCl n P i k)) := by
  obtain ⟨qb, qc, t0, oc, cI, f, hqb, hqc, ht0, hn8, hf⟩ := id hbd
  refine rd_of (cc := cX0_clashesWithStanding) (maxL := 4) (ret := some .boolean) (by decide) rfl (Nat.le_of_ble_eq_true rfl) ?_
  intro p e s m below meth c hx hb hr hml hts hown hlocks hP hK hN ls hl
  have hown : s.vm.findClass RX0 = some m.cls := hown
  have hl : lv_has ls 4 [(0, .ref ob), (1, .int (nI i)), (2, .int k)] := hl
  have hw15 := hts (.fieldLink RX0 15 "CornerLabels$Board" "points" "I") (by decide +kernel)
  have hinX0 : ∀ w ∈ u_ws RX0 TX0 2, w ∈ wsX0_clashesWithStanding := by decide +kernel
  have hw11 := hts (.fieldLink RX0 11 "CornerLabels$Board" "cells" "[I") (by decide +kernel)
  refine lv_iconst (v := 0) hx hb dX0_clashesWithStanding_0 (by decide) ?_
  refine lv_istore_n (lv' := [(3, .int 0), (0, .ref ob), (1, .int (nI i)), (2, .int k)]) hx hb dX0_clashesWithStanding_1 rfl hl (by decide) rfl (fun ls hl => ?_)
  suffices loop2 : ∀ (k2 j : Nat) (ls : Array Slot), j ≤ n → n + 1 ≤ j + k2 → (gCl n P i k = gE n (gClB P i k) j) → lv_has ls 4 [(0, .ref ob), (1, .int (nI i)), (2, .int k), (3, .int (nI j))] → rd_W p l e wsX0_clashesWithStanding ({ frames := 3, cells := 0, slots := 0, locals := 72 } : Room) s m [.ref ob, .int (nI i), .int k] below meth c (bI (gCl n P i k)) (F0 m 2 ls []) from
    loop2 (n + 1) 0 ls (by omega) (by omega) (by rfl) (lv_sub hl [1, 2, 3, 0] rfl)
  intro k2
  induction k2 with
  | zero => intro j ls h1 h2; exact absurd h2 (by omega)
  | succ k2 ih2 =>
    intro j ls hle2 hlt2 inv2 hl
    refine lv_iload_n hx hb dX0_clashesWithStanding_2 rfl (lv_at hl 3 rfl) ?_
    refine lv_aload_n hx hb dX0_clashesWithStanding_3 rfl (lv_at hl 0 rfl) ?_
    refine va_get (D := D) (ci := 0) (v := .int (nI n)) (C := RX0) (T := TX0) (N := 2) hx hb hts hinX0 hown hK hP qb hqb rfl 1 (by decide) hw15 (fun _ h9 => h9) rfl dX0_clashesWithStanding_4 ?_
    refine rd_icmp_ge_n (a := j) (b := n) (tgt := 50) (by omega) (by omega) hx hb dX0_clashesWithStanding_7 (by decide) (fun c_7 => ?_) (fun c_7 => ?_)
    · have c_7n := Nat.not_lt.mpr c_7
      refine lv_iconst (v := 0) hx hb dX0_clashesWithStanding_50 (by decide) ?_
      exact rd_zret hx hb hr hlocks dX0_clashesWithStanding_51 (by rw [inv2, gE_end c_7]; rfl)
    · have c_7n := Nat.not_le.mpr c_7
      refine lv_iload_n hx hb dX0_clashesWithStanding_10 rfl (lv_at hl 3 rfl) ?_
      refine lv_iload_n hx hb dX0_clashesWithStanding_11 rfl (lv_at hl 1 rfl) ?_
      refine rd_icmp_eq_n (a := j) (b := i) (tgt := 44) (by omega) (by omega) hx hb dX0_clashesWithStanding_12 (by decide) (fun c_12 => ?_) (fun c_12 => ?_)
      · refine lv_iinc (v := nI (j + 1)) (lv' := [(3, .int (nI (j + 1))), (0, .ref ob), (1, .int (nI i)), (2, .int k)]) hx hb dX0_clashesWithStanding_44 hl (k := 3) rfl (nI_add j 1) (by decide) rfl (fun ls hl => ?_)
        refine lv_goto (tgt := 2) hx hb dX0_clashesWithStanding_47 (by decide) ?_
        exact ih2 (j + 1) ls (by omega) (by omega) (by rw [inv2, gE_step c_7]; simp [gClB, bI, c_7n, c_12]) (lv_sub hl [1, 2, 3, 0] rfl)
      · refine lv_aload_n hx hb dX0_clashesWithStanding_15 rfl (lv_at hl 0 rfl) ?_
        refine lv_iload_n hx hb dX0_clashesWithStanding_16 rfl (lv_at hl 3 rfl) ?_
        refine rd_callV (As := [.int (nI j)]) (rest := []) ⟨hx, hb, hml, hown, hts⟩ (c_X0_stands l D hbd c_7) (cwV 1 hts gX0_clashesWithStanding_X0_stands rfl rfl rfl (by decide +kernel) ⟨by decide, by decide⟩) hK hN hP hqb rfl rfl hl.1 rfl (Nat.le_of_ble_eq_true rfl) ⟨by decide, by decide⟩ dX0_clashesWithStanding_17 ?_
        refine rd_ifeq_b (tgt := 44) hx hb dX0_clashesWithStanding_20 (by decide) (fun c_20 => ?_) (fun c_20 => ?_)
        · refine lv_iinc (v := nI (j + 1)) (lv' := [(3, .int (nI (j + 1))), (0, .ref ob), (1, .int (nI i)), (2, .int k)]) hx hb dX0_clashesWithStanding_44 hl (k := 3) rfl (nI_add j 1) (by decide) rfl (fun ls hl => ?_)
          refine lv_goto (tgt := 2) hx hb dX0_clashesWithStanding_47 (by decide) ?_
          exact ih2 (j + 1) ls (by omega) (by omega) (by rw [inv2, gE_step c_7]; simp [gClB, bI, c_7n, c_12, c_20]) (lv_sub hl [1, 2, 3, 0] rfl)
        · refine lv_aload_n hx hb dX0_clashesWithStanding_23 rfl (lv_at hl 0 rfl) ?_
          refine lv_iload_n hx hb dX0_clashesWithStanding_24 rfl (lv_at hl 1 rfl) ?_
          refine lv_iload_n hx hb dX0_clashesWithStanding_25 rfl (lv_at hl 2 rfl) ?_
          refine lv_iload_n hx hb dX0_clashesWithStanding_26 rfl (lv_at hl 3 rfl) ?_
          refine lv_aload_n hx hb dX0_clashesWithStanding_27 rfl (lv_at hl 0 rfl) ?_
          refine va_get (D := D) (ci := 0) (v := .ref oc) (C := RX0) (T := TX0) (N := 2) hx hb hts hinX0 hown hK hP qb hqb rfl 0 (by decide) hw11 (fun _ h9 => h9) rfl dX0_clashesWithStanding_28 ?_
          refine lv_bipush (v := 40) hx hb dX0_clashesWithStanding_31 (by decide) ?_
          refine lv_iload_n hx hb dX0_clashesWithStanding_33 rfl (lv_at hl 3 rfl) ?_
          refine lv_iadd hx hb dX0_clashesWithStanding_34 ?_
          refine lv_asi (y := nI (40 + j)) (nI_add 40 j) ?_
          refine rd_ald (q0 := qc) (t0 := t0) (j := 40 + j) (v := P j 5) hx hb hK hP hqc ht0 (rfl) (by omega) (by decide) (by rw [show 40 + j = 8 * 5 + j by omega]; exact hf j c_7 5 (by decide)) dX0_clashesWithStanding_35 ?_
          refine rd_callV (As := [.int (nI i), .int k, .int (nI j), .int (P j 5)]) (rest := []) ⟨hx, hb, hml, hown, hts⟩ (c_X0_sharedSquares l D hbd hi k c_7 (P j 5)) (cwV 4 hts gX0_clashesWithStanding_X0_sharedSquares rfl rfl rfl (by decide +kernel) ⟨by decide, by decide⟩) hK hN hP hqb rfl rfl hl.1 rfl (Nat.le_of_ble_eq_true rfl) ⟨by decide, by decide⟩ dX0_clashesWithStanding_36 ?_
          refine lv_if_le (tgt := 44) hx hb dX0_clashesWithStanding_39 (by decide) (fun c_39 => ?_) (fun c_39 => ?_)
          · have c_39n := Int32.not_lt.mpr c_39
            refine lv_iinc (v := nI (j + 1)) (lv' := [(3, .int (nI (j + 1))), (0, .ref ob), (1, .int (nI i)), (2, .int k)]) hx hb dX0_clashesWithStanding_44 hl (k := 3) rfl (nI_add j 1) (by decide) rfl (fun ls hl => ?_)
            refine lv_goto (tgt := 2) hx hb dX0_clashesWithStanding_47 (by decide) ?_
            exact ih2 (j + 1) ls (by omega) (by omega) (by rw [inv2, gE_step c_7]; simp [gClB, bI, c_7n, c_12, c_20, c_39, c_39n]) (lv_sub hl [1, 2, 3, 0] rfl)
          · have c_39n := Int32.not_le.mp c_39
            refine lv_iconst (v := 1) hx hb dX0_clashesWithStanding_42 (by decide) ?_
            exact rd_zret hx hb hr hlocks dX0_clashesWithStanding_43 (by rw [inv2, gE_step c_7]; simp [gClB, bI, c_7n, c_12, c_20, c_39, c_39n])
set_option maxHeartbeats 4000000 in
set_option maxRecDepth 100000 in
theorem c_X0_freeMask (l : Launch) (D : va_G) {w : va_W} {tys : List (ClassId × FieldType)} {ob n : Nat} {P : Nat → Nat → Int32} (hbd : bd_in w tys ob n P) {i : Nat} (hi : i < n) : rd_M l yX0_freeMask wsX0_freeMask ({ frames := 4, cells := 0, slots := 0, locals := 95 } : Room) D w tys [.ref ob, .int (nI i)] (gFr n P i) := by
  obtain ⟨qb, qc, t0, oc, cI, f, hqb, hqc, ht0, hn8, hf⟩ := id hbd
  refine rd_of (cc := cX0_freeMask) (maxL := 4) (ret := some .int) (by decide) rfl (Nat.le_of_ble_eq_true rfl) ?_
  intro p e s m below meth c hx hb hr hml hts hown hlocks hP hK hN ls hl
  have hown : s.vm.findClass RX0 = some m.cls := hown
  have hl : lv_has ls 4 [(0, .ref ob), (1, .int (nI i))] := hl
  refine lv_aload_n hx hb dX0_freeMask_0 rfl (lv_at hl 0 rfl) ?_
  refine lv_iload_n hx hb dX0_freeMask_1 rfl (lv_at hl 1 rfl) ?_
  refine rd_callV (As := [.int (nI i)]) (rest := []) ⟨hx, hb, hml, hown, hts⟩ (c_X0_openMask l D hbd hi) (cwV 1 hts gX0_freeMask_X0_openMask rfl rfl rfl (by decide +kernel) ⟨by decide, by decide⟩) hK hN hP hqb rfl rfl hl.1 rfl (Nat.le_of_ble_eq_true rfl) ⟨by decide, by decide⟩ dX0_freeMask_2 ?_
  refine lv_istore_n (lv' := [(2, .int (gMk n P i)), (0, .ref ob), (1, .int (nI i))]) hx hb dX0_freeMask_5 rfl hl (by decide) rfl (fun ls hl => ?_)
  refine lv_iconst (v := 0) hx hb dX0_freeMask_6 (by decide) ?_
  refine lv_istore_n (lv' := [(3, .int 0), (2, .int (gMk n P i)), (0, .ref ob), (1, .int (nI i))]) hx hb dX0_freeMask_7 rfl hl (by decide) rfl (fun ls hl => ?_)
  suffices loop8 : ∀ (k8 k : Nat) (a : Int32) (ls : Array Slot), k ≤ 4 → 4 + 1 ≤ k + k8 → (gFr n P i = gF 4 (gFrF n P i) k a) → lv_has ls 4 [(0, .ref ob), (1, .int (nI i)), (2, .int a), (3, .int (nI k))] → rd_W p l e wsX0_freeMask ({ frames := 4, cells := 0, slots := 0, locals := 95 } : Room) s m [.ref ob, .int (nI i)] below meth c (gFr n P i) (F0 m 8 ls []) from
    loop8 (4 + 1) 0 (gMk n P i) ls (by omega) (by omega) (by rfl) (lv_sub hl [2, 3, 1, 0] rfl)
  intro k8
  induction k8 with
  | zero => intro k a ls h1 h2; exact absurd h2 (by omega)
  | succ k8 ih8 =>
    intro k a ls hle8 hlt8 inv8 hl
    refine lv_iload_n hx hb dX0_freeMask_8 rfl (lv_at hl 3 rfl) ?_
    refine lv_iconst (v := 4) hx hb dX0_freeMask_9 (by decide) ?_
    refine rd_icmp_ge_n (a := k) (b := 4) (tgt := 44) (by omega) (by omega) hx hb dX0_freeMask_10 (by decide) (fun c_10 => ?_) (fun c_10 => ?_)
    · have c_10n := Nat.not_lt.mpr c_10
      refine lv_iload_n hx hb dX0_freeMask_44 rfl (lv_at hl 2 rfl) ?_
      exact rd_iret hx hb hr hlocks dX0_freeMask_45 (by rw [inv8, gF_end c_10])
    · have c_10n := Nat.not_le.mpr c_10
      refine lv_iload_n hx hb dX0_freeMask_13 rfl (lv_at hl 2 rfl) ?_
      refine lv_iload_n hx hb dX0_freeMask_14 rfl (lv_at hl 3 rfl) ?_
      refine rd_callSN (As := [.int a, .int (nI k)]) (rest := []) ⟨hx, hb, hml, hown, hts⟩ (c_X4_hasBit l D a (nI k)) ⟨va_cnB 2 hts gX0_freeMask_X4_hasBit_n68 rfl rfl rfl hN.1 (hts (.initialized RX4) (by decide +kernel)) (by decide +kernel) ⟨by decide, by decide⟩, hts (.static yX4_hasBit) (by decide +kernel), trivial⟩ hK hN hP rfl hl.1 rfl (Nat.le_of_ble_eq_true rfl) ⟨by decide, by decide⟩ dX0_freeMask_15 ?_
      refine rd_ifeq_b (tgt := 38) hx hb dX0_freeMask_18 (by decide) (fun c_18 => ?_) (fun c_18 => ?_)
      · refine lv_iinc (v := nI (k + 1)) (lv' := [(3, .int (nI (k + 1))), (0, .ref ob), (1, .int (nI i)), (2, .int a)]) hx hb dX0_freeMask_38 hl (k := 3) rfl (nI_add k 1) (by decide) rfl (fun ls hl => ?_)
        refine lv_goto (tgt := 8) hx hb dX0_freeMask_41 (by decide) ?_
        exact ih8 (k + 1) a ls (by omega) (by omega) (by rw [inv8, gF_step c_10]; simp [gFrF, gBit, bI, c_10n, c_18]) (lv_sub hl [1, 2, 3, 0] rfl)
      · refine lv_aload_n hx hb dX0_freeMask_21 rfl (lv_at hl 0 rfl) ?_
        refine lv_iload_n hx hb dX0_freeMask_22 rfl (lv_at hl 1 rfl) ?_
        refine lv_iload_n hx hb dX0_freeMask_23 rfl (lv_at hl 3 rfl) ?_
        refine rd_callV (As := [.int (nI i), .int (nI k)]) (rest := []) ⟨hx, hb, hml, hown, hts⟩ (c_X0_clashesWithStanding l D hbd hi (nI k)) (cwV 2 hts gX0_freeMask_X0_clashesWithStanding rfl rfl rfl (by decide +kernel) ⟨by decide, by decide⟩) hK hN hP hqb rfl rfl hl.1 rfl (Nat.le_of_ble_eq_true rfl) ⟨by decide, by decide⟩ dX0_freeMask_24 ?_
        refine rd_ifeq_b (tgt := 38) hx hb dX0_freeMask_27 (by decide) (fun c_27 => ?_) (fun c_27 => ?_)
        · refine lv_iinc (v := nI (k + 1)) (lv' := [(3, .int (nI (k + 1))), (0, .ref ob), (1, .int (nI i)), (2, .int a)]) hx hb dX0_freeMask_38 hl (k := 3) rfl (nI_add k 1) (by decide) rfl (fun ls hl => ?_)
          refine lv_goto (tgt := 8) hx hb dX0_freeMask_41 (by decide) ?_
          exact ih8 (k + 1) a ls (by omega) (by omega) (by rw [inv8, gF_step c_10]; simp [gFrF, gBit, bI, c_10n, c_18, c_27]) (lv_sub hl [1, 2, 3, 0] rfl)
        · refine lv_iload_n hx hb dX0_freeMask_30 rfl (lv_at hl 2 rfl) ?_
          refine lv_iconst (v := 1) hx hb dX0_freeMask_31 (by decide) ?_
          refine lv_iload_n hx hb dX0_freeMask_32 rfl (lv_at hl 3 rfl) ?_
          refine lv_ishl hx hb dX0_freeMask_33 ?_
          refine lv_iconst (v := (-1)) hx hb dX0_freeMask_34 (by decide) ?_
          refine lv_ixor hx hb dX0_freeMask_35 ?_
          refine lv_iand hx hb dX0_freeMask_36 ?_
          refine lv_istore_n (lv' := [(2, .int (a &&& ((1 <<< (nI k &&& 31)) ^^^ (-1)))), (0, .ref ob), (1, .int (nI i)), (3, .int (nI k))]) hx hb dX0_freeMask_37 rfl hl (by decide) rfl (fun ls hl => ?_)
          refine lv_iinc (v := nI (k + 1)) (lv' := [(3, .int (nI (k + 1))), (2, .int (a &&& ((1 <<< (nI k &&& 31)) ^^^ (-1)))), (0, .ref ob), (1, .int (nI i))]) hx hb dX0_freeMask_38 hl (k := 3) rfl (nI_add k 1) (by decide) rfl (fun ls hl => ?_)
          refine lv_goto (tgt := 8) hx hb dX0_freeMask_41 (by decide) ?_
          exact ih8 (k + 1) (a &&& ((1 <<< (nI k &&& 31)) ^^^ (-1))) ls (by omega) (by omega) (by rw [inv8, gF_step c_10]; simp [gFrF, gBit, bI, c_10n, c_18, c_27]) (lv_sub hl [2, 3, 1, 0] rfl)
set_option maxHeartbeats 4000000 in
set_option maxRecDepth 100000 in
theorem c_X0_isPointOnLeader (l : Launch) (D : va_G) {w : va_W} {tys : List (ClassId × FieldType)} {ob n : Nat} {P : Nat → Nat → Int32} (hbd : bd_in w tys ob n P) {i : Nat} (hi : i < n) {j : Nat} (hj : j < n) : rd_M l yX0_isPointOnLeader wsX0_isPointOnLeader ({ frames := 0, cells := 0, slots := 0, locals := 0 } : Room) D w tys [.ref ob, .int (nI i), .int (nI j)] (bI (gPL P i j)) := by
  obtain ⟨qb, qc, t0, oc, cI, f, hqb, hqc, ht0, hn8, hf⟩ := id hbd
  refine rd_of (cc := cX0_isPointOnLeader) (maxL := 3) (ret := some .boolean) (by decide) rfl (Nat.le_of_ble_eq_true rfl) ?_
  intro p e s m below meth c hx hb hr hml hts hown hlocks hP hK hN ls hl
  have hown : s.vm.findClass RX0 = some m.cls := hown
  have hl : lv_has ls 3 [(0, .ref ob), (1, .int (nI i)), (2, .int (nI j))] := hl
  have hw11 := hts (.fieldLink RX0 11 "CornerLabels$Board" "cells" "[I") (by decide +kernel)
  have hinX0 : ∀ w ∈ u_ws RX0 TX0 2, w ∈ wsX0_isPointOnLeader := by decide +kernel
  refine lv_aload_n hx hb dX0_isPointOnLeader_0 rfl (lv_at hl 0 rfl) ?_
  refine va_get (D := D) (ci := 0) (v := .ref oc) (C := RX0) (T := TX0) (N := 2) hx hb hts hinX0 hown hK hP qb hqb rfl 0 (by decide) hw11 (fun _ h9 => h9) rfl dX0_isPointOnLeader_1 ?_
  refine lv_bipush (v := 8) hx hb dX0_isPointOnLeader_4 (by decide) ?_
  refine lv_iload_n hx hb dX0_isPointOnLeader_6 rfl (lv_at hl 2 rfl) ?_
  refine lv_iadd hx hb dX0_isPointOnLeader_7 ?_
  refine lv_asi (y := nI (8 + j)) (nI_add 8 j) ?_
  refine rd_ald (q0 := qc) (t0 := t0) (j := 8 + j) (v := P j 1) hx hb hK hP hqc ht0 (rfl) (by omega) (by decide) (by rw [show 8 + j = 8 * 1 + j by omega]; exact hf j hj 1 (by decide)) dX0_isPointOnLeader_8 ?_
  refine lv_aload_n hx hb dX0_isPointOnLeader_9 rfl (lv_at hl 0 rfl) ?_
  refine va_get (D := D) (ci := 0) (v := .ref oc) (C := RX0) (T := TX0) (N := 2) hx hb hts hinX0 hown hK hP qb hqb rfl 0 (by decide) hw11 (fun _ h9 => h9) rfl dX0_isPointOnLeader_10 ?_
  refine lv_bipush (v := 8) hx hb dX0_isPointOnLeader_13 (by decide) ?_
  refine lv_iload_n hx hb dX0_isPointOnLeader_15 rfl (lv_at hl 1 rfl) ?_
  refine lv_iadd hx hb dX0_isPointOnLeader_16 ?_
  refine lv_asi (y := nI (8 + i)) (nI_add 8 i) ?_
  refine rd_ald (q0 := qc) (t0 := t0) (j := 8 + i) (v := P i 1) hx hb hK hP hqc ht0 (rfl) (by omega) (by decide) (by rw [show 8 + i = 8 * 1 + i by omega]; exact hf i hi 1 (by decide)) dX0_isPointOnLeader_17 ?_
  refine lv_icmp_ne (tgt := 44) hx hb dX0_isPointOnLeader_18 (by decide) (fun c_18 => ?_) (fun c_18 => ?_)
  · refine lv_iconst (v := 0) hx hb dX0_isPointOnLeader_44 (by decide) ?_
    exact rd_zret hx hb hr hlocks dX0_isPointOnLeader_45 (by simp [gPL, bI, c_18])
  · refine lv_aload_n hx hb dX0_isPointOnLeader_21 rfl (lv_at hl 0 rfl) ?_
    refine va_get (D := D) (ci := 0) (v := .ref oc) (C := RX0) (T := TX0) (N := 2) hx hb hts hinX0 hown hK hP qb hqb rfl 0 (by decide) hw11 (fun _ h9 => h9) rfl dX0_isPointOnLeader_22 ?_
    refine lv_iconst (v := 0) hx hb dX0_isPointOnLeader_25 (by decide) ?_
    refine lv_iload_n hx hb dX0_isPointOnLeader_26 rfl (lv_at hl 2 rfl) ?_
    refine lv_iadd hx hb dX0_isPointOnLeader_27 ?_
    refine lv_asi (y := nI (0 + j)) (nI_add 0 j) ?_
    refine rd_ald (q0 := qc) (t0 := t0) (j := 0 + j) (v := P j 0) hx hb hK hP hqc ht0 (rfl) (by omega) (by decide) (by rw [show 0 + j = 8 * 0 + j by omega]; exact hf j hj 0 (by decide)) dX0_isPointOnLeader_28 ?_
    refine lv_aload_n hx hb dX0_isPointOnLeader_29 rfl (lv_at hl 0 rfl) ?_
    refine va_get (D := D) (ci := 0) (v := .ref oc) (C := RX0) (T := TX0) (N := 2) hx hb hts hinX0 hown hK hP qb hqb rfl 0 (by decide) hw11 (fun _ h9 => h9) rfl dX0_isPointOnLeader_30 ?_
    refine lv_iconst (v := 0) hx hb dX0_isPointOnLeader_33 (by decide) ?_
    refine lv_iload_n hx hb dX0_isPointOnLeader_34 rfl (lv_at hl 1 rfl) ?_
    refine lv_iadd hx hb dX0_isPointOnLeader_35 ?_
    refine lv_asi (y := nI (0 + i)) (nI_add 0 i) ?_
    refine rd_ald (q0 := qc) (t0 := t0) (j := 0 + i) (v := P i 0) hx hb hK hP hqc ht0 (rfl) (by omega) (by decide) (by rw [show 0 + i = 8 * 0 + i by omega]; exact hf i hi 0 (by decide)) dX0_isPointOnLeader_36 ?_
    refine lv_icmp_le (tgt := 44) hx hb dX0_isPointOnLeader_37 (by decide) (fun c_37 => ?_) (fun c_37 => ?_)
    · have c_37n := Int32.not_lt.mpr c_37
      refine lv_iconst (v := 0) hx hb dX0_isPointOnLeader_44 (by decide) ?_
      exact rd_zret hx hb hr hlocks dX0_isPointOnLeader_45 (by simp [gPL, bI, c_18, c_37, c_37n])
    · have c_37n := Int32.not_le.mp c_37
      refine lv_iconst (v := 1) hx hb dX0_isPointOnLeader_40 (by decide) ?_
      refine lv_goto (tgt := 45) hx hb dX0_isPointOnLeader_41 (by decide) ?_
      exact rd_zret hx hb hr hlocks dX0_isPointOnLeader_45 (by simp [gPL, bI, c_18, c_37, c_37n])
set_option maxHeartbeats 4000000 in
set_option maxRecDepth 100000 in
theorem c_X0_isLabelOnLeader (l : Launch) (D : va_G) {w : va_W} {tys : List (ClassId × FieldType)} {ob n : Nat} {P : Nat → Nat → Int32} (hbd : bd_in w tys ob n P) {i : Nat} (hi : i < n) {j : Nat} (hj : j < n) : rd_M l yX0_isLabelOnLeader wsX0_isLabelOnLeader ({ frames := 1, cells := 0, slots := 0, locals := 23 } : Room) D w tys [.ref ob, .int (nI i), .int (nI j)] (bI (gLL P i j)) := by
  obtain ⟨qb, qc, t0, oc, cI, f, hqb, hqc, ht0, hn8, hf⟩ := id hbd
  refine rd_of (cc := cX0_isLabelOnLeader) (maxL := 7) (ret := some .boolean) (by decide) rfl (Nat.le_of_ble_eq_true rfl) ?_
  intro p e s m below meth c hx hb hr hml hts hown hlocks hP hK hN ls hl
  have hown : s.vm.findClass RX0 = some m.cls := hown
  have hl : lv_has ls 7 [(0, .ref ob), (1, .int (nI i)), (2, .int (nI j))] := hl
  have hw11 := hts (.fieldLink RX0 11 "CornerLabels$Board" "cells" "[I") (by decide +kernel)
  have hinX0 : ∀ w ∈ u_ws RX0 TX0 2, w ∈ wsX0_isLabelOnLeader := by decide +kernel
  refine lv_aload_n hx hb dX0_isLabelOnLeader_0 rfl (lv_at hl 0 rfl) ?_
  refine lv_iload_n hx hb dX0_isLabelOnLeader_1 rfl (lv_at hl 2 rfl) ?_
  refine rd_callV (As := [.int (nI j)]) (rest := []) ⟨hx, hb, hml, hown, hts⟩ (c_X0_stands l D hbd hj) (cwV 1 hts gX0_isLabelOnLeader_X0_stands rfl rfl rfl (by decide +kernel) ⟨by decide, by decide⟩) hK hN hP hqb rfl rfl hl.1 rfl (Nat.le_of_ble_eq_true rfl) ⟨by decide, by decide⟩ dX0_isLabelOnLeader_2 ?_
  refine rd_ifne_b (tgt := 10) hx hb dX0_isLabelOnLeader_5 (by decide) (fun c_5 => ?_) (fun c_5 => ?_)
  · refine lv_aload_n hx hb dX0_isLabelOnLeader_10 rfl (lv_at hl 0 rfl) ?_
    refine va_get (D := D) (ci := 0) (v := .ref oc) (C := RX0) (T := TX0) (N := 2) hx hb hts hinX0 hown hK hP qb hqb rfl 0 (by decide) hw11 (fun _ h9 => h9) rfl dX0_isLabelOnLeader_11 ?_
    refine lv_bipush (v := 40) hx hb dX0_isLabelOnLeader_14 (by decide) ?_
    refine lv_iload_n hx hb dX0_isLabelOnLeader_16 rfl (lv_at hl 2 rfl) ?_
    refine lv_iadd hx hb dX0_isLabelOnLeader_17 ?_
    refine lv_asi (y := nI (40 + j)) (nI_add 40 j) ?_
    refine rd_ald (q0 := qc) (t0 := t0) (j := 40 + j) (v := P j 5) hx hb hK hP hqc ht0 (rfl) (by omega) (by decide) (by rw [show 40 + j = 8 * 5 + j by omega]; exact hf j hj 5 (by decide)) dX0_isLabelOnLeader_18 ?_
    refine lv_istore_n (lv' := [(3, .int (P j 5)), (0, .ref ob), (1, .int (nI i)), (2, .int (nI j))]) hx hb dX0_isLabelOnLeader_19 rfl hl (by decide) rfl (fun ls hl => ?_)
    refine lv_aload_n hx hb dX0_isLabelOnLeader_20 rfl (lv_at hl 1 rfl) ?_
    refine lv_iload_n hx hb dX0_isLabelOnLeader_21 rfl (lv_at hl 3 rfl) ?_
    refine lv_iload_n hx hb dX0_isLabelOnLeader_22 rfl (lv_at hl 0 rfl) ?_
    refine rd_callV (As := [.int (nI j), .int (P j 5)]) (rest := []) ⟨hx, hb, hml, hown, hts⟩ (c_X0_left l D hbd hj (P j 5)) (cwV 2 hts gX0_isLabelOnLeader_X0_left rfl rfl rfl (by decide +kernel) ⟨by decide, by decide⟩) hK hN hP hqb rfl rfl hl.1 rfl (Nat.le_of_ble_eq_true rfl) ⟨by decide, by decide⟩ dX0_isLabelOnLeader_23 ?_
    refine lv_aload_n hx hb dX0_isLabelOnLeader_26 rfl (lv_at hl 1 rfl) ?_
    refine va_get (D := D) (ci := 0) (v := .ref oc) (C := RX0) (T := TX0) (N := 2) hx hb hts hinX0 hown hK hP qb hqb rfl 0 (by decide) hw11 (fun _ h9 => h9) rfl dX0_isLabelOnLeader_27 ?_
    refine lv_bipush (v := 16) hx hb dX0_isLabelOnLeader_30 (by decide) ?_
    refine lv_iload_n hx hb dX0_isLabelOnLeader_32 rfl (lv_at hl 3 rfl) ?_
    refine lv_iadd hx hb dX0_isLabelOnLeader_33 ?_
    refine lv_asi (y := nI (16 + j)) (nI_add 16 j) ?_
    refine rd_ald (q0 := qc) (t0 := t0) (j := 16 + j) (v := P j 2) hx hb hK hP hqc ht0 (rfl) (by omega) (by decide) (by rw [show 16 + j = 8 * 2 + j by omega]; exact hf j hj 2 (by decide)) dX0_isLabelOnLeader_34 ?_
    refine lv_iadd hx hb dX0_isLabelOnLeader_35 ?_
    refine lv_istore (lv' := [(4, .int ((gL P j (P j 5)) + (P j 2))), (3, .int (P j 5)), (0, .ref ob), (1, .int (nI i)), (2, .int (nI j))]) hx hb dX0_isLabelOnLeader_36 hl (by decide) rfl (fun ls hl => ?_)
    refine lv_aload_n hx hb dX0_isLabelOnLeader_38 rfl (lv_at hl 2 rfl) ?_
    refine lv_iload_n hx hb dX0_isLabelOnLeader_39 rfl (lv_at hl 4 rfl) ?_
    refine lv_iload_n hx hb dX0_isLabelOnLeader_40 rfl (lv_at hl 1 rfl) ?_
    refine rd_callV (As := [.int (nI j), .int (P j 5)]) (rest := []) ⟨hx, hb, hml, hown, hts⟩ (c_X0_top l D hbd hj (P j 5)) (cwV 2 hts gX0_isLabelOnLeader_X0_top rfl rfl rfl (by decide +kernel) ⟨by decide, by decide⟩) hK hN hP hqb rfl rfl hl.1 rfl (Nat.le_of_ble_eq_true rfl) ⟨by decide, by decide⟩ dX0_isLabelOnLeader_41 ?_
    refine lv_istore (lv' := [(5, .int (gT P j (P j 5))), (4, .int ((gL P j (P j 5)) + (P j 2))), (3, .int (P j 5)), (0, .ref ob), (1, .int (nI i)), (2, .int (nI j))]) hx hb dX0_isLabelOnLeader_44 hl (by decide) rfl (fun ls hl => ?_)
    refine lv_aload_n hx hb dX0_isLabelOnLeader_46 rfl (lv_at hl 3 rfl) ?_
    refine va_get (D := D) (ci := 0) (v := .ref oc) (C := RX0) (T := TX0) (N := 2) hx hb hts hinX0 hown hK hP qb hqb rfl 0 (by decide) hw11 (fun _ h9 => h9) rfl dX0_isLabelOnLeader_47 ?_
    refine lv_bipush (v := 8) hx hb dX0_isLabelOnLeader_50 (by decide) ?_
    refine lv_iload_n hx hb dX0_isLabelOnLeader_52 rfl (lv_at hl 4 rfl) ?_
    refine lv_iadd hx hb dX0_isLabelOnLeader_53 ?_
    refine lv_asi (y := nI (8 + i)) (nI_add 8 i) ?_
    refine rd_ald (q0 := qc) (t0 := t0) (j := 8 + i) (v := P i 1) hx hb hK hP hqc ht0 (rfl) (by omega) (by decide) (by rw [show 8 + i = 8 * 1 + i by omega]; exact hf i hi 1 (by decide)) dX0_isLabelOnLeader_54 ?_
    refine lv_istore (lv' := [(6, .int (P i 1)), (5, .int (gT P j (P j 5))), (4, .int ((gL P j (P j 5)) + (P j 2))), (3, .int (P j 5)), (0, .ref ob), (1, .int (nI i)), (2, .int (nI j))]) hx hb dX0_isLabelOnLeader_55 hl (by decide) rfl (fun ls hl => ?_)
    refine lv_iload hx hb dX0_isLabelOnLeader_57 (lv_at hl 2 rfl) ?_
    refine lv_aload_n hx hb dX0_isLabelOnLeader_59 rfl (lv_at hl 4 rfl) ?_
    refine va_get (D := D) (ci := 0) (v := .ref oc) (C := RX0) (T := TX0) (N := 2) hx hb hts hinX0 hown hK hP qb hqb rfl 0 (by decide) hw11 (fun _ h9 => h9) rfl dX0_isLabelOnLeader_60 ?_
    refine lv_iconst (v := 0) hx hb dX0_isLabelOnLeader_63 (by decide) ?_
    refine lv_iload_n hx hb dX0_isLabelOnLeader_64 rfl (lv_at hl 5 rfl) ?_
    refine lv_iadd hx hb dX0_isLabelOnLeader_65 ?_
    refine lv_asi (y := nI (0 + i)) (nI_add 0 i) ?_
    refine rd_ald (q0 := qc) (t0 := t0) (j := 0 + i) (v := P i 0) hx hb hK hP hqc ht0 (rfl) (by omega) (by decide) (by rw [show 0 + i = 8 * 0 + i by omega]; exact hf i hi 0 (by decide)) dX0_isLabelOnLeader_66 ?_
    refine lv_iconst (v := 1) hx hb dX0_isLabelOnLeader_67 (by decide) ?_
    refine lv_iadd hx hb dX0_isLabelOnLeader_68 ?_
    refine lv_icmp_le (tgt := 100) hx hb dX0_isLabelOnLeader_69 (by decide) (fun c_69 => ?_) (fun c_69 => ?_)
    · have c_69n := Int32.not_lt.mpr c_69
      refine lv_iconst (v := 0) hx hb dX0_isLabelOnLeader_100 (by decide) ?_
      exact rd_zret hx hb hr hlocks dX0_isLabelOnLeader_101 (by simp [gLL, bI, c_5, c_69, c_69n])
    · have c_69n := Int32.not_le.mp c_69
      refine lv_iload hx hb dX0_isLabelOnLeader_72 (lv_at hl 0 rfl) ?_
      refine lv_iload hx hb dX0_isLabelOnLeader_74 (lv_at hl 1 rfl) ?_
      refine lv_icmp_lt (tgt := 100) hx hb dX0_isLabelOnLeader_76 (by decide) (fun c_76 => ?_) (fun c_76 => ?_)
      · have c_76n := Int32.not_le.mpr c_76
        refine lv_iconst (v := 0) hx hb dX0_isLabelOnLeader_100 (by decide) ?_
        exact rd_zret hx hb hr hlocks dX0_isLabelOnLeader_101 (by simp [gLL, bI, c_5, c_69, c_69n, c_76, c_76n])
      · have c_76n := Int32.not_lt.mp c_76
        refine lv_iload hx hb dX0_isLabelOnLeader_79 (lv_at hl 0 rfl) ?_
        refine lv_iload hx hb dX0_isLabelOnLeader_81 (lv_at hl 1 rfl) ?_
        refine lv_aload_n hx hb dX0_isLabelOnLeader_83 rfl (lv_at hl 4 rfl) ?_
        refine va_get (D := D) (ci := 0) (v := .ref oc) (C := RX0) (T := TX0) (N := 2) hx hb hts hinX0 hown hK hP qb hqb rfl 0 (by decide) hw11 (fun _ h9 => h9) rfl dX0_isLabelOnLeader_84 ?_
        refine lv_bipush (v := 24) hx hb dX0_isLabelOnLeader_87 (by decide) ?_
        refine lv_iload_n hx hb dX0_isLabelOnLeader_89 rfl (lv_at hl 6 rfl) ?_
        refine lv_iadd hx hb dX0_isLabelOnLeader_90 ?_
        refine lv_asi (y := nI (24 + j)) (nI_add 24 j) ?_
        refine rd_ald (q0 := qc) (t0 := t0) (j := 24 + j) (v := P j 3) hx hb hK hP hqc ht0 (rfl) (by omega) (by decide) (by rw [show 24 + j = 8 * 3 + j by omega]; exact hf j hj 3 (by decide)) dX0_isLabelOnLeader_91 ?_
        refine lv_iadd hx hb dX0_isLabelOnLeader_92 ?_
        refine lv_icmp_ge (tgt := 100) hx hb dX0_isLabelOnLeader_93 (by decide) (fun c_93 => ?_) (fun c_93 => ?_)
        · have c_93n := Int32.not_lt.mpr c_93
          refine lv_iconst (v := 0) hx hb dX0_isLabelOnLeader_100 (by decide) ?_
          exact rd_zret hx hb hr hlocks dX0_isLabelOnLeader_101 (by simp [gLL, bI, c_5, c_69, c_69n, c_76, c_76n, c_93, c_93n])
        · have c_93n := Int32.not_le.mp c_93
          refine lv_iconst (v := 1) hx hb dX0_isLabelOnLeader_96 (by decide) ?_
          refine lv_goto (tgt := 101) hx hb dX0_isLabelOnLeader_97 (by decide) ?_
          exact rd_zret hx hb hr hlocks dX0_isLabelOnLeader_101 (by simp [gLL, bI, c_5, c_69, c_69n, c_76, c_76n, c_93, c_93n])
  · refine lv_iconst (v := 0) hx hb dX0_isLabelOnLeader_8 (by decide) ?_
    exact rd_zret hx hb hr hlocks dX0_isLabelOnLeader_9 (by simp [gLL, bI, c_5])
set_option maxHeartbeats 4000000 in
set_option maxRecDepth 100000 in
theorem c_X0_leaderCrossings (l : Launch) (D : va_G) {w : va_W} {tys : List (ClassId × FieldType)} {ob n : Nat} {P : Nat → Nat → Int32} (hbd : bd_in w tys ob n P) {i : Nat} (hi : i < n) : rd_M l yX0_leaderCrossings wsX0_leaderCrossings ({ frames := 2, cells := 0, slots := 0, locals := 49 } : Room) D w tys [.ref ob, .int (nI i)] (gCr n P i) := by
  obtain ⟨qb, qc, t0, oc, cI, f, hqb, hqc, ht0, hn8, hf⟩ := id hbd
  refine rd_of (cc := cX0_leaderCrossings) (maxL := 4) (ret := some .int) (by decide) rfl (Nat.le_of_ble_eq_true rfl) ?_
  intro p e s m below meth c hx hb hr hml hts hown hlocks hP hK hN ls hl
  have hown : s.vm.findClass RX0 = some m.cls := hown
  have hl : lv_has ls 4 [(0, .ref ob), (1, .int (nI i))] := hl
  have hw15 := hts (.fieldLink RX0 15 "CornerLabels$Board" "points" "I") (by decide +kernel)
  have hinX0 : ∀ w ∈ u_ws RX0 TX0 2, w ∈ wsX0_leaderCrossings := by decide +kernel
  refine lv_iconst (v := 0) hx hb dX0_leaderCrossings_0 (by decide) ?_
  refine lv_istore_n (lv' := [(2, .int 0), (0, .ref ob), (1, .int (nI i))]) hx hb dX0_leaderCrossings_1 rfl hl (by decide) rfl (fun ls hl => ?_)
  refine lv_iconst (v := 0) hx hb dX0_leaderCrossings_2 (by decide) ?_
  refine lv_istore_n (lv' := [(3, .int 0), (2, .int 0), (0, .ref ob), (1, .int (nI i))]) hx hb dX0_leaderCrossings_3 rfl hl (by decide) rfl (fun ls hl => ?_)
  suffices loop4 : ∀ (k4 j : Nat) (a : Int32) (ls : Array Slot), j ≤ n → n + 1 ≤ j + k4 → (gCr n P i = gF n (gCrF P i) j a) → lv_has ls 4 [(0, .ref ob), (1, .int (nI i)), (2, .int a), (3, .int (nI j))] → rd_W p l e wsX0_leaderCrossings ({ frames := 2, cells := 0, slots := 0, locals := 49 } : Room) s m [.ref ob, .int (nI i)] below meth c (gCr n P i) (F0 m 4 ls []) from
    loop4 (n + 1) 0 0 ls (by omega) (by omega) (by rfl) (lv_sub hl [2, 3, 1, 0] rfl)
  intro k4
  induction k4 with
  | zero => intro j a ls h1 h2; exact absurd h2 (by omega)
  | succ k4 ih4 =>
    intro j a ls hle4 hlt4 inv4 hl
    refine lv_iload_n hx hb dX0_leaderCrossings_4 rfl (lv_at hl 3 rfl) ?_
    refine lv_aload_n hx hb dX0_leaderCrossings_5 rfl (lv_at hl 0 rfl) ?_
    refine va_get (D := D) (ci := 0) (v := .int (nI n)) (C := RX0) (T := TX0) (N := 2) hx hb hts hinX0 hown hK hP qb hqb rfl 1 (by decide) hw15 (fun _ h9 => h9) rfl dX0_leaderCrossings_6 ?_
    refine rd_icmp_ge_n (a := j) (b := n) (tgt := 42) (by omega) (by omega) hx hb dX0_leaderCrossings_9 (by decide) (fun c_9 => ?_) (fun c_9 => ?_)
    · have c_9n := Nat.not_lt.mpr c_9
      refine lv_iload_n hx hb dX0_leaderCrossings_42 rfl (lv_at hl 2 rfl) ?_
      exact rd_iret hx hb hr hlocks dX0_leaderCrossings_43 (by rw [inv4, gF_end c_9])
    · have c_9n := Nat.not_le.mpr c_9
      refine lv_aload_n hx hb dX0_leaderCrossings_12 rfl (lv_at hl 0 rfl) ?_
      refine lv_iload_n hx hb dX0_leaderCrossings_13 rfl (lv_at hl 1 rfl) ?_
      refine lv_iload_n hx hb dX0_leaderCrossings_14 rfl (lv_at hl 3 rfl) ?_
      refine rd_callV (As := [.int (nI i), .int (nI j)]) (rest := []) ⟨hx, hb, hml, hown, hts⟩ (c_X0_isPointOnLeader l D hbd hi c_9) (cwV 2 hts gX0_leaderCrossings_X0_isPointOnLeader rfl rfl rfl (by decide +kernel) ⟨by decide, by decide⟩) hK hN hP hqb rfl rfl hl.1 rfl (Nat.le_of_ble_eq_true rfl) ⟨by decide, by decide⟩ dX0_leaderCrossings_15 ?_
      refine rd_ifeq_b (tgt := 24) hx hb dX0_leaderCrossings_18 (by decide) (fun c_18 => ?_) (fun c_18 => ?_)
      · refine lv_aload_n hx hb dX0_leaderCrossings_24 rfl (lv_at hl 0 rfl) ?_
        refine lv_iload_n hx hb dX0_leaderCrossings_25 rfl (lv_at hl 1 rfl) ?_
        refine lv_iload_n hx hb dX0_leaderCrossings_26 rfl (lv_at hl 3 rfl) ?_
        refine rd_callV (As := [.int (nI i), .int (nI j)]) (rest := []) ⟨hx, hb, hml, hown, hts⟩ (c_X0_isLabelOnLeader l D hbd hi c_9) (cwV 2 hts gX0_leaderCrossings_X0_isLabelOnLeader rfl rfl rfl (by decide +kernel) ⟨by decide, by decide⟩) hK hN hP hqb rfl rfl hl.1 rfl (Nat.le_of_ble_eq_true rfl) ⟨by decide, by decide⟩ dX0_leaderCrossings_27 ?_
        refine rd_ifeq_b (tgt := 36) hx hb dX0_leaderCrossings_30 (by decide) (fun c_30 => ?_) (fun c_30 => ?_)
        · refine lv_iinc (v := nI (j + 1)) (lv' := [(3, .int (nI (j + 1))), (0, .ref ob), (1, .int (nI i)), (2, .int a)]) hx hb dX0_leaderCrossings_36 hl (k := 3) rfl (nI_add j 1) (by decide) rfl (fun ls hl => ?_)
          refine lv_goto (tgt := 4) hx hb dX0_leaderCrossings_39 (by decide) ?_
          exact ih4 (j + 1) a ls (by omega) (by omega) (by rw [inv4, gF_step c_9]; simp [gCrF, bI, c_9n, c_18, c_30]) (lv_sub hl [1, 2, 3, 0] rfl)
        · refine lv_iinc (v := a + 1) (lv' := [(2, .int (a + 1)), (0, .ref ob), (1, .int (nI i)), (3, .int (nI j))]) hx hb dX0_leaderCrossings_33 hl (k := 2) rfl (rfl) (by decide) rfl (fun ls hl => ?_)
          refine lv_iinc (v := nI (j + 1)) (lv' := [(3, .int (nI (j + 1))), (2, .int (a + 1)), (0, .ref ob), (1, .int (nI i))]) hx hb dX0_leaderCrossings_36 hl (k := 3) rfl (nI_add j 1) (by decide) rfl (fun ls hl => ?_)
          refine lv_goto (tgt := 4) hx hb dX0_leaderCrossings_39 (by decide) ?_
          exact ih4 (j + 1) (a + 1) ls (by omega) (by omega) (by rw [inv4, gF_step c_9]; simp [gCrF, bI, c_9n, c_18, c_30]) (lv_sub hl [2, 3, 1, 0] rfl)
      · refine lv_iinc (v := a + 1) (lv' := [(2, .int (a + 1)), (0, .ref ob), (1, .int (nI i)), (3, .int (nI j))]) hx hb dX0_leaderCrossings_21 hl (k := 2) rfl (rfl) (by decide) rfl (fun ls hl => ?_)
        refine lv_aload_n hx hb dX0_leaderCrossings_24 rfl (lv_at hl 1 rfl) ?_
        refine lv_iload_n hx hb dX0_leaderCrossings_25 rfl (lv_at hl 2 rfl) ?_
        refine lv_iload_n hx hb dX0_leaderCrossings_26 rfl (lv_at hl 3 rfl) ?_
        refine rd_callV (As := [.int (nI i), .int (nI j)]) (rest := []) ⟨hx, hb, hml, hown, hts⟩ (c_X0_isLabelOnLeader l D hbd hi c_9) (cwV 2 hts gX0_leaderCrossings_X0_isLabelOnLeader rfl rfl rfl (by decide +kernel) ⟨by decide, by decide⟩) hK hN hP hqb rfl rfl hl.1 rfl (Nat.le_of_ble_eq_true rfl) ⟨by decide, by decide⟩ dX0_leaderCrossings_27 ?_
        refine rd_ifeq_b (tgt := 36) hx hb dX0_leaderCrossings_30 (by decide) (fun c_30 => ?_) (fun c_30 => ?_)
        · refine lv_iinc (v := nI (j + 1)) (lv' := [(3, .int (nI (j + 1))), (2, .int (a + 1)), (0, .ref ob), (1, .int (nI i))]) hx hb dX0_leaderCrossings_36 hl (k := 3) rfl (nI_add j 1) (by decide) rfl (fun ls hl => ?_)
          refine lv_goto (tgt := 4) hx hb dX0_leaderCrossings_39 (by decide) ?_
          exact ih4 (j + 1) (a + 1) ls (by omega) (by omega) (by rw [inv4, gF_step c_9]; simp [gCrF, bI, c_9n, c_18, c_30]) (lv_sub hl [2, 3, 1, 0] rfl)
        · refine lv_iinc (v := a + 1 + 1) (lv' := [(2, .int (a + 1 + 1)), (0, .ref ob), (1, .int (nI i)), (3, .int (nI j))]) hx hb dX0_leaderCrossings_33 hl (k := 0) rfl (rfl) (by decide) rfl (fun ls hl => ?_)
          refine lv_iinc (v := nI (j + 1)) (lv' := [(3, .int (nI (j + 1))), (2, .int (a + 1 + 1)), (0, .ref ob), (1, .int (nI i))]) hx hb dX0_leaderCrossings_36 hl (k := 3) rfl (nI_add j 1) (by decide) rfl (fun ls hl => ?_)
          refine lv_goto (tgt := 4) hx hb dX0_leaderCrossings_39 (by decide) ?_
          exact ih4 (j + 1) (a + 1 + 1) ls (by omega) (by omega) (by rw [inv4, gF_step c_9]; simp [gCrF, bI, c_9n, c_18, c_30]) (lv_sub hl [2, 3, 1, 0] rfl)
set_option maxHeartbeats 4000000 in
set_option maxRecDepth 100000 in
theorem c_X0_standingLabels (l : Launch) (D : va_G) {w : va_W} {tys : List (ClassId × FieldType)} {ob n : Nat} {P : Nat → Nat → Int32} (hbd : bd_in w tys ob n P) : rd_M l yX0_standingLabels wsX0_standingLabels ({ frames := 1, cells := 0, slots := 0, locals := 21 } : Room) D w tys [.ref ob] (gN n P) := by
  obtain ⟨qb, qc, t0, oc, cI, f, hqb, hqc, ht0, hn8, hf⟩ := id hbd
  refine rd_of (cc := cX0_standingLabels) (maxL := 3) (ret := some .int) (by decide) rfl (Nat.le_of_ble_eq_true rfl) ?_
  intro p e s m below meth c hx hb hr hml hts hown hlocks hP hK hN ls hl
  have hown : s.vm.findClass RX0 = some m.cls := hown
  have hl : lv_has ls 3 [(0, .ref ob)] := hl
  have hw15 := hts (.fieldLink RX0 15 "CornerLabels$Board" "points" "I") (by decide +kernel)
  have hinX0 : ∀ w ∈ u_ws RX0 TX0 2, w ∈ wsX0_standingLabels := by decide +kernel
  refine lv_iconst (v := 0) hx hb dX0_standingLabels_0 (by decide) ?_
  refine lv_istore_n (lv' := [(1, .int 0), (0, .ref ob)]) hx hb dX0_standingLabels_1 rfl hl (by decide) rfl (fun ls hl => ?_)
  refine lv_iconst (v := 0) hx hb dX0_standingLabels_2 (by decide) ?_
  refine lv_istore_n (lv' := [(2, .int 0), (1, .int 0), (0, .ref ob)]) hx hb dX0_standingLabels_3 rfl hl (by decide) rfl (fun ls hl => ?_)
  suffices loop4 : ∀ (k4 i : Nat) (a : Int32) (ls : Array Slot), i ≤ n → n + 1 ≤ i + k4 → (gN n P = gF n (gNF P) i a) → lv_has ls 3 [(0, .ref ob), (1, .int a), (2, .int (nI i))] → rd_W p l e wsX0_standingLabels ({ frames := 1, cells := 0, slots := 0, locals := 21 } : Room) s m [.ref ob] below meth c (gN n P) (F0 m 4 ls []) from
    loop4 (n + 1) 0 0 ls (by omega) (by omega) (by rfl) (lv_sub hl [2, 1, 0] rfl)
  intro k4
  induction k4 with
  | zero => intro i a ls h1 h2; exact absurd h2 (by omega)
  | succ k4 ih4 =>
    intro i a ls hle4 hlt4 inv4 hl
    refine lv_iload_n hx hb dX0_standingLabels_4 rfl (lv_at hl 2 rfl) ?_
    refine lv_aload_n hx hb dX0_standingLabels_5 rfl (lv_at hl 0 rfl) ?_
    refine va_get (D := D) (ci := 0) (v := .int (nI n)) (C := RX0) (T := TX0) (N := 2) hx hb hts hinX0 hown hK hP qb hqb rfl 1 (by decide) hw15 (fun _ h9 => h9) rfl dX0_standingLabels_6 ?_
    refine rd_icmp_ge_n (a := i) (b := n) (tgt := 29) (by omega) (by omega) hx hb dX0_standingLabels_9 (by decide) (fun c_9 => ?_) (fun c_9 => ?_)
    · have c_9n := Nat.not_lt.mpr c_9
      refine lv_iload_n hx hb dX0_standingLabels_29 rfl (lv_at hl 1 rfl) ?_
      exact rd_iret hx hb hr hlocks dX0_standingLabels_30 (by rw [inv4, gF_end c_9])
    · have c_9n := Nat.not_le.mpr c_9
      refine lv_aload_n hx hb dX0_standingLabels_12 rfl (lv_at hl 0 rfl) ?_
      refine lv_iload_n hx hb dX0_standingLabels_13 rfl (lv_at hl 2 rfl) ?_
      refine rd_callV (As := [.int (nI i)]) (rest := []) ⟨hx, hb, hml, hown, hts⟩ (c_X0_stands l D hbd c_9) (cwV 1 hts gX0_standingLabels_X0_stands rfl rfl rfl (by decide +kernel) ⟨by decide, by decide⟩) hK hN hP hqb rfl rfl hl.1 rfl (Nat.le_of_ble_eq_true rfl) ⟨by decide, by decide⟩ dX0_standingLabels_14 ?_
      refine rd_ifeq_b (tgt := 23) hx hb dX0_standingLabels_17 (by decide) (fun c_17 => ?_) (fun c_17 => ?_)
      · refine lv_iinc (v := nI (i + 1)) (lv' := [(2, .int (nI (i + 1))), (0, .ref ob), (1, .int a)]) hx hb dX0_standingLabels_23 hl (k := 2) rfl (nI_add i 1) (by decide) rfl (fun ls hl => ?_)
        refine lv_goto (tgt := 4) hx hb dX0_standingLabels_26 (by decide) ?_
        exact ih4 (i + 1) a ls (by omega) (by omega) (by rw [inv4, gF_step c_9]; simp [gNF, bI, c_9n, c_17]) (lv_sub hl [1, 2, 0] rfl)
      · refine lv_iinc (v := a + 1) (lv' := [(1, .int (a + 1)), (0, .ref ob), (2, .int (nI i))]) hx hb dX0_standingLabels_20 hl (k := 1) rfl (rfl) (by decide) rfl (fun ls hl => ?_)
        refine lv_iinc (v := nI (i + 1)) (lv' := [(2, .int (nI (i + 1))), (1, .int (a + 1)), (0, .ref ob)]) hx hb dX0_standingLabels_23 hl (k := 2) rfl (nI_add i 1) (by decide) rfl (fun ls hl => ?_)
        refine lv_goto (tgt := 4) hx hb dX0_standingLabels_26 (by decide) ?_
        exact ih4 (i + 1) (a + 1) ls (by omega) (by omega) (by rw [inv4, gF_step c_9]; simp [gNF, bI, c_9n, c_17]) (lv_sub hl [2, 1, 0] rfl)
set_option maxHeartbeats 4000000 in
set_option maxRecDepth 100000 in
theorem c_X0_standingWeight (l : Launch) (D : va_G) {w : va_W} {tys : List (ClassId × FieldType)} {ob n : Nat} {P : Nat → Nat → Int32} (hbd : bd_in w tys ob n P) : rd_M l yX0_standingWeight wsX0_standingWeight ({ frames := 1, cells := 0, slots := 0, locals := 21 } : Room) D w tys [.ref ob] (gSW n P) := by
  obtain ⟨qb, qc, t0, oc, cI, f, hqb, hqc, ht0, hn8, hf⟩ := id hbd
  refine rd_of (cc := cX0_standingWeight) (maxL := 3) (ret := some .int) (by decide) rfl (Nat.le_of_ble_eq_true rfl) ?_
  intro p e s m below meth c hx hb hr hml hts hown hlocks hP hK hN ls hl
  have hown : s.vm.findClass RX0 = some m.cls := hown
  have hl : lv_has ls 3 [(0, .ref ob)] := hl
  have hw15 := hts (.fieldLink RX0 15 "CornerLabels$Board" "points" "I") (by decide +kernel)
  have hinX0 : ∀ w ∈ u_ws RX0 TX0 2, w ∈ wsX0_standingWeight := by decide +kernel
  have hw11 := hts (.fieldLink RX0 11 "CornerLabels$Board" "cells" "[I") (by decide +kernel)
  refine lv_iconst (v := 0) hx hb dX0_standingWeight_0 (by decide) ?_
  refine lv_istore_n (lv' := [(1, .int 0), (0, .ref ob)]) hx hb dX0_standingWeight_1 rfl hl (by decide) rfl (fun ls hl => ?_)
  refine lv_iconst (v := 0) hx hb dX0_standingWeight_2 (by decide) ?_
  refine lv_istore_n (lv' := [(2, .int 0), (1, .int 0), (0, .ref ob)]) hx hb dX0_standingWeight_3 rfl hl (by decide) rfl (fun ls hl => ?_)
  suffices loop4 : ∀ (k4 i : Nat) (a : Int32) (ls : Array Slot), i ≤ n → n + 1 ≤ i + k4 → (gSW n P = gF n (gSWF P) i a) → lv_has ls 3 [(0, .ref ob), (1, .int a), (2, .int (nI i))] → rd_W p l e wsX0_standingWeight ({ frames := 1, cells := 0, slots := 0, locals := 21 } : Room) s m [.ref ob] below meth c (gSW n P) (F0 m 4 ls []) from
    loop4 (n + 1) 0 0 ls (by omega) (by omega) (by rfl) (lv_sub hl [2, 1, 0] rfl)
  intro k4
  induction k4 with
  | zero => intro i a ls h1 h2; exact absurd h2 (by omega)
  | succ k4 ih4 =>
    intro i a ls hle4 hlt4 inv4 hl
    refine lv_iload_n hx hb dX0_standingWeight_4 rfl (lv_at hl 2 rfl) ?_
    refine lv_aload_n hx hb dX0_standingWeight_5 rfl (lv_at hl 0 rfl) ?_
    refine va_get (D := D) (ci := 0) (v := .int (nI n)) (C := RX0) (T := TX0) (N := 2) hx hb hts hinX0 hown hK hP qb hqb rfl 1 (by decide) hw15 (fun _ h9 => h9) rfl dX0_standingWeight_6 ?_
    refine rd_icmp_ge_n (a := i) (b := n) (tgt := 38) (by omega) (by omega) hx hb dX0_standingWeight_9 (by decide) (fun c_9 => ?_) (fun c_9 => ?_)
    · have c_9n := Nat.not_lt.mpr c_9
      refine lv_iload_n hx hb dX0_standingWeight_38 rfl (lv_at hl 1 rfl) ?_
      exact rd_iret hx hb hr hlocks dX0_standingWeight_39 (by rw [inv4, gF_end c_9])
    · have c_9n := Nat.not_le.mpr c_9
      refine lv_aload_n hx hb dX0_standingWeight_12 rfl (lv_at hl 0 rfl) ?_
      refine lv_iload_n hx hb dX0_standingWeight_13 rfl (lv_at hl 2 rfl) ?_
      refine rd_callV (As := [.int (nI i)]) (rest := []) ⟨hx, hb, hml, hown, hts⟩ (c_X0_stands l D hbd c_9) (cwV 1 hts gX0_standingWeight_X0_stands rfl rfl rfl (by decide +kernel) ⟨by decide, by decide⟩) hK hN hP hqb rfl rfl hl.1 rfl (Nat.le_of_ble_eq_true rfl) ⟨by decide, by decide⟩ dX0_standingWeight_14 ?_
      refine rd_ifeq_b (tgt := 32) hx hb dX0_standingWeight_17 (by decide) (fun c_17 => ?_) (fun c_17 => ?_)
      · refine lv_iinc (v := nI (i + 1)) (lv' := [(2, .int (nI (i + 1))), (0, .ref ob), (1, .int a)]) hx hb dX0_standingWeight_32 hl (k := 2) rfl (nI_add i 1) (by decide) rfl (fun ls hl => ?_)
        refine lv_goto (tgt := 4) hx hb dX0_standingWeight_35 (by decide) ?_
        exact ih4 (i + 1) a ls (by omega) (by omega) (by rw [inv4, gF_step c_9]; simp [gSWF, bI, c_9n, c_17]) (lv_sub hl [1, 2, 0] rfl)
      · refine lv_iload_n hx hb dX0_standingWeight_20 rfl (lv_at hl 1 rfl) ?_
        refine lv_aload_n hx hb dX0_standingWeight_21 rfl (lv_at hl 0 rfl) ?_
        refine va_get (D := D) (ci := 0) (v := .ref oc) (C := RX0) (T := TX0) (N := 2) hx hb hts hinX0 hown hK hP qb hqb rfl 0 (by decide) hw11 (fun _ h9 => h9) rfl dX0_standingWeight_22 ?_
        refine lv_bipush (v := 32) hx hb dX0_standingWeight_25 (by decide) ?_
        refine lv_iload_n hx hb dX0_standingWeight_27 rfl (lv_at hl 2 rfl) ?_
        refine lv_iadd hx hb dX0_standingWeight_28 ?_
        refine lv_asi (y := nI (32 + i)) (nI_add 32 i) ?_
        refine rd_ald (q0 := qc) (t0 := t0) (j := 32 + i) (v := P i 4) hx hb hK hP hqc ht0 (rfl) (by omega) (by decide) (by rw [show 32 + i = 8 * 4 + i by omega]; exact hf i c_9 4 (by decide)) dX0_standingWeight_29 ?_
        refine lv_iadd hx hb dX0_standingWeight_30 ?_
        refine lv_istore_n (lv' := [(1, .int (a + (P i 4))), (0, .ref ob), (2, .int (nI i))]) hx hb dX0_standingWeight_31 rfl hl (by decide) rfl (fun ls hl => ?_)
        refine lv_iinc (v := nI (i + 1)) (lv' := [(2, .int (nI (i + 1))), (1, .int (a + (P i 4))), (0, .ref ob)]) hx hb dX0_standingWeight_32 hl (k := 2) rfl (nI_add i 1) (by decide) rfl (fun ls hl => ?_)
        refine lv_goto (tgt := 4) hx hb dX0_standingWeight_35 (by decide) ?_
        exact ih4 (i + 1) (a + (P i 4)) ls (by omega) (by omega) (by rw [inv4, gF_step c_9]; simp [gSWF, bI, c_9n, c_17]) (lv_sub hl [2, 1, 0] rfl)
set_option maxHeartbeats 4000000 in
set_option maxRecDepth 100000 in
theorem c_X0_allWeight (l : Launch) (D : va_G) {w : va_W} {tys : List (ClassId × FieldType)} {ob n : Nat} {P : Nat → Nat → Int32} (hbd : bd_in w tys ob n P) : rd_M l yX0_allWeight wsX0_allWeight ({ frames := 0, cells := 0, slots := 0, locals := 0 } : Room) D w tys [.ref ob] (gAW n P) := by
  obtain ⟨qb, qc, t0, oc, cI, f, hqb, hqc, ht0, hn8, hf⟩ := id hbd
  refine rd_of (cc := cX0_allWeight) (maxL := 3) (ret := some .int) (by decide) rfl (Nat.le_of_ble_eq_true rfl) ?_
  intro p e s m below meth c hx hb hr hml hts hown hlocks hP hK hN ls hl
  have hown : s.vm.findClass RX0 = some m.cls := hown
  have hl : lv_has ls 3 [(0, .ref ob)] := hl
  have hw15 := hts (.fieldLink RX0 15 "CornerLabels$Board" "points" "I") (by decide +kernel)
  have hinX0 : ∀ w ∈ u_ws RX0 TX0 2, w ∈ wsX0_allWeight := by decide +kernel
  have hw11 := hts (.fieldLink RX0 11 "CornerLabels$Board" "cells" "[I") (by decide +kernel)
  refine lv_iconst (v := 0) hx hb dX0_allWeight_0 (by decide) ?_
  refine lv_istore_n (lv' := [(1, .int 0), (0, .ref ob)]) hx hb dX0_allWeight_1 rfl hl (by decide) rfl (fun ls hl => ?_)
  refine lv_iconst (v := 0) hx hb dX0_allWeight_2 (by decide) ?_
  refine lv_istore_n (lv' := [(2, .int 0), (1, .int 0), (0, .ref ob)]) hx hb dX0_allWeight_3 rfl hl (by decide) rfl (fun ls hl => ?_)
  suffices loop4 : ∀ (k4 i : Nat) (a : Int32) (ls : Array Slot), i ≤ n → n + 1 ≤ i + k4 → (gAW n P = gF n (gAWF P) i a) → lv_has ls 3 [(0, .ref ob), (1, .int a), (2, .int (nI i))] → rd_W p l e wsX0_allWeight ({ frames := 0, cells := 0, slots := 0, locals := 0 } : Room) s m [.ref ob] below meth c (gAW n P) (F0 m 4 ls []) from
    loop4 (n + 1) 0 0 ls (by omega) (by omega) (by rfl) (lv_sub hl [2, 1, 0] rfl)
  intro k4
  induction k4 with
  | zero => intro i a ls h1 h2; exact absurd h2 (by omega)
  | succ k4 ih4 =>
    intro i a ls hle4 hlt4 inv4 hl
    refine lv_iload_n hx hb dX0_allWeight_4 rfl (lv_at hl 2 rfl) ?_
    refine lv_aload_n hx hb dX0_allWeight_5 rfl (lv_at hl 0 rfl) ?_
    refine va_get (D := D) (ci := 0) (v := .int (nI n)) (C := RX0) (T := TX0) (N := 2) hx hb hts hinX0 hown hK hP qb hqb rfl 1 (by decide) hw15 (fun _ h9 => h9) rfl dX0_allWeight_6 ?_
    refine rd_icmp_ge_n (a := i) (b := n) (tgt := 30) (by omega) (by omega) hx hb dX0_allWeight_9 (by decide) (fun c_9 => ?_) (fun c_9 => ?_)
    · have c_9n := Nat.not_lt.mpr c_9
      refine lv_iload_n hx hb dX0_allWeight_30 rfl (lv_at hl 1 rfl) ?_
      exact rd_iret hx hb hr hlocks dX0_allWeight_31 (by rw [inv4, gF_end c_9])
    · have c_9n := Nat.not_le.mpr c_9
      refine lv_iload_n hx hb dX0_allWeight_12 rfl (lv_at hl 1 rfl) ?_
      refine lv_aload_n hx hb dX0_allWeight_13 rfl (lv_at hl 0 rfl) ?_
      refine va_get (D := D) (ci := 0) (v := .ref oc) (C := RX0) (T := TX0) (N := 2) hx hb hts hinX0 hown hK hP qb hqb rfl 0 (by decide) hw11 (fun _ h9 => h9) rfl dX0_allWeight_14 ?_
      refine lv_bipush (v := 32) hx hb dX0_allWeight_17 (by decide) ?_
      refine lv_iload_n hx hb dX0_allWeight_19 rfl (lv_at hl 2 rfl) ?_
      refine lv_iadd hx hb dX0_allWeight_20 ?_
      refine lv_asi (y := nI (32 + i)) (nI_add 32 i) ?_
      refine rd_ald (q0 := qc) (t0 := t0) (j := 32 + i) (v := P i 4) hx hb hK hP hqc ht0 (rfl) (by omega) (by decide) (by rw [show 32 + i = 8 * 4 + i by omega]; exact hf i c_9 4 (by decide)) dX0_allWeight_21 ?_
      refine lv_iadd hx hb dX0_allWeight_22 ?_
      refine lv_istore_n (lv' := [(1, .int (a + (P i 4))), (0, .ref ob), (2, .int (nI i))]) hx hb dX0_allWeight_23 rfl hl (by decide) rfl (fun ls hl => ?_)
      refine lv_iinc (v := nI (i + 1)) (lv' := [(2, .int (nI (i + 1))), (1, .int (a + (P i 4))), (0, .ref ob)]) hx hb dX0_allWeight_24 hl (k := 2) rfl (nI_add i 1) (by decide) rfl (fun ls hl => ?_)
      refine lv_goto (tgt := 4) hx hb dX0_allWeight_27 (by decide) ?_
      exact ih4 (i + 1) (a + (P i 4)) ls (by omega) (by omega) (by rw [inv4, gF_step c_9]; simp [gAWF, bI, c_9n]) (lv_sub hl [2, 1, 0] rfl)
set_option maxHeartbeats 4000000 in
set_option maxRecDepth 100000 in
theorem c_X0_standingSquares (l : Launch) (D : va_G) {w : va_W} {tys : List (ClassId × FieldType)} {ob n : Nat} {P : Nat → Nat → Int32} (hbd : bd_in w tys ob n P) : rd_M l yX0_standingSquares wsX0_standingSquares ({ frames := 1, cells := 0, slots := 0, locals := 21 } : Room) D w tys [.ref ob] (gSQ n P) := by
  obtain ⟨qb, qc, t0, oc, cI, f, hqb, hqc, ht0, hn8, hf⟩ := id hbd
  refine rd_of (cc := cX0_standingSquares) (maxL := 3) (ret := some .int) (by decide) rfl (Nat.le_of_ble_eq_true rfl) ?_
  intro p e s m below meth c hx hb hr hml hts hown hlocks hP hK hN ls hl
  have hown : s.vm.findClass RX0 = some m.cls := hown
  have hl : lv_has ls 3 [(0, .ref ob)] := hl
  have hw15 := hts (.fieldLink RX0 15 "CornerLabels$Board" "points" "I") (by decide +kernel)
  have hinX0 : ∀ w ∈ u_ws RX0 TX0 2, w ∈ wsX0_standingSquares := by decide +kernel
  have hw11 := hts (.fieldLink RX0 11 "CornerLabels$Board" "cells" "[I") (by decide +kernel)
  refine lv_iconst (v := 0) hx hb dX0_standingSquares_0 (by decide) ?_
  refine lv_istore_n (lv' := [(1, .int 0), (0, .ref ob)]) hx hb dX0_standingSquares_1 rfl hl (by decide) rfl (fun ls hl => ?_)
  refine lv_iconst (v := 0) hx hb dX0_standingSquares_2 (by decide) ?_
  refine lv_istore_n (lv' := [(2, .int 0), (1, .int 0), (0, .ref ob)]) hx hb dX0_standingSquares_3 rfl hl (by decide) rfl (fun ls hl => ?_)
  suffices loop4 : ∀ (k4 i : Nat) (a : Int32) (ls : Array Slot), i ≤ n → n + 1 ≤ i + k4 → (gSQ n P = gF n (gSQF P) i a) → lv_has ls 3 [(0, .ref ob), (1, .int a), (2, .int (nI i))] → rd_W p l e wsX0_standingSquares ({ frames := 1, cells := 0, slots := 0, locals := 21 } : Room) s m [.ref ob] below meth c (gSQ n P) (F0 m 4 ls []) from
    loop4 (n + 1) 0 0 ls (by omega) (by omega) (by rfl) (lv_sub hl [2, 1, 0] rfl)
  intro k4
  induction k4 with
  | zero => intro i a ls h1 h2; exact absurd h2 (by omega)
  | succ k4 ih4 =>
    intro i a ls hle4 hlt4 inv4 hl
    refine lv_iload_n hx hb dX0_standingSquares_4 rfl (lv_at hl 2 rfl) ?_
    refine lv_aload_n hx hb dX0_standingSquares_5 rfl (lv_at hl 0 rfl) ?_
    refine va_get (D := D) (ci := 0) (v := .int (nI n)) (C := RX0) (T := TX0) (N := 2) hx hb hts hinX0 hown hK hP qb hqb rfl 1 (by decide) hw15 (fun _ h9 => h9) rfl dX0_standingSquares_6 ?_
    refine rd_icmp_ge_n (a := i) (b := n) (tgt := 48) (by omega) (by omega) hx hb dX0_standingSquares_9 (by decide) (fun c_9 => ?_) (fun c_9 => ?_)
    · have c_9n := Nat.not_lt.mpr c_9
      refine lv_iload_n hx hb dX0_standingSquares_48 rfl (lv_at hl 1 rfl) ?_
      exact rd_iret hx hb hr hlocks dX0_standingSquares_49 (by rw [inv4, gF_end c_9])
    · have c_9n := Nat.not_le.mpr c_9
      refine lv_aload_n hx hb dX0_standingSquares_12 rfl (lv_at hl 0 rfl) ?_
      refine lv_iload_n hx hb dX0_standingSquares_13 rfl (lv_at hl 2 rfl) ?_
      refine rd_callV (As := [.int (nI i)]) (rest := []) ⟨hx, hb, hml, hown, hts⟩ (c_X0_stands l D hbd c_9) (cwV 1 hts gX0_standingSquares_X0_stands rfl rfl rfl (by decide +kernel) ⟨by decide, by decide⟩) hK hN hP hqb rfl rfl hl.1 rfl (Nat.le_of_ble_eq_true rfl) ⟨by decide, by decide⟩ dX0_standingSquares_14 ?_
      refine rd_ifeq_b (tgt := 42) hx hb dX0_standingSquares_17 (by decide) (fun c_17 => ?_) (fun c_17 => ?_)
      · refine lv_iinc (v := nI (i + 1)) (lv' := [(2, .int (nI (i + 1))), (0, .ref ob), (1, .int a)]) hx hb dX0_standingSquares_42 hl (k := 2) rfl (nI_add i 1) (by decide) rfl (fun ls hl => ?_)
        refine lv_goto (tgt := 4) hx hb dX0_standingSquares_45 (by decide) ?_
        exact ih4 (i + 1) a ls (by omega) (by omega) (by rw [inv4, gF_step c_9]; simp [gSQF, bI, c_9n, c_17]) (lv_sub hl [1, 2, 0] rfl)
      · refine lv_iload_n hx hb dX0_standingSquares_20 rfl (lv_at hl 1 rfl) ?_
        refine lv_aload_n hx hb dX0_standingSquares_21 rfl (lv_at hl 0 rfl) ?_
        refine va_get (D := D) (ci := 0) (v := .ref oc) (C := RX0) (T := TX0) (N := 2) hx hb hts hinX0 hown hK hP qb hqb rfl 0 (by decide) hw11 (fun _ h9 => h9) rfl dX0_standingSquares_22 ?_
        refine lv_bipush (v := 16) hx hb dX0_standingSquares_25 (by decide) ?_
        refine lv_iload_n hx hb dX0_standingSquares_27 rfl (lv_at hl 2 rfl) ?_
        refine lv_iadd hx hb dX0_standingSquares_28 ?_
        refine lv_asi (y := nI (16 + i)) (nI_add 16 i) ?_
        refine rd_ald (q0 := qc) (t0 := t0) (j := 16 + i) (v := P i 2) hx hb hK hP hqc ht0 (rfl) (by omega) (by decide) (by rw [show 16 + i = 8 * 2 + i by omega]; exact hf i c_9 2 (by decide)) dX0_standingSquares_29 ?_
        refine lv_aload_n hx hb dX0_standingSquares_30 rfl (lv_at hl 0 rfl) ?_
        refine va_get (D := D) (ci := 0) (v := .ref oc) (C := RX0) (T := TX0) (N := 2) hx hb hts hinX0 hown hK hP qb hqb rfl 0 (by decide) hw11 (fun _ h9 => h9) rfl dX0_standingSquares_31 ?_
        refine lv_bipush (v := 24) hx hb dX0_standingSquares_34 (by decide) ?_
        refine lv_iload_n hx hb dX0_standingSquares_36 rfl (lv_at hl 2 rfl) ?_
        refine lv_iadd hx hb dX0_standingSquares_37 ?_
        refine lv_asi (y := nI (24 + i)) (nI_add 24 i) ?_
        refine rd_ald (q0 := qc) (t0 := t0) (j := 24 + i) (v := P i 3) hx hb hK hP hqc ht0 (rfl) (by omega) (by decide) (by rw [show 24 + i = 8 * 3 + i by omega]; exact hf i c_9 3 (by decide)) dX0_standingSquares_38 ?_
        refine lv_imul hx hb dX0_standingSquares_39 ?_
        refine lv_iadd hx hb dX0_standingSquares_40 ?_
        refine lv_istore_n (lv' := [(1, .int (a + ((P i 2) * (P i 3)))), (0, .ref ob), (2, .int (nI i))]) hx hb dX0_standingSquares_41 rfl hl (by decide) rfl (fun ls hl => ?_)
        refine lv_iinc (v := nI (i + 1)) (lv' := [(2, .int (nI (i + 1))), (1, .int (a + ((P i 2) * (P i 3)))), (0, .ref ob)]) hx hb dX0_standingSquares_42 hl (k := 2) rfl (nI_add i 1) (by decide) rfl (fun ls hl => ?_)
        refine lv_goto (tgt := 4) hx hb dX0_standingSquares_45 (by decide) ?_
        exact ih4 (i + 1) (a + ((P i 2) * (P i 3))) ls (by omega) (by omega) (by rw [inv4, gF_step c_9]; simp [gSQF, bI, c_9n, c_17]) (lv_sub hl [2, 1, 0] rfl)
set_option maxHeartbeats 4000000 in
set_option maxRecDepth 100000 in
theorem c_X0_pointsWithoutOpenCorner (l : Launch) (D : va_G) {w : va_W} {tys : List (ClassId × FieldType)} {ob n : Nat} {P : Nat → Nat → Int32} (hbd : bd_in w tys ob n P) : rd_M l yX0_pointsWithoutOpenCorner wsX0_pointsWithoutOpenCorner ({ frames := 3, cells := 0, slots := 0, locals := 75 } : Room) D w tys [.ref ob] (gWO n P) := by
  obtain ⟨qb, qc, t0, oc, cI, f, hqb, hqc, ht0, hn8, hf⟩ := id hbd
  refine rd_of (cc := cX0_pointsWithoutOpenCorner) (maxL := 3) (ret := some .int) (by decide) rfl (Nat.le_of_ble_eq_true rfl) ?_
  intro p e s m below meth c hx hb hr hml hts hown hlocks hP hK hN ls hl
  have hown : s.vm.findClass RX0 = some m.cls := hown
  have hl : lv_has ls 3 [(0, .ref ob)] := hl
  have hw15 := hts (.fieldLink RX0 15 "CornerLabels$Board" "points" "I") (by decide +kernel)
  have hinX0 : ∀ w ∈ u_ws RX0 TX0 2, w ∈ wsX0_pointsWithoutOpenCorner := by decide +kernel
  refine lv_iconst (v := 0) hx hb dX0_pointsWithoutOpenCorner_0 (by decide) ?_
  refine lv_istore_n (lv' := [(1, .int 0), (0, .ref ob)]) hx hb dX0_pointsWithoutOpenCorner_1 rfl hl (by decide) rfl (fun ls hl => ?_)
  refine lv_iconst (v := 0) hx hb dX0_pointsWithoutOpenCorner_2 (by decide) ?_
  refine lv_istore_n (lv' := [(2, .int 0), (1, .int 0), (0, .ref ob)]) hx hb dX0_pointsWithoutOpenCorner_3 rfl hl (by decide) rfl (fun ls hl => ?_)
  suffices loop4 : ∀ (k4 i : Nat) (a : Int32) (ls : Array Slot), i ≤ n → n + 1 ≤ i + k4 → (gWO n P = gF n (gWOF n P) i a) → lv_has ls 3 [(0, .ref ob), (1, .int a), (2, .int (nI i))] → rd_W p l e wsX0_pointsWithoutOpenCorner ({ frames := 3, cells := 0, slots := 0, locals := 75 } : Room) s m [.ref ob] below meth c (gWO n P) (F0 m 4 ls []) from
    loop4 (n + 1) 0 0 ls (by omega) (by omega) (by rfl) (lv_sub hl [2, 1, 0] rfl)
  intro k4
  induction k4 with
  | zero => intro i a ls h1 h2; exact absurd h2 (by omega)
  | succ k4 ih4 =>
    intro i a ls hle4 hlt4 inv4 hl
    refine lv_iload_n hx hb dX0_pointsWithoutOpenCorner_4 rfl (lv_at hl 2 rfl) ?_
    refine lv_aload_n hx hb dX0_pointsWithoutOpenCorner_5 rfl (lv_at hl 0 rfl) ?_
    refine va_get (D := D) (ci := 0) (v := .int (nI n)) (C := RX0) (T := TX0) (N := 2) hx hb hts hinX0 hown hK hP qb hqb rfl 1 (by decide) hw15 (fun _ h9 => h9) rfl dX0_pointsWithoutOpenCorner_6 ?_
    refine rd_icmp_ge_n (a := i) (b := n) (tgt := 29) (by omega) (by omega) hx hb dX0_pointsWithoutOpenCorner_9 (by decide) (fun c_9 => ?_) (fun c_9 => ?_)
    · have c_9n := Nat.not_lt.mpr c_9
      refine lv_iload_n hx hb dX0_pointsWithoutOpenCorner_29 rfl (lv_at hl 1 rfl) ?_
      exact rd_iret hx hb hr hlocks dX0_pointsWithoutOpenCorner_30 (by rw [inv4, gF_end c_9])
    · have c_9n := Nat.not_le.mpr c_9
      refine lv_aload_n hx hb dX0_pointsWithoutOpenCorner_12 rfl (lv_at hl 0 rfl) ?_
      refine lv_iload_n hx hb dX0_pointsWithoutOpenCorner_13 rfl (lv_at hl 2 rfl) ?_
      refine rd_callV (As := [.int (nI i)]) (rest := []) ⟨hx, hb, hml, hown, hts⟩ (c_X0_openMask l D hbd c_9) (cwV 1 hts gX0_pointsWithoutOpenCorner_X0_openMask rfl rfl rfl (by decide +kernel) ⟨by decide, by decide⟩) hK hN hP hqb rfl rfl hl.1 rfl (Nat.le_of_ble_eq_true rfl) ⟨by decide, by decide⟩ dX0_pointsWithoutOpenCorner_14 ?_
      refine lv_if_ne (tgt := 23) hx hb dX0_pointsWithoutOpenCorner_17 (by decide) (fun c_17 => ?_) (fun c_17 => ?_)
      · refine lv_iinc (v := nI (i + 1)) (lv' := [(2, .int (nI (i + 1))), (0, .ref ob), (1, .int a)]) hx hb dX0_pointsWithoutOpenCorner_23 hl (k := 2) rfl (nI_add i 1) (by decide) rfl (fun ls hl => ?_)
        refine lv_goto (tgt := 4) hx hb dX0_pointsWithoutOpenCorner_26 (by decide) ?_
        exact ih4 (i + 1) a ls (by omega) (by omega) (by rw [inv4, gF_step c_9]; simp [gWOF, bI, c_9n, c_17]) (lv_sub hl [1, 2, 0] rfl)
      · refine lv_iinc (v := a + 1) (lv' := [(1, .int (a + 1)), (0, .ref ob), (2, .int (nI i))]) hx hb dX0_pointsWithoutOpenCorner_20 hl (k := 1) rfl (rfl) (by decide) rfl (fun ls hl => ?_)
        refine lv_iinc (v := nI (i + 1)) (lv' := [(2, .int (nI (i + 1))), (1, .int (a + 1)), (0, .ref ob)]) hx hb dX0_pointsWithoutOpenCorner_23 hl (k := 2) rfl (nI_add i 1) (by decide) rfl (fun ls hl => ?_)
        refine lv_goto (tgt := 4) hx hb dX0_pointsWithoutOpenCorner_26 (by decide) ?_
        exact ih4 (i + 1) (a + 1) ls (by omega) (by omega) (by rw [inv4, gF_step c_9]; simp [gWOF, bI, c_9n, c_17]) (lv_sub hl [2, 1, 0] rfl)
set_option maxHeartbeats 4000000 in
set_option maxRecDepth 100000 in
theorem c_X0_crossingsOfDropped (l : Launch) (D : va_G) {w : va_W} {tys : List (ClassId × FieldType)} {ob n : Nat} {P : Nat → Nat → Int32} (hbd : bd_in w tys ob n P) : rd_M l yX0_crossingsOfDropped wsX0_crossingsOfDropped ({ frames := 3, cells := 0, slots := 0, locals := 72 } : Room) D w tys [.ref ob] (gCD n P) := by
  obtain ⟨qb, qc, t0, oc, cI, f, hqb, hqc, ht0, hn8, hf⟩ := id hbd
  refine rd_of (cc := cX0_crossingsOfDropped) (maxL := 3) (ret := some .int) (by decide) rfl (Nat.le_of_ble_eq_true rfl) ?_
  intro p e s m below meth c hx hb hr hml hts hown hlocks hP hK hN ls hl
  have hown : s.vm.findClass RX0 = some m.cls := hown
  have hl : lv_has ls 3 [(0, .ref ob)] := hl
  have hw15 := hts (.fieldLink RX0 15 "CornerLabels$Board" "points" "I") (by decide +kernel)
  have hinX0 : ∀ w ∈ u_ws RX0 TX0 2, w ∈ wsX0_crossingsOfDropped := by decide +kernel
  refine lv_iconst (v := 0) hx hb dX0_crossingsOfDropped_0 (by decide) ?_
  refine lv_istore_n (lv' := [(1, .int 0), (0, .ref ob)]) hx hb dX0_crossingsOfDropped_1 rfl hl (by decide) rfl (fun ls hl => ?_)
  refine lv_iconst (v := 0) hx hb dX0_crossingsOfDropped_2 (by decide) ?_
  refine lv_istore_n (lv' := [(2, .int 0), (1, .int 0), (0, .ref ob)]) hx hb dX0_crossingsOfDropped_3 rfl hl (by decide) rfl (fun ls hl => ?_)
  suffices loop4 : ∀ (k4 i : Nat) (a : Int32) (ls : Array Slot), i ≤ n → n + 1 ≤ i + k4 → (gCD n P = gF n (gCDF n P) i a) → lv_has ls 3 [(0, .ref ob), (1, .int a), (2, .int (nI i))] → rd_W p l e wsX0_crossingsOfDropped ({ frames := 3, cells := 0, slots := 0, locals := 72 } : Room) s m [.ref ob] below meth c (gCD n P) (F0 m 4 ls []) from
    loop4 (n + 1) 0 0 ls (by omega) (by omega) (by rfl) (lv_sub hl [2, 1, 0] rfl)
  intro k4
  induction k4 with
  | zero => intro i a ls h1 h2; exact absurd h2 (by omega)
  | succ k4 ih4 =>
    intro i a ls hle4 hlt4 inv4 hl
    refine lv_iload_n hx hb dX0_crossingsOfDropped_4 rfl (lv_at hl 2 rfl) ?_
    refine lv_aload_n hx hb dX0_crossingsOfDropped_5 rfl (lv_at hl 0 rfl) ?_
    refine va_get (D := D) (ci := 0) (v := .int (nI n)) (C := RX0) (T := TX0) (N := 2) hx hb hts hinX0 hown hK hP qb hqb rfl 1 (by decide) hw15 (fun _ h9 => h9) rfl dX0_crossingsOfDropped_6 ?_
    refine rd_icmp_ge_n (a := i) (b := n) (tgt := 34) (by omega) (by omega) hx hb dX0_crossingsOfDropped_9 (by decide) (fun c_9 => ?_) (fun c_9 => ?_)
    · have c_9n := Nat.not_lt.mpr c_9
      refine lv_iload_n hx hb dX0_crossingsOfDropped_34 rfl (lv_at hl 1 rfl) ?_
      exact rd_iret hx hb hr hlocks dX0_crossingsOfDropped_35 (by rw [inv4, gF_end c_9])
    · have c_9n := Nat.not_le.mpr c_9
      refine lv_aload_n hx hb dX0_crossingsOfDropped_12 rfl (lv_at hl 0 rfl) ?_
      refine lv_iload_n hx hb dX0_crossingsOfDropped_13 rfl (lv_at hl 2 rfl) ?_
      refine rd_callV (As := [.int (nI i)]) (rest := []) ⟨hx, hb, hml, hown, hts⟩ (c_X0_stands l D hbd c_9) (cwV 1 hts gX0_crossingsOfDropped_X0_stands rfl rfl rfl (by decide +kernel) ⟨by decide, by decide⟩) hK hN hP hqb rfl rfl hl.1 rfl (Nat.le_of_ble_eq_true rfl) ⟨by decide, by decide⟩ dX0_crossingsOfDropped_14 ?_
      refine rd_ifne_b (tgt := 28) hx hb dX0_crossingsOfDropped_17 (by decide) (fun c_17 => ?_) (fun c_17 => ?_)
      · refine lv_iinc (v := nI (i + 1)) (lv' := [(2, .int (nI (i + 1))), (0, .ref ob), (1, .int a)]) hx hb dX0_crossingsOfDropped_28 hl (k := 2) rfl (nI_add i 1) (by decide) rfl (fun ls hl => ?_)
        refine lv_goto (tgt := 4) hx hb dX0_crossingsOfDropped_31 (by decide) ?_
        exact ih4 (i + 1) a ls (by omega) (by omega) (by rw [inv4, gF_step c_9]; simp [gCDF, bI, c_9n, c_17]) (lv_sub hl [1, 2, 0] rfl)
      · refine lv_iload_n hx hb dX0_crossingsOfDropped_20 rfl (lv_at hl 1 rfl) ?_
        refine lv_aload_n hx hb dX0_crossingsOfDropped_21 rfl (lv_at hl 0 rfl) ?_
        refine lv_iload_n hx hb dX0_crossingsOfDropped_22 rfl (lv_at hl 2 rfl) ?_
        refine rd_callV (As := [.int (nI i)]) (rest := [.int a]) ⟨hx, hb, hml, hown, hts⟩ (c_X0_leaderCrossings l D hbd c_9) (cwV 1 hts gX0_crossingsOfDropped_X0_leaderCrossings rfl rfl rfl (by decide +kernel) ⟨by decide, by decide⟩) hK hN hP hqb rfl rfl hl.1 rfl (Nat.le_of_ble_eq_true rfl) ⟨by decide, by decide⟩ dX0_crossingsOfDropped_23 ?_
        refine lv_iadd hx hb dX0_crossingsOfDropped_26 ?_
        refine lv_istore_n (lv' := [(1, .int (a + (gCr n P i))), (0, .ref ob), (2, .int (nI i))]) hx hb dX0_crossingsOfDropped_27 rfl hl (by decide) rfl (fun ls hl => ?_)
        refine lv_iinc (v := nI (i + 1)) (lv' := [(2, .int (nI (i + 1))), (1, .int (a + (gCr n P i))), (0, .ref ob)]) hx hb dX0_crossingsOfDropped_28 hl (k := 2) rfl (nI_add i 1) (by decide) rfl (fun ls hl => ?_)
        refine lv_goto (tgt := 4) hx hb dX0_crossingsOfDropped_31 (by decide) ?_
        exact ih4 (i + 1) (a + (gCr n P i)) ls (by omega) (by omega) (by rw [inv4, gF_step c_9]; simp [gCDF, bI, c_9n, c_17]) (lv_sub hl [2, 1, 0] rfl)
end

section
-- ===== PART A: goes FIRST, ahead of the names: the tables' words, and 'selects' of the private methods out of them =====
/-- a private method of a class that the tables say can be made, by its rows of tables_1 -/
def lw_okq (q : MethodName × Nat) : Prop := (q.1.cls ≠ "java/lang/invoke/MethodHandle" ∧ q.1.cls ≠ "java/lang/invoke/VarHandle") ∧ Cond.instantiable q.1.cls q.2 ∈ tables_1 ∧ Cond.privateMethod q.1 ∈ tables_1 ∧ Cond.instanceMethod q.1 ∈ tables_1
theorem lw_p0 : lw_okq (⟨"LetterTree", "startAnew", "()V"⟩, 10) := ⟨⟨by decide +kernel, by decide +kernel⟩, List.mem_of_getElem? (i := 22) (by decide +kernel), List.mem_of_getElem? (i := 130) (by decide +kernel), List.mem_of_getElem? (i := 131) (by decide +kernel)⟩
theorem lw_p1 : lw_okq (⟨"LetterTree", "writeRefusal", "(Z)I"⟩, 10) := ⟨⟨by decide +kernel, by decide +kernel⟩, List.mem_of_getElem? (i := 22) (by decide +kernel), List.mem_of_getElem? (i := 226) (by decide +kernel), List.mem_of_getElem? (i := 227) (by decide +kernel)⟩
theorem lw_p2 : lw_okq (⟨"LetterTree", "write", "(IJJI)I"⟩, 10) := ⟨⟨by decide +kernel, by decide +kernel⟩, List.mem_of_getElem? (i := 22) (by decide +kernel), List.mem_of_getElem? (i := 261) (by decide +kernel), List.mem_of_getElem? (i := 262) (by decide +kernel)⟩
theorem lw_p3 : lw_okq (⟨"java/util/ArrayList", "add", "(Ljava/lang/Object;[Ljava/lang/Object;I)V"⟩, 3) := ⟨⟨by decide +kernel, by decide +kernel⟩, List.mem_of_getElem? (i := 95) (by decide +kernel), List.mem_of_getElem? (i := 332) (by decide +kernel), List.mem_of_getElem? (i := 333) (by decide +kernel)⟩
theorem lw_p4 : lw_okq (⟨"java/util/ArrayList", "grow", "()[Ljava/lang/Object;"⟩, 3) := ⟨⟨by decide +kernel, by decide +kernel⟩, List.mem_of_getElem? (i := 95) (by decide +kernel), List.mem_of_getElem? (i := 336) (by decide +kernel), List.mem_of_getElem? (i := 337) (by decide +kernel)⟩
theorem lw_p5 : lw_okq (⟨"java/util/ArrayList", "grow", "(I)[Ljava/lang/Object;"⟩, 3) := ⟨⟨by decide +kernel, by decide +kernel⟩, List.mem_of_getElem? (i := 95) (by decide +kernel), List.mem_of_getElem? (i := 340) (by decide +kernel), List.mem_of_getElem? (i := 341) (by decide +kernel)⟩
theorem lw_p6 : lw_okq (⟨"LetterTree$Page", "copyInto", "(LLetterTree$Page;II)V"⟩, 5) := ⟨⟨by decide +kernel, by decide +kernel⟩, List.mem_of_getElem? (i := 134) (by decide +kernel), List.mem_of_getElem? (i := 423) (by decide +kernel), List.mem_of_getElem? (i := 424) (by decide +kernel)⟩
theorem lw_p7 : lw_okq (⟨"LetterTree$Entries", "removeFrom", "(IJ)I"⟩, 1) := ⟨⟨by decide +kernel, by decide +kernel⟩, List.mem_of_getElem? (i := 89) (by decide +kernel), List.mem_of_getElem? (i := 437) (by decide +kernel), List.mem_of_getElem? (i := 438) (by decide +kernel)⟩
theorem lw_p8 : lw_okq (⟨"java/util/ArrayList", "fastRemove", "([Ljava/lang/Object;I)V"⟩, 3) := ⟨⟨by decide +kernel, by decide +kernel⟩, List.mem_of_getElem? (i := 95) (by decide +kernel), List.mem_of_getElem? (i := 445) (by decide +kernel), List.mem_of_getElem? (i := 446) (by decide +kernel)⟩
theorem lw_p9 : lw_okq (⟨"java/util/ArrayList", "rangeCheckForAdd", "(I)V"⟩, 3) := ⟨⟨by decide +kernel, by decide +kernel⟩, List.mem_of_getElem? (i := 95) (by decide +kernel), List.mem_of_getElem? (i := 482) (by decide +kernel), List.mem_of_getElem? (i := 483) (by decide +kernel)⟩
theorem lw_p10 : lw_okq (⟨"LetterTree$Page", "takeInParts", "(LLetterTree$Letter;)V"⟩, 5) := ⟨⟨by decide +kernel, by decide +kernel⟩, List.mem_of_getElem? (i := 134) (by decide +kernel), List.mem_of_getElem? (i := 486) (by decide +kernel), List.mem_of_getElem? (i := 487) (by decide +kernel)⟩
theorem lw_p11 : lw_okq (⟨"LetterTree$Page", "lettersFrom", "(JJ)I"⟩, 5) := ⟨⟨by decide +kernel, by decide +kernel⟩, List.mem_of_getElem? (i := 134) (by decide +kernel), List.mem_of_getElem? (i := 511) (by decide +kernel), List.mem_of_getElem? (i := 512) (by decide +kernel)⟩
theorem lw_p12 : lw_okq (⟨"LetterTree$Page", "partOf", "(II)LLetterTree$Page;"⟩, 5) := ⟨⟨by decide +kernel, by decide +kernel⟩, List.mem_of_getElem? (i := 134) (by decide +kernel), List.mem_of_getElem? (i := 536) (by decide +kernel), List.mem_of_getElem? (i := 537) (by decide +kernel)⟩
theorem lw_p13 : lw_okq (⟨"LetterTree$Tree", "partRoot", "()V"⟩, 1) := ⟨⟨by decide +kernel, by decide +kernel⟩, List.mem_of_getElem? (i := 78) (by decide +kernel), List.mem_of_getElem? (i := 542) (by decide +kernel), List.mem_of_getElem? (i := 543) (by decide +kernel)⟩
theorem lw_p14 : lw_okq (⟨"LetterTree", "load", "([B)I"⟩, 10) := ⟨⟨by decide +kernel, by decide +kernel⟩, List.mem_of_getElem? (i := 22) (by decide +kernel), List.mem_of_getElem? (i := 574) (by decide +kernel), List.mem_of_getElem? (i := 575) (by decide +kernel)⟩
theorem lw_p15 : lw_okq (⟨"LetterTree", "findEntry", "(I)I"⟩, 10) := ⟨⟨by decide +kernel, by decide +kernel⟩, List.mem_of_getElem? (i := 22) (by decide +kernel), List.mem_of_getElem? (i := 593) (by decide +kernel), List.mem_of_getElem? (i := 594) (by decide +kernel)⟩
def lw_privs_1 : List (MethodName × Nat) := [(⟨"LetterTree", "startAnew", "()V"⟩, 10), (⟨"LetterTree", "writeRefusal", "(Z)I"⟩, 10), (⟨"LetterTree", "write", "(IJJI)I"⟩, 10), (⟨"java/util/ArrayList", "add", "(Ljava/lang/Object;[Ljava/lang/Object;I)V"⟩, 3), (⟨"java/util/ArrayList", "grow", "()[Ljava/lang/Object;"⟩, 3), (⟨"java/util/ArrayList", "grow", "(I)[Ljava/lang/Object;"⟩, 3), (⟨"LetterTree$Page", "copyInto", "(LLetterTree$Page;II)V"⟩, 5), (⟨"LetterTree$Entries", "removeFrom", "(IJ)I"⟩, 1), (⟨"java/util/ArrayList", "fastRemove", "([Ljava/lang/Object;I)V"⟩, 3), (⟨"java/util/ArrayList", "rangeCheckForAdd", "(I)V"⟩, 3), (⟨"LetterTree$Page", "takeInParts", "(LLetterTree$Letter;)V"⟩, 5), (⟨"LetterTree$Page", "lettersFrom", "(JJ)I"⟩, 5), (⟨"LetterTree$Page", "partOf", "(II)LLetterTree$Page;"⟩, 5), (⟨"LetterTree$Tree", "partRoot", "()V"⟩, 1), (⟨"LetterTree", "load", "([B)I"⟩, 10), (⟨"LetterTree", "findEntry", "(I)I"⟩, 10)]
theorem lw_r1 : ∀ q ∈ lw_privs_1, lw_okq q := List.forall_mem_cons.mpr ⟨lw_p0, List.forall_mem_cons.mpr ⟨lw_p1, List.forall_mem_cons.mpr ⟨lw_p2, List.forall_mem_cons.mpr ⟨lw_p3, List.forall_mem_cons.mpr ⟨lw_p4, List.forall_mem_cons.mpr ⟨lw_p5, List.forall_mem_cons.mpr ⟨lw_p6, List.forall_mem_cons.mpr ⟨lw_p7, List.forall_mem_cons.mpr ⟨lw_p8, List.forall_mem_cons.mpr ⟨lw_p9, List.forall_mem_cons.mpr ⟨lw_p10, List.forall_mem_cons.mpr ⟨lw_p11, List.forall_mem_cons.mpr ⟨lw_p12, List.forall_mem_cons.mpr ⟨lw_p13, List.forall_mem_cons.mpr ⟨lw_p14, List.forall_mem_cons.mpr ⟨lw_p15, fun _ h => absurd h List.not_mem_nil⟩⟩⟩⟩⟩⟩⟩⟩⟩⟩⟩⟩⟩⟩⟩⟩
theorem lw_p16 : lw_okq (⟨"LetterTree", "freePlaces", "()I"⟩, 10) := ⟨⟨by decide +kernel, by decide +kernel⟩, List.mem_of_getElem? (i := 22) (by decide +kernel), List.mem_of_getElem? (i := 702) (by decide +kernel), List.mem_of_getElem? (i := 703) (by decide +kernel)⟩
theorem lw_p17 : lw_okq (⟨"LetterTree$Disk", "markPages", "(LLetterTree$Page;I)V"⟩, 6) := ⟨⟨by decide +kernel, by decide +kernel⟩, List.mem_of_getElem? (i := 46) (by decide +kernel), List.mem_of_getElem? (i := 713) (by decide +kernel), List.mem_of_getElem? (i := 714) (by decide +kernel)⟩
theorem lw_p18 : lw_okq (⟨"LetterTree$Disk", "markPictures", "(Ljava/util/ArrayList;)V"⟩, 6) := ⟨⟨by decide +kernel, by decide +kernel⟩, List.mem_of_getElem? (i := 46) (by decide +kernel), List.mem_of_getElem? (i := 720) (by decide +kernel), List.mem_of_getElem? (i := 721) (by decide +kernel)⟩
theorem lw_p19 : lw_okq (⟨"LetterTree", "writeAll", "()Z"⟩, 10) := ⟨⟨by decide +kernel, by decide +kernel⟩, List.mem_of_getElem? (i := 22) (by decide +kernel), List.mem_of_getElem? (i := 725) (by decide +kernel), List.mem_of_getElem? (i := 726) (by decide +kernel)⟩
theorem lw_p20 : lw_okq (⟨"LetterTree$Disk", "writePages", "(LLetterTree$Page;I)Z"⟩, 6) := ⟨⟨by decide +kernel, by decide +kernel⟩, List.mem_of_getElem? (i := 46) (by decide +kernel), List.mem_of_getElem? (i := 729) (by decide +kernel), List.mem_of_getElem? (i := 730) (by decide +kernel)⟩
theorem lw_p21 : lw_okq (⟨"LetterTree$Disk", "writePage", "(LLetterTree$Page;)Z"⟩, 6) := ⟨⟨by decide +kernel, by decide +kernel⟩, List.mem_of_getElem? (i := 46) (by decide +kernel), List.mem_of_getElem? (i := 734) (by decide +kernel), List.mem_of_getElem? (i := 735) (by decide +kernel)⟩
theorem lw_p22 : lw_okq (⟨"LetterTree$Disk", "fallComes", "()Z"⟩, 6) := ⟨⟨by decide +kernel, by decide +kernel⟩, List.mem_of_getElem? (i := 46) (by decide +kernel), List.mem_of_getElem? (i := 739) (by decide +kernel), List.mem_of_getElem? (i := 740) (by decide +kernel)⟩
theorem lw_p23 : lw_okq (⟨"LetterTree", "goDown", "()V"⟩, 10) := ⟨⟨by decide +kernel, by decide +kernel⟩, List.mem_of_getElem? (i := 22) (by decide +kernel), List.mem_of_getElem? (i := 743) (by decide +kernel), List.mem_of_getElem? (i := 744) (by decide +kernel)⟩
theorem lw_p24 : lw_okq (⟨"LetterTree", "pictureIndex", "(I)I"⟩, 10) := ⟨⟨by decide +kernel, by decide +kernel⟩, List.mem_of_getElem? (i := 22) (by decide +kernel), List.mem_of_getElem? (i := 810) (by decide +kernel), List.mem_of_getElem? (i := 811) (by decide +kernel)⟩
theorem lw_p25 : lw_okq (⟨"LetterTree", "adopt", "(LLetterTree$Head;)V"⟩, 10) := ⟨⟨by decide +kernel, by decide +kernel⟩, List.mem_of_getElem? (i := 22) (by decide +kernel), List.mem_of_getElem? (i := 850) (by decide +kernel), List.mem_of_getElem? (i := 851) (by decide +kernel)⟩
theorem lw_p26 : lw_okq (⟨"LetterTreeModel", "place", "(J)I"⟩, 78) := ⟨⟨by decide +kernel, by decide +kernel⟩, List.mem_of_getElem? (i := 899) (by decide +kernel), List.mem_of_getElem? (i := 897) (by decide +kernel), List.mem_of_getElem? (i := 898) (by decide +kernel)⟩
theorem lw_p27 : lw_okq (⟨"LetterTreeModel", "isAt", "(IJ)Z"⟩, 78) := ⟨⟨by decide +kernel, by decide +kernel⟩, List.mem_of_getElem? (i := 899) (by decide +kernel), List.mem_of_getElem? (i := 902) (by decide +kernel), List.mem_of_getElem? (i := 903) (by decide +kernel)⟩
theorem lw_p28 : lw_okq (⟨"LetterTreeModel", "write", "(IJI)I"⟩, 78) := ⟨⟨by decide +kernel, by decide +kernel⟩, List.mem_of_getElem? (i := 899) (by decide +kernel), List.mem_of_getElem? (i := 906) (by decide +kernel), List.mem_of_getElem? (i := 907) (by decide +kernel)⟩
theorem lw_p29 : lw_okq (⟨"LetterTreeModel", "actsOnMap", "(I)Z"⟩, 78) := ⟨⟨by decide +kernel, by decide +kernel⟩, List.mem_of_getElem? (i := 899) (by decide +kernel), List.mem_of_getElem? (i := 910) (by decide +kernel), List.mem_of_getElem? (i := 911) (by decide +kernel)⟩
theorem lw_p30 : lw_okq (⟨"LetterTreeModel", "acts", "(I)Z"⟩, 78) := ⟨⟨by decide +kernel, by decide +kernel⟩, List.mem_of_getElem? (i := 899) (by decide +kernel), List.mem_of_getElem? (i := 914) (by decide +kernel), List.mem_of_getElem? (i := 915) (by decide +kernel)⟩
theorem lw_p31 : lw_okq (⟨"LetterTreeModel", "copy", "(IIII)V"⟩, 78) := ⟨⟨by decide +kernel, by decide +kernel⟩, List.mem_of_getElem? (i := 899) (by decide +kernel), List.mem_of_getElem? (i := 918) (by decide +kernel), List.mem_of_getElem? (i := 919) (by decide +kernel)⟩
def lw_privs_2 : List (MethodName × Nat) := [(⟨"LetterTree", "freePlaces", "()I"⟩, 10), (⟨"LetterTree$Disk", "markPages", "(LLetterTree$Page;I)V"⟩, 6), (⟨"LetterTree$Disk", "markPictures", "(Ljava/util/ArrayList;)V"⟩, 6), (⟨"LetterTree", "writeAll", "()Z"⟩, 10), (⟨"LetterTree$Disk", "writePages", "(LLetterTree$Page;I)Z"⟩, 6), (⟨"LetterTree$Disk", "writePage", "(LLetterTree$Page;)Z"⟩, 6), (⟨"LetterTree$Disk", "fallComes", "()Z"⟩, 6), (⟨"LetterTree", "goDown", "()V"⟩, 10), (⟨"LetterTree", "pictureIndex", "(I)I"⟩, 10), (⟨"LetterTree", "adopt", "(LLetterTree$Head;)V"⟩, 10), (⟨"LetterTreeModel", "place", "(J)I"⟩, 78), (⟨"LetterTreeModel", "isAt", "(IJ)Z"⟩, 78), (⟨"LetterTreeModel", "write", "(IJI)I"⟩, 78), (⟨"LetterTreeModel", "actsOnMap", "(I)Z"⟩, 78), (⟨"LetterTreeModel", "acts", "(I)Z"⟩, 78), (⟨"LetterTreeModel", "copy", "(IIII)V"⟩, 78)]
theorem lw_r2 : ∀ q ∈ lw_privs_2, lw_okq q := List.forall_mem_cons.mpr ⟨lw_p16, List.forall_mem_cons.mpr ⟨lw_p17, List.forall_mem_cons.mpr ⟨lw_p18, List.forall_mem_cons.mpr ⟨lw_p19, List.forall_mem_cons.mpr ⟨lw_p20, List.forall_mem_cons.mpr ⟨lw_p21, List.forall_mem_cons.mpr ⟨lw_p22, List.forall_mem_cons.mpr ⟨lw_p23, List.forall_mem_cons.mpr ⟨lw_p24, List.forall_mem_cons.mpr ⟨lw_p25, List.forall_mem_cons.mpr ⟨lw_p26, List.forall_mem_cons.mpr ⟨lw_p27, List.forall_mem_cons.mpr ⟨lw_p28, List.forall_mem_cons.mpr ⟨lw_p29, List.forall_mem_cons.mpr ⟨lw_p30, List.forall_mem_cons.mpr ⟨lw_p31, fun _ h => absurd h List.not_mem_nil⟩⟩⟩⟩⟩⟩⟩⟩⟩⟩⟩⟩⟩⟩⟩⟩
theorem lw_p32 : lw_okq (⟨"LetterTreeModel", "begins", "(I)Z"⟩, 78) := ⟨⟨by decide +kernel, by decide +kernel⟩, List.mem_of_getElem? (i := 899) (by decide +kernel), List.mem_of_getElem? (i := 922) (by decide +kernel), List.mem_of_getElem? (i := 923) (by decide +kernel)⟩
theorem lw_p33 : lw_okq (⟨"LetterTreeModel", "shut", "(II)V"⟩, 78) := ⟨⟨by decide +kernel, by decide +kernel⟩, List.mem_of_getElem? (i := 899) (by decide +kernel), List.mem_of_getElem? (i := 926) (by decide +kernel), List.mem_of_getElem? (i := 927) (by decide +kernel)⟩
theorem lw_p34 : lw_okq (⟨"LetterTreeModel", "move", "(II)V"⟩, 78) := ⟨⟨by decide +kernel, by decide +kernel⟩, List.mem_of_getElem? (i := 899) (by decide +kernel), List.mem_of_getElem? (i := 930) (by decide +kernel), List.mem_of_getElem? (i := 931) (by decide +kernel)⟩
theorem lw_p35 : lw_okq (⟨"LetterTreeModel", "open", "(IJ)V"⟩, 78) := ⟨⟨by decide +kernel, by decide +kernel⟩, List.mem_of_getElem? (i := 899) (by decide +kernel), List.mem_of_getElem? (i := 934) (by decide +kernel), List.mem_of_getElem? (i := 935) (by decide +kernel)⟩
theorem lw_p36 : lw_okq (⟨"LetterTreeModel", "giveRoot", "(IJJ)V"⟩, 78) := ⟨⟨by decide +kernel, by decide +kernel⟩, List.mem_of_getElem? (i := 899) (by decide +kernel), List.mem_of_getElem? (i := 938) (by decide +kernel), List.mem_of_getElem? (i := 939) (by decide +kernel)⟩
theorem lw_p37 : lw_okq (⟨"LetterTreeModel", "actOnLeaf", "(IIJJ)V"⟩, 78) := ⟨⟨by decide +kernel, by decide +kernel⟩, List.mem_of_getElem? (i := 899) (by decide +kernel), List.mem_of_getElem? (i := 942) (by decide +kernel), List.mem_of_getElem? (i := 943) (by decide +kernel)⟩
theorem lw_p38 : lw_okq (⟨"LetterTreeModel", "below", "(IJ)I"⟩, 78) := ⟨⟨by decide +kernel, by decide +kernel⟩, List.mem_of_getElem? (i := 899) (by decide +kernel), List.mem_of_getElem? (i := 946) (by decide +kernel), List.mem_of_getElem? (i := 947) (by decide +kernel)⟩
theorem lw_p39 : lw_okq (⟨"LetterTreeModel", "leave", "(II)V"⟩, 78) := ⟨⟨by decide +kernel, by decide +kernel⟩, List.mem_of_getElem? (i := 899) (by decide +kernel), List.mem_of_getElem? (i := 950) (by decide +kernel), List.mem_of_getElem? (i := 951) (by decide +kernel)⟩
theorem lw_p40 : lw_okq (⟨"LetterTreeModel", "entry", "(IIJ)I"⟩, 78) := ⟨⟨by decide +kernel, by decide +kernel⟩, List.mem_of_getElem? (i := 899) (by decide +kernel), List.mem_of_getElem? (i := 954) (by decide +kernel), List.mem_of_getElem? (i := 955) (by decide +kernel)⟩
theorem lw_p41 : lw_okq (⟨"LetterTreeModel", "comes", "(IIJJ)V"⟩, 78) := ⟨⟨by decide +kernel, by decide +kernel⟩, List.mem_of_getElem? (i := 899) (by decide +kernel), List.mem_of_getElem? (i := 958) (by decide +kernel), List.mem_of_getElem? (i := 959) (by decide +kernel)⟩
theorem lw_p42 : lw_okq (⟨"LetterTreeModel", "letter", "(IIJJ)V"⟩, 78) := ⟨⟨by decide +kernel, by decide +kernel⟩, List.mem_of_getElem? (i := 899) (by decide +kernel), List.mem_of_getElem? (i := 962) (by decide +kernel), List.mem_of_getElem? (i := 963) (by decide +kernel)⟩
theorem lw_p43 : lw_okq (⟨"LetterTreeModel", "chain", "(II)V"⟩, 78) := ⟨⟨by decide +kernel, by decide +kernel⟩, List.mem_of_getElem? (i := 899) (by decide +kernel), List.mem_of_getElem? (i := 966) (by decide +kernel), List.mem_of_getElem? (i := 967) (by decide +kernel)⟩
theorem lw_p44 : lw_okq (⟨"LetterTreeModel", "kidFor", "(IJ)I"⟩, 78) := ⟨⟨by decide +kernel, by decide +kernel⟩, List.mem_of_getElem? (i := 899) (by decide +kernel), List.mem_of_getElem? (i := 970) (by decide +kernel), List.mem_of_getElem? (i := 971) (by decide +kernel)⟩
theorem lw_p45 : lw_okq (⟨"LetterTreeModel", "settlePage", "(I)V"⟩, 78) := ⟨⟨by decide +kernel, by decide +kernel⟩, List.mem_of_getElem? (i := 899) (by decide +kernel), List.mem_of_getElem? (i := 974) (by decide +kernel), List.mem_of_getElem? (i := 975) (by decide +kernel)⟩
theorem lw_p46 : lw_okq (⟨"LetterTreeModel", "sinks", "(I)I"⟩, 78) := ⟨⟨by decide +kernel, by decide +kernel⟩, List.mem_of_getElem? (i := 899) (by decide +kernel), List.mem_of_getElem? (i := 978) (by decide +kernel), List.mem_of_getElem? (i := 979) (by decide +kernel)⟩
theorem lw_p47 : lw_okq (⟨"LetterTreeModel", "giveLetters", "(III)V"⟩, 78) := ⟨⟨by decide +kernel, by decide +kernel⟩, List.mem_of_getElem? (i := 899) (by decide +kernel), List.mem_of_getElem? (i := 982) (by decide +kernel), List.mem_of_getElem? (i := 983) (by decide +kernel)⟩
def lw_privs_3 : List (MethodName × Nat) := [(⟨"LetterTreeModel", "begins", "(I)Z"⟩, 78), (⟨"LetterTreeModel", "shut", "(II)V"⟩, 78), (⟨"LetterTreeModel", "move", "(II)V"⟩, 78), (⟨"LetterTreeModel", "open", "(IJ)V"⟩, 78), (⟨"LetterTreeModel", "giveRoot", "(IJJ)V"⟩, 78), (⟨"LetterTreeModel", "actOnLeaf", "(IIJJ)V"⟩, 78), (⟨"LetterTreeModel", "below", "(IJ)I"⟩, 78), (⟨"LetterTreeModel", "leave", "(II)V"⟩, 78), (⟨"LetterTreeModel", "entry", "(IIJ)I"⟩, 78), (⟨"LetterTreeModel", "comes", "(IIJJ)V"⟩, 78), (⟨"LetterTreeModel", "letter", "(IIJJ)V"⟩, 78), (⟨"LetterTreeModel", "chain", "(II)V"⟩, 78), (⟨"LetterTreeModel", "kidFor", "(IJ)I"⟩, 78), (⟨"LetterTreeModel", "settlePage", "(I)V"⟩, 78), (⟨"LetterTreeModel", "sinks", "(I)I"⟩, 78), (⟨"LetterTreeModel", "giveLetters", "(III)V"⟩, 78)]
theorem lw_r3 : ∀ q ∈ lw_privs_3, lw_okq q := List.forall_mem_cons.mpr ⟨lw_p32, List.forall_mem_cons.mpr ⟨lw_p33, List.forall_mem_cons.mpr ⟨lw_p34, List.forall_mem_cons.mpr ⟨lw_p35, List.forall_mem_cons.mpr ⟨lw_p36, List.forall_mem_cons.mpr ⟨lw_p37, List.forall_mem_cons.mpr ⟨lw_p38, List.forall_mem_cons.mpr ⟨lw_p39, List.forall_mem_cons.mpr ⟨lw_p40, List.forall_mem_cons.mpr ⟨lw_p41, List.forall_mem_cons.mpr ⟨lw_p42, List.forall_mem_cons.mpr ⟨lw_p43, List.forall_mem_cons.mpr ⟨lw_p44, List.forall_mem_cons.mpr ⟨lw_p45, List.forall_mem_cons.mpr ⟨lw_p46, List.forall_mem_cons.mpr ⟨lw_p47, fun _ h => absurd h List.not_mem_nil⟩⟩⟩⟩⟩⟩⟩⟩⟩⟩⟩⟩⟩⟩⟩⟩
theorem lw_p48 : lw_okq (⟨"LetterTreeModel", "partKid", "(II)V"⟩, 78) := ⟨⟨by decide +kernel, by decide +kernel⟩, List.mem_of_getElem? (i := 899) (by decide +kernel), List.mem_of_getElem? (i := 986) (by decide +kernel), List.mem_of_getElem? (i := 987) (by decide +kernel)⟩
theorem lw_p49 : lw_okq (⟨"LetterTreeModel", "isTooBig", "(I)Z"⟩, 78) := ⟨⟨by decide +kernel, by decide +kernel⟩, List.mem_of_getElem? (i := 899) (by decide +kernel), List.mem_of_getElem? (i := 990) (by decide +kernel), List.mem_of_getElem? (i := 991) (by decide +kernel)⟩
theorem lw_p50 : lw_okq (⟨"LetterTreeModel", "partOf", "(I)V"⟩, 78) := ⟨⟨by decide +kernel, by decide +kernel⟩, List.mem_of_getElem? (i := 899) (by decide +kernel), List.mem_of_getElem? (i := 994) (by decide +kernel), List.mem_of_getElem? (i := 995) (by decide +kernel)⟩
theorem lw_p51 : lw_okq (⟨"LetterTreeModel", "page", "(Z)I"⟩, 78) := ⟨⟨by decide +kernel, by decide +kernel⟩, List.mem_of_getElem? (i := 899) (by decide +kernel), List.mem_of_getElem? (i := 998) (by decide +kernel), List.mem_of_getElem? (i := 999) (by decide +kernel)⟩
theorem lw_p52 : lw_okq (⟨"LetterTreeModel", "give", "(I)V"⟩, 78) := ⟨⟨by decide +kernel, by decide +kernel⟩, List.mem_of_getElem? (i := 899) (by decide +kernel), List.mem_of_getElem? (i := 1002) (by decide +kernel), List.mem_of_getElem? (i := 1003) (by decide +kernel)⟩
theorem lw_p53 : lw_okq (⟨"LetterTreeModel", "grow", "()V"⟩, 78) := ⟨⟨by decide +kernel, by decide +kernel⟩, List.mem_of_getElem? (i := 899) (by decide +kernel), List.mem_of_getElem? (i := 1006) (by decide +kernel), List.mem_of_getElem? (i := 1007) (by decide +kernel)⟩
theorem lw_p54 : lw_okq (⟨"LetterTreeModel", "clearPages", "()V"⟩, 78) := ⟨⟨by decide +kernel, by decide +kernel⟩, List.mem_of_getElem? (i := 899) (by decide +kernel), List.mem_of_getElem? (i := 1061) (by decide +kernel), List.mem_of_getElem? (i := 1062) (by decide +kernel)⟩
theorem lw_p55 : lw_okq (⟨"LetterTreeModel", "number", "()V"⟩, 78) := ⟨⟨by decide +kernel, by decide +kernel⟩, List.mem_of_getElem? (i := 899) (by decide +kernel), List.mem_of_getElem? (i := 1309) (by decide +kernel), List.mem_of_getElem? (i := 1310) (by decide +kernel)⟩
theorem lw_p56 : lw_okq (⟨"LetterTreeModel", "visit", "(III)V"⟩, 78) := ⟨⟨by decide +kernel, by decide +kernel⟩, List.mem_of_getElem? (i := 899) (by decide +kernel), List.mem_of_getElem? (i := 1313) (by decide +kernel), List.mem_of_getElem? (i := 1314) (by decide +kernel)⟩
theorem lw_p57 : lw_okq (⟨"LetterTreeModel", "spreadChanges", "()V"⟩, 78) := ⟨⟨by decide +kernel, by decide +kernel⟩, List.mem_of_getElem? (i := 899) (by decide +kernel), List.mem_of_getElem? (i := 1333) (by decide +kernel), List.mem_of_getElem? (i := 1334) (by decide +kernel)⟩
theorem lw_p58 : lw_okq (⟨"LetterTreeModel", "freePlaces", "()I"⟩, 78) := ⟨⟨by decide +kernel, by decide +kernel⟩, List.mem_of_getElem? (i := 899) (by decide +kernel), List.mem_of_getElem? (i := 1353) (by decide +kernel), List.mem_of_getElem? (i := 1354) (by decide +kernel)⟩
theorem lw_p59 : lw_okq (⟨"LetterTreeModel", "mark", "()V"⟩, 78) := ⟨⟨by decide +kernel, by decide +kernel⟩, List.mem_of_getElem? (i := 899) (by decide +kernel), List.mem_of_getElem? (i := 1357) (by decide +kernel), List.mem_of_getElem? (i := 1358) (by decide +kernel)⟩
theorem lw_p60 : lw_okq (⟨"LetterTreeModel", "take", "(I)V"⟩, 78) := ⟨⟨by decide +kernel, by decide +kernel⟩, List.mem_of_getElem? (i := 899) (by decide +kernel), List.mem_of_getElem? (i := 1361) (by decide +kernel), List.mem_of_getElem? (i := 1362) (by decide +kernel)⟩
theorem lw_p61 : lw_okq (⟨"LetterTreeModel", "changedPages", "()I"⟩, 78) := ⟨⟨by decide +kernel, by decide +kernel⟩, List.mem_of_getElem? (i := 899) (by decide +kernel), List.mem_of_getElem? (i := 1365) (by decide +kernel), List.mem_of_getElem? (i := 1366) (by decide +kernel)⟩
theorem lw_p62 : lw_okq (⟨"LetterTreeModel", "writeAll", "()I"⟩, 78) := ⟨⟨by decide +kernel, by decide +kernel⟩, List.mem_of_getElem? (i := 899) (by decide +kernel), List.mem_of_getElem? (i := 1369) (by decide +kernel), List.mem_of_getElem? (i := 1370) (by decide +kernel)⟩
theorem lw_p63 : lw_okq (⟨"LetterTreeModel", "laysAll", "(I)Z"⟩, 78) := ⟨⟨by decide +kernel, by decide +kernel⟩, List.mem_of_getElem? (i := 899) (by decide +kernel), List.mem_of_getElem? (i := 1373) (by decide +kernel), List.mem_of_getElem? (i := 1374) (by decide +kernel)⟩
def lw_privs_4 : List (MethodName × Nat) := [(⟨"LetterTreeModel", "partKid", "(II)V"⟩, 78), (⟨"LetterTreeModel", "isTooBig", "(I)Z"⟩, 78), (⟨"LetterTreeModel", "partOf", "(I)V"⟩, 78), (⟨"LetterTreeModel", "page", "(Z)I"⟩, 78), (⟨"LetterTreeModel", "give", "(I)V"⟩, 78), (⟨"LetterTreeModel", "grow", "()V"⟩, 78), (⟨"LetterTreeModel", "clearPages", "()V"⟩, 78), (⟨"LetterTreeModel", "number", "()V"⟩, 78), (⟨"LetterTreeModel", "visit", "(III)V"⟩, 78), (⟨"LetterTreeModel", "spreadChanges", "()V"⟩, 78), (⟨"LetterTreeModel", "freePlaces", "()I"⟩, 78), (⟨"LetterTreeModel", "mark", "()V"⟩, 78), (⟨"LetterTreeModel", "take", "(I)V"⟩, 78), (⟨"LetterTreeModel", "changedPages", "()I"⟩, 78), (⟨"LetterTreeModel", "writeAll", "()I"⟩, 78), (⟨"LetterTreeModel", "laysAll", "(I)Z"⟩, 78)]
theorem lw_r4 : ∀ q ∈ lw_privs_4, lw_okq q := List.forall_mem_cons.mpr ⟨lw_p48, List.forall_mem_cons.mpr ⟨lw_p49, List.forall_mem_cons.mpr ⟨lw_p50, List.forall_mem_cons.mpr ⟨lw_p51, List.forall_mem_cons.mpr ⟨lw_p52, List.forall_mem_cons.mpr ⟨lw_p53, List.forall_mem_cons.mpr ⟨lw_p54, List.forall_mem_cons.mpr ⟨lw_p55, List.forall_mem_cons.mpr ⟨lw_p56, List.forall_mem_cons.mpr ⟨lw_p57, List.forall_mem_cons.mpr ⟨lw_p58, List.forall_mem_cons.mpr ⟨lw_p59, List.forall_mem_cons.mpr ⟨lw_p60, List.forall_mem_cons.mpr ⟨lw_p61, List.forall_mem_cons.mpr ⟨lw_p62, List.forall_mem_cons.mpr ⟨lw_p63, fun _ h => absurd h List.not_mem_nil⟩⟩⟩⟩⟩⟩⟩⟩⟩⟩⟩⟩⟩⟩⟩⟩
theorem lw_p64 : lw_okq (⟨"LetterTreeModel", "falls", "(I)Z"⟩, 78) := ⟨⟨by decide +kernel, by decide +kernel⟩, List.mem_of_getElem? (i := 899) (by decide +kernel), List.mem_of_getElem? (i := 1377) (by decide +kernel), List.mem_of_getElem? (i := 1378) (by decide +kernel)⟩
theorem lw_p65 : lw_okq (⟨"LetterTreeModel", "leastFree", "()I"⟩, 78) := ⟨⟨by decide +kernel, by decide +kernel⟩, List.mem_of_getElem? (i := 899) (by decide +kernel), List.mem_of_getElem? (i := 1381) (by decide +kernel), List.mem_of_getElem? (i := 1382) (by decide +kernel)⟩
theorem lw_p66 : lw_okq (⟨"LetterTreeModel", "lay", "(II)V"⟩, 78) := ⟨⟨by decide +kernel, by decide +kernel⟩, List.mem_of_getElem? (i := 899) (by decide +kernel), List.mem_of_getElem? (i := 1385) (by decide +kernel), List.mem_of_getElem? (i := 1386) (by decide +kernel)⟩
theorem lw_p67 : lw_okq (⟨"LetterTreeModel", "pictureAt", "(I)I"⟩, 78) := ⟨⟨by decide +kernel, by decide +kernel⟩, List.mem_of_getElem? (i := 899) (by decide +kernel), List.mem_of_getElem? (i := 1397) (by decide +kernel), List.mem_of_getElem? (i := 1398) (by decide +kernel)⟩
theorem lw_p68 : lw_okq (⟨"LetterTreeModel", "load", "(I)I"⟩, 78) := ⟨⟨by decide +kernel, by decide +kernel⟩, List.mem_of_getElem? (i := 899) (by decide +kernel), List.mem_of_getElem? (i := 1425) (by decide +kernel), List.mem_of_getElem? (i := 1426) (by decide +kernel)⟩
theorem lw_p69 : lw_okq (⟨"LetterTreeModel", "read", "(I)V"⟩, 78) := ⟨⟨by decide +kernel, by decide +kernel⟩, List.mem_of_getElem? (i := 899) (by decide +kernel), List.mem_of_getElem? (i := 1429) (by decide +kernel), List.mem_of_getElem? (i := 1430) (by decide +kernel)⟩
theorem lw_p70 : lw_okq (⟨"LetterTreeModel", "pagesOf", "(I)I"⟩, 78) := ⟨⟨by decide +kernel, by decide +kernel⟩, List.mem_of_getElem? (i := 899) (by decide +kernel), List.mem_of_getElem? (i := 1437) (by decide +kernel), List.mem_of_getElem? (i := 1438) (by decide +kernel)⟩
def lw_privs_5 : List (MethodName × Nat) := [(⟨"LetterTreeModel", "falls", "(I)Z"⟩, 78), (⟨"LetterTreeModel", "leastFree", "()I"⟩, 78), (⟨"LetterTreeModel", "lay", "(II)V"⟩, 78), (⟨"LetterTreeModel", "pictureAt", "(I)I"⟩, 78), (⟨"LetterTreeModel", "load", "(I)I"⟩, 78), (⟨"LetterTreeModel", "read", "(I)V"⟩, 78), (⟨"LetterTreeModel", "pagesOf", "(I)I"⟩, 78)]
theorem lw_r5 : ∀ q ∈ lw_privs_5, lw_okq q := List.forall_mem_cons.mpr ⟨lw_p64, List.forall_mem_cons.mpr ⟨lw_p65, List.forall_mem_cons.mpr ⟨lw_p66, List.forall_mem_cons.mpr ⟨lw_p67, List.forall_mem_cons.mpr ⟨lw_p68, List.forall_mem_cons.mpr ⟨lw_p69, List.forall_mem_cons.mpr ⟨lw_p70, fun _ h => absurd h List.not_mem_nil⟩⟩⟩⟩⟩⟩⟩
def lw_privs : List (MethodName × Nat) := lw_privs_1 ++ (lw_privs_2 ++ (lw_privs_3 ++ (lw_privs_4 ++ (lw_privs_5))))
def lw_tbl : List Cond := k2_sels lw_privs ++ tables_1
theorem lw_privs_ok : ∀ q ∈ lw_privs, lw_okq q := by
  show ∀ q ∈ lw_privs_1 ++ (lw_privs_2 ++ (lw_privs_3 ++ (lw_privs_4 ++ (lw_privs_5)))), lw_okq q
  exact List.forall_mem_append.mpr ⟨lw_r1, List.forall_mem_append.mpr ⟨lw_r2, List.forall_mem_append.mpr ⟨lw_r3, List.forall_mem_append.mpr ⟨lw_r4, lw_r5⟩⟩⟩⟩
end
section
def RX0 : String := "LetterTree$Disk"
def TX0 : u_T := fun k => match k with
  | 0 => ("LetterTree$Disk", "heads", "[LLetterTree$Head;", true)
  | 1 => ("LetterTree$Disk", "writings", "[I", true)
  | 2 => ("LetterTree$Disk", "taken", "[B", true)
  | 3 => ("LetterTree$Disk", "takenPlaces", "I", false)
  | 4 => ("LetterTree$Disk", "lowest", "I", false)
  | _ => ("LetterTree$Disk", "fallDue", "I", false)
def tyX0 : Nat → FieldType := fun k => match k with
  | 0 => .array (.object "LetterTree$Head")
  | 1 => .array .int
  | 2 => .array .byte
  | 3 => .int
  | 4 => .int
  | _ => .int
theorem nmX0 : ∀ a, a < 6 → ∀ b, b < 6 → a ≠ b → (TX0 a).2.1 ≠ (TX0 b).2.1 := by decide +kernel
theorem tyX0_ok : ∀ k, k < 6 → parseFieldDescriptor (TX0 k).2.2.1 = some (tyX0 k) := by decide +kernel
abbrev cX0_init : ByteArray := prog_2_method_1_code
def yX0_init : MethodName := ⟨RX0, "<init>", "()V"⟩
abbrev cX0_markTaken : ByteArray := prog_2_method_2_code
def yX0_markTaken : MethodName := ⟨RX0, "markTaken", "(LLetterTree$Page;Ljava/util/ArrayList;)V"⟩
abbrev cX0_markPictures : ByteArray := prog_2_method_3_code
def yX0_markPictures : MethodName := ⟨RX0, "markPictures", "(Ljava/util/ArrayList;)V"⟩
abbrev cX0_markPages : ByteArray := prog_2_method_4_code
def yX0_markPages : MethodName := ⟨RX0, "markPages", "(LLetterTree$Page;I)V"⟩
abbrev cX0_writePages : ByteArray := prog_2_method_5_code
def yX0_writePages : MethodName := ⟨RX0, "writePages", "(LLetterTree$Page;I)Z"⟩
abbrev cX0_writePage : ByteArray := prog_2_method_6_code
def yX0_writePage : MethodName := ⟨RX0, "writePage", "(LLetterTree$Page;)Z"⟩
abbrev cX0_writeHead : ByteArray := prog_2_method_7_code
def yX0_writeHead : MethodName := ⟨RX0, "writeHead", "(LLetterTree$Head;)Z"⟩
abbrev cX0_fallComes : ByteArray := prog_2_method_8_code
def yX0_fallComes : MethodName := ⟨RX0, "fallComes", "()Z"⟩
abbrev cX0_latestHead : ByteArray := prog_2_method_9_code
def yX0_latestHead : MethodName := ⟨RX0, "latestHead", "()LLetterTree$Head;"⟩
abbrev cX0_greatestPicture : ByteArray := prog_2_method_10_code
def yX0_greatestPicture : MethodName := ⟨RX0, "greatestPicture", "()I"⟩
def RX1 : String := "LetterTree$Entries"
def TX1 : u_T := fun k => match k with
  | _ => ("LetterTree$Entries", "list", "Ljava/util/ArrayList;", true)
def tyX1 : Nat → FieldType := fun k => match k with
  | _ => .object "java/util/ArrayList"
theorem nmX1 : ∀ a, a < 1 → ∀ b, b < 1 → a ≠ b → (TX1 a).2.1 ≠ (TX1 b).2.1 := by decide +kernel
theorem tyX1_ok : ∀ k, k < 1 → parseFieldDescriptor (TX1 k).2.2.1 = some (tyX1 k) := by decide +kernel
abbrev cX1_init : ByteArray := prog_3_method_1_code
def yX1_init : MethodName := ⟨RX1, "<init>", "()V"⟩
abbrev cX1_firstNotBelow : ByteArray := prog_3_method_2_code
def yX1_firstNotBelow : MethodName := ⟨RX1, "firstNotBelow", "(J)I"⟩
abbrev cX1_hasAt : ByteArray := prog_3_method_3_code
def yX1_hasAt : MethodName := ⟨RX1, "hasAt", "(IJ)Z"⟩
abbrev cX1_rowOf : ByteArray := prog_3_method_4_code
def yX1_rowOf : MethodName := ⟨RX1, "rowOf", "(J)[B"⟩
abbrev cX1_isChangedBy : ByteArray := prog_3_method_5_code
def yX1_isChangedBy : MethodName := ⟨RX1, "isChangedBy", "(LLetterTree$Letter;)Z"⟩
abbrev cX1_act : ByteArray := prog_3_method_6_code
def yX1_act : MethodName := ⟨RX1, "act", "(LLetterTree$Letter;)I"⟩
abbrev cX1_removeFrom : ByteArray := prog_3_method_7_code
def yX1_removeFrom : MethodName := ⟨RX1, "removeFrom", "(IJ)I"⟩
def RX2 : String := "LetterTree$Entry"
def TX2 : u_T := fun k => match k with
  | 0 => ("LetterTree$Entry", "key", "J", true)
  | _ => ("LetterTree$Entry", "row", "[B", true)
def tyX2 : Nat → FieldType := fun k => match k with
  | 0 => .long
  | _ => .array .byte
theorem nmX2 : ∀ a, a < 2 → ∀ b, b < 2 → a ≠ b → (TX2 a).2.1 ≠ (TX2 b).2.1 := by decide +kernel
theorem tyX2_ok : ∀ k, k < 2 → parseFieldDescriptor (TX2 k).2.2.1 = some (tyX2 k) := by decide +kernel
abbrev cX2_init : ByteArray := prog_4_method_1_code
def yX2_init : MethodName := ⟨RX2, "<init>", "(J[B)V"⟩
def RX3 : String := "LetterTree$Head"
def TX3 : u_T := fun k => match k with
  | 0 => ("LetterTree$Head", "generation", "I", true)
  | 1 => ("LetterTree$Head", "number", "I", true)
  | 2 => ("LetterTree$Head", "root", "LLetterTree$Page;", true)
  | 3 => ("LetterTree$Head", "greatest", "I", true)
  | _ => ("LetterTree$Head", "pictures", "Ljava/util/ArrayList;", true)
def tyX3 : Nat → FieldType := fun k => match k with
  | 0 => .int
  | 1 => .int
  | 2 => .object "LetterTree$Page"
  | 3 => .int
  | _ => .object "java/util/ArrayList"
theorem nmX3 : ∀ a, a < 5 → ∀ b, b < 5 → a ≠ b → (TX3 a).2.1 ≠ (TX3 b).2.1 := by decide +kernel
theorem tyX3_ok : ∀ k, k < 5 → parseFieldDescriptor (TX3 k).2.2.1 = some (tyX3 k) := by decide +kernel
abbrev cX3_init : ByteArray := prog_5_method_1_code
def yX3_init : MethodName := ⟨RX3, "<init>", "(IILLetterTree$Page;I)V"⟩
def RX4 : String := "LetterTree$Letter"
def TX4 : u_T := fun k => match k with
  | 0 => ("LetterTree$Letter", "kind", "I", true)
  | 1 => ("LetterTree$Letter", "number", "I", true)
  | 2 => ("LetterTree$Letter", "key", "J", true)
  | 3 => ("LetterTree$Letter", "last", "J", true)
  | 4 => ("LetterTree$Letter", "first", "[B", true)
  | _ => ("LetterTree$Letter", "row", "[B", true)
def tyX4 : Nat → FieldType := fun k => match k with
  | 0 => .int
  | 1 => .int
  | 2 => .long
  | 3 => .long
  | 4 => .array .byte
  | _ => .array .byte
theorem nmX4 : ∀ a, a < 6 → ∀ b, b < 6 → a ≠ b → (TX4 a).2.1 ≠ (TX4 b).2.1 := by decide +kernel
theorem tyX4_ok : ∀ k, k < 6 → parseFieldDescriptor (TX4 k).2.2.1 = some (tyX4 k) := by decide +kernel
abbrev cX4_init : ByteArray := prog_6_method_1_code
def yX4_init : MethodName := ⟨RX4, "<init>", "(IIJJ[B[B)V"⟩
abbrev cX4_meets : ByteArray := prog_6_method_2_code
def yX4_meets : MethodName := ⟨RX4, "meets", "(J)Z"⟩
abbrev cX4_changes : ByteArray := prog_6_method_3_code
def yX4_changes : MethodName := ⟨RX4, "changes", "([B)Z"⟩
abbrev cX4_rowAfter : ByteArray := prog_6_method_4_code
def yX4_rowAfter : MethodName := ⟨RX4, "rowAfter", "([B)[B"⟩
def RX5 : String := "LetterTree$Page"
def TX5 : u_T := fun k => match k with
  | 0 => ("LetterTree$Page", "from", "J", true)
  | 1 => ("LetterTree$Page", "entries", "LLetterTree$Entries;", true)
  | 2 => ("LetterTree$Page", "kids", "Ljava/util/ArrayList;", true)
  | 3 => ("LetterTree$Page", "room", "Ljava/util/ArrayList;", true)
  | _ => ("LetterTree$Page", "place", "I", false)
def tyX5 : Nat → FieldType := fun k => match k with
  | 0 => .long
  | 1 => .object "LetterTree$Entries"
  | 2 => .object "java/util/ArrayList"
  | 3 => .object "java/util/ArrayList"
  | _ => .int
theorem nmX5 : ∀ a, a < 5 → ∀ b, b < 5 → a ≠ b → (TX5 a).2.1 ≠ (TX5 b).2.1 := by decide +kernel
theorem tyX5_ok : ∀ k, k < 5 → parseFieldDescriptor (TX5 k).2.2.1 = some (tyX5 k) := by decide +kernel
abbrev cX5_init : ByteArray := prog_7_method_1_code
def yX5_init : MethodName := ⟨RX5, "<init>", "(JLLetterTree$Entries;)V"⟩
abbrev cX5_isLeaf : ByteArray := prog_7_method_2_code
def yX5_isLeaf : MethodName := ⟨RX5, "isLeaf", "()Z"⟩
abbrev cX5_width : ByteArray := prog_7_method_3_code
def yX5_width : MethodName := ⟨RX5, "width", "()I"⟩
abbrev cX5_isTooBig : ByteArray := prog_7_method_4_code
def yX5_isTooBig : MethodName := ⟨RX5, "isTooBig", "()Z"⟩
abbrev cX5_opened : ByteArray := prog_7_method_5_code
def yX5_opened : MethodName := ⟨RX5, "opened", "()LLetterTree$Page;"⟩
abbrev cX5_copyInto : ByteArray := prog_7_method_6_code
def yX5_copyInto : MethodName := ⟨RX5, "copyInto", "(LLetterTree$Page;II)V"⟩
abbrev cX5_lastKeyOf : ByteArray := prog_7_method_7_code
def yX5_lastKeyOf : MethodName := ⟨RX5, "lastKeyOf", "(I)J"⟩
abbrev cX5_kidFor : ByteArray := prog_7_method_8_code
def yX5_kidFor : MethodName := ⟨RX5, "kidFor", "(J)I"⟩
abbrev cX5_isChangedBy : ByteArray := prog_7_method_9_code
def yX5_isChangedBy : MethodName := ⟨RX5, "isChangedBy", "(Ljava/util/ArrayList;)Z"⟩
abbrev cX5_takeIn : ByteArray := prog_7_method_10_code
def yX5_takeIn : MethodName := ⟨RX5, "takeIn", "(Ljava/util/ArrayList;)V"⟩
abbrev cX5_takeInParts : ByteArray := prog_7_method_11_code
def yX5_takeInParts : MethodName := ⟨RX5, "takeInParts", "(LLetterTree$Letter;)V"⟩
abbrev cX5_fullestKid : ByteArray := prog_7_method_12_code
def yX5_fullestKid : MethodName := ⟨RX5, "fullestKid", "()I"⟩
abbrev cX5_lettersFrom : ByteArray := prog_7_method_13_code
def yX5_lettersFrom : MethodName := ⟨RX5, "lettersFrom", "(JJ)I"⟩
abbrev cX5_moveLetters : ByteArray := prog_7_method_14_code
def yX5_moveLetters : MethodName := ⟨RX5, "moveLetters", "(JJLjava/util/ArrayList;)V"⟩
abbrev cX5_partKid : ByteArray := prog_7_method_15_code
def yX5_partKid : MethodName := ⟨RX5, "partKid", "(I)V"⟩
abbrev cX5_partOf : ByteArray := prog_7_method_16_code
def yX5_partOf : MethodName := ⟨RX5, "partOf", "(II)LLetterTree$Page;"⟩
def RX6 : String := "LetterTree$Picture"
def TX6 : u_T := fun k => match k with
  | 0 => ("LetterTree$Picture", "number", "I", true)
  | _ => ("LetterTree$Picture", "root", "LLetterTree$Page;", true)
def tyX6 : Nat → FieldType := fun k => match k with
  | 0 => .int
  | _ => .object "LetterTree$Page"
theorem nmX6 : ∀ a, a < 2 → ∀ b, b < 2 → a ≠ b → (TX6 a).2.1 ≠ (TX6 b).2.1 := by decide +kernel
theorem tyX6_ok : ∀ k, k < 2 → parseFieldDescriptor (TX6 k).2.2.1 = some (tyX6 k) := by decide +kernel
abbrev cX6_init : ByteArray := prog_8_method_1_code
def yX6_init : MethodName := ⟨RX6, "<init>", "(ILLetterTree$Page;)V"⟩
def RX7 : String := "LetterTree$Tape"
def TX7 : u_T := fun k => match k with
  | 0 => ("LetterTree$Tape", "bytes", "[B", true)
  | _ => ("LetterTree$Tape", "size", "I", false)
def tyX7 : Nat → FieldType := fun k => match k with
  | 0 => .array .byte
  | _ => .int
theorem nmX7 : ∀ a, a < 2 → ∀ b, b < 2 → a ≠ b → (TX7 a).2.1 ≠ (TX7 b).2.1 := by decide +kernel
theorem tyX7_ok : ∀ k, k < 2 → parseFieldDescriptor (TX7 k).2.2.1 = some (tyX7 k) := by decide +kernel
abbrev cX7_init : ByteArray := prog_9_method_1_code
def yX7_init : MethodName := ⟨RX7, "<init>", "()V"⟩
abbrev cX7_addBytes : ByteArray := prog_9_method_2_code
def yX7_addBytes : MethodName := ⟨RX7, "addBytes", "(JI)V"⟩
abbrev cX7_part : ByteArray := prog_9_method_3_code
def yX7_part : MethodName := ⟨RX7, "part", "(II)[B"⟩
abbrev cX7_become : ByteArray := prog_9_method_4_code
def yX7_become : MethodName := ⟨RX7, "become", "([B)V"⟩
def RX8 : String := "LetterTree$Tree"
def TX8 : u_T := fun k => match k with
  | _ => ("LetterTree$Tree", "root", "LLetterTree$Page;", false)
def tyX8 : Nat → FieldType := fun k => match k with
  | _ => .object "LetterTree$Page"
theorem nmX8 : ∀ a, a < 1 → ∀ b, b < 1 → a ≠ b → (TX8 a).2.1 ≠ (TX8 b).2.1 := by decide +kernel
theorem tyX8_ok : ∀ k, k < 1 → parseFieldDescriptor (TX8 k).2.2.1 = some (tyX8 k) := by decide +kernel
abbrev cX8_init : ByteArray := prog_10_method_1_code
def yX8_init : MethodName := ⟨RX8, "<init>", "()V"⟩
abbrev cX8_sinkRoot : ByteArray := prog_10_method_2_code
def yX8_sinkRoot : MethodName := ⟨RX8, "sinkRoot", "()I"⟩
abbrev cX8_give : ByteArray := prog_10_method_3_code
def yX8_give : MethodName := ⟨RX8, "give", "(LLetterTree$Page;Ljava/util/ArrayList;I)LLetterTree$Page;"⟩
abbrev cX8_sinkPage : ByteArray := prog_10_method_4_code
def yX8_sinkPage : MethodName := ⟨RX8, "sinkPage", "(LLetterTree$Page;I)I"⟩
abbrev cX8_partRoot : ByteArray := prog_10_method_5_code
def yX8_partRoot : MethodName := ⟨RX8, "partRoot", "()V"⟩
abbrev cX8_settleAll : ByteArray := prog_10_method_6_code
def yX8_settleAll : MethodName := ⟨RX8, "settleAll", "()I"⟩
abbrev cX8_settleBelow : ByteArray := prog_10_method_7_code
def yX8_settleBelow : MethodName := ⟨RX8, "settleBelow", "(LLetterTree$Page;I)I"⟩
abbrev cX8_settleKid : ByteArray := prog_10_method_8_code
def yX8_settleKid : MethodName := ⟨RX8, "settleKid", "(LLetterTree$Page;II)I"⟩
abbrev cX8_levels : ByteArray := prog_10_method_9_code
def yX8_levels : MethodName := ⟨RX8, "levels", "()I"⟩
abbrev cX8_lettersOnWay : ByteArray := prog_10_method_10_code
def yX8_lettersOnWay : MethodName := ⟨RX8, "lettersOnWay", "(J)I"⟩
abbrev cX8_pagesIn : ByteArray := prog_10_method_11_code
def yX8_pagesIn : MethodName := ⟨RX8, "pagesIn", "(LLetterTree$Page;I)I"⟩
abbrev cX8_lettersIn : ByteArray := prog_10_method_12_code
def yX8_lettersIn : MethodName := ⟨RX8, "lettersIn", "(LLetterTree$Page;I)I"⟩
abbrev cX8_changedIn : ByteArray := prog_10_method_13_code
def yX8_changedIn : MethodName := ⟨RX8, "changedIn", "(LLetterTree$Page;I)I"⟩
abbrev cX8_pageAt : ByteArray := prog_10_method_14_code
def yX8_pageAt : MethodName := ⟨RX8, "pageAt", "(LLetterTree$Page;II)LLetterTree$Page;"⟩
abbrev cX8_rowIn : ByteArray := prog_10_method_15_code
def yX8_rowIn : MethodName := ⟨RX8, "rowIn", "(LLetterTree$Page;JI)[B"⟩
abbrev cX8_gather : ByteArray := prog_10_method_16_code
def yX8_gather : MethodName := ⟨RX8, "gather", "(LLetterTree$Page;LLetterTree$Entries;I)V"⟩
def RX9 : String := "LetterTree"
def TX9 : u_T := fun k => match k with
  | 0 => ("LetterTree", "tape", "LLetterTree$Tape;", true)
  | 1 => ("LetterTree", "store", "LLetterTree$Disk;", true)
  | 2 => ("LetterTree", "tree", "LLetterTree$Tree;", true)
  | 3 => ("LetterTree", "map", "LLetterTree$Entries;", true)
  | 4 => ("LetterTree", "pictures", "Ljava/util/ArrayList;", true)
  | 5 => ("LetterTree", "greatest", "I", false)
  | 6 => ("LetterTree", "latest", "I", false)
  | 7 => ("LetterTree", "generation", "I", false)
  | 8 => ("LetterTree", "foundKey", "J", false)
  | _ => ("LetterTree", "down", "Z", false)
def tyX9 : Nat → FieldType := fun k => match k with
  | 0 => .object "LetterTree$Tape"
  | 1 => .object "LetterTree$Disk"
  | 2 => .object "LetterTree$Tree"
  | 3 => .object "LetterTree$Entries"
  | 4 => .object "java/util/ArrayList"
  | 5 => .int
  | 6 => .int
  | 7 => .int
  | 8 => .long
  | _ => .boolean
theorem nmX9 : ∀ a, a < 10 → ∀ b, b < 10 → a ≠ b → (TX9 a).2.1 ≠ (TX9 b).2.1 := by decide +kernel
theorem tyX9_ok : ∀ k, k < 10 → parseFieldDescriptor (TX9 k).2.2.1 = some (tyX9 k) := by decide +kernel
abbrev cX9_init : ByteArray := prog_1_method_1_code
def yX9_init : MethodName := ⟨RX9, "<init>", "()V"⟩
abbrev cX9_feed : ByteArray := prog_1_method_2_code
def yX9_feed : MethodName := ⟨RX9, "feed", "(JI)I"⟩
abbrev cX9_cut : ByteArray := prog_1_method_3_code
def yX9_cut : MethodName := ⟨RX9, "cut", "(I)I"⟩
abbrev cX9_byteAt : ByteArray := prog_1_method_4_code
def yX9_byteAt : MethodName := ⟨RX9, "byteAt", "(I)I"⟩
abbrev cX9_put : ByteArray := prog_1_method_5_code
def yX9_put : MethodName := ⟨RX9, "put", "(J)I"⟩
abbrev cX9_append : ByteArray := prog_1_method_6_code
def yX9_append : MethodName := ⟨RX9, "append", "(J)I"⟩
abbrev cX9_swap : ByteArray := prog_1_method_7_code
def yX9_swap : MethodName := ⟨RX9, "swap", "(JI)I"⟩
abbrev cX9_drop : ByteArray := prog_1_method_8_code
def yX9_drop : MethodName := ⟨RX9, "drop", "(J)I"⟩
abbrev cX9_sweep : ByteArray := prog_1_method_9_code
def yX9_sweep : MethodName := ⟨RX9, "sweep", "(JJ)I"⟩
abbrev cX9_get : ByteArray := prog_1_method_10_code
def yX9_get : MethodName := ⟨RX9, "get", "(J)I"⟩
abbrev cX9_has : ByteArray := prog_1_method_11_code
def yX9_has : MethodName := ⟨RX9, "has", "(J)I"⟩
abbrev cX9_next : ByteArray := prog_1_method_12_code
def yX9_next : MethodName := ⟨RX9, "next", "(J)I"⟩
abbrev cX9_prior : ByteArray := prog_1_method_13_code
def yX9_prior : MethodName := ⟨RX9, "prior", "(J)I"⟩
abbrev cX9_found : ByteArray := prog_1_method_14_code
def yX9_found : MethodName := ⟨RX9, "found", "()J"⟩
abbrev cX9_count : ByteArray := prog_1_method_15_code
def yX9_count : MethodName := ⟨RX9, "count", "()I"⟩
abbrev cX9_sink : ByteArray := prog_1_method_16_code
def yX9_sink : MethodName := ⟨RX9, "sink", "()I"⟩
abbrev cX9_settle : ByteArray := prog_1_method_17_code
def yX9_settle : MethodName := ⟨RX9, "settle", "()I"⟩
abbrev cX9_pages : ByteArray := prog_1_method_18_code
def yX9_pages : MethodName := ⟨RX9, "pages", "()I"⟩
abbrev cX9_height : ByteArray := prog_1_method_19_code
def yX9_height : MethodName := ⟨RX9, "height", "()I"⟩
abbrev cX9_letters : ByteArray := prog_1_method_20_code
def yX9_letters : MethodName := ⟨RX9, "letters", "()I"⟩
abbrev cX9_page : ByteArray := prog_1_method_21_code
def yX9_page : MethodName := ⟨RX9, "page", "(II)I"⟩
abbrev cX9_border : ByteArray := prog_1_method_22_code
def yX9_border : MethodName := ⟨RX9, "border", "(II)I"⟩
abbrev cX9_letter : ByteArray := prog_1_method_23_code
def yX9_letter : MethodName := ⟨RX9, "letter", "(III)I"⟩
abbrev cX9_met : ByteArray := prog_1_method_24_code
def yX9_met : MethodName := ⟨RX9, "met", "(J)I"⟩
abbrev cX9_sync : ByteArray := prog_1_method_25_code
def yX9_sync : MethodName := ⟨RX9, "sync", "()I"⟩
abbrev cX9_picture : ByteArray := prog_1_method_26_code
def yX9_picture : MethodName := ⟨RX9, "picture", "()I"⟩
abbrev cX9_look : ByteArray := prog_1_method_27_code
def yX9_look : MethodName := ⟨RX9, "look", "(IJ)I"⟩
abbrev cX9_release : ByteArray := prog_1_method_28_code
def yX9_release : MethodName := ⟨RX9, "release", "(I)I"⟩
abbrev cX9_pictured : ByteArray := prog_1_method_29_code
def yX9_pictured : MethodName := ⟨RX9, "pictured", "(I)I"⟩
abbrev cX9_free : ByteArray := prog_1_method_30_code
def yX9_free : MethodName := ⟨RX9, "free", "()I"⟩
abbrev cX9_fall : ByteArray := prog_1_method_31_code
def yX9_fall : MethodName := ⟨RX9, "fall", "(I)I"⟩
abbrev cX9_crash : ByteArray := prog_1_method_32_code
def yX9_crash : MethodName := ⟨RX9, "crash", "()I"⟩
abbrev cX9_rise : ByteArray := prog_1_method_33_code
def yX9_rise : MethodName := ⟨RX9, "rise", "()I"⟩
abbrev cX9_disk : ByteArray := prog_1_method_34_code
def yX9_disk : MethodName := ⟨RX9, "disk", "(II)I"⟩
abbrev cX9_bend : ByteArray := prog_1_method_35_code
def yX9_bend : MethodName := ⟨RX9, "bend", "(I)I"⟩
abbrev cX9_writes : ByteArray := prog_1_method_36_code
def yX9_writes : MethodName := ⟨RX9, "writes", "(I)I"⟩
abbrev cX9_number : ByteArray := prog_1_method_37_code
def yX9_number : MethodName := ⟨RX9, "number", "(I)I"⟩
abbrev cX9_writeRefusal : ByteArray := prog_1_method_38_code
def yX9_writeRefusal : MethodName := ⟨RX9, "writeRefusal", "(Z)I"⟩
abbrev cX9_write : ByteArray := prog_1_method_39_code
def yX9_write : MethodName := ⟨RX9, "write", "(IJJI)I"⟩
abbrev cX9_load : ByteArray := prog_1_method_40_code
def yX9_load : MethodName := ⟨RX9, "load", "([B)I"⟩
abbrev cX9_findEntry : ByteArray := prog_1_method_41_code
def yX9_findEntry : MethodName := ⟨RX9, "findEntry", "(I)I"⟩
abbrev cX9_pictureIndex : ByteArray := prog_1_method_42_code
def yX9_pictureIndex : MethodName := ⟨RX9, "pictureIndex", "(I)I"⟩
abbrev cX9_freePlaces : ByteArray := prog_1_method_43_code
def yX9_freePlaces : MethodName := ⟨RX9, "freePlaces", "()I"⟩
abbrev cX9_writeAll : ByteArray := prog_1_method_44_code
def yX9_writeAll : MethodName := ⟨RX9, "writeAll", "()Z"⟩
abbrev cX9_goDown : ByteArray := prog_1_method_45_code
def yX9_goDown : MethodName := ⟨RX9, "goDown", "()V"⟩
abbrev cX9_startAnew : ByteArray := prog_1_method_46_code
def yX9_startAnew : MethodName := ⟨RX9, "startAnew", "()V"⟩
abbrev cX9_adopt : ByteArray := prog_1_method_47_code
def yX9_adopt : MethodName := ⟨RX9, "adopt", "(LLetterTree$Head;)V"⟩
abbrev cX9_copyPictures : ByteArray := prog_1_method_48_code
def yX9_copyPictures : MethodName := ⟨RX9, "copyPictures", "(Ljava/util/ArrayList;Ljava/util/ArrayList;)V"⟩
def RX10 : String := "LetterTreeModel"
def TX10 : u_T := fun k => match k with
  | 0 => ("LetterTreeModel", "thrown", "I", false)
  | 1 => ("LetterTreeModel", "tape", "[B", true)
  | 2 => ("LetterTreeModel", "taped", "I", false)
  | 3 => ("LetterTreeModel", "keys", "[J", true)
  | 4 => ("LetterTreeModel", "sizes", "[I", true)
  | 5 => ("LetterTreeModel", "rows", "[B", true)
  | 6 => ("LetterTreeModel", "count", "I", false)
  | 7 => ("LetterTreeModel", "found", "J", false)
  | 8 => ("LetterTreeModel", "wKind", "[I", true)
  | 9 => ("LetterTreeModel", "wKey", "[J", true)
  | 10 => ("LetterTreeModel", "wPart", "[I", true)
  | 11 => ("LetterTreeModel", "wSize", "[I", true)
  | 12 => ("LetterTreeModel", "wRow", "[B", true)
  | 13 => ("LetterTreeModel", "wNumber", "[I", true)
  | 14 => ("LetterTreeModel", "written", "I", false)
  | 15 => ("LetterTreeModel", "number", "I", false)
  | 16 => ("LetterTreeModel", "row", "[B", true)
  | 17 => ("LetterTreeModel", "size", "I", false)
  | 18 => ("LetterTreeModel", "isLeaf", "[Z", true)
  | 19 => ("LetterTreeModel", "first", "[I", true)
  | 20 => ("LetterTreeModel", "entries", "[I", true)
  | 21 => ("LetterTreeModel", "kids", "[I", true)
  | 22 => ("LetterTreeModel", "kid", "[I", true)
  | 23 => ("LetterTreeModel", "border", "[J", true)
  | 24 => ("LetterTreeModel", "letterFirst", "[I", true)
  | 25 => ("LetterTreeModel", "letterLast", "[I", true)
  | 26 => ("LetterTreeModel", "letters", "[I", true)
  | 27 => ("LetterTreeModel", "placeOf", "[I", true)
  | 28 => ("LetterTreeModel", "freePage", "[I", true)
  | 29 => ("LetterTreeModel", "freePages", "I", false)
  | 30 => ("LetterTreeModel", "root", "I", false)
  | 31 => ("LetterTreeModel", "eKey", "[J", true)
  | 32 => ("LetterTreeModel", "eSize", "[I", true)
  | 33 => ("LetterTreeModel", "eRow", "[B", true)
  | 34 => ("LetterTreeModel", "eNext", "[I", true)
  | 35 => ("LetterTreeModel", "freeEntry", "I", false)
  | 36 => ("LetterTreeModel", "lWrite", "[I", true)
  | 37 => ("LetterTreeModel", "lLow", "[J", true)
  | 38 => ("LetterTreeModel", "lHigh", "[J", true)
  | 39 => ("LetterTreeModel", "lNext", "[I", true)
  | 40 => ("LetterTreeModel", "freeLetter", "I", false)
  | 41 => ("LetterTreeModel", "given", "[I", true)
  | 42 => ("LetterTreeModel", "givens", "I", false)
  | 43 => ("LetterTreeModel", "share", "[I", true)
  | 44 => ("LetterTreeModel", "part", "[I", true)
  | 45 => ("LetterTreeModel", "ahead", "[J", true)
  | 46 => ("LetterTreeModel", "parts", "I", false)
  | 47 => ("LetterTreeModel", "order", "[I", true)
  | 48 => ("LetterTreeModel", "parentOf", "[I", true)
  | 49 => ("LetterTreeModel", "kidOf", "[I", true)
  | 50 => ("LetterTreeModel", "ordered", "I", false)
  | 51 => ("LetterTreeModel", "down", "Z", false)
  | 52 => ("LetterTreeModel", "dLeaf", "[Z", true)
  | 53 => ("LetterTreeModel", "dCount", "[I", true)
  | 54 => ("LetterTreeModel", "dKey", "[J", true)
  | 55 => ("LetterTreeModel", "dSize", "[I", true)
  | 56 => ("LetterTreeModel", "dRow", "[B", true)
  | 57 => ("LetterTreeModel", "dKid", "[I", true)
  | 58 => ("LetterTreeModel", "dLetters", "[I", true)
  | 59 => ("LetterTreeModel", "dWrite", "[I", true)
  | 60 => ("LetterTreeModel", "dLow", "[J", true)
  | 61 => ("LetterTreeModel", "dHigh", "[J", true)
  | 62 => ("LetterTreeModel", "hGeneration", "[I", true)
  | 63 => ("LetterTreeModel", "hRoot", "[I", true)
  | 64 => ("LetterTreeModel", "hNumber", "[I", true)
  | 65 => ("LetterTreeModel", "hPictures", "[I", true)
  | 66 => ("LetterTreeModel", "hGreatest", "[I", true)
  | 67 => ("LetterTreeModel", "hPicture", "[I", true)
  | 68 => ("LetterTreeModel", "hPictureRoot", "[I", true)
  | 69 => ("LetterTreeModel", "picture", "[I", true)
  | 70 => ("LetterTreeModel", "pictureRoot", "[I", true)
  | 71 => ("LetterTreeModel", "pictures", "I", false)
  | 72 => ("LetterTreeModel", "nextPicture", "I", false)
  | 73 => ("LetterTreeModel", "generation", "I", false)
  | 74 => ("LetterTreeModel", "due", "I", false)
  | 75 => ("LetterTreeModel", "writings", "[I", true)
  | 76 => ("LetterTreeModel", "taken", "[Z", true)
  | _ => ("LetterTreeModel", "way", "[I", true)
def tyX10 : Nat → FieldType := fun k => match k with
  | 0 => .int
  | 1 => .array .byte
  | 2 => .int
  | 3 => .array .long
  | 4 => .array .int
  | 5 => .array .byte
  | 6 => .int
  | 7 => .long
  | 8 => .array .int
  | 9 => .array .long
  | 10 => .array .int
  | 11 => .array .int
  | 12 => .array .byte
  | 13 => .array .int
  | 14 => .int
  | 15 => .int
  | 16 => .array .byte
  | 17 => .int
  | 18 => .array .boolean
  | 19 => .array .int
  | 20 => .array .int
  | 21 => .array .int
  | 22 => .array .int
  | 23 => .array .long
  | 24 => .array .int
  | 25 => .array .int
  | 26 => .array .int
  | 27 => .array .int
  | 28 => .array .int
  | 29 => .int
  | 30 => .int
  | 31 => .array .long
  | 32 => .array .int
  | 33 => .array .byte
  | 34 => .array .int
  | 35 => .int
  | 36 => .array .int
  | 37 => .array .long
  | 38 => .array .long
  | 39 => .array .int
  | 40 => .int
  | 41 => .array .int
  | 42 => .int
  | 43 => .array .int
  | 44 => .array .int
  | 45 => .array .long
  | 46 => .int
  | 47 => .array .int
  | 48 => .array .int
  | 49 => .array .int
  | 50 => .int
  | 51 => .boolean
  | 52 => .array .boolean
  | 53 => .array .int
  | 54 => .array .long
  | 55 => .array .int
  | 56 => .array .byte
  | 57 => .array .int
  | 58 => .array .int
  | 59 => .array .int
  | 60 => .array .long
  | 61 => .array .long
  | 62 => .array .int
  | 63 => .array .int
  | 64 => .array .int
  | 65 => .array .int
  | 66 => .array .int
  | 67 => .array .int
  | 68 => .array .int
  | 69 => .array .int
  | 70 => .array .int
  | 71 => .int
  | 72 => .int
  | 73 => .int
  | 74 => .int
  | 75 => .array .int
  | 76 => .array .boolean
  | _ => .array .int
theorem nmX10 : ∀ a, a < 78 → ∀ b, b < 78 → a ≠ b → (TX10 a).2.1 ≠ (TX10 b).2.1 := by decide +kernel
theorem tyX10_ok : ∀ k, k < 78 → parseFieldDescriptor (TX10 k).2.2.1 = some (tyX10 k) := by decide +kernel
abbrev cX10_feed : ByteArray := prog_12_method_2_code
def yX10_feed : MethodName := ⟨RX10, "feed", "(JI)I"⟩
abbrev cX10_cut : ByteArray := prog_12_method_3_code
def yX10_cut : MethodName := ⟨RX10, "cut", "(I)I"⟩
abbrev cX10_byteAt : ByteArray := prog_12_method_4_code
def yX10_byteAt : MethodName := ⟨RX10, "byteAt", "(I)I"⟩
abbrev cX10_place : ByteArray := prog_12_method_5_code
def yX10_place : MethodName := ⟨RX10, "place", "(J)I"⟩
abbrev cX10_isAt : ByteArray := prog_12_method_6_code
def yX10_isAt : MethodName := ⟨RX10, "isAt", "(IJ)Z"⟩
abbrev cX10_open : ByteArray := prog_12_method_7_code
def yX10_open : MethodName := ⟨RX10, "open", "(IJ)V"⟩
abbrev cX10_move : ByteArray := prog_12_method_8_code
def yX10_move : MethodName := ⟨RX10, "move", "(II)V"⟩
abbrev cX10_shut : ByteArray := prog_12_method_9_code
def yX10_shut : MethodName := ⟨RX10, "shut", "(II)V"⟩
abbrev cX10_begins : ByteArray := prog_12_method_10_code
def yX10_begins : MethodName := ⟨RX10, "begins", "(I)Z"⟩
abbrev cX10_acts : ByteArray := prog_12_method_11_code
def yX10_acts : MethodName := ⟨RX10, "acts", "(I)Z"⟩
abbrev cX10_copy : ByteArray := prog_12_method_12_code
def yX10_copy : MethodName := ⟨RX10, "copy", "(IIII)V"⟩
abbrev cX10_write : ByteArray := prog_12_method_13_code
def yX10_write : MethodName := ⟨RX10, "write", "(IJI)I"⟩
abbrev cX10_actsOnMap : ByteArray := prog_12_method_14_code
def yX10_actsOnMap : MethodName := ⟨RX10, "actsOnMap", "(I)Z"⟩
abbrev cX10_put : ByteArray := prog_12_method_15_code
def yX10_put : MethodName := ⟨RX10, "put", "(J)I"⟩
abbrev cX10_append : ByteArray := prog_12_method_16_code
def yX10_append : MethodName := ⟨RX10, "append", "(J)I"⟩
abbrev cX10_swap : ByteArray := prog_12_method_17_code
def yX10_swap : MethodName := ⟨RX10, "swap", "(JI)I"⟩
abbrev cX10_drop : ByteArray := prog_12_method_18_code
def yX10_drop : MethodName := ⟨RX10, "drop", "(J)I"⟩
abbrev cX10_sweep : ByteArray := prog_12_method_19_code
def yX10_sweep : MethodName := ⟨RX10, "sweep", "(JJ)I"⟩
abbrev cX10_get : ByteArray := prog_12_method_20_code
def yX10_get : MethodName := ⟨RX10, "get", "(J)I"⟩
abbrev cX10_has : ByteArray := prog_12_method_21_code
def yX10_has : MethodName := ⟨RX10, "has", "(J)I"⟩
abbrev cX10_next : ByteArray := prog_12_method_22_code
def yX10_next : MethodName := ⟨RX10, "next", "(J)I"⟩
abbrev cX10_prior : ByteArray := prog_12_method_23_code
def yX10_prior : MethodName := ⟨RX10, "prior", "(J)I"⟩
abbrev cX10_found : ByteArray := prog_12_method_24_code
def yX10_found : MethodName := ⟨RX10, "found", "()J"⟩
abbrev cX10_count : ByteArray := prog_12_method_25_code
def yX10_count : MethodName := ⟨RX10, "count", "()I"⟩
abbrev cX10_init : ByteArray := prog_12_method_26_code
def yX10_init : MethodName := ⟨RX10, "<init>", "()V"⟩
abbrev cX10_clearPages : ByteArray := prog_12_method_27_code
def yX10_clearPages : MethodName := ⟨RX10, "clearPages", "()V"⟩
abbrev cX10_page : ByteArray := prog_12_method_28_code
def yX10_page : MethodName := ⟨RX10, "page", "(Z)I"⟩
abbrev cX10_give : ByteArray := prog_12_method_29_code
def yX10_give : MethodName := ⟨RX10, "give", "(I)V"⟩
abbrev cX10_entry : ByteArray := prog_12_method_30_code
def yX10_entry : MethodName := ⟨RX10, "entry", "(IIJ)I"⟩
abbrev cX10_leave : ByteArray := prog_12_method_31_code
def yX10_leave : MethodName := ⟨RX10, "leave", "(II)V"⟩
abbrev cX10_letter : ByteArray := prog_12_method_32_code
def yX10_letter : MethodName := ⟨RX10, "letter", "(IIJJ)V"⟩
abbrev cX10_chain : ByteArray := prog_12_method_33_code
def yX10_chain : MethodName := ⟨RX10, "chain", "(II)V"⟩
abbrev cX10_below : ByteArray := prog_12_method_34_code
def yX10_below : MethodName := ⟨RX10, "below", "(IJ)I"⟩
abbrev cX10_actOnLeaf : ByteArray := prog_12_method_35_code
def yX10_actOnLeaf : MethodName := ⟨RX10, "actOnLeaf", "(IIJJ)V"⟩
abbrev cX10_kidFor : ByteArray := prog_12_method_36_code
def yX10_kidFor : MethodName := ⟨RX10, "kidFor", "(IJ)I"⟩
abbrev cX10_comes : ByteArray := prog_12_method_37_code
def yX10_comes : MethodName := ⟨RX10, "comes", "(IIJJ)V"⟩
abbrev cX10_giveLetters : ByteArray := prog_12_method_38_code
def yX10_giveLetters : MethodName := ⟨RX10, "giveLetters", "(III)V"⟩
abbrev cX10_settlePage : ByteArray := prog_12_method_39_code
def yX10_settlePage : MethodName := ⟨RX10, "settlePage", "(I)V"⟩
abbrev cX10_giveRoot : ByteArray := prog_12_method_40_code
def yX10_giveRoot : MethodName := ⟨RX10, "giveRoot", "(IJJ)V"⟩
abbrev cX10_sinks : ByteArray := prog_12_method_41_code
def yX10_sinks : MethodName := ⟨RX10, "sinks", "(I)I"⟩
abbrev cX10_isTooBig : ByteArray := prog_12_method_42_code
def yX10_isTooBig : MethodName := ⟨RX10, "isTooBig", "(I)Z"⟩
abbrev cX10_partOf : ByteArray := prog_12_method_43_code
def yX10_partOf : MethodName := ⟨RX10, "partOf", "(I)V"⟩
abbrev cX10_partKid : ByteArray := prog_12_method_44_code
def yX10_partKid : MethodName := ⟨RX10, "partKid", "(II)V"⟩
abbrev cX10_grow : ByteArray := prog_12_method_45_code
def yX10_grow : MethodName := ⟨RX10, "grow", "()V"⟩
abbrev cX10_number : ByteArray := prog_12_method_46_code
def yX10_number : MethodName := ⟨RX10, "number", "()V"⟩
abbrev cX10_visit : ByteArray := prog_12_method_47_code
def yX10_visit : MethodName := ⟨RX10, "visit", "(III)V"⟩
abbrev cX10_spreadChanges : ByteArray := prog_12_method_48_code
def yX10_spreadChanges : MethodName := ⟨RX10, "spreadChanges", "()V"⟩
abbrev cX10_sink : ByteArray := prog_12_method_49_code
def yX10_sink : MethodName := ⟨RX10, "sink", "()I"⟩
abbrev cX10_settle : ByteArray := prog_12_method_50_code
def yX10_settle : MethodName := ⟨RX10, "settle", "()I"⟩
abbrev cX10_pages : ByteArray := prog_12_method_51_code
def yX10_pages : MethodName := ⟨RX10, "pages", "()I"⟩
abbrev cX10_height : ByteArray := prog_12_method_52_code
def yX10_height : MethodName := ⟨RX10, "height", "()I"⟩
abbrev cX10_letters : ByteArray := prog_12_method_53_code
def yX10_letters : MethodName := ⟨RX10, "letters", "()I"⟩
abbrev cX10_page_ : ByteArray := prog_12_method_54_code
def yX10_page_ : MethodName := ⟨RX10, "page", "(II)I"⟩
abbrev cX10_border : ByteArray := prog_12_method_55_code
def yX10_border : MethodName := ⟨RX10, "border", "(II)I"⟩
abbrev cX10_letter_ : ByteArray := prog_12_method_56_code
def yX10_letter_ : MethodName := ⟨RX10, "letter", "(III)I"⟩
abbrev cX10_met : ByteArray := prog_12_method_57_code
def yX10_met : MethodName := ⟨RX10, "met", "(J)I"⟩
abbrev cX10_take : ByteArray := prog_12_method_58_code
def yX10_take : MethodName := ⟨RX10, "take", "(I)V"⟩
abbrev cX10_mark : ByteArray := prog_12_method_59_code
def yX10_mark : MethodName := ⟨RX10, "mark", "()V"⟩
abbrev cX10_freePlaces : ByteArray := prog_12_method_60_code
def yX10_freePlaces : MethodName := ⟨RX10, "freePlaces", "()I"⟩
abbrev cX10_leastFree : ByteArray := prog_12_method_61_code
def yX10_leastFree : MethodName := ⟨RX10, "leastFree", "()I"⟩
abbrev cX10_falls : ByteArray := prog_12_method_62_code
def yX10_falls : MethodName := ⟨RX10, "falls", "(I)Z"⟩
abbrev cX10_lay : ByteArray := prog_12_method_63_code
def yX10_lay : MethodName := ⟨RX10, "lay", "(II)V"⟩
abbrev cX10_laysAll : ByteArray := prog_12_method_64_code
def yX10_laysAll : MethodName := ⟨RX10, "laysAll", "(I)Z"⟩
abbrev cX10_changedPages : ByteArray := prog_12_method_65_code
def yX10_changedPages : MethodName := ⟨RX10, "changedPages", "()I"⟩
abbrev cX10_writeAll : ByteArray := prog_12_method_66_code
def yX10_writeAll : MethodName := ⟨RX10, "writeAll", "()I"⟩
abbrev cX10_sync : ByteArray := prog_12_method_67_code
def yX10_sync : MethodName := ⟨RX10, "sync", "()I"⟩
abbrev cX10_picture : ByteArray := prog_12_method_68_code
def yX10_picture : MethodName := ⟨RX10, "picture", "()I"⟩
abbrev cX10_pictureAt : ByteArray := prog_12_method_69_code
def yX10_pictureAt : MethodName := ⟨RX10, "pictureAt", "(I)I"⟩
abbrev cX10_look : ByteArray := prog_12_method_70_code
def yX10_look : MethodName := ⟨RX10, "look", "(IJ)I"⟩
abbrev cX10_release : ByteArray := prog_12_method_71_code
def yX10_release : MethodName := ⟨RX10, "release", "(I)I"⟩
abbrev cX10_pictured : ByteArray := prog_12_method_72_code
def yX10_pictured : MethodName := ⟨RX10, "pictured", "(I)I"⟩
abbrev cX10_free : ByteArray := prog_12_method_73_code
def yX10_free : MethodName := ⟨RX10, "free", "()I"⟩
abbrev cX10_fall : ByteArray := prog_12_method_74_code
def yX10_fall : MethodName := ⟨RX10, "fall", "(I)I"⟩
abbrev cX10_crash : ByteArray := prog_12_method_75_code
def yX10_crash : MethodName := ⟨RX10, "crash", "()I"⟩
abbrev cX10_load : ByteArray := prog_12_method_76_code
def yX10_load : MethodName := ⟨RX10, "load", "(I)I"⟩
abbrev cX10_read : ByteArray := prog_12_method_77_code
def yX10_read : MethodName := ⟨RX10, "read", "(I)V"⟩
abbrev cX10_rise : ByteArray := prog_12_method_78_code
def yX10_rise : MethodName := ⟨RX10, "rise", "()I"⟩
abbrev cX10_pagesOf : ByteArray := prog_12_method_79_code
def yX10_pagesOf : MethodName := ⟨RX10, "pagesOf", "(I)I"⟩
abbrev cX10_disk : ByteArray := prog_12_method_80_code
def yX10_disk : MethodName := ⟨RX10, "disk", "(II)I"⟩
abbrev cX10_bend : ByteArray := prog_12_method_81_code
def yX10_bend : MethodName := ⟨RX10, "bend", "(I)I"⟩
abbrev cX10_writes : ByteArray := prog_12_method_82_code
def yX10_writes : MethodName := ⟨RX10, "writes", "(I)I"⟩
abbrev cX10_number_ : ByteArray := prog_12_method_83_code
def yX10_number_ : MethodName := ⟨RX10, "number", "(I)I"⟩
def RJx145de : String := "java/io/Serializable"
def TJx145de : u_T := fun k => match k with
  | _ => ("", "", "", false)
def tyJx145de : Nat → FieldType := fun k => match k with
  | _ => .int
theorem nmJx145de : ∀ a, a < 0 → ∀ b, b < 0 → a ≠ b → (TJx145de a).2.1 ≠ (TJx145de b).2.1 := by decide +kernel
theorem tyJx145de_ok : ∀ k, k < 0 → parseFieldDescriptor (TJx145de k).2.2.1 = some (tyJx145de k) := by decide +kernel
def RJx8e188 : String := "java/lang/Cloneable"
def TJx8e188 : u_T := fun k => match k with
  | _ => ("", "", "", false)
def tyJx8e188 : Nat → FieldType := fun k => match k with
  | _ => .int
theorem nmJx8e188 : ∀ a, a < 0 → ∀ b, b < 0 → a ≠ b → (TJx8e188 a).2.1 ≠ (TJx8e188 b).2.1 := by decide +kernel
theorem tyJx8e188_ok : ∀ k, k < 0 → parseFieldDescriptor (TJx8e188 k).2.2.1 = some (tyJx8e188 k) := by decide +kernel
def RJxab1ab : String := "java/lang/Iterable"
def TJxab1ab : u_T := fun k => match k with
  | _ => ("", "", "", false)
def tyJxab1ab : Nat → FieldType := fun k => match k with
  | _ => .int
theorem nmJxab1ab : ∀ a, a < 0 → ∀ b, b < 0 → a ≠ b → (TJxab1ab a).2.1 ≠ (TJxab1ab b).2.1 := by decide +kernel
theorem tyJxab1ab_ok : ∀ k, k < 0 → parseFieldDescriptor (TJxab1ab k).2.2.1 = some (tyJxab1ab k) := by decide +kernel
def RJ9 : String := "java/lang/Math"
def TJ9 : u_T := fun k => match k with
  | _ => ("", "", "", false)
def tyJ9 : Nat → FieldType := fun k => match k with
  | _ => .int
theorem nmJ9 : ∀ a, a < 0 → ∀ b, b < 0 → a ≠ b → (TJ9 a).2.1 ≠ (TJ9 b).2.1 := by decide +kernel
theorem tyJ9_ok : ∀ k, k < 0 → parseFieldDescriptor (TJ9 k).2.2.1 = some (tyJ9 k) := by decide +kernel
abbrev cJ9_max_7cf53 : ByteArray := prog_16_method_65_code
def yJ9_max_7cf53 : MethodName := ⟨RJ9, "max", "(II)I"⟩
abbrev cJ9_max_f86c9 : ByteArray := prog_16_method_66_code
def yJ9_max_f86c9 : MethodName := ⟨RJ9, "max", "(JJ)J"⟩
abbrev cJ9_min_7cf53 : ByteArray := prog_16_method_69_code
def yJ9_min_7cf53 : MethodName := ⟨RJ9, "min", "(II)I"⟩
abbrev cJ9_min_f86c9 : ByteArray := prog_16_method_70_code
def yJ9_min_f86c9 : MethodName := ⟨RJ9, "min", "(JJ)J"⟩
def RJ10 : String := "java/lang/System"
def TJ10 : u_T := fun k => match k with
  | _ => ("", "", "", false)
def tyJ10 : Nat → FieldType := fun k => match k with
  | _ => .int
theorem nmJ10 : ∀ a, a < 0 → ∀ b, b < 0 → a ≠ b → (TJ10 a).2.1 ≠ (TJ10 b).2.1 := by decide +kernel
theorem tyJ10_ok : ∀ k, k < 0 → parseFieldDescriptor (TJ10 k).2.2.1 = some (tyJ10 k) := by decide +kernel
def RJxa1e45 : String := "java/util/AbstractCollection"
def TJxa1e45 : u_T := fun k => match k with
  | _ => ("", "", "", false)
def tyJxa1e45 : Nat → FieldType := fun k => match k with
  | _ => .int
theorem nmJxa1e45 : ∀ a, a < 0 → ∀ b, b < 0 → a ≠ b → (TJxa1e45 a).2.1 ≠ (TJxa1e45 b).2.1 := by decide +kernel
theorem tyJxa1e45_ok : ∀ k, k < 0 → parseFieldDescriptor (TJxa1e45 k).2.2.1 = some (tyJxa1e45 k) := by decide +kernel
abbrev cJxa1e45_init_da8c8 : ByteArray := prog_18_method_1_code
def yJxa1e45_init_da8c8 : MethodName := ⟨RJxa1e45, "<init>", "()V"⟩
def RJxc12de : String := "java/util/AbstractList"
def TJxc12de : u_T := fun k => match k with
  | _ => ("", "", "", false)
def tyJxc12de : Nat → FieldType := fun k => match k with
  | _ => .int
theorem nmJxc12de : ∀ a, a < 0 → ∀ b, b < 0 → a ≠ b → (TJxc12de a).2.1 ≠ (TJxc12de b).2.1 := by decide +kernel
theorem tyJxc12de_ok : ∀ k, k < 0 → parseFieldDescriptor (TJxc12de k).2.2.1 = some (tyJxc12de k) := by decide +kernel
abbrev cJxc12de_init_da8c8 : ByteArray := prog_19_method_1_code
def yJxc12de_init_da8c8 : MethodName := ⟨RJxc12de, "<init>", "()V"⟩
def RJx4a65c : String := "java/util/ArrayList"
def TJx4a65c : u_T := fun k => match k with
  | 0 => ("java/util/AbstractList", "modCount", "I", false)
  | 1 => ("java/util/ArrayList", "elementData", "[Ljava/lang/Object;", false)
  | _ => ("java/util/ArrayList", "size", "I", false)
def tyJx4a65c : Nat → FieldType := fun k => match k with
  | 0 => .int
  | 1 => .array (.object "java/lang/Object")
  | _ => .int
theorem nmJx4a65c : ∀ a, a < 3 → ∀ b, b < 3 → a ≠ b → (TJx4a65c a).2.1 ≠ (TJx4a65c b).2.1 := by decide +kernel
theorem tyJx4a65c_ok : ∀ k, k < 3 → parseFieldDescriptor (TJx4a65c k).2.2.1 = some (tyJx4a65c k) := by decide +kernel
abbrev cJx4a65c_init_da8c8 : ByteArray := prog_20_method_2_code
def yJx4a65c_init_da8c8 : MethodName := ⟨RJx4a65c, "<init>", "()V"⟩
abbrev cJx4a65c_grow_92f84 : ByteArray := prog_20_method_6_code
def yJx4a65c_grow_92f84 : MethodName := ⟨RJx4a65c, "grow", "(I)[Ljava/lang/Object;"⟩
abbrev cJx4a65c_grow_d5877 : ByteArray := prog_20_method_7_code
def yJx4a65c_grow_d5877 : MethodName := ⟨RJx4a65c, "grow", "()[Ljava/lang/Object;"⟩
abbrev cJx4a65c_size_8abf5 : ByteArray := prog_20_method_8_code
def yJx4a65c_size_8abf5 : MethodName := ⟨RJx4a65c, "size", "()I"⟩
abbrev cJx4a65c_isEmpty_aae02 : ByteArray := prog_20_method_9_code
def yJx4a65c_isEmpty_aae02 : MethodName := ⟨RJx4a65c, "isEmpty", "()Z"⟩
abbrev cJx4a65c_elementData_915e3 : ByteArray := prog_20_method_18_code
def yJx4a65c_elementData_915e3 : MethodName := ⟨RJx4a65c, "elementData", "(I)Ljava/lang/Object;"⟩
abbrev cJx4a65c_get_915e3 : ByteArray := prog_20_method_20_code
def yJx4a65c_get_915e3 : MethodName := ⟨RJx4a65c, "get", "(I)Ljava/lang/Object;"⟩
abbrev cJx4a65c_set_bcc79 : ByteArray := prog_20_method_23_code
def yJx4a65c_set_bcc79 : MethodName := ⟨RJx4a65c, "set", "(ILjava/lang/Object;)Ljava/lang/Object;"⟩
abbrev cJx4a65c_add_72be8 : ByteArray := prog_20_method_24_code
def yJx4a65c_add_72be8 : MethodName := ⟨RJx4a65c, "add", "(Ljava/lang/Object;[Ljava/lang/Object;I)V"⟩
abbrev cJx4a65c_add_9ea2d : ByteArray := prog_20_method_25_code
def yJx4a65c_add_9ea2d : MethodName := ⟨RJx4a65c, "add", "(Ljava/lang/Object;)Z"⟩
abbrev cJx4a65c_add_7a177 : ByteArray := prog_20_method_26_code
def yJx4a65c_add_7a177 : MethodName := ⟨RJx4a65c, "add", "(ILjava/lang/Object;)V"⟩
abbrev cJx4a65c_remove_915e3 : ByteArray := prog_20_method_29_code
def yJx4a65c_remove_915e3 : MethodName := ⟨RJx4a65c, "remove", "(I)Ljava/lang/Object;"⟩
abbrev cJx4a65c_fastRemove_b59b0 : ByteArray := prog_20_method_39_code
def yJx4a65c_fastRemove_b59b0 : MethodName := ⟨RJx4a65c, "fastRemove", "([Ljava/lang/Object;I)V"⟩
abbrev cJx4a65c_clear_da8c8 : ByteArray := prog_20_method_40_code
def yJx4a65c_clear_da8c8 : MethodName := ⟨RJx4a65c, "clear", "()V"⟩
abbrev cJx4a65c_rangeCheckForAdd_d00df : ByteArray := prog_20_method_45_code
def yJx4a65c_rangeCheckForAdd_d00df : MethodName := ⟨RJx4a65c, "rangeCheckForAdd", "(I)V"⟩
def RJ7 : String := "java/util/Arrays"
def TJ7 : u_T := fun k => match k with
  | _ => ("", "", "", false)
def tyJ7 : Nat → FieldType := fun k => match k with
  | _ => .int
theorem nmJ7 : ∀ a, a < 0 → ∀ b, b < 0 → a ≠ b → (TJ7 a).2.1 ≠ (TJ7 b).2.1 := by decide +kernel
theorem tyJ7_ok : ∀ k, k < 0 → parseFieldDescriptor (TJ7 k).2.2.1 = some (tyJ7 k) := by decide +kernel
abbrev cJ7_fill_031fb : ByteArray := prog_21_method_109_code
def yJ7_fill_031fb : MethodName := ⟨RJ7, "fill", "([BB)V"⟩
abbrev cJ7_copyOf_1904c : ByteArray := prog_21_method_119_code
def yJ7_copyOf_1904c : MethodName := ⟨RJ7, "copyOf", "([Ljava/lang/Object;I)[Ljava/lang/Object;"⟩
abbrev cJ7_copyOf_6403c : ByteArray := prog_21_method_120_code
def yJ7_copyOf_6403c : MethodName := ⟨RJ7, "copyOf", "([Ljava/lang/Object;ILjava/lang/Class;)[Ljava/lang/Object;"⟩
abbrev cJ7_copyOf_9075b : ByteArray := prog_21_method_121_code
def yJ7_copyOf_9075b : MethodName := ⟨RJ7, "copyOf", "([BI)[B"⟩
abbrev cJ7_checkLength_df160 : ByteArray := prog_21_method_131_code
def yJ7_checkLength_df160 : MethodName := ⟨RJ7, "checkLength", "(II)V"⟩
abbrev cJ7_copyOfRange_39247 : ByteArray := prog_21_method_132_code
def yJ7_copyOfRange_39247 : MethodName := ⟨RJ7, "copyOfRange", "([BII)[B"⟩
abbrev cJ7_copyOfRangeByte_39247 : ByteArray := prog_21_method_133_code
def yJ7_copyOfRangeByte_39247 : MethodName := ⟨RJ7, "copyOfRangeByte", "([BII)[B"⟩
def RJx5ef63 : String := "java/util/Collection"
def TJx5ef63 : u_T := fun k => match k with
  | _ => ("", "", "", false)
def tyJx5ef63 : Nat → FieldType := fun k => match k with
  | _ => .int
theorem nmJx5ef63 : ∀ a, a < 0 → ∀ b, b < 0 → a ≠ b → (TJx5ef63 a).2.1 ≠ (TJx5ef63 b).2.1 := by decide +kernel
theorem tyJx5ef63_ok : ∀ k, k < 0 → parseFieldDescriptor (TJx5ef63 k).2.2.1 = some (tyJx5ef63 k) := by decide +kernel
def RJxbd725 : String := "java/util/List"
def TJxbd725 : u_T := fun k => match k with
  | _ => ("", "", "", false)
def tyJxbd725 : Nat → FieldType := fun k => match k with
  | _ => .int
theorem nmJxbd725 : ∀ a, a < 0 → ∀ b, b < 0 → a ≠ b → (TJxbd725 a).2.1 ≠ (TJxbd725 b).2.1 := by decide +kernel
theorem tyJxbd725_ok : ∀ k, k < 0 → parseFieldDescriptor (TJxbd725 k).2.2.1 = some (tyJxbd725 k) := by decide +kernel
def RJ15 : String := "java/util/Objects"
def TJ15 : u_T := fun k => match k with
  | _ => ("", "", "", false)
def tyJ15 : Nat → FieldType := fun k => match k with
  | _ => .int
theorem nmJ15 : ∀ a, a < 0 → ∀ b, b < 0 → a ≠ b → (TJ15 a).2.1 ≠ (TJ15 b).2.1 := by decide +kernel
theorem tyJ15_ok : ∀ k, k < 0 → parseFieldDescriptor (TJ15 k).2.2.1 = some (tyJ15 k) := by decide +kernel
abbrev cJ15_checkIndex_7cf53 : ByteArray := prog_24_method_17_code
def yJ15_checkIndex_7cf53 : MethodName := ⟨RJ15, "checkIndex", "(II)I"⟩
def RJxf0a74 : String := "java/util/RandomAccess"
def TJxf0a74 : u_T := fun k => match k with
  | _ => ("", "", "", false)
def tyJxf0a74 : Nat → FieldType := fun k => match k with
  | _ => .int
theorem nmJxf0a74 : ∀ a, a < 0 → ∀ b, b < 0 → a ≠ b → (TJxf0a74 a).2.1 ≠ (TJxf0a74 b).2.1 := by decide +kernel
theorem tyJxf0a74_ok : ∀ k, k < 0 → parseFieldDescriptor (TJxf0a74 k).2.2.1 = some (tyJxf0a74 k) := by decide +kernel
def RJxa66e6 : String := "java/util/SequencedCollection"
def TJxa66e6 : u_T := fun k => match k with
  | _ => ("", "", "", false)
def tyJxa66e6 : Nat → FieldType := fun k => match k with
  | _ => .int
theorem nmJxa66e6 : ∀ a, a < 0 → ∀ b, b < 0 → a ≠ b → (TJxa66e6 a).2.1 ≠ (TJxa66e6 b).2.1 := by decide +kernel
theorem tyJxa66e6_ok : ∀ k, k < 0 → parseFieldDescriptor (TJxa66e6 k).2.2.1 = some (tyJxa66e6 k) := by decide +kernel
def RJ8 : String := "jdk/internal/util/ArraysSupport"
def TJ8 : u_T := fun k => match k with
  | _ => ("", "", "", false)
def tyJ8 : Nat → FieldType := fun k => match k with
  | _ => .int
theorem nmJ8 : ∀ a, a < 0 → ∀ b, b < 0 → a ≠ b → (TJ8 a).2.1 ≠ (TJ8 b).2.1 := by decide +kernel
theorem tyJ8_ok : ∀ k, k < 0 → parseFieldDescriptor (TJ8 k).2.2.1 = some (tyJ8 k) := by decide +kernel
abbrev cJ8_newLength_cabcc : ByteArray := prog_27_method_27_code
def yJ8_newLength_cabcc : MethodName := ⟨RJ8, "newLength", "(III)I"⟩
abbrev cJ8_hugeLength_7cf53 : ByteArray := prog_27_method_28_code
def yJ8_hugeLength_7cf53 : MethodName := ⟨RJ8, "hugeLength", "(II)I"⟩
def RJ3 : String := "jdk/internal/util/Preconditions"
def TJ3 : u_T := fun k => match k with
  | _ => ("", "", "", false)
def tyJ3 : Nat → FieldType := fun k => match k with
  | _ => .int
theorem nmJ3 : ∀ a, a < 0 → ∀ b, b < 0 → a ≠ b → (TJ3 a).2.1 ≠ (TJ3 b).2.1 := by decide +kernel
theorem tyJ3_ok : ∀ k, k < 0 → parseFieldDescriptor (TJ3 k).2.2.1 = some (tyJ3 k) := by decide +kernel
abbrev cJ3_checkIndex_8e157 : ByteArray := prog_28_method_11_code
def yJ3_checkIndex_8e157 : MethodName := ⟨RJ3, "checkIndex", "(IILjava/util/function/BiFunction;)I"⟩
def RL : String := "LetterTreeLaw"
abbrev cL_law : ByteArray := code
def yL_law : MethodName := ⟨RL, "law", "([I)Z"⟩
abbrev vwCl : List vw_C := [(RJx4a65c, TJx4a65c, 3), (RX0, TX0, 6), (RX1, TX1, 1), (RX2, TX2, 2), (RX3, TX3, 5), (RX4, TX4, 6), (RX5, TX5, 5), (RX6, TX6, 2), (RX7, TX7, 2), (RX8, TX8, 1), (RX9, TX9, 10), (RX10, TX10, 78)]
end
section
theorem dX0_init_0 : decode cX0_init 0 = .ok (.aload_n 0, 1) := by decide +kernel
theorem dX0_init_1 : decode cX0_init 1 = .ok (.invokespecial 3, 3) := by decide +kernel
theorem dX0_init_4 : decode cX0_init 4 = .ok (.aload_n 0, 1) := by decide +kernel
theorem dX0_init_5 : decode cX0_init 5 = .ok (.iconst 2, 1) := by decide +kernel
theorem dX0_init_6 : decode cX0_init 6 = .ok (.anewarray 9, 3) := by decide +kernel
theorem dX0_init_9 : decode cX0_init 9 = .ok (.putfield 11, 3) := by decide +kernel
theorem dX0_init_12 : decode cX0_init 12 = .ok (.aload_n 0, 1) := by decide +kernel
theorem dX0_init_13 : decode cX0_init 13 = .ok (.iconst 4, 1) := by decide +kernel
theorem dX0_init_14 : decode cX0_init 14 = .ok (.newarray .int, 2) := by decide +kernel
theorem dX0_init_16 : decode cX0_init 16 = .ok (.putfield 17, 3) := by decide +kernel
theorem dX0_init_19 : decode cX0_init 19 = .ok (.aload_n 0, 1) := by decide +kernel
theorem dX0_init_20 : decode cX0_init 20 = .ok (.sipush 1000, 3) := by decide +kernel
theorem dX0_init_23 : decode cX0_init 23 = .ok (.newarray .byte, 2) := by decide +kernel
theorem dX0_init_25 : decode cX0_init 25 = .ok (.putfield 21, 3) := by decide +kernel
theorem dX0_init_28 : decode cX0_init 28 = .ok (.return_, 1) := by decide +kernel
theorem dX0_markTaken_0 : decode cX0_markTaken 0 = .ok (.aload_n 0, 1) := by decide +kernel
theorem dX0_markTaken_1 : decode cX0_markTaken 1 = .ok (.getfield 21, 3) := by decide +kernel
theorem dX0_markTaken_4 : decode cX0_markTaken 4 = .ok (.iconst 0, 1) := by decide +kernel
theorem dX0_markTaken_5 : decode cX0_markTaken 5 = .ok (.invokestatic 25, 3) := by decide +kernel
theorem dX0_markTaken_8 : decode cX0_markTaken 8 = .ok (.aload_n 0, 1) := by decide +kernel
theorem dX0_markTaken_9 : decode cX0_markTaken 9 = .ok (.iconst 0, 1) := by decide +kernel
theorem dX0_markTaken_10 : decode cX0_markTaken 10 = .ok (.putfield 31, 3) := by decide +kernel
theorem dX0_markTaken_13 : decode cX0_markTaken 13 = .ok (.aload_n 0, 1) := by decide +kernel
theorem dX0_markTaken_14 : decode cX0_markTaken 14 = .ok (.iconst 0, 1) := by decide +kernel
theorem dX0_markTaken_15 : decode cX0_markTaken 15 = .ok (.putfield 35, 3) := by decide +kernel
theorem dX0_markTaken_18 : decode cX0_markTaken 18 = .ok (.aload_n 0, 1) := by decide +kernel
theorem dX0_markTaken_19 : decode cX0_markTaken 19 = .ok (.aload_n 1, 1) := by decide +kernel
theorem dX0_markTaken_20 : decode cX0_markTaken 20 = .ok (.iconst 0, 1) := by decide +kernel
theorem dX0_markTaken_21 : decode cX0_markTaken 21 = .ok (.invokevirtual 38, 3) := by decide +kernel
theorem dX0_markTaken_24 : decode cX0_markTaken 24 = .ok (.aload_n 0, 1) := by decide +kernel
theorem dX0_markTaken_25 : decode cX0_markTaken 25 = .ok (.aload_n 2, 1) := by decide +kernel
theorem dX0_markTaken_26 : decode cX0_markTaken 26 = .ok (.invokevirtual 42, 3) := by decide +kernel
theorem dX0_markTaken_29 : decode cX0_markTaken 29 = .ok (.iconst 0, 1) := by decide +kernel
theorem dX0_markTaken_30 : decode cX0_markTaken 30 = .ok (.istore_n 3, 1) := by decide +kernel
theorem dX0_markTaken_31 : decode cX0_markTaken 31 = .ok (.iload_n 3, 1) := by decide +kernel
theorem dX0_markTaken_32 : decode cX0_markTaken 32 = .ok (.aload_n 0, 1) := by decide +kernel
theorem dX0_markTaken_33 : decode cX0_markTaken 33 = .ok (.getfield 11, 3) := by decide +kernel
theorem dX0_markTaken_36 : decode cX0_markTaken 36 = .ok (.arraylength, 1) := by decide +kernel
theorem dX0_markTaken_37 : decode cX0_markTaken 37 = .ok (.if_icmp .ge 41, 3) := by decide +kernel
theorem dX0_markTaken_40 : decode cX0_markTaken 40 = .ok (.aload_n 0, 1) := by decide +kernel
theorem dX0_markTaken_41 : decode cX0_markTaken 41 = .ok (.getfield 11, 3) := by decide +kernel
theorem dX0_markTaken_44 : decode cX0_markTaken 44 = .ok (.iload_n 3, 1) := by decide +kernel
theorem dX0_markTaken_45 : decode cX0_markTaken 45 = .ok (.aaload, 1) := by decide +kernel
theorem dX0_markTaken_46 : decode cX0_markTaken 46 = .ok (.astore 4, 2) := by decide +kernel
theorem dX0_markTaken_48 : decode cX0_markTaken 48 = .ok (.aload 4, 2) := by decide +kernel
theorem dX0_markTaken_50 : decode cX0_markTaken 50 = .ok (.ifnull 22, 3) := by decide +kernel
theorem dX0_markTaken_53 : decode cX0_markTaken 53 = .ok (.aload_n 0, 1) := by decide +kernel
theorem dX0_markTaken_54 : decode cX0_markTaken 54 = .ok (.aload 4, 2) := by decide +kernel
theorem dX0_markTaken_56 : decode cX0_markTaken 56 = .ok (.getfield 46, 3) := by decide +kernel
theorem dX0_markTaken_59 : decode cX0_markTaken 59 = .ok (.iconst 0, 1) := by decide +kernel
theorem dX0_markTaken_60 : decode cX0_markTaken 60 = .ok (.invokevirtual 38, 3) := by decide +kernel
theorem dX0_markTaken_63 : decode cX0_markTaken 63 = .ok (.aload_n 0, 1) := by decide +kernel
theorem dX0_markTaken_64 : decode cX0_markTaken 64 = .ok (.aload 4, 2) := by decide +kernel
theorem dX0_markTaken_66 : decode cX0_markTaken 66 = .ok (.getfield 50, 3) := by decide +kernel
theorem dX0_markTaken_69 : decode cX0_markTaken 69 = .ok (.invokevirtual 42, 3) := by decide +kernel
theorem dX0_markTaken_72 : decode cX0_markTaken 72 = .ok (.iinc 3 1, 3) := by decide +kernel
theorem dX0_markTaken_75 : decode cX0_markTaken 75 = .ok (.goto (-44), 3) := by decide +kernel
theorem dX0_markTaken_78 : decode cX0_markTaken 78 = .ok (.return_, 1) := by decide +kernel
theorem dX0_markPictures_0 : decode cX0_markPictures 0 = .ok (.iconst 0, 1) := by decide +kernel
theorem dX0_markPictures_1 : decode cX0_markPictures 1 = .ok (.istore_n 2, 1) := by decide +kernel
theorem dX0_markPictures_2 : decode cX0_markPictures 2 = .ok (.iload_n 2, 1) := by decide +kernel
theorem dX0_markPictures_3 : decode cX0_markPictures 3 = .ok (.aload_n 1, 1) := by decide +kernel
theorem dX0_markPictures_4 : decode cX0_markPictures 4 = .ok (.invokevirtual 54, 3) := by decide +kernel
theorem dX0_markPictures_7 : decode cX0_markPictures 7 = .ok (.if_icmp .ge 25, 3) := by decide +kernel
theorem dX0_markPictures_10 : decode cX0_markPictures 10 = .ok (.aload_n 0, 1) := by decide +kernel
theorem dX0_markPictures_11 : decode cX0_markPictures 11 = .ok (.aload_n 1, 1) := by decide +kernel
theorem dX0_markPictures_12 : decode cX0_markPictures 12 = .ok (.iload_n 2, 1) := by decide +kernel
theorem dX0_markPictures_13 : decode cX0_markPictures 13 = .ok (.invokevirtual 60, 3) := by decide +kernel
theorem dX0_markPictures_16 : decode cX0_markPictures 16 = .ok (.checkcast 64, 3) := by decide +kernel
theorem dX0_markPictures_19 : decode cX0_markPictures 19 = .ok (.getfield 66, 3) := by decide +kernel
theorem dX0_markPictures_22 : decode cX0_markPictures 22 = .ok (.iconst 0, 1) := by decide +kernel
theorem dX0_markPictures_23 : decode cX0_markPictures 23 = .ok (.invokevirtual 38, 3) := by decide +kernel
theorem dX0_markPictures_26 : decode cX0_markPictures 26 = .ok (.iinc 2 1, 3) := by decide +kernel
theorem dX0_markPictures_29 : decode cX0_markPictures 29 = .ok (.goto (-27), 3) := by decide +kernel
theorem dX0_markPictures_32 : decode cX0_markPictures 32 = .ok (.return_, 1) := by decide +kernel
theorem dX0_markPages_0 : decode cX0_markPages 0 = .ok (.aload_n 1, 1) := by decide +kernel
theorem dX0_markPages_1 : decode cX0_markPages 1 = .ok (.getfield 67, 3) := by decide +kernel
theorem dX0_markPages_4 : decode cX0_markPages 4 = .ok (.ifCond .lt 46, 3) := by decide +kernel
theorem dX0_markPages_7 : decode cX0_markPages 7 = .ok (.aload_n 1, 1) := by decide +kernel
theorem dX0_markPages_8 : decode cX0_markPages 8 = .ok (.getfield 67, 3) := by decide +kernel
theorem dX0_markPages_11 : decode cX0_markPages 11 = .ok (.sipush 1000, 3) := by decide +kernel
theorem dX0_markPages_14 : decode cX0_markPages 14 = .ok (.if_icmp .ge 36, 3) := by decide +kernel
theorem dX0_markPages_17 : decode cX0_markPages 17 = .ok (.aload_n 0, 1) := by decide +kernel
theorem dX0_markPages_18 : decode cX0_markPages 18 = .ok (.getfield 21, 3) := by decide +kernel
theorem dX0_markPages_21 : decode cX0_markPages 21 = .ok (.aload_n 1, 1) := by decide +kernel
theorem dX0_markPages_22 : decode cX0_markPages 22 = .ok (.getfield 67, 3) := by decide +kernel
theorem dX0_markPages_25 : decode cX0_markPages 25 = .ok (.baload, 1) := by decide +kernel
theorem dX0_markPages_26 : decode cX0_markPages 26 = .ok (.ifCond .eq 4, 3) := by decide +kernel
theorem dX0_markPages_29 : decode cX0_markPages 29 = .ok (.return_, 1) := by decide +kernel
theorem dX0_markPages_30 : decode cX0_markPages 30 = .ok (.aload_n 0, 1) := by decide +kernel
theorem dX0_markPages_31 : decode cX0_markPages 31 = .ok (.getfield 21, 3) := by decide +kernel
theorem dX0_markPages_34 : decode cX0_markPages 34 = .ok (.aload_n 1, 1) := by decide +kernel
theorem dX0_markPages_35 : decode cX0_markPages 35 = .ok (.getfield 67, 3) := by decide +kernel
theorem dX0_markPages_38 : decode cX0_markPages 38 = .ok (.iconst 1, 1) := by decide +kernel
theorem dX0_markPages_39 : decode cX0_markPages 39 = .ok (.bastore, 1) := by decide +kernel
theorem dX0_markPages_40 : decode cX0_markPages 40 = .ok (.aload_n 0, 1) := by decide +kernel
theorem dX0_markPages_41 : decode cX0_markPages 41 = .ok (.dup, 1) := by decide +kernel
theorem dX0_markPages_42 : decode cX0_markPages 42 = .ok (.getfield 31, 3) := by decide +kernel
theorem dX0_markPages_45 : decode cX0_markPages 45 = .ok (.iconst 1, 1) := by decide +kernel
theorem dX0_markPages_46 : decode cX0_markPages 46 = .ok (.iadd, 1) := by decide +kernel
theorem dX0_markPages_47 : decode cX0_markPages 47 = .ok (.putfield 31, 3) := by decide +kernel
theorem dX0_markPages_50 : decode cX0_markPages 50 = .ok (.iconst 0, 1) := by decide +kernel
theorem dX0_markPages_51 : decode cX0_markPages 51 = .ok (.istore_n 3, 1) := by decide +kernel
theorem dX0_markPages_52 : decode cX0_markPages 52 = .ok (.iload_n 3, 1) := by decide +kernel
theorem dX0_markPages_53 : decode cX0_markPages 53 = .ok (.aload_n 1, 1) := by decide +kernel
theorem dX0_markPages_54 : decode cX0_markPages 54 = .ok (.getfield 72, 3) := by decide +kernel
theorem dX0_markPages_57 : decode cX0_markPages 57 = .ok (.invokevirtual 54, 3) := by decide +kernel
theorem dX0_markPages_60 : decode cX0_markPages 60 = .ok (.if_icmp .ge 33, 3) := by decide +kernel
theorem dX0_markPages_63 : decode cX0_markPages 63 = .ok (.iload_n 2, 1) := by decide +kernel
theorem dX0_markPages_64 : decode cX0_markPages 64 = .ok (.bipush 40, 2) := by decide +kernel
theorem dX0_markPages_66 : decode cX0_markPages 66 = .ok (.if_icmp .ge 27, 3) := by decide +kernel
theorem dX0_markPages_69 : decode cX0_markPages 69 = .ok (.aload_n 0, 1) := by decide +kernel
theorem dX0_markPages_70 : decode cX0_markPages 70 = .ok (.aload_n 1, 1) := by decide +kernel
theorem dX0_markPages_71 : decode cX0_markPages 71 = .ok (.getfield 72, 3) := by decide +kernel
theorem dX0_markPages_74 : decode cX0_markPages 74 = .ok (.iload_n 3, 1) := by decide +kernel
theorem dX0_markPages_75 : decode cX0_markPages 75 = .ok (.invokevirtual 60, 3) := by decide +kernel
theorem dX0_markPages_78 : decode cX0_markPages 78 = .ok (.checkcast 68, 3) := by decide +kernel
theorem dX0_markPages_81 : decode cX0_markPages 81 = .ok (.iload_n 2, 1) := by decide +kernel
theorem dX0_markPages_82 : decode cX0_markPages 82 = .ok (.iconst 1, 1) := by decide +kernel
theorem dX0_markPages_83 : decode cX0_markPages 83 = .ok (.iadd, 1) := by decide +kernel
theorem dX0_markPages_84 : decode cX0_markPages 84 = .ok (.invokevirtual 38, 3) := by decide +kernel
theorem dX0_markPages_87 : decode cX0_markPages 87 = .ok (.iinc 3 1, 3) := by decide +kernel
theorem dX0_markPages_90 : decode cX0_markPages 90 = .ok (.goto (-38), 3) := by decide +kernel
theorem dX0_markPages_93 : decode cX0_markPages 93 = .ok (.return_, 1) := by decide +kernel
theorem dX0_writePages_0 : decode cX0_writePages 0 = .ok (.aload_n 1, 1) := by decide +kernel
theorem dX0_writePages_1 : decode cX0_writePages 1 = .ok (.getfield 67, 3) := by decide +kernel
theorem dX0_writePages_4 : decode cX0_writePages 4 = .ok (.iconst (-1), 1) := by decide +kernel
theorem dX0_writePages_5 : decode cX0_writePages 5 = .ok (.if_icmp .eq 5, 3) := by decide +kernel
theorem dX0_writePages_8 : decode cX0_writePages 8 = .ok (.iconst 1, 1) := by decide +kernel
theorem dX0_writePages_9 : decode cX0_writePages 9 = .ok (.ireturn, 1) := by decide +kernel
theorem dX0_writePages_10 : decode cX0_writePages 10 = .ok (.iconst 0, 1) := by decide +kernel
theorem dX0_writePages_11 : decode cX0_writePages 11 = .ok (.istore_n 3, 1) := by decide +kernel
theorem dX0_writePages_12 : decode cX0_writePages 12 = .ok (.iload_n 3, 1) := by decide +kernel
theorem dX0_writePages_13 : decode cX0_writePages 13 = .ok (.aload_n 1, 1) := by decide +kernel
theorem dX0_writePages_14 : decode cX0_writePages 14 = .ok (.getfield 72, 3) := by decide +kernel
theorem dX0_writePages_17 : decode cX0_writePages 17 = .ok (.invokevirtual 54, 3) := by decide +kernel
theorem dX0_writePages_20 : decode cX0_writePages 20 = .ok (.if_icmp .ge 38, 3) := by decide +kernel
theorem dX0_writePages_23 : decode cX0_writePages 23 = .ok (.iload_n 2, 1) := by decide +kernel
theorem dX0_writePages_24 : decode cX0_writePages 24 = .ok (.bipush 40, 2) := by decide +kernel
theorem dX0_writePages_26 : decode cX0_writePages 26 = .ok (.if_icmp .ge 32, 3) := by decide +kernel
theorem dX0_writePages_29 : decode cX0_writePages 29 = .ok (.aload_n 0, 1) := by decide +kernel
theorem dX0_writePages_30 : decode cX0_writePages 30 = .ok (.aload_n 1, 1) := by decide +kernel
theorem dX0_writePages_31 : decode cX0_writePages 31 = .ok (.getfield 72, 3) := by decide +kernel
theorem dX0_writePages_34 : decode cX0_writePages 34 = .ok (.iload_n 3, 1) := by decide +kernel
theorem dX0_writePages_35 : decode cX0_writePages 35 = .ok (.invokevirtual 60, 3) := by decide +kernel
theorem dX0_writePages_38 : decode cX0_writePages 38 = .ok (.checkcast 68, 3) := by decide +kernel
theorem dX0_writePages_41 : decode cX0_writePages 41 = .ok (.iload_n 2, 1) := by decide +kernel
theorem dX0_writePages_42 : decode cX0_writePages 42 = .ok (.iconst 1, 1) := by decide +kernel
theorem dX0_writePages_43 : decode cX0_writePages 43 = .ok (.iadd, 1) := by decide +kernel
theorem dX0_writePages_44 : decode cX0_writePages 44 = .ok (.invokevirtual 75, 3) := by decide +kernel
theorem dX0_writePages_47 : decode cX0_writePages 47 = .ok (.ifCond .ne 5, 3) := by decide +kernel
theorem dX0_writePages_50 : decode cX0_writePages 50 = .ok (.iconst 0, 1) := by decide +kernel
theorem dX0_writePages_51 : decode cX0_writePages 51 = .ok (.ireturn, 1) := by decide +kernel
theorem dX0_writePages_52 : decode cX0_writePages 52 = .ok (.iinc 3 1, 3) := by decide +kernel
theorem dX0_writePages_55 : decode cX0_writePages 55 = .ok (.goto (-43), 3) := by decide +kernel
theorem dX0_writePages_58 : decode cX0_writePages 58 = .ok (.aload_n 0, 1) := by decide +kernel
theorem dX0_writePages_59 : decode cX0_writePages 59 = .ok (.aload_n 1, 1) := by decide +kernel
theorem dX0_writePages_60 : decode cX0_writePages 60 = .ok (.invokevirtual 79, 3) := by decide +kernel
theorem dX0_writePages_63 : decode cX0_writePages 63 = .ok (.ireturn, 1) := by decide +kernel
theorem dX0_writePage_0 : decode cX0_writePage 0 = .ok (.aload_n 0, 1) := by decide +kernel
theorem dX0_writePage_1 : decode cX0_writePage 1 = .ok (.getfield 17, 3) := by decide +kernel
theorem dX0_writePage_4 : decode cX0_writePage 4 = .ok (.aload_n 1, 1) := by decide +kernel
theorem dX0_writePage_5 : decode cX0_writePage 5 = .ok (.invokevirtual 83, 3) := by decide +kernel
theorem dX0_writePage_8 : decode cX0_writePage 8 = .ok (.ifCond .eq 7, 3) := by decide +kernel
theorem dX0_writePage_11 : decode cX0_writePage 11 = .ok (.iconst 0, 1) := by decide +kernel
theorem dX0_writePage_12 : decode cX0_writePage 12 = .ok (.goto 4, 3) := by decide +kernel
theorem dX0_writePage_15 : decode cX0_writePage 15 = .ok (.iconst 1, 1) := by decide +kernel
theorem dX0_writePage_16 : decode cX0_writePage 16 = .ok (.dup2, 1) := by decide +kernel
theorem dX0_writePage_17 : decode cX0_writePage 17 = .ok (.iaload, 1) := by decide +kernel
theorem dX0_writePage_18 : decode cX0_writePage 18 = .ok (.iconst 1, 1) := by decide +kernel
theorem dX0_writePage_19 : decode cX0_writePage 19 = .ok (.iadd, 1) := by decide +kernel
theorem dX0_writePage_20 : decode cX0_writePage 20 = .ok (.iastore, 1) := by decide +kernel
theorem dX0_writePage_21 : decode cX0_writePage 21 = .ok (.aload_n 0, 1) := by decide +kernel
theorem dX0_writePage_22 : decode cX0_writePage 22 = .ok (.invokevirtual 87, 3) := by decide +kernel
theorem dX0_writePage_25 : decode cX0_writePage 25 = .ok (.ifCond .eq 5, 3) := by decide +kernel
theorem dX0_writePage_28 : decode cX0_writePage 28 = .ok (.iconst 0, 1) := by decide +kernel
theorem dX0_writePage_29 : decode cX0_writePage 29 = .ok (.ireturn, 1) := by decide +kernel
theorem dX0_writePage_30 : decode cX0_writePage 30 = .ok (.aload_n 0, 1) := by decide +kernel
theorem dX0_writePage_31 : decode cX0_writePage 31 = .ok (.getfield 35, 3) := by decide +kernel
theorem dX0_writePage_34 : decode cX0_writePage 34 = .ok (.sipush 1000, 3) := by decide +kernel
theorem dX0_writePage_37 : decode cX0_writePage 37 = .ok (.if_icmp .ge 28, 3) := by decide +kernel
theorem dX0_writePage_40 : decode cX0_writePage 40 = .ok (.aload_n 0, 1) := by decide +kernel
theorem dX0_writePage_41 : decode cX0_writePage 41 = .ok (.getfield 21, 3) := by decide +kernel
theorem dX0_writePage_44 : decode cX0_writePage 44 = .ok (.aload_n 0, 1) := by decide +kernel
theorem dX0_writePage_45 : decode cX0_writePage 45 = .ok (.getfield 35, 3) := by decide +kernel
theorem dX0_writePage_48 : decode cX0_writePage 48 = .ok (.baload, 1) := by decide +kernel
theorem dX0_writePage_49 : decode cX0_writePage 49 = .ok (.ifCond .eq 16, 3) := by decide +kernel
theorem dX0_writePage_52 : decode cX0_writePage 52 = .ok (.aload_n 0, 1) := by decide +kernel
theorem dX0_writePage_53 : decode cX0_writePage 53 = .ok (.dup, 1) := by decide +kernel
theorem dX0_writePage_54 : decode cX0_writePage 54 = .ok (.getfield 35, 3) := by decide +kernel
theorem dX0_writePage_57 : decode cX0_writePage 57 = .ok (.iconst 1, 1) := by decide +kernel
theorem dX0_writePage_58 : decode cX0_writePage 58 = .ok (.iadd, 1) := by decide +kernel
theorem dX0_writePage_59 : decode cX0_writePage 59 = .ok (.putfield 35, 3) := by decide +kernel
theorem dX0_writePage_62 : decode cX0_writePage 62 = .ok (.goto (-32), 3) := by decide +kernel
theorem dX0_writePage_65 : decode cX0_writePage 65 = .ok (.aload_n 0, 1) := by decide +kernel
theorem dX0_writePage_66 : decode cX0_writePage 66 = .ok (.getfield 35, 3) := by decide +kernel
theorem dX0_writePage_69 : decode cX0_writePage 69 = .ok (.sipush 1000, 3) := by decide +kernel
theorem dX0_writePage_72 : decode cX0_writePage 72 = .ok (.if_icmp .ge 21, 3) := by decide +kernel
theorem dX0_writePage_75 : decode cX0_writePage 75 = .ok (.aload_n 1, 1) := by decide +kernel
theorem dX0_writePage_76 : decode cX0_writePage 76 = .ok (.aload_n 0, 1) := by decide +kernel
theorem dX0_writePage_77 : decode cX0_writePage 77 = .ok (.getfield 35, 3) := by decide +kernel
theorem dX0_writePage_80 : decode cX0_writePage 80 = .ok (.putfield 67, 3) := by decide +kernel
theorem dX0_writePage_83 : decode cX0_writePage 83 = .ok (.aload_n 0, 1) := by decide +kernel
theorem dX0_writePage_84 : decode cX0_writePage 84 = .ok (.getfield 21, 3) := by decide +kernel
theorem dX0_writePage_87 : decode cX0_writePage 87 = .ok (.aload_n 0, 1) := by decide +kernel
theorem dX0_writePage_88 : decode cX0_writePage 88 = .ok (.getfield 35, 3) := by decide +kernel
theorem dX0_writePage_91 : decode cX0_writePage 91 = .ok (.iconst 1, 1) := by decide +kernel
theorem dX0_writePage_92 : decode cX0_writePage 92 = .ok (.bastore, 1) := by decide +kernel
theorem dX0_writePage_93 : decode cX0_writePage 93 = .ok (.iconst 1, 1) := by decide +kernel
theorem dX0_writePage_94 : decode cX0_writePage 94 = .ok (.ireturn, 1) := by decide +kernel
theorem dX0_writeHead_0 : decode cX0_writeHead 0 = .ok (.aload_n 1, 1) := by decide +kernel
theorem dX0_writeHead_1 : decode cX0_writeHead 1 = .ok (.getfield 90, 3) := by decide +kernel
theorem dX0_writeHead_4 : decode cX0_writeHead 4 = .ok (.iconst 1, 1) := by decide +kernel
theorem dX0_writeHead_5 : decode cX0_writeHead 5 = .ok (.iand, 1) := by decide +kernel
theorem dX0_writeHead_6 : decode cX0_writeHead 6 = .ok (.istore_n 2, 1) := by decide +kernel
theorem dX0_writeHead_7 : decode cX0_writeHead 7 = .ok (.aload_n 0, 1) := by decide +kernel
theorem dX0_writeHead_8 : decode cX0_writeHead 8 = .ok (.getfield 17, 3) := by decide +kernel
theorem dX0_writeHead_11 : decode cX0_writeHead 11 = .ok (.iconst 2, 1) := by decide +kernel
theorem dX0_writeHead_12 : decode cX0_writeHead 12 = .ok (.dup2, 1) := by decide +kernel
theorem dX0_writeHead_13 : decode cX0_writeHead 13 = .ok (.iaload, 1) := by decide +kernel
theorem dX0_writeHead_14 : decode cX0_writeHead 14 = .ok (.iconst 1, 1) := by decide +kernel
theorem dX0_writeHead_15 : decode cX0_writeHead 15 = .ok (.iadd, 1) := by decide +kernel
theorem dX0_writeHead_16 : decode cX0_writeHead 16 = .ok (.iastore, 1) := by decide +kernel
theorem dX0_writeHead_17 : decode cX0_writeHead 17 = .ok (.aload_n 0, 1) := by decide +kernel
theorem dX0_writeHead_18 : decode cX0_writeHead 18 = .ok (.invokevirtual 87, 3) := by decide +kernel
theorem dX0_writeHead_21 : decode cX0_writeHead 21 = .ok (.istore_n 3, 1) := by decide +kernel
theorem dX0_writeHead_22 : decode cX0_writeHead 22 = .ok (.aload_n 0, 1) := by decide +kernel
theorem dX0_writeHead_23 : decode cX0_writeHead 23 = .ok (.getfield 11, 3) := by decide +kernel
theorem dX0_writeHead_26 : decode cX0_writeHead 26 = .ok (.iload_n 2, 1) := by decide +kernel
theorem dX0_writeHead_27 : decode cX0_writeHead 27 = .ok (.iload_n 3, 1) := by decide +kernel
theorem dX0_writeHead_28 : decode cX0_writeHead 28 = .ok (.ifCond .eq 7, 3) := by decide +kernel
theorem dX0_writeHead_31 : decode cX0_writeHead 31 = .ok (.aconst_null, 1) := by decide +kernel
theorem dX0_writeHead_32 : decode cX0_writeHead 32 = .ok (.goto 4, 3) := by decide +kernel
theorem dX0_writeHead_35 : decode cX0_writeHead 35 = .ok (.aload_n 1, 1) := by decide +kernel
theorem dX0_writeHead_36 : decode cX0_writeHead 36 = .ok (.aastore, 1) := by decide +kernel
theorem dX0_writeHead_37 : decode cX0_writeHead 37 = .ok (.iload_n 3, 1) := by decide +kernel
theorem dX0_writeHead_38 : decode cX0_writeHead 38 = .ok (.ifCond .ne 7, 3) := by decide +kernel
theorem dX0_writeHead_41 : decode cX0_writeHead 41 = .ok (.iconst 1, 1) := by decide +kernel
theorem dX0_writeHead_42 : decode cX0_writeHead 42 = .ok (.goto 4, 3) := by decide +kernel
theorem dX0_writeHead_45 : decode cX0_writeHead 45 = .ok (.iconst 0, 1) := by decide +kernel
theorem dX0_writeHead_46 : decode cX0_writeHead 46 = .ok (.ireturn, 1) := by decide +kernel
theorem dX0_fallComes_0 : decode cX0_fallComes 0 = .ok (.aload_n 0, 1) := by decide +kernel
theorem dX0_fallComes_1 : decode cX0_fallComes 1 = .ok (.getfield 93, 3) := by decide +kernel
theorem dX0_fallComes_4 : decode cX0_fallComes 4 = .ok (.ifCond .ne 5, 3) := by decide +kernel
theorem dX0_fallComes_7 : decode cX0_fallComes 7 = .ok (.iconst 0, 1) := by decide +kernel
theorem dX0_fallComes_8 : decode cX0_fallComes 8 = .ok (.ireturn, 1) := by decide +kernel
theorem dX0_fallComes_9 : decode cX0_fallComes 9 = .ok (.aload_n 0, 1) := by decide +kernel
theorem dX0_fallComes_10 : decode cX0_fallComes 10 = .ok (.dup, 1) := by decide +kernel
theorem dX0_fallComes_11 : decode cX0_fallComes 11 = .ok (.getfield 93, 3) := by decide +kernel
theorem dX0_fallComes_14 : decode cX0_fallComes 14 = .ok (.iconst 1, 1) := by decide +kernel
theorem dX0_fallComes_15 : decode cX0_fallComes 15 = .ok (.isub, 1) := by decide +kernel
theorem dX0_fallComes_16 : decode cX0_fallComes 16 = .ok (.putfield 93, 3) := by decide +kernel
theorem dX0_fallComes_19 : decode cX0_fallComes 19 = .ok (.aload_n 0, 1) := by decide +kernel
theorem dX0_fallComes_20 : decode cX0_fallComes 20 = .ok (.getfield 93, 3) := by decide +kernel
theorem dX0_fallComes_23 : decode cX0_fallComes 23 = .ok (.ifCond .le 5, 3) := by decide +kernel
theorem dX0_fallComes_26 : decode cX0_fallComes 26 = .ok (.iconst 0, 1) := by decide +kernel
theorem dX0_fallComes_27 : decode cX0_fallComes 27 = .ok (.ireturn, 1) := by decide +kernel
theorem dX0_fallComes_28 : decode cX0_fallComes 28 = .ok (.aload_n 0, 1) := by decide +kernel
theorem dX0_fallComes_29 : decode cX0_fallComes 29 = .ok (.getfield 17, 3) := by decide +kernel
theorem dX0_fallComes_32 : decode cX0_fallComes 32 = .ok (.iconst 3, 1) := by decide +kernel
theorem dX0_fallComes_33 : decode cX0_fallComes 33 = .ok (.dup2, 1) := by decide +kernel
theorem dX0_fallComes_34 : decode cX0_fallComes 34 = .ok (.iaload, 1) := by decide +kernel
theorem dX0_fallComes_35 : decode cX0_fallComes 35 = .ok (.iconst 1, 1) := by decide +kernel
theorem dX0_fallComes_36 : decode cX0_fallComes 36 = .ok (.iadd, 1) := by decide +kernel
theorem dX0_fallComes_37 : decode cX0_fallComes 37 = .ok (.iastore, 1) := by decide +kernel
theorem dX0_fallComes_38 : decode cX0_fallComes 38 = .ok (.iconst 1, 1) := by decide +kernel
theorem dX0_fallComes_39 : decode cX0_fallComes 39 = .ok (.ireturn, 1) := by decide +kernel
theorem dX0_latestHead_0 : decode cX0_latestHead 0 = .ok (.aload_n 0, 1) := by decide +kernel
theorem dX0_latestHead_1 : decode cX0_latestHead 1 = .ok (.getfield 11, 3) := by decide +kernel
theorem dX0_latestHead_4 : decode cX0_latestHead 4 = .ok (.iconst 0, 1) := by decide +kernel
theorem dX0_latestHead_5 : decode cX0_latestHead 5 = .ok (.aaload, 1) := by decide +kernel
theorem dX0_latestHead_6 : decode cX0_latestHead 6 = .ok (.astore_n 1, 1) := by decide +kernel
theorem dX0_latestHead_7 : decode cX0_latestHead 7 = .ok (.aload_n 0, 1) := by decide +kernel
theorem dX0_latestHead_8 : decode cX0_latestHead 8 = .ok (.getfield 11, 3) := by decide +kernel
theorem dX0_latestHead_11 : decode cX0_latestHead 11 = .ok (.iconst 1, 1) := by decide +kernel
theorem dX0_latestHead_12 : decode cX0_latestHead 12 = .ok (.aaload, 1) := by decide +kernel
theorem dX0_latestHead_13 : decode cX0_latestHead 13 = .ok (.astore_n 2, 1) := by decide +kernel
theorem dX0_latestHead_14 : decode cX0_latestHead 14 = .ok (.aload_n 1, 1) := by decide +kernel
theorem dX0_latestHead_15 : decode cX0_latestHead 15 = .ok (.ifnull 7, 3) := by decide +kernel
theorem dX0_latestHead_18 : decode cX0_latestHead 18 = .ok (.aload_n 2, 1) := by decide +kernel
theorem dX0_latestHead_19 : decode cX0_latestHead 19 = .ok (.ifnonnull 13, 3) := by decide +kernel
theorem dX0_latestHead_22 : decode cX0_latestHead 22 = .ok (.aload_n 1, 1) := by decide +kernel
theorem dX0_latestHead_23 : decode cX0_latestHead 23 = .ok (.ifnonnull 7, 3) := by decide +kernel
theorem dX0_latestHead_26 : decode cX0_latestHead 26 = .ok (.aload_n 2, 1) := by decide +kernel
theorem dX0_latestHead_27 : decode cX0_latestHead 27 = .ok (.goto 4, 3) := by decide +kernel
theorem dX0_latestHead_30 : decode cX0_latestHead 30 = .ok (.aload_n 1, 1) := by decide +kernel
theorem dX0_latestHead_31 : decode cX0_latestHead 31 = .ok (.areturn, 1) := by decide +kernel
theorem dX0_latestHead_32 : decode cX0_latestHead 32 = .ok (.aload_n 1, 1) := by decide +kernel
theorem dX0_latestHead_33 : decode cX0_latestHead 33 = .ok (.getfield 90, 3) := by decide +kernel
theorem dX0_latestHead_36 : decode cX0_latestHead 36 = .ok (.aload_n 2, 1) := by decide +kernel
theorem dX0_latestHead_37 : decode cX0_latestHead 37 = .ok (.getfield 90, 3) := by decide +kernel
theorem dX0_latestHead_40 : decode cX0_latestHead 40 = .ok (.if_icmp .le 7, 3) := by decide +kernel
theorem dX0_latestHead_43 : decode cX0_latestHead 43 = .ok (.aload_n 1, 1) := by decide +kernel
theorem dX0_latestHead_44 : decode cX0_latestHead 44 = .ok (.goto 4, 3) := by decide +kernel
theorem dX0_latestHead_47 : decode cX0_latestHead 47 = .ok (.aload_n 2, 1) := by decide +kernel
theorem dX0_latestHead_48 : decode cX0_latestHead 48 = .ok (.areturn, 1) := by decide +kernel
theorem dX0_greatestPicture_0 : decode cX0_greatestPicture 0 = .ok (.iconst 0, 1) := by decide +kernel
theorem dX0_greatestPicture_1 : decode cX0_greatestPicture 1 = .ok (.istore_n 1, 1) := by decide +kernel
theorem dX0_greatestPicture_2 : decode cX0_greatestPicture 2 = .ok (.iconst 0, 1) := by decide +kernel
theorem dX0_greatestPicture_3 : decode cX0_greatestPicture 3 = .ok (.istore_n 2, 1) := by decide +kernel
theorem dX0_greatestPicture_4 : decode cX0_greatestPicture 4 = .ok (.iload_n 2, 1) := by decide +kernel
theorem dX0_greatestPicture_5 : decode cX0_greatestPicture 5 = .ok (.aload_n 0, 1) := by decide +kernel
theorem dX0_greatestPicture_6 : decode cX0_greatestPicture 6 = .ok (.getfield 11, 3) := by decide +kernel
theorem dX0_greatestPicture_9 : decode cX0_greatestPicture 9 = .ok (.arraylength, 1) := by decide +kernel
theorem dX0_greatestPicture_10 : decode cX0_greatestPicture 10 = .ok (.if_icmp .ge 32, 3) := by decide +kernel
theorem dX0_greatestPicture_13 : decode cX0_greatestPicture 13 = .ok (.aload_n 0, 1) := by decide +kernel
theorem dX0_greatestPicture_14 : decode cX0_greatestPicture 14 = .ok (.getfield 11, 3) := by decide +kernel
theorem dX0_greatestPicture_17 : decode cX0_greatestPicture 17 = .ok (.iload_n 2, 1) := by decide +kernel
theorem dX0_greatestPicture_18 : decode cX0_greatestPicture 18 = .ok (.aaload, 1) := by decide +kernel
theorem dX0_greatestPicture_19 : decode cX0_greatestPicture 19 = .ok (.ifnull 17, 3) := by decide +kernel
theorem dX0_greatestPicture_22 : decode cX0_greatestPicture 22 = .ok (.iload_n 1, 1) := by decide +kernel
theorem dX0_greatestPicture_23 : decode cX0_greatestPicture 23 = .ok (.aload_n 0, 1) := by decide +kernel
theorem dX0_greatestPicture_24 : decode cX0_greatestPicture 24 = .ok (.getfield 11, 3) := by decide +kernel
theorem dX0_greatestPicture_27 : decode cX0_greatestPicture 27 = .ok (.iload_n 2, 1) := by decide +kernel
theorem dX0_greatestPicture_28 : decode cX0_greatestPicture 28 = .ok (.aaload, 1) := by decide +kernel
theorem dX0_greatestPicture_29 : decode cX0_greatestPicture 29 = .ok (.getfield 96, 3) := by decide +kernel
theorem dX0_greatestPicture_32 : decode cX0_greatestPicture 32 = .ok (.invokestatic 99, 3) := by decide +kernel
theorem dX0_greatestPicture_35 : decode cX0_greatestPicture 35 = .ok (.istore_n 1, 1) := by decide +kernel
theorem dX0_greatestPicture_36 : decode cX0_greatestPicture 36 = .ok (.iinc 2 1, 3) := by decide +kernel
theorem dX0_greatestPicture_39 : decode cX0_greatestPicture 39 = .ok (.goto (-35), 3) := by decide +kernel
theorem dX0_greatestPicture_42 : decode cX0_greatestPicture 42 = .ok (.iload_n 1, 1) := by decide +kernel
theorem dX0_greatestPicture_43 : decode cX0_greatestPicture 43 = .ok (.ireturn, 1) := by decide +kernel
theorem dX1_init_0 : decode cX1_init 0 = .ok (.aload_n 0, 1) := by decide +kernel
theorem dX1_init_1 : decode cX1_init 1 = .ok (.invokespecial 3, 3) := by decide +kernel
theorem dX1_init_4 : decode cX1_init 4 = .ok (.aload_n 0, 1) := by decide +kernel
theorem dX1_init_5 : decode cX1_init 5 = .ok (.new 9, 3) := by decide +kernel
theorem dX1_init_8 : decode cX1_init 8 = .ok (.dup, 1) := by decide +kernel
theorem dX1_init_9 : decode cX1_init 9 = .ok (.invokespecial 11, 3) := by decide +kernel
theorem dX1_init_12 : decode cX1_init 12 = .ok (.putfield 12, 3) := by decide +kernel
theorem dX1_init_15 : decode cX1_init 15 = .ok (.return_, 1) := by decide +kernel
theorem dX1_firstNotBelow_0 : decode cX1_firstNotBelow 0 = .ok (.iconst 0, 1) := by decide +kernel
theorem dX1_firstNotBelow_1 : decode cX1_firstNotBelow 1 = .ok (.istore_n 3, 1) := by decide +kernel
theorem dX1_firstNotBelow_2 : decode cX1_firstNotBelow 2 = .ok (.aload_n 0, 1) := by decide +kernel
theorem dX1_firstNotBelow_3 : decode cX1_firstNotBelow 3 = .ok (.getfield 12, 3) := by decide +kernel
theorem dX1_firstNotBelow_6 : decode cX1_firstNotBelow 6 = .ok (.invokevirtual 18, 3) := by decide +kernel
theorem dX1_firstNotBelow_9 : decode cX1_firstNotBelow 9 = .ok (.istore 4, 2) := by decide +kernel
theorem dX1_firstNotBelow_11 : decode cX1_firstNotBelow 11 = .ok (.iconst 0, 1) := by decide +kernel
theorem dX1_firstNotBelow_12 : decode cX1_firstNotBelow 12 = .ok (.istore 5, 2) := by decide +kernel
theorem dX1_firstNotBelow_14 : decode cX1_firstNotBelow 14 = .ok (.iload 5, 2) := by decide +kernel
theorem dX1_firstNotBelow_16 : decode cX1_firstNotBelow 16 = .ok (.bipush 32, 2) := by decide +kernel
theorem dX1_firstNotBelow_18 : decode cX1_firstNotBelow 18 = .ok (.if_icmp .ge 55, 3) := by decide +kernel
theorem dX1_firstNotBelow_21 : decode cX1_firstNotBelow 21 = .ok (.iload_n 3, 1) := by decide +kernel
theorem dX1_firstNotBelow_22 : decode cX1_firstNotBelow 22 = .ok (.iload 4, 2) := by decide +kernel
theorem dX1_firstNotBelow_24 : decode cX1_firstNotBelow 24 = .ok (.if_icmp .ge 49, 3) := by decide +kernel
theorem dX1_firstNotBelow_27 : decode cX1_firstNotBelow 27 = .ok (.iload_n 3, 1) := by decide +kernel
theorem dX1_firstNotBelow_28 : decode cX1_firstNotBelow 28 = .ok (.iload 4, 2) := by decide +kernel
theorem dX1_firstNotBelow_30 : decode cX1_firstNotBelow 30 = .ok (.iadd, 1) := by decide +kernel
theorem dX1_firstNotBelow_31 : decode cX1_firstNotBelow 31 = .ok (.iconst 2, 1) := by decide +kernel
theorem dX1_firstNotBelow_32 : decode cX1_firstNotBelow 32 = .ok (.idiv, 1) := by decide +kernel
theorem dX1_firstNotBelow_33 : decode cX1_firstNotBelow 33 = .ok (.istore 6, 2) := by decide +kernel
theorem dX1_firstNotBelow_35 : decode cX1_firstNotBelow 35 = .ok (.aload_n 0, 1) := by decide +kernel
theorem dX1_firstNotBelow_36 : decode cX1_firstNotBelow 36 = .ok (.getfield 12, 3) := by decide +kernel
theorem dX1_firstNotBelow_39 : decode cX1_firstNotBelow 39 = .ok (.iload 6, 2) := by decide +kernel
theorem dX1_firstNotBelow_41 : decode cX1_firstNotBelow 41 = .ok (.invokevirtual 22, 3) := by decide +kernel
theorem dX1_firstNotBelow_44 : decode cX1_firstNotBelow 44 = .ok (.checkcast 26, 3) := by decide +kernel
theorem dX1_firstNotBelow_47 : decode cX1_firstNotBelow 47 = .ok (.getfield 28, 3) := by decide +kernel
theorem dX1_firstNotBelow_50 : decode cX1_firstNotBelow 50 = .ok (.lload_n 1, 1) := by decide +kernel
theorem dX1_firstNotBelow_51 : decode cX1_firstNotBelow 51 = .ok (.lcmp, 1) := by decide +kernel
theorem dX1_firstNotBelow_52 : decode cX1_firstNotBelow 52 = .ok (.ifCond .ge 11, 3) := by decide +kernel
theorem dX1_firstNotBelow_55 : decode cX1_firstNotBelow 55 = .ok (.iload 6, 2) := by decide +kernel
theorem dX1_firstNotBelow_57 : decode cX1_firstNotBelow 57 = .ok (.iconst 1, 1) := by decide +kernel
theorem dX1_firstNotBelow_58 : decode cX1_firstNotBelow 58 = .ok (.iadd, 1) := by decide +kernel
theorem dX1_firstNotBelow_59 : decode cX1_firstNotBelow 59 = .ok (.istore_n 3, 1) := by decide +kernel
theorem dX1_firstNotBelow_60 : decode cX1_firstNotBelow 60 = .ok (.goto 7, 3) := by decide +kernel
theorem dX1_firstNotBelow_63 : decode cX1_firstNotBelow 63 = .ok (.iload 6, 2) := by decide +kernel
theorem dX1_firstNotBelow_65 : decode cX1_firstNotBelow 65 = .ok (.istore 4, 2) := by decide +kernel
theorem dX1_firstNotBelow_67 : decode cX1_firstNotBelow 67 = .ok (.iinc 5 1, 3) := by decide +kernel
theorem dX1_firstNotBelow_70 : decode cX1_firstNotBelow 70 = .ok (.goto (-56), 3) := by decide +kernel
theorem dX1_firstNotBelow_73 : decode cX1_firstNotBelow 73 = .ok (.iload_n 3, 1) := by decide +kernel
theorem dX1_firstNotBelow_74 : decode cX1_firstNotBelow 74 = .ok (.ireturn, 1) := by decide +kernel
theorem dX1_hasAt_0 : decode cX1_hasAt 0 = .ok (.iload_n 1, 1) := by decide +kernel
theorem dX1_hasAt_1 : decode cX1_hasAt 1 = .ok (.ifCond .lt 37, 3) := by decide +kernel
theorem dX1_hasAt_4 : decode cX1_hasAt 4 = .ok (.iload_n 1, 1) := by decide +kernel
theorem dX1_hasAt_5 : decode cX1_hasAt 5 = .ok (.aload_n 0, 1) := by decide +kernel
theorem dX1_hasAt_6 : decode cX1_hasAt 6 = .ok (.getfield 12, 3) := by decide +kernel
theorem dX1_hasAt_9 : decode cX1_hasAt 9 = .ok (.invokevirtual 18, 3) := by decide +kernel
theorem dX1_hasAt_12 : decode cX1_hasAt 12 = .ok (.if_icmp .ge 26, 3) := by decide +kernel
theorem dX1_hasAt_15 : decode cX1_hasAt 15 = .ok (.aload_n 0, 1) := by decide +kernel
theorem dX1_hasAt_16 : decode cX1_hasAt 16 = .ok (.getfield 12, 3) := by decide +kernel
theorem dX1_hasAt_19 : decode cX1_hasAt 19 = .ok (.iload_n 1, 1) := by decide +kernel
theorem dX1_hasAt_20 : decode cX1_hasAt 20 = .ok (.invokevirtual 22, 3) := by decide +kernel
theorem dX1_hasAt_23 : decode cX1_hasAt 23 = .ok (.checkcast 26, 3) := by decide +kernel
theorem dX1_hasAt_26 : decode cX1_hasAt 26 = .ok (.getfield 28, 3) := by decide +kernel
theorem dX1_hasAt_29 : decode cX1_hasAt 29 = .ok (.lload_n 2, 1) := by decide +kernel
theorem dX1_hasAt_30 : decode cX1_hasAt 30 = .ok (.lcmp, 1) := by decide +kernel
theorem dX1_hasAt_31 : decode cX1_hasAt 31 = .ok (.ifCond .ne 7, 3) := by decide +kernel
theorem dX1_hasAt_34 : decode cX1_hasAt 34 = .ok (.iconst 1, 1) := by decide +kernel
theorem dX1_hasAt_35 : decode cX1_hasAt 35 = .ok (.goto 4, 3) := by decide +kernel
theorem dX1_hasAt_38 : decode cX1_hasAt 38 = .ok (.iconst 0, 1) := by decide +kernel
theorem dX1_hasAt_39 : decode cX1_hasAt 39 = .ok (.ireturn, 1) := by decide +kernel
theorem dX1_rowOf_0 : decode cX1_rowOf 0 = .ok (.aload_n 0, 1) := by decide +kernel
theorem dX1_rowOf_1 : decode cX1_rowOf 1 = .ok (.lload_n 1, 1) := by decide +kernel
theorem dX1_rowOf_2 : decode cX1_rowOf 2 = .ok (.invokevirtual 32, 3) := by decide +kernel
theorem dX1_rowOf_5 : decode cX1_rowOf 5 = .ok (.istore_n 3, 1) := by decide +kernel
theorem dX1_rowOf_6 : decode cX1_rowOf 6 = .ok (.aload_n 0, 1) := by decide +kernel
theorem dX1_rowOf_7 : decode cX1_rowOf 7 = .ok (.iload_n 3, 1) := by decide +kernel
theorem dX1_rowOf_8 : decode cX1_rowOf 8 = .ok (.lload_n 1, 1) := by decide +kernel
theorem dX1_rowOf_9 : decode cX1_rowOf 9 = .ok (.invokevirtual 36, 3) := by decide +kernel
theorem dX1_rowOf_12 : decode cX1_rowOf 12 = .ok (.ifCond .eq 20, 3) := by decide +kernel
theorem dX1_rowOf_15 : decode cX1_rowOf 15 = .ok (.aload_n 0, 1) := by decide +kernel
theorem dX1_rowOf_16 : decode cX1_rowOf 16 = .ok (.getfield 12, 3) := by decide +kernel
theorem dX1_rowOf_19 : decode cX1_rowOf 19 = .ok (.iload_n 3, 1) := by decide +kernel
theorem dX1_rowOf_20 : decode cX1_rowOf 20 = .ok (.invokevirtual 22, 3) := by decide +kernel
theorem dX1_rowOf_23 : decode cX1_rowOf 23 = .ok (.checkcast 26, 3) := by decide +kernel
theorem dX1_rowOf_26 : decode cX1_rowOf 26 = .ok (.getfield 40, 3) := by decide +kernel
theorem dX1_rowOf_29 : decode cX1_rowOf 29 = .ok (.goto 4, 3) := by decide +kernel
theorem dX1_rowOf_32 : decode cX1_rowOf 32 = .ok (.aconst_null, 1) := by decide +kernel
theorem dX1_rowOf_33 : decode cX1_rowOf 33 = .ok (.areturn, 1) := by decide +kernel
theorem dX1_isChangedBy_0 : decode cX1_isChangedBy 0 = .ok (.aload_n 0, 1) := by decide +kernel
theorem dX1_isChangedBy_1 : decode cX1_isChangedBy 1 = .ok (.aload_n 1, 1) := by decide +kernel
theorem dX1_isChangedBy_2 : decode cX1_isChangedBy 2 = .ok (.getfield 44, 3) := by decide +kernel
theorem dX1_isChangedBy_5 : decode cX1_isChangedBy 5 = .ok (.invokevirtual 32, 3) := by decide +kernel
theorem dX1_isChangedBy_8 : decode cX1_isChangedBy 8 = .ok (.istore_n 2, 1) := by decide +kernel
theorem dX1_isChangedBy_9 : decode cX1_isChangedBy 9 = .ok (.iload_n 2, 1) := by decide +kernel
theorem dX1_isChangedBy_10 : decode cX1_isChangedBy 10 = .ok (.aload_n 0, 1) := by decide +kernel
theorem dX1_isChangedBy_11 : decode cX1_isChangedBy 11 = .ok (.getfield 12, 3) := by decide +kernel
theorem dX1_isChangedBy_14 : decode cX1_isChangedBy 14 = .ok (.invokevirtual 18, 3) := by decide +kernel
theorem dX1_isChangedBy_17 : decode cX1_isChangedBy 17 = .ok (.if_icmp .ge 43, 3) := by decide +kernel
theorem dX1_isChangedBy_20 : decode cX1_isChangedBy 20 = .ok (.aload_n 1, 1) := by decide +kernel
theorem dX1_isChangedBy_21 : decode cX1_isChangedBy 21 = .ok (.aload_n 0, 1) := by decide +kernel
theorem dX1_isChangedBy_22 : decode cX1_isChangedBy 22 = .ok (.getfield 12, 3) := by decide +kernel
theorem dX1_isChangedBy_25 : decode cX1_isChangedBy 25 = .ok (.iload_n 2, 1) := by decide +kernel
theorem dX1_isChangedBy_26 : decode cX1_isChangedBy 26 = .ok (.invokevirtual 22, 3) := by decide +kernel
theorem dX1_isChangedBy_29 : decode cX1_isChangedBy 29 = .ok (.checkcast 26, 3) := by decide +kernel
theorem dX1_isChangedBy_32 : decode cX1_isChangedBy 32 = .ok (.getfield 28, 3) := by decide +kernel
theorem dX1_isChangedBy_35 : decode cX1_isChangedBy 35 = .ok (.invokevirtual 47, 3) := by decide +kernel
theorem dX1_isChangedBy_38 : decode cX1_isChangedBy 38 = .ok (.ifCond .eq 22, 3) := by decide +kernel
theorem dX1_isChangedBy_41 : decode cX1_isChangedBy 41 = .ok (.aload_n 1, 1) := by decide +kernel
theorem dX1_isChangedBy_42 : decode cX1_isChangedBy 42 = .ok (.aload_n 0, 1) := by decide +kernel
theorem dX1_isChangedBy_43 : decode cX1_isChangedBy 43 = .ok (.getfield 12, 3) := by decide +kernel
theorem dX1_isChangedBy_46 : decode cX1_isChangedBy 46 = .ok (.iload_n 2, 1) := by decide +kernel
theorem dX1_isChangedBy_47 : decode cX1_isChangedBy 47 = .ok (.invokevirtual 22, 3) := by decide +kernel
theorem dX1_isChangedBy_50 : decode cX1_isChangedBy 50 = .ok (.checkcast 26, 3) := by decide +kernel
theorem dX1_isChangedBy_53 : decode cX1_isChangedBy 53 = .ok (.getfield 40, 3) := by decide +kernel
theorem dX1_isChangedBy_56 : decode cX1_isChangedBy 56 = .ok (.invokevirtual 51, 3) := by decide +kernel
theorem dX1_isChangedBy_59 : decode cX1_isChangedBy 59 = .ok (.ireturn, 1) := by decide +kernel
theorem dX1_isChangedBy_60 : decode cX1_isChangedBy 60 = .ok (.aload_n 1, 1) := by decide +kernel
theorem dX1_isChangedBy_61 : decode cX1_isChangedBy 61 = .ok (.aconst_null, 1) := by decide +kernel
theorem dX1_isChangedBy_62 : decode cX1_isChangedBy 62 = .ok (.invokevirtual 51, 3) := by decide +kernel
theorem dX1_isChangedBy_65 : decode cX1_isChangedBy 65 = .ok (.ireturn, 1) := by decide +kernel
theorem dX1_act_0 : decode cX1_act 0 = .ok (.aload_n 0, 1) := by decide +kernel
theorem dX1_act_1 : decode cX1_act 1 = .ok (.aload_n 1, 1) := by decide +kernel
theorem dX1_act_2 : decode cX1_act 2 = .ok (.getfield 44, 3) := by decide +kernel
theorem dX1_act_5 : decode cX1_act 5 = .ok (.invokevirtual 32, 3) := by decide +kernel
theorem dX1_act_8 : decode cX1_act 8 = .ok (.istore_n 2, 1) := by decide +kernel
theorem dX1_act_9 : decode cX1_act 9 = .ok (.aload_n 1, 1) := by decide +kernel
theorem dX1_act_10 : decode cX1_act 10 = .ok (.getfield 55, 3) := by decide +kernel
theorem dX1_act_13 : decode cX1_act 13 = .ok (.iconst 4, 1) := by decide +kernel
theorem dX1_act_14 : decode cX1_act 14 = .ok (.if_icmp .eq 11, 3) := by decide +kernel
theorem dX1_act_17 : decode cX1_act 17 = .ok (.aload_n 1, 1) := by decide +kernel
theorem dX1_act_18 : decode cX1_act 18 = .ok (.getfield 55, 3) := by decide +kernel
theorem dX1_act_21 : decode cX1_act 21 = .ok (.iconst 5, 1) := by decide +kernel
theorem dX1_act_22 : decode cX1_act 22 = .ok (.if_icmp .ne 13, 3) := by decide +kernel
theorem dX1_act_25 : decode cX1_act 25 = .ok (.aload_n 0, 1) := by decide +kernel
theorem dX1_act_26 : decode cX1_act 26 = .ok (.iload_n 2, 1) := by decide +kernel
theorem dX1_act_27 : decode cX1_act 27 = .ok (.aload_n 1, 1) := by decide +kernel
theorem dX1_act_28 : decode cX1_act 28 = .ok (.getfield 59, 3) := by decide +kernel
theorem dX1_act_31 : decode cX1_act 31 = .ok (.invokevirtual 62, 3) := by decide +kernel
theorem dX1_act_34 : decode cX1_act 34 = .ok (.ireturn, 1) := by decide +kernel
theorem dX1_act_35 : decode cX1_act 35 = .ok (.aload_n 0, 1) := by decide +kernel
theorem dX1_act_36 : decode cX1_act 36 = .ok (.iload_n 2, 1) := by decide +kernel
theorem dX1_act_37 : decode cX1_act 37 = .ok (.aload_n 1, 1) := by decide +kernel
theorem dX1_act_38 : decode cX1_act 38 = .ok (.getfield 44, 3) := by decide +kernel
theorem dX1_act_41 : decode cX1_act 41 = .ok (.invokevirtual 36, 3) := by decide +kernel
theorem dX1_act_44 : decode cX1_act 44 = .ok (.istore_n 3, 1) := by decide +kernel
theorem dX1_act_45 : decode cX1_act 45 = .ok (.iload_n 3, 1) := by decide +kernel
theorem dX1_act_46 : decode cX1_act 46 = .ok (.ifCond .eq 20, 3) := by decide +kernel
theorem dX1_act_49 : decode cX1_act 49 = .ok (.aload_n 0, 1) := by decide +kernel
theorem dX1_act_50 : decode cX1_act 50 = .ok (.getfield 12, 3) := by decide +kernel
theorem dX1_act_53 : decode cX1_act 53 = .ok (.iload_n 2, 1) := by decide +kernel
theorem dX1_act_54 : decode cX1_act 54 = .ok (.invokevirtual 22, 3) := by decide +kernel
theorem dX1_act_57 : decode cX1_act 57 = .ok (.checkcast 26, 3) := by decide +kernel
theorem dX1_act_60 : decode cX1_act 60 = .ok (.getfield 40, 3) := by decide +kernel
theorem dX1_act_63 : decode cX1_act 63 = .ok (.goto 4, 3) := by decide +kernel
theorem dX1_act_66 : decode cX1_act 66 = .ok (.aconst_null, 1) := by decide +kernel
theorem dX1_act_67 : decode cX1_act 67 = .ok (.astore 4, 2) := by decide +kernel
theorem dX1_act_69 : decode cX1_act 69 = .ok (.aload_n 1, 1) := by decide +kernel
theorem dX1_act_70 : decode cX1_act 70 = .ok (.aload 4, 2) := by decide +kernel
theorem dX1_act_72 : decode cX1_act 72 = .ok (.invokevirtual 51, 3) := by decide +kernel
theorem dX1_act_75 : decode cX1_act 75 = .ok (.ifCond .ne 5, 3) := by decide +kernel
theorem dX1_act_78 : decode cX1_act 78 = .ok (.iconst 0, 1) := by decide +kernel
theorem dX1_act_79 : decode cX1_act 79 = .ok (.ireturn, 1) := by decide +kernel
theorem dX1_act_80 : decode cX1_act 80 = .ok (.new 26, 3) := by decide +kernel
theorem dX1_act_83 : decode cX1_act 83 = .ok (.dup, 1) := by decide +kernel
theorem dX1_act_84 : decode cX1_act 84 = .ok (.aload_n 1, 1) := by decide +kernel
theorem dX1_act_85 : decode cX1_act 85 = .ok (.getfield 44, 3) := by decide +kernel
theorem dX1_act_88 : decode cX1_act 88 = .ok (.aload_n 1, 1) := by decide +kernel
theorem dX1_act_89 : decode cX1_act 89 = .ok (.aload 4, 2) := by decide +kernel
theorem dX1_act_91 : decode cX1_act 91 = .ok (.invokevirtual 66, 3) := by decide +kernel
theorem dX1_act_94 : decode cX1_act 94 = .ok (.invokespecial 70, 3) := by decide +kernel
theorem dX1_act_97 : decode cX1_act 97 = .ok (.astore 5, 2) := by decide +kernel
theorem dX1_act_99 : decode cX1_act 99 = .ok (.iload_n 3, 1) := by decide +kernel
theorem dX1_act_100 : decode cX1_act 100 = .ok (.ifCond .eq 17, 3) := by decide +kernel
theorem dX1_act_103 : decode cX1_act 103 = .ok (.aload_n 0, 1) := by decide +kernel
theorem dX1_act_104 : decode cX1_act 104 = .ok (.getfield 12, 3) := by decide +kernel
theorem dX1_act_107 : decode cX1_act 107 = .ok (.iload_n 2, 1) := by decide +kernel
theorem dX1_act_108 : decode cX1_act 108 = .ok (.aload 5, 2) := by decide +kernel
theorem dX1_act_110 : decode cX1_act 110 = .ok (.invokevirtual 73, 3) := by decide +kernel
theorem dX1_act_113 : decode cX1_act 113 = .ok (.pop, 1) := by decide +kernel
theorem dX1_act_114 : decode cX1_act 114 = .ok (.goto 13, 3) := by decide +kernel
theorem dX1_act_117 : decode cX1_act 117 = .ok (.aload_n 0, 1) := by decide +kernel
theorem dX1_act_118 : decode cX1_act 118 = .ok (.getfield 12, 3) := by decide +kernel
theorem dX1_act_121 : decode cX1_act 121 = .ok (.iload_n 2, 1) := by decide +kernel
theorem dX1_act_122 : decode cX1_act 122 = .ok (.aload 5, 2) := by decide +kernel
theorem dX1_act_124 : decode cX1_act 124 = .ok (.invokevirtual 77, 3) := by decide +kernel
theorem dX1_act_127 : decode cX1_act 127 = .ok (.iconst 1, 1) := by decide +kernel
theorem dX1_act_128 : decode cX1_act 128 = .ok (.ireturn, 1) := by decide +kernel
theorem dX1_removeFrom_0 : decode cX1_removeFrom 0 = .ok (.aload_n 0, 1) := by decide +kernel
theorem dX1_removeFrom_1 : decode cX1_removeFrom 1 = .ok (.getfield 12, 3) := by decide +kernel
theorem dX1_removeFrom_4 : decode cX1_removeFrom 4 = .ok (.invokevirtual 18, 3) := by decide +kernel
theorem dX1_removeFrom_7 : decode cX1_removeFrom 7 = .ok (.istore 4, 2) := by decide +kernel
theorem dX1_removeFrom_9 : decode cX1_removeFrom 9 = .ok (.iconst 0, 1) := by decide +kernel
theorem dX1_removeFrom_10 : decode cX1_removeFrom 10 = .ok (.istore 5, 2) := by decide +kernel
theorem dX1_removeFrom_12 : decode cX1_removeFrom 12 = .ok (.iload 5, 2) := by decide +kernel
theorem dX1_removeFrom_14 : decode cX1_removeFrom 14 = .ok (.iload 4, 2) := by decide +kernel
theorem dX1_removeFrom_16 : decode cX1_removeFrom 16 = .ok (.if_icmp .ge 48, 3) := by decide +kernel
theorem dX1_removeFrom_19 : decode cX1_removeFrom 19 = .ok (.iload_n 1, 1) := by decide +kernel
theorem dX1_removeFrom_20 : decode cX1_removeFrom 20 = .ok (.aload_n 0, 1) := by decide +kernel
theorem dX1_removeFrom_21 : decode cX1_removeFrom 21 = .ok (.getfield 12, 3) := by decide +kernel
theorem dX1_removeFrom_24 : decode cX1_removeFrom 24 = .ok (.invokevirtual 18, 3) := by decide +kernel
theorem dX1_removeFrom_27 : decode cX1_removeFrom 27 = .ok (.if_icmp .ge 37, 3) := by decide +kernel
theorem dX1_removeFrom_30 : decode cX1_removeFrom 30 = .ok (.aload_n 0, 1) := by decide +kernel
theorem dX1_removeFrom_31 : decode cX1_removeFrom 31 = .ok (.getfield 12, 3) := by decide +kernel
theorem dX1_removeFrom_34 : decode cX1_removeFrom 34 = .ok (.iload_n 1, 1) := by decide +kernel
theorem dX1_removeFrom_35 : decode cX1_removeFrom 35 = .ok (.invokevirtual 22, 3) := by decide +kernel
theorem dX1_removeFrom_38 : decode cX1_removeFrom 38 = .ok (.checkcast 26, 3) := by decide +kernel
theorem dX1_removeFrom_41 : decode cX1_removeFrom 41 = .ok (.getfield 28, 3) := by decide +kernel
theorem dX1_removeFrom_44 : decode cX1_removeFrom 44 = .ok (.lload_n 2, 1) := by decide +kernel
theorem dX1_removeFrom_45 : decode cX1_removeFrom 45 = .ok (.lcmp, 1) := by decide +kernel
theorem dX1_removeFrom_46 : decode cX1_removeFrom 46 = .ok (.ifCond .gt 18, 3) := by decide +kernel
theorem dX1_removeFrom_49 : decode cX1_removeFrom 49 = .ok (.aload_n 0, 1) := by decide +kernel
theorem dX1_removeFrom_50 : decode cX1_removeFrom 50 = .ok (.getfield 12, 3) := by decide +kernel
theorem dX1_removeFrom_53 : decode cX1_removeFrom 53 = .ok (.iload_n 1, 1) := by decide +kernel
theorem dX1_removeFrom_54 : decode cX1_removeFrom 54 = .ok (.invokevirtual 81, 3) := by decide +kernel
theorem dX1_removeFrom_57 : decode cX1_removeFrom 57 = .ok (.pop, 1) := by decide +kernel
theorem dX1_removeFrom_58 : decode cX1_removeFrom 58 = .ok (.iinc 5 1, 3) := by decide +kernel
theorem dX1_removeFrom_61 : decode cX1_removeFrom 61 = .ok (.goto (-49), 3) := by decide +kernel
theorem dX1_removeFrom_64 : decode cX1_removeFrom 64 = .ok (.iload 4, 2) := by decide +kernel
theorem dX1_removeFrom_66 : decode cX1_removeFrom 66 = .ok (.aload_n 0, 1) := by decide +kernel
theorem dX1_removeFrom_67 : decode cX1_removeFrom 67 = .ok (.getfield 12, 3) := by decide +kernel
theorem dX1_removeFrom_70 : decode cX1_removeFrom 70 = .ok (.invokevirtual 18, 3) := by decide +kernel
theorem dX1_removeFrom_73 : decode cX1_removeFrom 73 = .ok (.isub, 1) := by decide +kernel
theorem dX1_removeFrom_74 : decode cX1_removeFrom 74 = .ok (.ireturn, 1) := by decide +kernel
theorem dX2_init_0 : decode cX2_init 0 = .ok (.aload_n 0, 1) := by decide +kernel
theorem dX2_init_1 : decode cX2_init 1 = .ok (.invokespecial 1, 3) := by decide +kernel
theorem dX2_init_4 : decode cX2_init 4 = .ok (.aload_n 0, 1) := by decide +kernel
theorem dX2_init_5 : decode cX2_init 5 = .ok (.lload_n 1, 1) := by decide +kernel
theorem dX2_init_6 : decode cX2_init 6 = .ok (.putfield 7, 3) := by decide +kernel
theorem dX2_init_9 : decode cX2_init 9 = .ok (.aload_n 0, 1) := by decide +kernel
theorem dX2_init_10 : decode cX2_init 10 = .ok (.aload_n 3, 1) := by decide +kernel
theorem dX2_init_11 : decode cX2_init 11 = .ok (.putfield 13, 3) := by decide +kernel
theorem dX2_init_14 : decode cX2_init 14 = .ok (.return_, 1) := by decide +kernel
theorem dX3_init_0 : decode cX3_init 0 = .ok (.aload_n 0, 1) := by decide +kernel
theorem dX3_init_1 : decode cX3_init 1 = .ok (.invokespecial 1, 3) := by decide +kernel
theorem dX3_init_4 : decode cX3_init 4 = .ok (.aload_n 0, 1) := by decide +kernel
theorem dX3_init_5 : decode cX3_init 5 = .ok (.new 7, 3) := by decide +kernel
theorem dX3_init_8 : decode cX3_init 8 = .ok (.dup, 1) := by decide +kernel
theorem dX3_init_9 : decode cX3_init 9 = .ok (.invokespecial 9, 3) := by decide +kernel
theorem dX3_init_12 : decode cX3_init 12 = .ok (.putfield 10, 3) := by decide +kernel
theorem dX3_init_15 : decode cX3_init 15 = .ok (.aload_n 0, 1) := by decide +kernel
theorem dX3_init_16 : decode cX3_init 16 = .ok (.iload_n 1, 1) := by decide +kernel
theorem dX3_init_17 : decode cX3_init 17 = .ok (.putfield 16, 3) := by decide +kernel
theorem dX3_init_20 : decode cX3_init 20 = .ok (.aload_n 0, 1) := by decide +kernel
theorem dX3_init_21 : decode cX3_init 21 = .ok (.iload_n 2, 1) := by decide +kernel
theorem dX3_init_22 : decode cX3_init 22 = .ok (.putfield 20, 3) := by decide +kernel
theorem dX3_init_25 : decode cX3_init 25 = .ok (.aload_n 0, 1) := by decide +kernel
theorem dX3_init_26 : decode cX3_init 26 = .ok (.aload_n 3, 1) := by decide +kernel
theorem dX3_init_27 : decode cX3_init 27 = .ok (.putfield 23, 3) := by decide +kernel
theorem dX3_init_30 : decode cX3_init 30 = .ok (.aload_n 0, 1) := by decide +kernel
theorem dX3_init_31 : decode cX3_init 31 = .ok (.iload 4, 2) := by decide +kernel
theorem dX3_init_33 : decode cX3_init 33 = .ok (.putfield 27, 3) := by decide +kernel
theorem dX3_init_36 : decode cX3_init 36 = .ok (.return_, 1) := by decide +kernel
theorem dX4_init_0 : decode cX4_init 0 = .ok (.aload_n 0, 1) := by decide +kernel
theorem dX4_init_1 : decode cX4_init 1 = .ok (.invokespecial 3, 3) := by decide +kernel
theorem dX4_init_4 : decode cX4_init 4 = .ok (.aload_n 0, 1) := by decide +kernel
theorem dX4_init_5 : decode cX4_init 5 = .ok (.iload_n 1, 1) := by decide +kernel
theorem dX4_init_6 : decode cX4_init 6 = .ok (.putfield 9, 3) := by decide +kernel
theorem dX4_init_9 : decode cX4_init 9 = .ok (.aload_n 0, 1) := by decide +kernel
theorem dX4_init_10 : decode cX4_init 10 = .ok (.iload_n 2, 1) := by decide +kernel
theorem dX4_init_11 : decode cX4_init 11 = .ok (.putfield 15, 3) := by decide +kernel
theorem dX4_init_14 : decode cX4_init 14 = .ok (.aload_n 0, 1) := by decide +kernel
theorem dX4_init_15 : decode cX4_init 15 = .ok (.lload_n 3, 1) := by decide +kernel
theorem dX4_init_16 : decode cX4_init 16 = .ok (.putfield 18, 3) := by decide +kernel
theorem dX4_init_19 : decode cX4_init 19 = .ok (.aload_n 0, 1) := by decide +kernel
theorem dX4_init_20 : decode cX4_init 20 = .ok (.lload 5, 2) := by decide +kernel
theorem dX4_init_22 : decode cX4_init 22 = .ok (.putfield 22, 3) := by decide +kernel
theorem dX4_init_25 : decode cX4_init 25 = .ok (.aload_n 0, 1) := by decide +kernel
theorem dX4_init_26 : decode cX4_init 26 = .ok (.aload 7, 2) := by decide +kernel
theorem dX4_init_28 : decode cX4_init 28 = .ok (.putfield 25, 3) := by decide +kernel
theorem dX4_init_31 : decode cX4_init 31 = .ok (.aload_n 0, 1) := by decide +kernel
theorem dX4_init_32 : decode cX4_init 32 = .ok (.aload 8, 2) := by decide +kernel
theorem dX4_init_34 : decode cX4_init 34 = .ok (.putfield 29, 3) := by decide +kernel
theorem dX4_init_37 : decode cX4_init 37 = .ok (.return_, 1) := by decide +kernel
theorem dX4_meets_0 : decode cX4_meets 0 = .ok (.aload_n 0, 1) := by decide +kernel
theorem dX4_meets_1 : decode cX4_meets 1 = .ok (.getfield 18, 3) := by decide +kernel
theorem dX4_meets_4 : decode cX4_meets 4 = .ok (.lload_n 1, 1) := by decide +kernel
theorem dX4_meets_5 : decode cX4_meets 5 = .ok (.lcmp, 1) := by decide +kernel
theorem dX4_meets_6 : decode cX4_meets 6 = .ok (.ifCond .gt 16, 3) := by decide +kernel
theorem dX4_meets_9 : decode cX4_meets 9 = .ok (.lload_n 1, 1) := by decide +kernel
theorem dX4_meets_10 : decode cX4_meets 10 = .ok (.aload_n 0, 1) := by decide +kernel
theorem dX4_meets_11 : decode cX4_meets 11 = .ok (.getfield 22, 3) := by decide +kernel
theorem dX4_meets_14 : decode cX4_meets 14 = .ok (.lcmp, 1) := by decide +kernel
theorem dX4_meets_15 : decode cX4_meets 15 = .ok (.ifCond .gt 7, 3) := by decide +kernel
theorem dX4_meets_18 : decode cX4_meets 18 = .ok (.iconst 1, 1) := by decide +kernel
theorem dX4_meets_19 : decode cX4_meets 19 = .ok (.goto 4, 3) := by decide +kernel
theorem dX4_meets_22 : decode cX4_meets 22 = .ok (.iconst 0, 1) := by decide +kernel
theorem dX4_meets_23 : decode cX4_meets 23 = .ok (.ireturn, 1) := by decide +kernel
theorem dX4_changes_0 : decode cX4_changes 0 = .ok (.aload_n 0, 1) := by decide +kernel
theorem dX4_changes_1 : decode cX4_changes 1 = .ok (.getfield 9, 3) := by decide +kernel
theorem dX4_changes_4 : decode cX4_changes 4 = .ok (.iconst 1, 1) := by decide +kernel
theorem dX4_changes_5 : decode cX4_changes 5 = .ok (.if_icmp .eq 11, 3) := by decide +kernel
theorem dX4_changes_8 : decode cX4_changes 8 = .ok (.aload_n 0, 1) := by decide +kernel
theorem dX4_changes_9 : decode cX4_changes 9 = .ok (.getfield 9, 3) := by decide +kernel
theorem dX4_changes_12 : decode cX4_changes 12 = .ok (.iconst 2, 1) := by decide +kernel
theorem dX4_changes_13 : decode cX4_changes 13 = .ok (.if_icmp .ne 5, 3) := by decide +kernel
theorem dX4_changes_16 : decode cX4_changes 16 = .ok (.iconst 1, 1) := by decide +kernel
theorem dX4_changes_17 : decode cX4_changes 17 = .ok (.ireturn, 1) := by decide +kernel
theorem dX4_changes_18 : decode cX4_changes 18 = .ok (.aload_n 0, 1) := by decide +kernel
theorem dX4_changes_19 : decode cX4_changes 19 = .ok (.getfield 9, 3) := by decide +kernel
theorem dX4_changes_22 : decode cX4_changes 22 = .ok (.iconst 3, 1) := by decide +kernel
theorem dX4_changes_23 : decode cX4_changes 23 = .ok (.if_icmp .ne 7, 3) := by decide +kernel
theorem dX4_changes_26 : decode cX4_changes 26 = .ok (.aload_n 1, 1) := by decide +kernel
theorem dX4_changes_27 : decode cX4_changes 27 = .ok (.ifnonnull 13, 3) := by decide +kernel
theorem dX4_changes_30 : decode cX4_changes 30 = .ok (.aload_n 1, 1) := by decide +kernel
theorem dX4_changes_31 : decode cX4_changes 31 = .ok (.ifnull 7, 3) := by decide +kernel
theorem dX4_changes_34 : decode cX4_changes 34 = .ok (.iconst 1, 1) := by decide +kernel
theorem dX4_changes_35 : decode cX4_changes 35 = .ok (.goto 4, 3) := by decide +kernel
theorem dX4_changes_38 : decode cX4_changes 38 = .ok (.iconst 0, 1) := by decide +kernel
theorem dX4_changes_39 : decode cX4_changes 39 = .ok (.ireturn, 1) := by decide +kernel
theorem dX4_changes_40 : decode cX4_changes 40 = .ok (.aload_n 1, 1) := by decide +kernel
theorem dX4_changes_41 : decode cX4_changes 41 = .ok (.arraylength, 1) := by decide +kernel
theorem dX4_changes_42 : decode cX4_changes 42 = .ok (.aload_n 0, 1) := by decide +kernel
theorem dX4_changes_43 : decode cX4_changes 43 = .ok (.getfield 25, 3) := by decide +kernel
theorem dX4_changes_46 : decode cX4_changes 46 = .ok (.arraylength, 1) := by decide +kernel
theorem dX4_changes_47 : decode cX4_changes 47 = .ok (.if_icmp .ne 7, 3) := by decide +kernel
theorem dX4_changes_50 : decode cX4_changes 50 = .ok (.iconst 1, 1) := by decide +kernel
theorem dX4_changes_51 : decode cX4_changes 51 = .ok (.goto 4, 3) := by decide +kernel
theorem dX4_changes_54 : decode cX4_changes 54 = .ok (.iconst 0, 1) := by decide +kernel
theorem dX4_changes_55 : decode cX4_changes 55 = .ok (.istore_n 2, 1) := by decide +kernel
theorem dX4_changes_56 : decode cX4_changes 56 = .ok (.iconst 0, 1) := by decide +kernel
theorem dX4_changes_57 : decode cX4_changes 57 = .ok (.istore_n 3, 1) := by decide +kernel
theorem dX4_changes_58 : decode cX4_changes 58 = .ok (.iload_n 2, 1) := by decide +kernel
theorem dX4_changes_59 : decode cX4_changes 59 = .ok (.ifCond .eq 33, 3) := by decide +kernel
theorem dX4_changes_62 : decode cX4_changes 62 = .ok (.iload_n 3, 1) := by decide +kernel
theorem dX4_changes_63 : decode cX4_changes 63 = .ok (.aload_n 1, 1) := by decide +kernel
theorem dX4_changes_64 : decode cX4_changes 64 = .ok (.arraylength, 1) := by decide +kernel
theorem dX4_changes_65 : decode cX4_changes 65 = .ok (.if_icmp .ge 27, 3) := by decide +kernel
theorem dX4_changes_68 : decode cX4_changes 68 = .ok (.aload_n 1, 1) := by decide +kernel
theorem dX4_changes_69 : decode cX4_changes 69 = .ok (.iload_n 3, 1) := by decide +kernel
theorem dX4_changes_70 : decode cX4_changes 70 = .ok (.baload, 1) := by decide +kernel
theorem dX4_changes_71 : decode cX4_changes 71 = .ok (.aload_n 0, 1) := by decide +kernel
theorem dX4_changes_72 : decode cX4_changes 72 = .ok (.getfield 25, 3) := by decide +kernel
theorem dX4_changes_75 : decode cX4_changes 75 = .ok (.iload_n 3, 1) := by decide +kernel
theorem dX4_changes_76 : decode cX4_changes 76 = .ok (.baload, 1) := by decide +kernel
theorem dX4_changes_77 : decode cX4_changes 77 = .ok (.if_icmp .ne 7, 3) := by decide +kernel
theorem dX4_changes_80 : decode cX4_changes 80 = .ok (.iconst 1, 1) := by decide +kernel
theorem dX4_changes_81 : decode cX4_changes 81 = .ok (.goto 4, 3) := by decide +kernel
theorem dX4_changes_84 : decode cX4_changes 84 = .ok (.iconst 0, 1) := by decide +kernel
theorem dX4_changes_85 : decode cX4_changes 85 = .ok (.istore_n 2, 1) := by decide +kernel
theorem dX4_changes_86 : decode cX4_changes 86 = .ok (.iinc 3 1, 3) := by decide +kernel
theorem dX4_changes_89 : decode cX4_changes 89 = .ok (.goto (-31), 3) := by decide +kernel
theorem dX4_changes_92 : decode cX4_changes 92 = .ok (.iload_n 2, 1) := by decide +kernel
theorem dX4_changes_93 : decode cX4_changes 93 = .ok (.ireturn, 1) := by decide +kernel
theorem dX4_rowAfter_0 : decode cX4_rowAfter 0 = .ok (.aload_n 0, 1) := by decide +kernel
theorem dX4_rowAfter_1 : decode cX4_rowAfter 1 = .ok (.getfield 9, 3) := by decide +kernel
theorem dX4_rowAfter_4 : decode cX4_rowAfter 4 = .ok (.iconst 4, 1) := by decide +kernel
theorem dX4_rowAfter_5 : decode cX4_rowAfter 5 = .ok (.if_icmp .eq 11, 3) := by decide +kernel
theorem dX4_rowAfter_8 : decode cX4_rowAfter 8 = .ok (.aload_n 0, 1) := by decide +kernel
theorem dX4_rowAfter_9 : decode cX4_rowAfter 9 = .ok (.getfield 9, 3) := by decide +kernel
theorem dX4_rowAfter_12 : decode cX4_rowAfter 12 = .ok (.iconst 5, 1) := by decide +kernel
theorem dX4_rowAfter_13 : decode cX4_rowAfter 13 = .ok (.if_icmp .ne 5, 3) := by decide +kernel
theorem dX4_rowAfter_16 : decode cX4_rowAfter 16 = .ok (.aconst_null, 1) := by decide +kernel
theorem dX4_rowAfter_17 : decode cX4_rowAfter 17 = .ok (.areturn, 1) := by decide +kernel
theorem dX4_rowAfter_18 : decode cX4_rowAfter 18 = .ok (.aload_n 0, 1) := by decide +kernel
theorem dX4_rowAfter_19 : decode cX4_rowAfter 19 = .ok (.getfield 9, 3) := by decide +kernel
theorem dX4_rowAfter_22 : decode cX4_rowAfter 22 = .ok (.iconst 2, 1) := by decide +kernel
theorem dX4_rowAfter_23 : decode cX4_rowAfter 23 = .ok (.if_icmp .ne 7, 3) := by decide +kernel
theorem dX4_rowAfter_26 : decode cX4_rowAfter 26 = .ok (.aload_n 1, 1) := by decide +kernel
theorem dX4_rowAfter_27 : decode cX4_rowAfter 27 = .ok (.ifnonnull 8, 3) := by decide +kernel
theorem dX4_rowAfter_30 : decode cX4_rowAfter 30 = .ok (.aload_n 0, 1) := by decide +kernel
theorem dX4_rowAfter_31 : decode cX4_rowAfter 31 = .ok (.getfield 29, 3) := by decide +kernel
theorem dX4_rowAfter_34 : decode cX4_rowAfter 34 = .ok (.areturn, 1) := by decide +kernel
theorem dX4_rowAfter_35 : decode cX4_rowAfter 35 = .ok (.bipush 20, 2) := by decide +kernel
theorem dX4_rowAfter_37 : decode cX4_rowAfter 37 = .ok (.aload_n 1, 1) := by decide +kernel
theorem dX4_rowAfter_38 : decode cX4_rowAfter 38 = .ok (.arraylength, 1) := by decide +kernel
theorem dX4_rowAfter_39 : decode cX4_rowAfter 39 = .ok (.aload_n 0, 1) := by decide +kernel
theorem dX4_rowAfter_40 : decode cX4_rowAfter 40 = .ok (.getfield 29, 3) := by decide +kernel
theorem dX4_rowAfter_43 : decode cX4_rowAfter 43 = .ok (.arraylength, 1) := by decide +kernel
theorem dX4_rowAfter_44 : decode cX4_rowAfter 44 = .ok (.iadd, 1) := by decide +kernel
theorem dX4_rowAfter_45 : decode cX4_rowAfter 45 = .ok (.invokestatic 32, 3) := by decide +kernel
theorem dX4_rowAfter_48 : decode cX4_rowAfter 48 = .ok (.istore_n 2, 1) := by decide +kernel
theorem dX4_rowAfter_49 : decode cX4_rowAfter 49 = .ok (.aload_n 1, 1) := by decide +kernel
theorem dX4_rowAfter_50 : decode cX4_rowAfter 50 = .ok (.iload_n 2, 1) := by decide +kernel
theorem dX4_rowAfter_51 : decode cX4_rowAfter 51 = .ok (.invokestatic 38, 3) := by decide +kernel
theorem dX4_rowAfter_54 : decode cX4_rowAfter 54 = .ok (.astore_n 3, 1) := by decide +kernel
theorem dX4_rowAfter_55 : decode cX4_rowAfter 55 = .ok (.aload_n 1, 1) := by decide +kernel
theorem dX4_rowAfter_56 : decode cX4_rowAfter 56 = .ok (.arraylength, 1) := by decide +kernel
theorem dX4_rowAfter_57 : decode cX4_rowAfter 57 = .ok (.istore 4, 2) := by decide +kernel
theorem dX4_rowAfter_59 : decode cX4_rowAfter 59 = .ok (.iload 4, 2) := by decide +kernel
theorem dX4_rowAfter_61 : decode cX4_rowAfter 61 = .ok (.iload_n 2, 1) := by decide +kernel
theorem dX4_rowAfter_62 : decode cX4_rowAfter 62 = .ok (.if_icmp .ge 23, 3) := by decide +kernel
theorem dX4_rowAfter_65 : decode cX4_rowAfter 65 = .ok (.aload_n 3, 1) := by decide +kernel
theorem dX4_rowAfter_66 : decode cX4_rowAfter 66 = .ok (.iload 4, 2) := by decide +kernel
theorem dX4_rowAfter_68 : decode cX4_rowAfter 68 = .ok (.aload_n 0, 1) := by decide +kernel
theorem dX4_rowAfter_69 : decode cX4_rowAfter 69 = .ok (.getfield 29, 3) := by decide +kernel
theorem dX4_rowAfter_72 : decode cX4_rowAfter 72 = .ok (.iload 4, 2) := by decide +kernel
theorem dX4_rowAfter_74 : decode cX4_rowAfter 74 = .ok (.aload_n 1, 1) := by decide +kernel
theorem dX4_rowAfter_75 : decode cX4_rowAfter 75 = .ok (.arraylength, 1) := by decide +kernel
theorem dX4_rowAfter_76 : decode cX4_rowAfter 76 = .ok (.isub, 1) := by decide +kernel
theorem dX4_rowAfter_77 : decode cX4_rowAfter 77 = .ok (.baload, 1) := by decide +kernel
theorem dX4_rowAfter_78 : decode cX4_rowAfter 78 = .ok (.bastore, 1) := by decide +kernel
theorem dX4_rowAfter_79 : decode cX4_rowAfter 79 = .ok (.iinc 4 1, 3) := by decide +kernel
theorem dX4_rowAfter_82 : decode cX4_rowAfter 82 = .ok (.goto (-23), 3) := by decide +kernel
theorem dX4_rowAfter_85 : decode cX4_rowAfter 85 = .ok (.aload_n 3, 1) := by decide +kernel
theorem dX4_rowAfter_86 : decode cX4_rowAfter 86 = .ok (.areturn, 1) := by decide +kernel
theorem dX5_init_0 : decode cX5_init 0 = .ok (.aload_n 0, 1) := by decide +kernel
theorem dX5_init_1 : decode cX5_init 1 = .ok (.invokespecial 3, 3) := by decide +kernel
theorem dX5_init_4 : decode cX5_init 4 = .ok (.aload_n 0, 1) := by decide +kernel
theorem dX5_init_5 : decode cX5_init 5 = .ok (.new 9, 3) := by decide +kernel
theorem dX5_init_8 : decode cX5_init 8 = .ok (.dup, 1) := by decide +kernel
theorem dX5_init_9 : decode cX5_init 9 = .ok (.invokespecial 11, 3) := by decide +kernel
theorem dX5_init_12 : decode cX5_init 12 = .ok (.putfield 12, 3) := by decide +kernel
theorem dX5_init_15 : decode cX5_init 15 = .ok (.aload_n 0, 1) := by decide +kernel
theorem dX5_init_16 : decode cX5_init 16 = .ok (.new 9, 3) := by decide +kernel
theorem dX5_init_19 : decode cX5_init 19 = .ok (.dup, 1) := by decide +kernel
theorem dX5_init_20 : decode cX5_init 20 = .ok (.invokespecial 11, 3) := by decide +kernel
theorem dX5_init_23 : decode cX5_init 23 = .ok (.putfield 18, 3) := by decide +kernel
theorem dX5_init_26 : decode cX5_init 26 = .ok (.aload_n 0, 1) := by decide +kernel
theorem dX5_init_27 : decode cX5_init 27 = .ok (.iconst (-1), 1) := by decide +kernel
theorem dX5_init_28 : decode cX5_init 28 = .ok (.putfield 21, 3) := by decide +kernel
theorem dX5_init_31 : decode cX5_init 31 = .ok (.aload_n 0, 1) := by decide +kernel
theorem dX5_init_32 : decode cX5_init 32 = .ok (.lload_n 1, 1) := by decide +kernel
theorem dX5_init_33 : decode cX5_init 33 = .ok (.putfield 25, 3) := by decide +kernel
theorem dX5_init_36 : decode cX5_init 36 = .ok (.aload_n 0, 1) := by decide +kernel
theorem dX5_init_37 : decode cX5_init 37 = .ok (.aload_n 3, 1) := by decide +kernel
theorem dX5_init_38 : decode cX5_init 38 = .ok (.putfield 29, 3) := by decide +kernel
theorem dX5_init_41 : decode cX5_init 41 = .ok (.return_, 1) := by decide +kernel
theorem dX5_isLeaf_0 : decode cX5_isLeaf 0 = .ok (.aload_n 0, 1) := by decide +kernel
theorem dX5_isLeaf_1 : decode cX5_isLeaf 1 = .ok (.getfield 12, 3) := by decide +kernel
theorem dX5_isLeaf_4 : decode cX5_isLeaf 4 = .ok (.invokevirtual 33, 3) := by decide +kernel
theorem dX5_isLeaf_7 : decode cX5_isLeaf 7 = .ok (.ireturn, 1) := by decide +kernel
theorem dX5_width_0 : decode cX5_width 0 = .ok (.aload_n 0, 1) := by decide +kernel
theorem dX5_width_1 : decode cX5_width 1 = .ok (.invokevirtual 37, 3) := by decide +kernel
theorem dX5_width_4 : decode cX5_width 4 = .ok (.ifCond .eq 16, 3) := by decide +kernel
theorem dX5_width_7 : decode cX5_width 7 = .ok (.aload_n 0, 1) := by decide +kernel
theorem dX5_width_8 : decode cX5_width 8 = .ok (.getfield 29, 3) := by decide +kernel
theorem dX5_width_11 : decode cX5_width 11 = .ok (.getfield 40, 3) := by decide +kernel
theorem dX5_width_14 : decode cX5_width 14 = .ok (.invokevirtual 45, 3) := by decide +kernel
theorem dX5_width_17 : decode cX5_width 17 = .ok (.goto 10, 3) := by decide +kernel
theorem dX5_width_20 : decode cX5_width 20 = .ok (.aload_n 0, 1) := by decide +kernel
theorem dX5_width_21 : decode cX5_width 21 = .ok (.getfield 12, 3) := by decide +kernel
theorem dX5_width_24 : decode cX5_width 24 = .ok (.invokevirtual 45, 3) := by decide +kernel
theorem dX5_width_27 : decode cX5_width 27 = .ok (.ireturn, 1) := by decide +kernel
theorem dX5_isTooBig_0 : decode cX5_isTooBig 0 = .ok (.aload_n 0, 1) := by decide +kernel
theorem dX5_isTooBig_1 : decode cX5_isTooBig 1 = .ok (.invokevirtual 49, 3) := by decide +kernel
theorem dX5_isTooBig_4 : decode cX5_isTooBig 4 = .ok (.aload_n 0, 1) := by decide +kernel
theorem dX5_isTooBig_5 : decode cX5_isTooBig 5 = .ok (.invokevirtual 37, 3) := by decide +kernel
theorem dX5_isTooBig_8 : decode cX5_isTooBig 8 = .ok (.ifCond .eq 8, 3) := by decide +kernel
theorem dX5_isTooBig_11 : decode cX5_isTooBig 11 = .ok (.bipush 6, 2) := by decide +kernel
theorem dX5_isTooBig_13 : decode cX5_isTooBig 13 = .ok (.goto 4, 3) := by decide +kernel
theorem dX5_isTooBig_16 : decode cX5_isTooBig 16 = .ok (.iconst 5, 1) := by decide +kernel
theorem dX5_isTooBig_17 : decode cX5_isTooBig 17 = .ok (.if_icmp .le 7, 3) := by decide +kernel
theorem dX5_isTooBig_20 : decode cX5_isTooBig 20 = .ok (.iconst 1, 1) := by decide +kernel
theorem dX5_isTooBig_21 : decode cX5_isTooBig 21 = .ok (.goto 4, 3) := by decide +kernel
theorem dX5_isTooBig_24 : decode cX5_isTooBig 24 = .ok (.iconst 0, 1) := by decide +kernel
theorem dX5_isTooBig_25 : decode cX5_isTooBig 25 = .ok (.ireturn, 1) := by decide +kernel
theorem dX5_opened_0 : decode cX5_opened 0 = .ok (.aload_n 0, 1) := by decide +kernel
theorem dX5_opened_1 : decode cX5_opened 1 = .ok (.getfield 21, 3) := by decide +kernel
theorem dX5_opened_4 : decode cX5_opened 4 = .ok (.iconst (-1), 1) := by decide +kernel
theorem dX5_opened_5 : decode cX5_opened 5 = .ok (.if_icmp .ne 5, 3) := by decide +kernel
theorem dX5_opened_8 : decode cX5_opened 8 = .ok (.aload_n 0, 1) := by decide +kernel
theorem dX5_opened_9 : decode cX5_opened 9 = .ok (.areturn, 1) := by decide +kernel
theorem dX5_opened_10 : decode cX5_opened 10 = .ok (.new 13, 3) := by decide +kernel
theorem dX5_opened_13 : decode cX5_opened 13 = .ok (.dup, 1) := by decide +kernel
theorem dX5_opened_14 : decode cX5_opened 14 = .ok (.aload_n 0, 1) := by decide +kernel
theorem dX5_opened_15 : decode cX5_opened 15 = .ok (.getfield 25, 3) := by decide +kernel
theorem dX5_opened_18 : decode cX5_opened 18 = .ok (.new 41, 3) := by decide +kernel
theorem dX5_opened_21 : decode cX5_opened 21 = .ok (.dup, 1) := by decide +kernel
theorem dX5_opened_22 : decode cX5_opened 22 = .ok (.invokespecial 52, 3) := by decide +kernel
theorem dX5_opened_25 : decode cX5_opened 25 = .ok (.invokespecial 53, 3) := by decide +kernel
theorem dX5_opened_28 : decode cX5_opened 28 = .ok (.astore_n 1, 1) := by decide +kernel
theorem dX5_opened_29 : decode cX5_opened 29 = .ok (.aload_n 0, 1) := by decide +kernel
theorem dX5_opened_30 : decode cX5_opened 30 = .ok (.aload_n 1, 1) := by decide +kernel
theorem dX5_opened_31 : decode cX5_opened 31 = .ok (.iconst 0, 1) := by decide +kernel
theorem dX5_opened_32 : decode cX5_opened 32 = .ok (.aload_n 0, 1) := by decide +kernel
theorem dX5_opened_33 : decode cX5_opened 33 = .ok (.invokevirtual 49, 3) := by decide +kernel
theorem dX5_opened_36 : decode cX5_opened 36 = .ok (.invokevirtual 56, 3) := by decide +kernel
theorem dX5_opened_39 : decode cX5_opened 39 = .ok (.iconst 0, 1) := by decide +kernel
theorem dX5_opened_40 : decode cX5_opened 40 = .ok (.istore_n 2, 1) := by decide +kernel
theorem dX5_opened_41 : decode cX5_opened 41 = .ok (.iload_n 2, 1) := by decide +kernel
theorem dX5_opened_42 : decode cX5_opened 42 = .ok (.aload_n 0, 1) := by decide +kernel
theorem dX5_opened_43 : decode cX5_opened 43 = .ok (.getfield 18, 3) := by decide +kernel
theorem dX5_opened_46 : decode cX5_opened 46 = .ok (.invokevirtual 45, 3) := by decide +kernel
theorem dX5_opened_49 : decode cX5_opened 49 = .ok (.if_icmp .ge 28, 3) := by decide +kernel
theorem dX5_opened_52 : decode cX5_opened 52 = .ok (.aload_n 1, 1) := by decide +kernel
theorem dX5_opened_53 : decode cX5_opened 53 = .ok (.getfield 18, 3) := by decide +kernel
theorem dX5_opened_56 : decode cX5_opened 56 = .ok (.aload_n 0, 1) := by decide +kernel
theorem dX5_opened_57 : decode cX5_opened 57 = .ok (.getfield 18, 3) := by decide +kernel
theorem dX5_opened_60 : decode cX5_opened 60 = .ok (.iload_n 2, 1) := by decide +kernel
theorem dX5_opened_61 : decode cX5_opened 61 = .ok (.invokevirtual 60, 3) := by decide +kernel
theorem dX5_opened_64 : decode cX5_opened 64 = .ok (.checkcast 64, 3) := by decide +kernel
theorem dX5_opened_67 : decode cX5_opened 67 = .ok (.invokevirtual 66, 3) := by decide +kernel
theorem dX5_opened_70 : decode cX5_opened 70 = .ok (.pop, 1) := by decide +kernel
theorem dX5_opened_71 : decode cX5_opened 71 = .ok (.iinc 2 1, 3) := by decide +kernel
theorem dX5_opened_74 : decode cX5_opened 74 = .ok (.goto (-33), 3) := by decide +kernel
theorem dX5_opened_77 : decode cX5_opened 77 = .ok (.aload_n 1, 1) := by decide +kernel
theorem dX5_opened_78 : decode cX5_opened 78 = .ok (.areturn, 1) := by decide +kernel
theorem dX5_copyInto_0 : decode cX5_copyInto 0 = .ok (.aload_n 0, 1) := by decide +kernel
theorem dX5_copyInto_1 : decode cX5_copyInto 1 = .ok (.invokevirtual 37, 3) := by decide +kernel
theorem dX5_copyInto_4 : decode cX5_copyInto 4 = .ok (.ifCond .eq 62, 3) := by decide +kernel
theorem dX5_copyInto_7 : decode cX5_copyInto 7 = .ok (.iload_n 2, 1) := by decide +kernel
theorem dX5_copyInto_8 : decode cX5_copyInto 8 = .ok (.istore 4, 2) := by decide +kernel
theorem dX5_copyInto_10 : decode cX5_copyInto 10 = .ok (.iload 4, 2) := by decide +kernel
theorem dX5_copyInto_12 : decode cX5_copyInto 12 = .ok (.iload_n 3, 1) := by decide +kernel
theorem dX5_copyInto_13 : decode cX5_copyInto 13 = .ok (.if_icmp .ge 50, 3) := by decide +kernel
theorem dX5_copyInto_16 : decode cX5_copyInto 16 = .ok (.iload 4, 2) := by decide +kernel
theorem dX5_copyInto_18 : decode cX5_copyInto 18 = .ok (.aload_n 0, 1) := by decide +kernel
theorem dX5_copyInto_19 : decode cX5_copyInto 19 = .ok (.getfield 29, 3) := by decide +kernel
theorem dX5_copyInto_22 : decode cX5_copyInto 22 = .ok (.getfield 40, 3) := by decide +kernel
theorem dX5_copyInto_25 : decode cX5_copyInto 25 = .ok (.invokevirtual 45, 3) := by decide +kernel
theorem dX5_copyInto_28 : decode cX5_copyInto 28 = .ok (.if_icmp .ge 35, 3) := by decide +kernel
theorem dX5_copyInto_31 : decode cX5_copyInto 31 = .ok (.aload_n 1, 1) := by decide +kernel
theorem dX5_copyInto_32 : decode cX5_copyInto 32 = .ok (.getfield 29, 3) := by decide +kernel
theorem dX5_copyInto_35 : decode cX5_copyInto 35 = .ok (.getfield 40, 3) := by decide +kernel
theorem dX5_copyInto_38 : decode cX5_copyInto 38 = .ok (.aload_n 0, 1) := by decide +kernel
theorem dX5_copyInto_39 : decode cX5_copyInto 39 = .ok (.getfield 29, 3) := by decide +kernel
theorem dX5_copyInto_42 : decode cX5_copyInto 42 = .ok (.getfield 40, 3) := by decide +kernel
theorem dX5_copyInto_45 : decode cX5_copyInto 45 = .ok (.iload 4, 2) := by decide +kernel
theorem dX5_copyInto_47 : decode cX5_copyInto 47 = .ok (.invokevirtual 60, 3) := by decide +kernel
theorem dX5_copyInto_50 : decode cX5_copyInto 50 = .ok (.checkcast 70, 3) := by decide +kernel
theorem dX5_copyInto_53 : decode cX5_copyInto 53 = .ok (.invokevirtual 66, 3) := by decide +kernel
theorem dX5_copyInto_56 : decode cX5_copyInto 56 = .ok (.pop, 1) := by decide +kernel
theorem dX5_copyInto_57 : decode cX5_copyInto 57 = .ok (.iinc 4 1, 3) := by decide +kernel
theorem dX5_copyInto_60 : decode cX5_copyInto 60 = .ok (.goto (-50), 3) := by decide +kernel
theorem dX5_copyInto_63 : decode cX5_copyInto 63 = .ok (.goto 50, 3) := by decide +kernel
theorem dX5_copyInto_66 : decode cX5_copyInto 66 = .ok (.iload_n 2, 1) := by decide +kernel
theorem dX5_copyInto_67 : decode cX5_copyInto 67 = .ok (.istore 4, 2) := by decide +kernel
theorem dX5_copyInto_69 : decode cX5_copyInto 69 = .ok (.iload 4, 2) := by decide +kernel
theorem dX5_copyInto_71 : decode cX5_copyInto 71 = .ok (.iload_n 3, 1) := by decide +kernel
theorem dX5_copyInto_72 : decode cX5_copyInto 72 = .ok (.if_icmp .ge 41, 3) := by decide +kernel
theorem dX5_copyInto_75 : decode cX5_copyInto 75 = .ok (.iload 4, 2) := by decide +kernel
theorem dX5_copyInto_77 : decode cX5_copyInto 77 = .ok (.aload_n 0, 1) := by decide +kernel
theorem dX5_copyInto_78 : decode cX5_copyInto 78 = .ok (.getfield 12, 3) := by decide +kernel
theorem dX5_copyInto_81 : decode cX5_copyInto 81 = .ok (.invokevirtual 45, 3) := by decide +kernel
theorem dX5_copyInto_84 : decode cX5_copyInto 84 = .ok (.if_icmp .ge 29, 3) := by decide +kernel
theorem dX5_copyInto_87 : decode cX5_copyInto 87 = .ok (.aload_n 1, 1) := by decide +kernel
theorem dX5_copyInto_88 : decode cX5_copyInto 88 = .ok (.getfield 12, 3) := by decide +kernel
theorem dX5_copyInto_91 : decode cX5_copyInto 91 = .ok (.aload_n 0, 1) := by decide +kernel
theorem dX5_copyInto_92 : decode cX5_copyInto 92 = .ok (.getfield 12, 3) := by decide +kernel
theorem dX5_copyInto_95 : decode cX5_copyInto 95 = .ok (.iload 4, 2) := by decide +kernel
theorem dX5_copyInto_97 : decode cX5_copyInto 97 = .ok (.invokevirtual 60, 3) := by decide +kernel
theorem dX5_copyInto_100 : decode cX5_copyInto 100 = .ok (.checkcast 13, 3) := by decide +kernel
theorem dX5_copyInto_103 : decode cX5_copyInto 103 = .ok (.invokevirtual 66, 3) := by decide +kernel
theorem dX5_copyInto_106 : decode cX5_copyInto 106 = .ok (.pop, 1) := by decide +kernel
theorem dX5_copyInto_107 : decode cX5_copyInto 107 = .ok (.iinc 4 1, 3) := by decide +kernel
theorem dX5_copyInto_110 : decode cX5_copyInto 110 = .ok (.goto (-41), 3) := by decide +kernel
theorem dX5_copyInto_113 : decode cX5_copyInto 113 = .ok (.return_, 1) := by decide +kernel
theorem dX5_lastKeyOf_0 : decode cX5_lastKeyOf 0 = .ok (.iload_n 1, 1) := by decide +kernel
theorem dX5_lastKeyOf_1 : decode cX5_lastKeyOf 1 = .ok (.iconst 1, 1) := by decide +kernel
theorem dX5_lastKeyOf_2 : decode cX5_lastKeyOf 2 = .ok (.iadd, 1) := by decide +kernel
theorem dX5_lastKeyOf_3 : decode cX5_lastKeyOf 3 = .ok (.aload_n 0, 1) := by decide +kernel
theorem dX5_lastKeyOf_4 : decode cX5_lastKeyOf 4 = .ok (.getfield 12, 3) := by decide +kernel
theorem dX5_lastKeyOf_7 : decode cX5_lastKeyOf 7 = .ok (.invokevirtual 45, 3) := by decide +kernel
theorem dX5_lastKeyOf_10 : decode cX5_lastKeyOf 10 = .ok (.if_icmp .ge 24, 3) := by decide +kernel
theorem dX5_lastKeyOf_13 : decode cX5_lastKeyOf 13 = .ok (.aload_n 0, 1) := by decide +kernel
theorem dX5_lastKeyOf_14 : decode cX5_lastKeyOf 14 = .ok (.getfield 12, 3) := by decide +kernel
theorem dX5_lastKeyOf_17 : decode cX5_lastKeyOf 17 = .ok (.iload_n 1, 1) := by decide +kernel
theorem dX5_lastKeyOf_18 : decode cX5_lastKeyOf 18 = .ok (.iconst 1, 1) := by decide +kernel
theorem dX5_lastKeyOf_19 : decode cX5_lastKeyOf 19 = .ok (.iadd, 1) := by decide +kernel
theorem dX5_lastKeyOf_20 : decode cX5_lastKeyOf 20 = .ok (.invokevirtual 60, 3) := by decide +kernel
theorem dX5_lastKeyOf_23 : decode cX5_lastKeyOf 23 = .ok (.checkcast 13, 3) := by decide +kernel
theorem dX5_lastKeyOf_26 : decode cX5_lastKeyOf 26 = .ok (.getfield 25, 3) := by decide +kernel
theorem dX5_lastKeyOf_29 : decode cX5_lastKeyOf 29 = .ok (.lconst 1, 1) := by decide +kernel
theorem dX5_lastKeyOf_30 : decode cX5_lastKeyOf 30 = .ok (.lsub, 1) := by decide +kernel
theorem dX5_lastKeyOf_31 : decode cX5_lastKeyOf 31 = .ok (.goto 6, 3) := by decide +kernel
theorem dX5_lastKeyOf_34 : decode cX5_lastKeyOf 34 = .ok (.ldc2_w 72, 3) := by decide +kernel
theorem dX5_lastKeyOf_37 : decode cX5_lastKeyOf 37 = .ok (.lreturn, 1) := by decide +kernel
theorem dX5_kidFor_0 : decode cX5_kidFor 0 = .ok (.iconst 0, 1) := by decide +kernel
theorem dX5_kidFor_1 : decode cX5_kidFor 1 = .ok (.istore_n 3, 1) := by decide +kernel
theorem dX5_kidFor_2 : decode cX5_kidFor 2 = .ok (.iconst 1, 1) := by decide +kernel
theorem dX5_kidFor_3 : decode cX5_kidFor 3 = .ok (.istore 4, 2) := by decide +kernel
theorem dX5_kidFor_5 : decode cX5_kidFor 5 = .ok (.iload 4, 2) := by decide +kernel
theorem dX5_kidFor_7 : decode cX5_kidFor 7 = .ok (.aload_n 0, 1) := by decide +kernel
theorem dX5_kidFor_8 : decode cX5_kidFor 8 = .ok (.getfield 12, 3) := by decide +kernel
theorem dX5_kidFor_11 : decode cX5_kidFor 11 = .ok (.invokevirtual 45, 3) := by decide +kernel
theorem dX5_kidFor_14 : decode cX5_kidFor 14 = .ok (.if_icmp .ge 32, 3) := by decide +kernel
theorem dX5_kidFor_17 : decode cX5_kidFor 17 = .ok (.aload_n 0, 1) := by decide +kernel
theorem dX5_kidFor_18 : decode cX5_kidFor 18 = .ok (.getfield 12, 3) := by decide +kernel
theorem dX5_kidFor_21 : decode cX5_kidFor 21 = .ok (.iload 4, 2) := by decide +kernel
theorem dX5_kidFor_23 : decode cX5_kidFor 23 = .ok (.invokevirtual 60, 3) := by decide +kernel
theorem dX5_kidFor_26 : decode cX5_kidFor 26 = .ok (.checkcast 13, 3) := by decide +kernel
theorem dX5_kidFor_29 : decode cX5_kidFor 29 = .ok (.getfield 25, 3) := by decide +kernel
theorem dX5_kidFor_32 : decode cX5_kidFor 32 = .ok (.lload_n 1, 1) := by decide +kernel
theorem dX5_kidFor_33 : decode cX5_kidFor 33 = .ok (.lcmp, 1) := by decide +kernel
theorem dX5_kidFor_34 : decode cX5_kidFor 34 = .ok (.ifCond .gt 12, 3) := by decide +kernel
theorem dX5_kidFor_37 : decode cX5_kidFor 37 = .ok (.iload 4, 2) := by decide +kernel
theorem dX5_kidFor_39 : decode cX5_kidFor 39 = .ok (.istore_n 3, 1) := by decide +kernel
theorem dX5_kidFor_40 : decode cX5_kidFor 40 = .ok (.iinc 4 1, 3) := by decide +kernel
theorem dX5_kidFor_43 : decode cX5_kidFor 43 = .ok (.goto (-38), 3) := by decide +kernel
theorem dX5_kidFor_46 : decode cX5_kidFor 46 = .ok (.iload_n 3, 1) := by decide +kernel
theorem dX5_kidFor_47 : decode cX5_kidFor 47 = .ok (.ireturn, 1) := by decide +kernel
theorem dX5_isChangedBy_0 : decode cX5_isChangedBy 0 = .ok (.iconst 0, 1) := by decide +kernel
theorem dX5_isChangedBy_1 : decode cX5_isChangedBy 1 = .ok (.istore_n 2, 1) := by decide +kernel
theorem dX5_isChangedBy_2 : decode cX5_isChangedBy 2 = .ok (.iload_n 2, 1) := by decide +kernel
theorem dX5_isChangedBy_3 : decode cX5_isChangedBy 3 = .ok (.aload_n 1, 1) := by decide +kernel
theorem dX5_isChangedBy_4 : decode cX5_isChangedBy 4 = .ok (.invokevirtual 45, 3) := by decide +kernel
theorem dX5_isChangedBy_7 : decode cX5_isChangedBy 7 = .ok (.if_icmp .ge 36, 3) := by decide +kernel
theorem dX5_isChangedBy_10 : decode cX5_isChangedBy 10 = .ok (.aload_n 0, 1) := by decide +kernel
theorem dX5_isChangedBy_11 : decode cX5_isChangedBy 11 = .ok (.invokevirtual 37, 3) := by decide +kernel
theorem dX5_isChangedBy_14 : decode cX5_isChangedBy 14 = .ok (.ifCond .eq 21, 3) := by decide +kernel
theorem dX5_isChangedBy_17 : decode cX5_isChangedBy 17 = .ok (.aload_n 0, 1) := by decide +kernel
theorem dX5_isChangedBy_18 : decode cX5_isChangedBy 18 = .ok (.getfield 29, 3) := by decide +kernel
theorem dX5_isChangedBy_21 : decode cX5_isChangedBy 21 = .ok (.aload_n 1, 1) := by decide +kernel
theorem dX5_isChangedBy_22 : decode cX5_isChangedBy 22 = .ok (.iload_n 2, 1) := by decide +kernel
theorem dX5_isChangedBy_23 : decode cX5_isChangedBy 23 = .ok (.invokevirtual 60, 3) := by decide +kernel
theorem dX5_isChangedBy_26 : decode cX5_isChangedBy 26 = .ok (.checkcast 64, 3) := by decide +kernel
theorem dX5_isChangedBy_29 : decode cX5_isChangedBy 29 = .ok (.invokevirtual 74, 3) := by decide +kernel
theorem dX5_isChangedBy_32 : decode cX5_isChangedBy 32 = .ok (.ifCond .eq 5, 3) := by decide +kernel
theorem dX5_isChangedBy_35 : decode cX5_isChangedBy 35 = .ok (.iconst 1, 1) := by decide +kernel
theorem dX5_isChangedBy_36 : decode cX5_isChangedBy 36 = .ok (.ireturn, 1) := by decide +kernel
theorem dX5_isChangedBy_37 : decode cX5_isChangedBy 37 = .ok (.iinc 2 1, 3) := by decide +kernel
theorem dX5_isChangedBy_40 : decode cX5_isChangedBy 40 = .ok (.goto (-38), 3) := by decide +kernel
theorem dX5_isChangedBy_43 : decode cX5_isChangedBy 43 = .ok (.iconst 0, 1) := by decide +kernel
theorem dX5_isChangedBy_44 : decode cX5_isChangedBy 44 = .ok (.ireturn, 1) := by decide +kernel
theorem dX5_takeIn_0 : decode cX5_takeIn 0 = .ok (.iconst 0, 1) := by decide +kernel
theorem dX5_takeIn_1 : decode cX5_takeIn 1 = .ok (.istore_n 2, 1) := by decide +kernel
theorem dX5_takeIn_2 : decode cX5_takeIn 2 = .ok (.iload_n 2, 1) := by decide +kernel
theorem dX5_takeIn_3 : decode cX5_takeIn 3 = .ok (.aload_n 1, 1) := by decide +kernel
theorem dX5_takeIn_4 : decode cX5_takeIn 4 = .ok (.invokevirtual 45, 3) := by decide +kernel
theorem dX5_takeIn_7 : decode cX5_takeIn 7 = .ok (.if_icmp .ge 62, 3) := by decide +kernel
theorem dX5_takeIn_10 : decode cX5_takeIn 10 = .ok (.aload_n 1, 1) := by decide +kernel
theorem dX5_takeIn_11 : decode cX5_takeIn 11 = .ok (.iload_n 2, 1) := by decide +kernel
theorem dX5_takeIn_12 : decode cX5_takeIn 12 = .ok (.invokevirtual 60, 3) := by decide +kernel
theorem dX5_takeIn_15 : decode cX5_takeIn 15 = .ok (.checkcast 64, 3) := by decide +kernel
theorem dX5_takeIn_18 : decode cX5_takeIn 18 = .ok (.astore_n 3, 1) := by decide +kernel
theorem dX5_takeIn_19 : decode cX5_takeIn 19 = .ok (.aload_n 0, 1) := by decide +kernel
theorem dX5_takeIn_20 : decode cX5_takeIn 20 = .ok (.invokevirtual 37, 3) := by decide +kernel
theorem dX5_takeIn_23 : decode cX5_takeIn 23 = .ok (.ifCond .eq 15, 3) := by decide +kernel
theorem dX5_takeIn_26 : decode cX5_takeIn 26 = .ok (.aload_n 0, 1) := by decide +kernel
theorem dX5_takeIn_27 : decode cX5_takeIn 27 = .ok (.getfield 29, 3) := by decide +kernel
theorem dX5_takeIn_30 : decode cX5_takeIn 30 = .ok (.aload_n 3, 1) := by decide +kernel
theorem dX5_takeIn_31 : decode cX5_takeIn 31 = .ok (.invokevirtual 78, 3) := by decide +kernel
theorem dX5_takeIn_34 : decode cX5_takeIn 34 = .ok (.pop, 1) := by decide +kernel
theorem dX5_takeIn_35 : decode cX5_takeIn 35 = .ok (.goto 28, 3) := by decide +kernel
theorem dX5_takeIn_38 : decode cX5_takeIn 38 = .ok (.aload_n 3, 1) := by decide +kernel
theorem dX5_takeIn_39 : decode cX5_takeIn 39 = .ok (.getfield 82, 3) := by decide +kernel
theorem dX5_takeIn_42 : decode cX5_takeIn 42 = .ok (.iconst 5, 1) := by decide +kernel
theorem dX5_takeIn_43 : decode cX5_takeIn 43 = .ok (.if_icmp .ne 11, 3) := by decide +kernel
theorem dX5_takeIn_46 : decode cX5_takeIn 46 = .ok (.aload_n 0, 1) := by decide +kernel
theorem dX5_takeIn_47 : decode cX5_takeIn 47 = .ok (.aload_n 3, 1) := by decide +kernel
theorem dX5_takeIn_48 : decode cX5_takeIn 48 = .ok (.invokevirtual 85, 3) := by decide +kernel
theorem dX5_takeIn_51 : decode cX5_takeIn 51 = .ok (.goto 12, 3) := by decide +kernel
theorem dX5_takeIn_54 : decode cX5_takeIn 54 = .ok (.aload_n 0, 1) := by decide +kernel
theorem dX5_takeIn_55 : decode cX5_takeIn 55 = .ok (.getfield 18, 3) := by decide +kernel
theorem dX5_takeIn_58 : decode cX5_takeIn 58 = .ok (.aload_n 3, 1) := by decide +kernel
theorem dX5_takeIn_59 : decode cX5_takeIn 59 = .ok (.invokevirtual 66, 3) := by decide +kernel
theorem dX5_takeIn_62 : decode cX5_takeIn 62 = .ok (.pop, 1) := by decide +kernel
theorem dX5_takeIn_63 : decode cX5_takeIn 63 = .ok (.iinc 2 1, 3) := by decide +kernel
theorem dX5_takeIn_66 : decode cX5_takeIn 66 = .ok (.goto (-64), 3) := by decide +kernel
theorem dX5_takeIn_69 : decode cX5_takeIn 69 = .ok (.return_, 1) := by decide +kernel
theorem dX5_takeInParts_0 : decode cX5_takeInParts 0 = .ok (.iconst 0, 1) := by decide +kernel
theorem dX5_takeInParts_1 : decode cX5_takeInParts 1 = .ok (.istore_n 2, 1) := by decide +kernel
theorem dX5_takeInParts_2 : decode cX5_takeInParts 2 = .ok (.iload_n 2, 1) := by decide +kernel
theorem dX5_takeInParts_3 : decode cX5_takeInParts 3 = .ok (.aload_n 0, 1) := by decide +kernel
theorem dX5_takeInParts_4 : decode cX5_takeInParts 4 = .ok (.getfield 12, 3) := by decide +kernel
theorem dX5_takeInParts_7 : decode cX5_takeInParts 7 = .ok (.invokevirtual 45, 3) := by decide +kernel
theorem dX5_takeInParts_10 : decode cX5_takeInParts 10 = .ok (.if_icmp .ge 81, 3) := by decide +kernel
theorem dX5_takeInParts_13 : decode cX5_takeInParts 13 = .ok (.aload_n 1, 1) := by decide +kernel
theorem dX5_takeInParts_14 : decode cX5_takeInParts 14 = .ok (.getfield 89, 3) := by decide +kernel
theorem dX5_takeInParts_17 : decode cX5_takeInParts 17 = .ok (.aload_n 0, 1) := by decide +kernel
theorem dX5_takeInParts_18 : decode cX5_takeInParts 18 = .ok (.getfield 12, 3) := by decide +kernel
theorem dX5_takeInParts_21 : decode cX5_takeInParts 21 = .ok (.iload_n 2, 1) := by decide +kernel
theorem dX5_takeInParts_22 : decode cX5_takeInParts 22 = .ok (.invokevirtual 60, 3) := by decide +kernel
theorem dX5_takeInParts_25 : decode cX5_takeInParts 25 = .ok (.checkcast 13, 3) := by decide +kernel
theorem dX5_takeInParts_28 : decode cX5_takeInParts 28 = .ok (.getfield 25, 3) := by decide +kernel
theorem dX5_takeInParts_31 : decode cX5_takeInParts 31 = .ok (.invokestatic 92, 3) := by decide +kernel
theorem dX5_takeInParts_34 : decode cX5_takeInParts 34 = .ok (.lstore_n 3, 1) := by decide +kernel
theorem dX5_takeInParts_35 : decode cX5_takeInParts 35 = .ok (.aload_n 1, 1) := by decide +kernel
theorem dX5_takeInParts_36 : decode cX5_takeInParts 36 = .ok (.getfield 98, 3) := by decide +kernel
theorem dX5_takeInParts_39 : decode cX5_takeInParts 39 = .ok (.aload_n 0, 1) := by decide +kernel
theorem dX5_takeInParts_40 : decode cX5_takeInParts 40 = .ok (.iload_n 2, 1) := by decide +kernel
theorem dX5_takeInParts_41 : decode cX5_takeInParts 41 = .ok (.invokevirtual 101, 3) := by decide +kernel
theorem dX5_takeInParts_44 : decode cX5_takeInParts 44 = .ok (.invokestatic 105, 3) := by decide +kernel
theorem dX5_takeInParts_47 : decode cX5_takeInParts 47 = .ok (.lstore 5, 2) := by decide +kernel
theorem dX5_takeInParts_49 : decode cX5_takeInParts 49 = .ok (.lload_n 3, 1) := by decide +kernel
theorem dX5_takeInParts_50 : decode cX5_takeInParts 50 = .ok (.lload 5, 2) := by decide +kernel
theorem dX5_takeInParts_52 : decode cX5_takeInParts 52 = .ok (.lcmp, 1) := by decide +kernel
theorem dX5_takeInParts_53 : decode cX5_takeInParts 53 = .ok (.ifCond .gt 32, 3) := by decide +kernel
theorem dX5_takeInParts_56 : decode cX5_takeInParts 56 = .ok (.aload_n 0, 1) := by decide +kernel
theorem dX5_takeInParts_57 : decode cX5_takeInParts 57 = .ok (.getfield 18, 3) := by decide +kernel
theorem dX5_takeInParts_60 : decode cX5_takeInParts 60 = .ok (.new 64, 3) := by decide +kernel
theorem dX5_takeInParts_63 : decode cX5_takeInParts 63 = .ok (.dup, 1) := by decide +kernel
theorem dX5_takeInParts_64 : decode cX5_takeInParts 64 = .ok (.iconst 5, 1) := by decide +kernel
theorem dX5_takeInParts_65 : decode cX5_takeInParts 65 = .ok (.aload_n 1, 1) := by decide +kernel
theorem dX5_takeInParts_66 : decode cX5_takeInParts 66 = .ok (.getfield 108, 3) := by decide +kernel
theorem dX5_takeInParts_69 : decode cX5_takeInParts 69 = .ok (.lload_n 3, 1) := by decide +kernel
theorem dX5_takeInParts_70 : decode cX5_takeInParts 70 = .ok (.lload 5, 2) := by decide +kernel
theorem dX5_takeInParts_72 : decode cX5_takeInParts 72 = .ok (.getstatic 111, 3) := by decide +kernel
theorem dX5_takeInParts_75 : decode cX5_takeInParts 75 = .ok (.getstatic 111, 3) := by decide +kernel
theorem dX5_takeInParts_78 : decode cX5_takeInParts 78 = .ok (.invokespecial 115, 3) := by decide +kernel
theorem dX5_takeInParts_81 : decode cX5_takeInParts 81 = .ok (.invokevirtual 66, 3) := by decide +kernel
theorem dX5_takeInParts_84 : decode cX5_takeInParts 84 = .ok (.pop, 1) := by decide +kernel
theorem dX5_takeInParts_85 : decode cX5_takeInParts 85 = .ok (.iinc 2 1, 3) := by decide +kernel
theorem dX5_takeInParts_88 : decode cX5_takeInParts 88 = .ok (.goto (-86), 3) := by decide +kernel
theorem dX5_takeInParts_91 : decode cX5_takeInParts 91 = .ok (.return_, 1) := by decide +kernel
theorem dX5_fullestKid_0 : decode cX5_fullestKid 0 = .ok (.iconst 0, 1) := by decide +kernel
theorem dX5_fullestKid_1 : decode cX5_fullestKid 1 = .ok (.istore_n 1, 1) := by decide +kernel
theorem dX5_fullestKid_2 : decode cX5_fullestKid 2 = .ok (.iconst 0, 1) := by decide +kernel
theorem dX5_fullestKid_3 : decode cX5_fullestKid 3 = .ok (.istore_n 2, 1) := by decide +kernel
theorem dX5_fullestKid_4 : decode cX5_fullestKid 4 = .ok (.iconst 0, 1) := by decide +kernel
theorem dX5_fullestKid_5 : decode cX5_fullestKid 5 = .ok (.istore_n 3, 1) := by decide +kernel
theorem dX5_fullestKid_6 : decode cX5_fullestKid 6 = .ok (.iload_n 3, 1) := by decide +kernel
theorem dX5_fullestKid_7 : decode cX5_fullestKid 7 = .ok (.aload_n 0, 1) := by decide +kernel
theorem dX5_fullestKid_8 : decode cX5_fullestKid 8 = .ok (.getfield 12, 3) := by decide +kernel
theorem dX5_fullestKid_11 : decode cX5_fullestKid 11 = .ok (.invokevirtual 45, 3) := by decide +kernel
theorem dX5_fullestKid_14 : decode cX5_fullestKid 14 = .ok (.if_icmp .ge 45, 3) := by decide +kernel
theorem dX5_fullestKid_17 : decode cX5_fullestKid 17 = .ok (.aload_n 0, 1) := by decide +kernel
theorem dX5_fullestKid_18 : decode cX5_fullestKid 18 = .ok (.aload_n 0, 1) := by decide +kernel
theorem dX5_fullestKid_19 : decode cX5_fullestKid 19 = .ok (.getfield 12, 3) := by decide +kernel
theorem dX5_fullestKid_22 : decode cX5_fullestKid 22 = .ok (.iload_n 3, 1) := by decide +kernel
theorem dX5_fullestKid_23 : decode cX5_fullestKid 23 = .ok (.invokevirtual 60, 3) := by decide +kernel
theorem dX5_fullestKid_26 : decode cX5_fullestKid 26 = .ok (.checkcast 13, 3) := by decide +kernel
theorem dX5_fullestKid_29 : decode cX5_fullestKid 29 = .ok (.getfield 25, 3) := by decide +kernel
theorem dX5_fullestKid_32 : decode cX5_fullestKid 32 = .ok (.aload_n 0, 1) := by decide +kernel
theorem dX5_fullestKid_33 : decode cX5_fullestKid 33 = .ok (.iload_n 3, 1) := by decide +kernel
theorem dX5_fullestKid_34 : decode cX5_fullestKid 34 = .ok (.invokevirtual 101, 3) := by decide +kernel
theorem dX5_fullestKid_37 : decode cX5_fullestKid 37 = .ok (.invokevirtual 118, 3) := by decide +kernel
theorem dX5_fullestKid_40 : decode cX5_fullestKid 40 = .ok (.istore 4, 2) := by decide +kernel
theorem dX5_fullestKid_42 : decode cX5_fullestKid 42 = .ok (.iload 4, 2) := by decide +kernel
theorem dX5_fullestKid_44 : decode cX5_fullestKid 44 = .ok (.iload_n 2, 1) := by decide +kernel
theorem dX5_fullestKid_45 : decode cX5_fullestKid 45 = .ok (.if_icmp .le 8, 3) := by decide +kernel
theorem dX5_fullestKid_48 : decode cX5_fullestKid 48 = .ok (.iload 4, 2) := by decide +kernel
theorem dX5_fullestKid_50 : decode cX5_fullestKid 50 = .ok (.istore_n 2, 1) := by decide +kernel
theorem dX5_fullestKid_51 : decode cX5_fullestKid 51 = .ok (.iload_n 3, 1) := by decide +kernel
theorem dX5_fullestKid_52 : decode cX5_fullestKid 52 = .ok (.istore_n 1, 1) := by decide +kernel
theorem dX5_fullestKid_53 : decode cX5_fullestKid 53 = .ok (.iinc 3 1, 3) := by decide +kernel
theorem dX5_fullestKid_56 : decode cX5_fullestKid 56 = .ok (.goto (-50), 3) := by decide +kernel
theorem dX5_fullestKid_59 : decode cX5_fullestKid 59 = .ok (.iload_n 1, 1) := by decide +kernel
theorem dX5_fullestKid_60 : decode cX5_fullestKid 60 = .ok (.ireturn, 1) := by decide +kernel
theorem dX5_lettersFrom_0 : decode cX5_lettersFrom 0 = .ok (.iconst 0, 1) := by decide +kernel
theorem dX5_lettersFrom_1 : decode cX5_lettersFrom 1 = .ok (.istore 5, 2) := by decide +kernel
theorem dX5_lettersFrom_3 : decode cX5_lettersFrom 3 = .ok (.iconst 0, 1) := by decide +kernel
theorem dX5_lettersFrom_4 : decode cX5_lettersFrom 4 = .ok (.istore 6, 2) := by decide +kernel
theorem dX5_lettersFrom_6 : decode cX5_lettersFrom 6 = .ok (.iload 6, 2) := by decide +kernel
theorem dX5_lettersFrom_8 : decode cX5_lettersFrom 8 = .ok (.aload_n 0, 1) := by decide +kernel
theorem dX5_lettersFrom_9 : decode cX5_lettersFrom 9 = .ok (.getfield 18, 3) := by decide +kernel
theorem dX5_lettersFrom_12 : decode cX5_lettersFrom 12 = .ok (.invokevirtual 45, 3) := by decide +kernel
theorem dX5_lettersFrom_15 : decode cX5_lettersFrom 15 = .ok (.if_icmp .ge 43, 3) := by decide +kernel
theorem dX5_lettersFrom_18 : decode cX5_lettersFrom 18 = .ok (.aload_n 0, 1) := by decide +kernel
theorem dX5_lettersFrom_19 : decode cX5_lettersFrom 19 = .ok (.getfield 18, 3) := by decide +kernel
theorem dX5_lettersFrom_22 : decode cX5_lettersFrom 22 = .ok (.iload 6, 2) := by decide +kernel
theorem dX5_lettersFrom_24 : decode cX5_lettersFrom 24 = .ok (.invokevirtual 60, 3) := by decide +kernel
theorem dX5_lettersFrom_27 : decode cX5_lettersFrom 27 = .ok (.checkcast 64, 3) := by decide +kernel
theorem dX5_lettersFrom_30 : decode cX5_lettersFrom 30 = .ok (.getfield 89, 3) := by decide +kernel
theorem dX5_lettersFrom_33 : decode cX5_lettersFrom 33 = .ok (.lstore 7, 2) := by decide +kernel
theorem dX5_lettersFrom_35 : decode cX5_lettersFrom 35 = .ok (.lload_n 1, 1) := by decide +kernel
theorem dX5_lettersFrom_36 : decode cX5_lettersFrom 36 = .ok (.lload 7, 2) := by decide +kernel
theorem dX5_lettersFrom_38 : decode cX5_lettersFrom 38 = .ok (.lcmp, 1) := by decide +kernel
theorem dX5_lettersFrom_39 : decode cX5_lettersFrom 39 = .ok (.ifCond .gt 13, 3) := by decide +kernel
theorem dX5_lettersFrom_42 : decode cX5_lettersFrom 42 = .ok (.lload 7, 2) := by decide +kernel
theorem dX5_lettersFrom_44 : decode cX5_lettersFrom 44 = .ok (.lload_n 3, 1) := by decide +kernel
theorem dX5_lettersFrom_45 : decode cX5_lettersFrom 45 = .ok (.lcmp, 1) := by decide +kernel
theorem dX5_lettersFrom_46 : decode cX5_lettersFrom 46 = .ok (.ifCond .gt 6, 3) := by decide +kernel
theorem dX5_lettersFrom_49 : decode cX5_lettersFrom 49 = .ok (.iinc 5 1, 3) := by decide +kernel
theorem dX5_lettersFrom_52 : decode cX5_lettersFrom 52 = .ok (.iinc 6 1, 3) := by decide +kernel
theorem dX5_lettersFrom_55 : decode cX5_lettersFrom 55 = .ok (.goto (-49), 3) := by decide +kernel
theorem dX5_lettersFrom_58 : decode cX5_lettersFrom 58 = .ok (.iload 5, 2) := by decide +kernel
theorem dX5_lettersFrom_60 : decode cX5_lettersFrom 60 = .ok (.ireturn, 1) := by decide +kernel
theorem dX5_moveLetters_0 : decode cX5_moveLetters 0 = .ok (.new 9, 3) := by decide +kernel
theorem dX5_moveLetters_3 : decode cX5_moveLetters 3 = .ok (.dup, 1) := by decide +kernel
theorem dX5_moveLetters_4 : decode cX5_moveLetters 4 = .ok (.invokespecial 11, 3) := by decide +kernel
theorem dX5_moveLetters_7 : decode cX5_moveLetters 7 = .ok (.astore 6, 2) := by decide +kernel
theorem dX5_moveLetters_9 : decode cX5_moveLetters 9 = .ok (.iconst 0, 1) := by decide +kernel
theorem dX5_moveLetters_10 : decode cX5_moveLetters 10 = .ok (.istore 7, 2) := by decide +kernel
theorem dX5_moveLetters_12 : decode cX5_moveLetters 12 = .ok (.iload 7, 2) := by decide +kernel
theorem dX5_moveLetters_14 : decode cX5_moveLetters 14 = .ok (.aload_n 0, 1) := by decide +kernel
theorem dX5_moveLetters_15 : decode cX5_moveLetters 15 = .ok (.getfield 18, 3) := by decide +kernel
theorem dX5_moveLetters_18 : decode cX5_moveLetters 18 = .ok (.invokevirtual 45, 3) := by decide +kernel
theorem dX5_moveLetters_21 : decode cX5_moveLetters 21 = .ok (.if_icmp .ge 62, 3) := by decide +kernel
theorem dX5_moveLetters_24 : decode cX5_moveLetters 24 = .ok (.aload_n 0, 1) := by decide +kernel
theorem dX5_moveLetters_25 : decode cX5_moveLetters 25 = .ok (.getfield 18, 3) := by decide +kernel
theorem dX5_moveLetters_28 : decode cX5_moveLetters 28 = .ok (.iload 7, 2) := by decide +kernel
theorem dX5_moveLetters_30 : decode cX5_moveLetters 30 = .ok (.invokevirtual 60, 3) := by decide +kernel
theorem dX5_moveLetters_33 : decode cX5_moveLetters 33 = .ok (.checkcast 64, 3) := by decide +kernel
theorem dX5_moveLetters_36 : decode cX5_moveLetters 36 = .ok (.astore 8, 2) := by decide +kernel
theorem dX5_moveLetters_38 : decode cX5_moveLetters 38 = .ok (.lload_n 1, 1) := by decide +kernel
theorem dX5_moveLetters_39 : decode cX5_moveLetters 39 = .ok (.aload 8, 2) := by decide +kernel
theorem dX5_moveLetters_41 : decode cX5_moveLetters 41 = .ok (.getfield 89, 3) := by decide +kernel
theorem dX5_moveLetters_44 : decode cX5_moveLetters 44 = .ok (.lcmp, 1) := by decide +kernel
theorem dX5_moveLetters_45 : decode cX5_moveLetters 45 = .ok (.ifCond .gt 24, 3) := by decide +kernel
theorem dX5_moveLetters_48 : decode cX5_moveLetters 48 = .ok (.aload 8, 2) := by decide +kernel
theorem dX5_moveLetters_50 : decode cX5_moveLetters 50 = .ok (.getfield 89, 3) := by decide +kernel
theorem dX5_moveLetters_53 : decode cX5_moveLetters 53 = .ok (.lload_n 3, 1) := by decide +kernel
theorem dX5_moveLetters_54 : decode cX5_moveLetters 54 = .ok (.lcmp, 1) := by decide +kernel
theorem dX5_moveLetters_55 : decode cX5_moveLetters 55 = .ok (.ifCond .gt 14, 3) := by decide +kernel
theorem dX5_moveLetters_58 : decode cX5_moveLetters 58 = .ok (.aload 5, 2) := by decide +kernel
theorem dX5_moveLetters_60 : decode cX5_moveLetters 60 = .ok (.aload 8, 2) := by decide +kernel
theorem dX5_moveLetters_62 : decode cX5_moveLetters 62 = .ok (.invokevirtual 66, 3) := by decide +kernel
theorem dX5_moveLetters_65 : decode cX5_moveLetters 65 = .ok (.pop, 1) := by decide +kernel
theorem dX5_moveLetters_66 : decode cX5_moveLetters 66 = .ok (.goto 11, 3) := by decide +kernel
theorem dX5_moveLetters_69 : decode cX5_moveLetters 69 = .ok (.aload 6, 2) := by decide +kernel
theorem dX5_moveLetters_71 : decode cX5_moveLetters 71 = .ok (.aload 8, 2) := by decide +kernel
theorem dX5_moveLetters_73 : decode cX5_moveLetters 73 = .ok (.invokevirtual 66, 3) := by decide +kernel
theorem dX5_moveLetters_76 : decode cX5_moveLetters 76 = .ok (.pop, 1) := by decide +kernel
theorem dX5_moveLetters_77 : decode cX5_moveLetters 77 = .ok (.iinc 7 1, 3) := by decide +kernel
theorem dX5_moveLetters_80 : decode cX5_moveLetters 80 = .ok (.goto (-68), 3) := by decide +kernel
theorem dX5_moveLetters_83 : decode cX5_moveLetters 83 = .ok (.aload_n 0, 1) := by decide +kernel
theorem dX5_moveLetters_84 : decode cX5_moveLetters 84 = .ok (.getfield 18, 3) := by decide +kernel
theorem dX5_moveLetters_87 : decode cX5_moveLetters 87 = .ok (.invokevirtual 122, 3) := by decide +kernel
theorem dX5_moveLetters_90 : decode cX5_moveLetters 90 = .ok (.iconst 0, 1) := by decide +kernel
theorem dX5_moveLetters_91 : decode cX5_moveLetters 91 = .ok (.istore 7, 2) := by decide +kernel
theorem dX5_moveLetters_93 : decode cX5_moveLetters 93 = .ok (.iload 7, 2) := by decide +kernel
theorem dX5_moveLetters_95 : decode cX5_moveLetters 95 = .ok (.aload 6, 2) := by decide +kernel
theorem dX5_moveLetters_97 : decode cX5_moveLetters 97 = .ok (.invokevirtual 45, 3) := by decide +kernel
theorem dX5_moveLetters_100 : decode cX5_moveLetters 100 = .ok (.if_icmp .ge 27, 3) := by decide +kernel
theorem dX5_moveLetters_103 : decode cX5_moveLetters 103 = .ok (.aload_n 0, 1) := by decide +kernel
theorem dX5_moveLetters_104 : decode cX5_moveLetters 104 = .ok (.getfield 18, 3) := by decide +kernel
theorem dX5_moveLetters_107 : decode cX5_moveLetters 107 = .ok (.aload 6, 2) := by decide +kernel
theorem dX5_moveLetters_109 : decode cX5_moveLetters 109 = .ok (.iload 7, 2) := by decide +kernel
theorem dX5_moveLetters_111 : decode cX5_moveLetters 111 = .ok (.invokevirtual 60, 3) := by decide +kernel
theorem dX5_moveLetters_114 : decode cX5_moveLetters 114 = .ok (.checkcast 64, 3) := by decide +kernel
theorem dX5_moveLetters_117 : decode cX5_moveLetters 117 = .ok (.invokevirtual 66, 3) := by decide +kernel
theorem dX5_moveLetters_120 : decode cX5_moveLetters 120 = .ok (.pop, 1) := by decide +kernel
theorem dX5_moveLetters_121 : decode cX5_moveLetters 121 = .ok (.iinc 7 1, 3) := by decide +kernel
theorem dX5_moveLetters_124 : decode cX5_moveLetters 124 = .ok (.goto (-31), 3) := by decide +kernel
theorem dX5_moveLetters_127 : decode cX5_moveLetters 127 = .ok (.return_, 1) := by decide +kernel
theorem dX5_partKid_0 : decode cX5_partKid 0 = .ok (.iload_n 1, 1) := by decide +kernel
theorem dX5_partKid_1 : decode cX5_partKid 1 = .ok (.ifCond .lt 31, 3) := by decide +kernel
theorem dX5_partKid_4 : decode cX5_partKid 4 = .ok (.iload_n 1, 1) := by decide +kernel
theorem dX5_partKid_5 : decode cX5_partKid 5 = .ok (.aload_n 0, 1) := by decide +kernel
theorem dX5_partKid_6 : decode cX5_partKid 6 = .ok (.getfield 12, 3) := by decide +kernel
theorem dX5_partKid_9 : decode cX5_partKid 9 = .ok (.invokevirtual 45, 3) := by decide +kernel
theorem dX5_partKid_12 : decode cX5_partKid 12 = .ok (.if_icmp .ge 20, 3) := by decide +kernel
theorem dX5_partKid_15 : decode cX5_partKid 15 = .ok (.aload_n 0, 1) := by decide +kernel
theorem dX5_partKid_16 : decode cX5_partKid 16 = .ok (.getfield 12, 3) := by decide +kernel
theorem dX5_partKid_19 : decode cX5_partKid 19 = .ok (.iload_n 1, 1) := by decide +kernel
theorem dX5_partKid_20 : decode cX5_partKid 20 = .ok (.invokevirtual 60, 3) := by decide +kernel
theorem dX5_partKid_23 : decode cX5_partKid 23 = .ok (.checkcast 13, 3) := by decide +kernel
theorem dX5_partKid_26 : decode cX5_partKid 26 = .ok (.invokevirtual 125, 3) := by decide +kernel
theorem dX5_partKid_29 : decode cX5_partKid 29 = .ok (.ifCond .ne 4, 3) := by decide +kernel
theorem dX5_partKid_32 : decode cX5_partKid 32 = .ok (.return_, 1) := by decide +kernel
theorem dX5_partKid_33 : decode cX5_partKid 33 = .ok (.aload_n 0, 1) := by decide +kernel
theorem dX5_partKid_34 : decode cX5_partKid 34 = .ok (.getfield 12, 3) := by decide +kernel
theorem dX5_partKid_37 : decode cX5_partKid 37 = .ok (.iload_n 1, 1) := by decide +kernel
theorem dX5_partKid_38 : decode cX5_partKid 38 = .ok (.invokevirtual 60, 3) := by decide +kernel
theorem dX5_partKid_41 : decode cX5_partKid 41 = .ok (.checkcast 13, 3) := by decide +kernel
theorem dX5_partKid_44 : decode cX5_partKid 44 = .ok (.astore_n 2, 1) := by decide +kernel
theorem dX5_partKid_45 : decode cX5_partKid 45 = .ok (.aload_n 2, 1) := by decide +kernel
theorem dX5_partKid_46 : decode cX5_partKid 46 = .ok (.invokevirtual 37, 3) := by decide +kernel
theorem dX5_partKid_49 : decode cX5_partKid 49 = .ok (.ifCond .eq 8, 3) := by decide +kernel
theorem dX5_partKid_52 : decode cX5_partKid 52 = .ok (.bipush 6, 2) := by decide +kernel
theorem dX5_partKid_54 : decode cX5_partKid 54 = .ok (.goto 4, 3) := by decide +kernel
theorem dX5_partKid_57 : decode cX5_partKid 57 = .ok (.iconst 5, 1) := by decide +kernel
theorem dX5_partKid_58 : decode cX5_partKid 58 = .ok (.istore_n 3, 1) := by decide +kernel
theorem dX5_partKid_59 : decode cX5_partKid 59 = .ok (.aload_n 2, 1) := by decide +kernel
theorem dX5_partKid_60 : decode cX5_partKid 60 = .ok (.invokevirtual 49, 3) := by decide +kernel
theorem dX5_partKid_63 : decode cX5_partKid 63 = .ok (.istore 4, 2) := by decide +kernel
theorem dX5_partKid_65 : decode cX5_partKid 65 = .ok (.iload 4, 2) := by decide +kernel
theorem dX5_partKid_67 : decode cX5_partKid 67 = .ok (.iload_n 3, 1) := by decide +kernel
theorem dX5_partKid_68 : decode cX5_partKid 68 = .ok (.iadd, 1) := by decide +kernel
theorem dX5_partKid_69 : decode cX5_partKid 69 = .ok (.iconst 1, 1) := by decide +kernel
theorem dX5_partKid_70 : decode cX5_partKid 70 = .ok (.isub, 1) := by decide +kernel
theorem dX5_partKid_71 : decode cX5_partKid 71 = .ok (.iload_n 3, 1) := by decide +kernel
theorem dX5_partKid_72 : decode cX5_partKid 72 = .ok (.idiv, 1) := by decide +kernel
theorem dX5_partKid_73 : decode cX5_partKid 73 = .ok (.istore 5, 2) := by decide +kernel
theorem dX5_partKid_75 : decode cX5_partKid 75 = .ok (.aload_n 0, 1) := by decide +kernel
theorem dX5_partKid_76 : decode cX5_partKid 76 = .ok (.getfield 12, 3) := by decide +kernel
theorem dX5_partKid_79 : decode cX5_partKid 79 = .ok (.iload_n 1, 1) := by decide +kernel
theorem dX5_partKid_80 : decode cX5_partKid 80 = .ok (.invokevirtual 128, 3) := by decide +kernel
theorem dX5_partKid_83 : decode cX5_partKid 83 = .ok (.pop, 1) := by decide +kernel
theorem dX5_partKid_84 : decode cX5_partKid 84 = .ok (.iconst 0, 1) := by decide +kernel
theorem dX5_partKid_85 : decode cX5_partKid 85 = .ok (.istore 6, 2) := by decide +kernel
theorem dX5_partKid_87 : decode cX5_partKid 87 = .ok (.iconst 0, 1) := by decide +kernel
theorem dX5_partKid_88 : decode cX5_partKid 88 = .ok (.istore 7, 2) := by decide +kernel
theorem dX5_partKid_90 : decode cX5_partKid 90 = .ok (.iload 7, 2) := by decide +kernel
theorem dX5_partKid_92 : decode cX5_partKid 92 = .ok (.iload 5, 2) := by decide +kernel
theorem dX5_partKid_94 : decode cX5_partKid 94 = .ok (.if_icmp .ge 56, 3) := by decide +kernel
theorem dX5_partKid_97 : decode cX5_partKid 97 = .ok (.iload 6, 2) := by decide +kernel
theorem dX5_partKid_99 : decode cX5_partKid 99 = .ok (.iload 4, 2) := by decide +kernel
theorem dX5_partKid_101 : decode cX5_partKid 101 = .ok (.iload 6, 2) := by decide +kernel
theorem dX5_partKid_103 : decode cX5_partKid 103 = .ok (.isub, 1) := by decide +kernel
theorem dX5_partKid_104 : decode cX5_partKid 104 = .ok (.iload 5, 2) := by decide +kernel
theorem dX5_partKid_106 : decode cX5_partKid 106 = .ok (.iadd, 1) := by decide +kernel
theorem dX5_partKid_107 : decode cX5_partKid 107 = .ok (.iload 7, 2) := by decide +kernel
theorem dX5_partKid_109 : decode cX5_partKid 109 = .ok (.isub, 1) := by decide +kernel
theorem dX5_partKid_110 : decode cX5_partKid 110 = .ok (.iconst 1, 1) := by decide +kernel
theorem dX5_partKid_111 : decode cX5_partKid 111 = .ok (.isub, 1) := by decide +kernel
theorem dX5_partKid_112 : decode cX5_partKid 112 = .ok (.iload 5, 2) := by decide +kernel
theorem dX5_partKid_114 : decode cX5_partKid 114 = .ok (.iload 7, 2) := by decide +kernel
theorem dX5_partKid_116 : decode cX5_partKid 116 = .ok (.isub, 1) := by decide +kernel
theorem dX5_partKid_117 : decode cX5_partKid 117 = .ok (.idiv, 1) := by decide +kernel
theorem dX5_partKid_118 : decode cX5_partKid 118 = .ok (.iadd, 1) := by decide +kernel
theorem dX5_partKid_119 : decode cX5_partKid 119 = .ok (.istore 8, 2) := by decide +kernel
theorem dX5_partKid_121 : decode cX5_partKid 121 = .ok (.aload_n 0, 1) := by decide +kernel
theorem dX5_partKid_122 : decode cX5_partKid 122 = .ok (.getfield 12, 3) := by decide +kernel
theorem dX5_partKid_125 : decode cX5_partKid 125 = .ok (.iload_n 1, 1) := by decide +kernel
theorem dX5_partKid_126 : decode cX5_partKid 126 = .ok (.iload 7, 2) := by decide +kernel
theorem dX5_partKid_128 : decode cX5_partKid 128 = .ok (.iadd, 1) := by decide +kernel
theorem dX5_partKid_129 : decode cX5_partKid 129 = .ok (.aload_n 2, 1) := by decide +kernel
theorem dX5_partKid_130 : decode cX5_partKid 130 = .ok (.iload 6, 2) := by decide +kernel
theorem dX5_partKid_132 : decode cX5_partKid 132 = .ok (.iload 8, 2) := by decide +kernel
theorem dX5_partKid_134 : decode cX5_partKid 134 = .ok (.invokevirtual 131, 3) := by decide +kernel
theorem dX5_partKid_137 : decode cX5_partKid 137 = .ok (.invokevirtual 135, 3) := by decide +kernel
theorem dX5_partKid_140 : decode cX5_partKid 140 = .ok (.iload 8, 2) := by decide +kernel
theorem dX5_partKid_142 : decode cX5_partKid 142 = .ok (.istore 6, 2) := by decide +kernel
theorem dX5_partKid_144 : decode cX5_partKid 144 = .ok (.iinc 7 1, 3) := by decide +kernel
theorem dX5_partKid_147 : decode cX5_partKid 147 = .ok (.goto (-57), 3) := by decide +kernel
theorem dX5_partKid_150 : decode cX5_partKid 150 = .ok (.return_, 1) := by decide +kernel
theorem dX5_partOf_0 : decode cX5_partOf 0 = .ok (.aload_n 0, 1) := by decide +kernel
theorem dX5_partOf_1 : decode cX5_partOf 1 = .ok (.getfield 25, 3) := by decide +kernel
theorem dX5_partOf_4 : decode cX5_partOf 4 = .ok (.lstore_n 3, 1) := by decide +kernel
theorem dX5_partOf_5 : decode cX5_partOf 5 = .ok (.iload_n 1, 1) := by decide +kernel
theorem dX5_partOf_6 : decode cX5_partOf 6 = .ok (.ifCond .le 53, 3) := by decide +kernel
theorem dX5_partOf_9 : decode cX5_partOf 9 = .ok (.iload_n 1, 1) := by decide +kernel
theorem dX5_partOf_10 : decode cX5_partOf 10 = .ok (.aload_n 0, 1) := by decide +kernel
theorem dX5_partOf_11 : decode cX5_partOf 11 = .ok (.invokevirtual 49, 3) := by decide +kernel
theorem dX5_partOf_14 : decode cX5_partOf 14 = .ok (.if_icmp .ge 45, 3) := by decide +kernel
theorem dX5_partOf_17 : decode cX5_partOf 17 = .ok (.aload_n 0, 1) := by decide +kernel
theorem dX5_partOf_18 : decode cX5_partOf 18 = .ok (.invokevirtual 37, 3) := by decide +kernel
theorem dX5_partOf_21 : decode cX5_partOf 21 = .ok (.ifCond .eq 23, 3) := by decide +kernel
theorem dX5_partOf_24 : decode cX5_partOf 24 = .ok (.aload_n 0, 1) := by decide +kernel
theorem dX5_partOf_25 : decode cX5_partOf 25 = .ok (.getfield 29, 3) := by decide +kernel
theorem dX5_partOf_28 : decode cX5_partOf 28 = .ok (.getfield 40, 3) := by decide +kernel
theorem dX5_partOf_31 : decode cX5_partOf 31 = .ok (.iload_n 1, 1) := by decide +kernel
theorem dX5_partOf_32 : decode cX5_partOf 32 = .ok (.invokevirtual 60, 3) := by decide +kernel
theorem dX5_partOf_35 : decode cX5_partOf 35 = .ok (.checkcast 70, 3) := by decide +kernel
theorem dX5_partOf_38 : decode cX5_partOf 38 = .ok (.getfield 138, 3) := by decide +kernel
theorem dX5_partOf_41 : decode cX5_partOf 41 = .ok (.goto 17, 3) := by decide +kernel
theorem dX5_partOf_44 : decode cX5_partOf 44 = .ok (.aload_n 0, 1) := by decide +kernel
theorem dX5_partOf_45 : decode cX5_partOf 45 = .ok (.getfield 12, 3) := by decide +kernel
theorem dX5_partOf_48 : decode cX5_partOf 48 = .ok (.iload_n 1, 1) := by decide +kernel
theorem dX5_partOf_49 : decode cX5_partOf 49 = .ok (.invokevirtual 60, 3) := by decide +kernel
theorem dX5_partOf_52 : decode cX5_partOf 52 = .ok (.checkcast 13, 3) := by decide +kernel
theorem dX5_partOf_55 : decode cX5_partOf 55 = .ok (.getfield 25, 3) := by decide +kernel
theorem dX5_partOf_58 : decode cX5_partOf 58 = .ok (.lstore_n 3, 1) := by decide +kernel
theorem dX5_partOf_59 : decode cX5_partOf 59 = .ok (.new 13, 3) := by decide +kernel
theorem dX5_partOf_62 : decode cX5_partOf 62 = .ok (.dup, 1) := by decide +kernel
theorem dX5_partOf_63 : decode cX5_partOf 63 = .ok (.lload_n 3, 1) := by decide +kernel
theorem dX5_partOf_64 : decode cX5_partOf 64 = .ok (.new 41, 3) := by decide +kernel
theorem dX5_partOf_67 : decode cX5_partOf 67 = .ok (.dup, 1) := by decide +kernel
theorem dX5_partOf_68 : decode cX5_partOf 68 = .ok (.invokespecial 52, 3) := by decide +kernel
theorem dX5_partOf_71 : decode cX5_partOf 71 = .ok (.invokespecial 53, 3) := by decide +kernel
theorem dX5_partOf_74 : decode cX5_partOf 74 = .ok (.astore 5, 2) := by decide +kernel
theorem dX5_partOf_76 : decode cX5_partOf 76 = .ok (.aload_n 0, 1) := by decide +kernel
theorem dX5_partOf_77 : decode cX5_partOf 77 = .ok (.aload 5, 2) := by decide +kernel
theorem dX5_partOf_79 : decode cX5_partOf 79 = .ok (.iload_n 1, 1) := by decide +kernel
theorem dX5_partOf_80 : decode cX5_partOf 80 = .ok (.iload_n 2, 1) := by decide +kernel
theorem dX5_partOf_81 : decode cX5_partOf 81 = .ok (.invokevirtual 56, 3) := by decide +kernel
theorem dX5_partOf_84 : decode cX5_partOf 84 = .ok (.aload_n 0, 1) := by decide +kernel
theorem dX5_partOf_85 : decode cX5_partOf 85 = .ok (.lload_n 3, 1) := by decide +kernel
theorem dX5_partOf_86 : decode cX5_partOf 86 = .ok (.aload_n 0, 1) := by decide +kernel
theorem dX5_partOf_87 : decode cX5_partOf 87 = .ok (.iload_n 2, 1) := by decide +kernel
theorem dX5_partOf_88 : decode cX5_partOf 88 = .ok (.iconst 1, 1) := by decide +kernel
theorem dX5_partOf_89 : decode cX5_partOf 89 = .ok (.isub, 1) := by decide +kernel
theorem dX5_partOf_90 : decode cX5_partOf 90 = .ok (.invokevirtual 101, 3) := by decide +kernel
theorem dX5_partOf_93 : decode cX5_partOf 93 = .ok (.aload 5, 2) := by decide +kernel
theorem dX5_partOf_95 : decode cX5_partOf 95 = .ok (.getfield 18, 3) := by decide +kernel
theorem dX5_partOf_98 : decode cX5_partOf 98 = .ok (.invokevirtual 139, 3) := by decide +kernel
theorem dX5_partOf_101 : decode cX5_partOf 101 = .ok (.aload 5, 2) := by decide +kernel
theorem dX5_partOf_103 : decode cX5_partOf 103 = .ok (.areturn, 1) := by decide +kernel
theorem dX6_init_0 : decode cX6_init 0 = .ok (.aload_n 0, 1) := by decide +kernel
theorem dX6_init_1 : decode cX6_init 1 = .ok (.invokespecial 1, 3) := by decide +kernel
theorem dX6_init_4 : decode cX6_init 4 = .ok (.aload_n 0, 1) := by decide +kernel
theorem dX6_init_5 : decode cX6_init 5 = .ok (.iload_n 1, 1) := by decide +kernel
theorem dX6_init_6 : decode cX6_init 6 = .ok (.putfield 7, 3) := by decide +kernel
theorem dX6_init_9 : decode cX6_init 9 = .ok (.aload_n 0, 1) := by decide +kernel
theorem dX6_init_10 : decode cX6_init 10 = .ok (.aload_n 2, 1) := by decide +kernel
theorem dX6_init_11 : decode cX6_init 11 = .ok (.putfield 13, 3) := by decide +kernel
theorem dX6_init_14 : decode cX6_init 14 = .ok (.return_, 1) := by decide +kernel
theorem dX7_init_0 : decode cX7_init 0 = .ok (.aload_n 0, 1) := by decide +kernel
theorem dX7_init_1 : decode cX7_init 1 = .ok (.invokespecial 3, 3) := by decide +kernel
theorem dX7_init_4 : decode cX7_init 4 = .ok (.aload_n 0, 1) := by decide +kernel
theorem dX7_init_5 : decode cX7_init 5 = .ok (.bipush 40, 2) := by decide +kernel
theorem dX7_init_7 : decode cX7_init 7 = .ok (.newarray .byte, 2) := by decide +kernel
theorem dX7_init_9 : decode cX7_init 9 = .ok (.putfield 9, 3) := by decide +kernel
theorem dX7_init_12 : decode cX7_init 12 = .ok (.return_, 1) := by decide +kernel
theorem dX7_addBytes_0 : decode cX7_addBytes 0 = .ok (.iload_n 3, 1) := by decide +kernel
theorem dX7_addBytes_1 : decode cX7_addBytes 1 = .ok (.iconst 1, 1) := by decide +kernel
theorem dX7_addBytes_2 : decode cX7_addBytes 2 = .ok (.isub, 1) := by decide +kernel
theorem dX7_addBytes_3 : decode cX7_addBytes 3 = .ok (.istore 4, 2) := by decide +kernel
theorem dX7_addBytes_5 : decode cX7_addBytes 5 = .ok (.iload 4, 2) := by decide +kernel
theorem dX7_addBytes_7 : decode cX7_addBytes 7 = .ok (.ifCond .lt 46, 3) := by decide +kernel
theorem dX7_addBytes_10 : decode cX7_addBytes 10 = .ok (.aload_n 0, 1) := by decide +kernel
theorem dX7_addBytes_11 : decode cX7_addBytes 11 = .ok (.getfield 15, 3) := by decide +kernel
theorem dX7_addBytes_14 : decode cX7_addBytes 14 = .ok (.bipush 40, 2) := by decide +kernel
theorem dX7_addBytes_16 : decode cX7_addBytes 16 = .ok (.if_icmp .ge 37, 3) := by decide +kernel
theorem dX7_addBytes_19 : decode cX7_addBytes 19 = .ok (.aload_n 0, 1) := by decide +kernel
theorem dX7_addBytes_20 : decode cX7_addBytes 20 = .ok (.getfield 9, 3) := by decide +kernel
theorem dX7_addBytes_23 : decode cX7_addBytes 23 = .ok (.aload_n 0, 1) := by decide +kernel
theorem dX7_addBytes_24 : decode cX7_addBytes 24 = .ok (.getfield 15, 3) := by decide +kernel
theorem dX7_addBytes_27 : decode cX7_addBytes 27 = .ok (.lload_n 1, 1) := by decide +kernel
theorem dX7_addBytes_28 : decode cX7_addBytes 28 = .ok (.bipush 8, 2) := by decide +kernel
theorem dX7_addBytes_30 : decode cX7_addBytes 30 = .ok (.iload 4, 2) := by decide +kernel
theorem dX7_addBytes_32 : decode cX7_addBytes 32 = .ok (.imul, 1) := by decide +kernel
theorem dX7_addBytes_33 : decode cX7_addBytes 33 = .ok (.lushr, 1) := by decide +kernel
theorem dX7_addBytes_34 : decode cX7_addBytes 34 = .ok (.l2i, 1) := by decide +kernel
theorem dX7_addBytes_35 : decode cX7_addBytes 35 = .ok (.i2b, 1) := by decide +kernel
theorem dX7_addBytes_36 : decode cX7_addBytes 36 = .ok (.bastore, 1) := by decide +kernel
theorem dX7_addBytes_37 : decode cX7_addBytes 37 = .ok (.aload_n 0, 1) := by decide +kernel
theorem dX7_addBytes_38 : decode cX7_addBytes 38 = .ok (.dup, 1) := by decide +kernel
theorem dX7_addBytes_39 : decode cX7_addBytes 39 = .ok (.getfield 15, 3) := by decide +kernel
theorem dX7_addBytes_42 : decode cX7_addBytes 42 = .ok (.iconst 1, 1) := by decide +kernel
theorem dX7_addBytes_43 : decode cX7_addBytes 43 = .ok (.iadd, 1) := by decide +kernel
theorem dX7_addBytes_44 : decode cX7_addBytes 44 = .ok (.putfield 15, 3) := by decide +kernel
theorem dX7_addBytes_47 : decode cX7_addBytes 47 = .ok (.iinc 4 (-1), 3) := by decide +kernel
theorem dX7_addBytes_50 : decode cX7_addBytes 50 = .ok (.goto (-45), 3) := by decide +kernel
theorem dX7_addBytes_53 : decode cX7_addBytes 53 = .ok (.return_, 1) := by decide +kernel
theorem dX7_part_0 : decode cX7_part 0 = .ok (.iload_n 1, 1) := by decide +kernel
theorem dX7_part_1 : decode cX7_part 1 = .ok (.ifCond .lt 16, 3) := by decide +kernel
theorem dX7_part_4 : decode cX7_part 4 = .ok (.iload_n 1, 1) := by decide +kernel
theorem dX7_part_5 : decode cX7_part 5 = .ok (.iload_n 2, 1) := by decide +kernel
theorem dX7_part_6 : decode cX7_part 6 = .ok (.if_icmp .ge 11, 3) := by decide +kernel
theorem dX7_part_9 : decode cX7_part 9 = .ok (.iload_n 2, 1) := by decide +kernel
theorem dX7_part_10 : decode cX7_part 10 = .ok (.aload_n 0, 1) := by decide +kernel
theorem dX7_part_11 : decode cX7_part 11 = .ok (.getfield 15, 3) := by decide +kernel
theorem dX7_part_14 : decode cX7_part 14 = .ok (.if_icmp .le 7, 3) := by decide +kernel
theorem dX7_part_17 : decode cX7_part 17 = .ok (.getstatic 19, 3) := by decide +kernel
theorem dX7_part_20 : decode cX7_part 20 = .ok (.areturn, 1) := by decide +kernel
theorem dX7_part_21 : decode cX7_part 21 = .ok (.aload_n 0, 1) := by decide +kernel
theorem dX7_part_22 : decode cX7_part 22 = .ok (.getfield 9, 3) := by decide +kernel
theorem dX7_part_25 : decode cX7_part 25 = .ok (.iload_n 1, 1) := by decide +kernel
theorem dX7_part_26 : decode cX7_part 26 = .ok (.iload_n 2, 1) := by decide +kernel
theorem dX7_part_27 : decode cX7_part 27 = .ok (.invokestatic 22, 3) := by decide +kernel
theorem dX7_part_30 : decode cX7_part 30 = .ok (.areturn, 1) := by decide +kernel
theorem dX7_become_0 : decode cX7_become 0 = .ok (.aload_n 0, 1) := by decide +kernel
theorem dX7_become_1 : decode cX7_become 1 = .ok (.aload_n 1, 1) := by decide +kernel
theorem dX7_become_2 : decode cX7_become 2 = .ok (.arraylength, 1) := by decide +kernel
theorem dX7_become_3 : decode cX7_become 3 = .ok (.bipush 40, 2) := by decide +kernel
theorem dX7_become_5 : decode cX7_become 5 = .ok (.invokestatic 28, 3) := by decide +kernel
theorem dX7_become_8 : decode cX7_become 8 = .ok (.putfield 15, 3) := by decide +kernel
theorem dX7_become_11 : decode cX7_become 11 = .ok (.aload_n 1, 1) := by decide +kernel
theorem dX7_become_12 : decode cX7_become 12 = .ok (.iconst 0, 1) := by decide +kernel
theorem dX7_become_13 : decode cX7_become 13 = .ok (.aload_n 0, 1) := by decide +kernel
theorem dX7_become_14 : decode cX7_become 14 = .ok (.getfield 9, 3) := by decide +kernel
theorem dX7_become_17 : decode cX7_become 17 = .ok (.iconst 0, 1) := by decide +kernel
theorem dX7_become_18 : decode cX7_become 18 = .ok (.aload_n 0, 1) := by decide +kernel
theorem dX7_become_19 : decode cX7_become 19 = .ok (.getfield 15, 3) := by decide +kernel
theorem dX7_become_22 : decode cX7_become 22 = .ok (.invokestatic 34, 3) := by decide +kernel
theorem dX7_become_25 : decode cX7_become 25 = .ok (.return_, 1) := by decide +kernel
theorem dX8_init_0 : decode cX8_init 0 = .ok (.aload_n 0, 1) := by decide +kernel
theorem dX8_init_1 : decode cX8_init 1 = .ok (.invokespecial 3, 3) := by decide +kernel
theorem dX8_init_4 : decode cX8_init 4 = .ok (.return_, 1) := by decide +kernel
theorem dX8_sinkRoot_0 : decode cX8_sinkRoot 0 = .ok (.aload_n 0, 1) := by decide +kernel
theorem dX8_sinkRoot_1 : decode cX8_sinkRoot 1 = .ok (.getfield 9, 3) := by decide +kernel
theorem dX8_sinkRoot_4 : decode cX8_sinkRoot 4 = .ok (.getfield 15, 3) := by decide +kernel
theorem dX8_sinkRoot_7 : decode cX8_sinkRoot 7 = .ok (.invokevirtual 21, 3) := by decide +kernel
theorem dX8_sinkRoot_10 : decode cX8_sinkRoot 10 = .ok (.ifCond .eq 5, 3) := by decide +kernel
theorem dX8_sinkRoot_13 : decode cX8_sinkRoot 13 = .ok (.iconst 0, 1) := by decide +kernel
theorem dX8_sinkRoot_14 : decode cX8_sinkRoot 14 = .ok (.ireturn, 1) := by decide +kernel
theorem dX8_sinkRoot_15 : decode cX8_sinkRoot 15 = .ok (.aload_n 0, 1) := by decide +kernel
theorem dX8_sinkRoot_16 : decode cX8_sinkRoot 16 = .ok (.aload_n 0, 1) := by decide +kernel
theorem dX8_sinkRoot_17 : decode cX8_sinkRoot 17 = .ok (.getfield 9, 3) := by decide +kernel
theorem dX8_sinkRoot_20 : decode cX8_sinkRoot 20 = .ok (.invokevirtual 27, 3) := by decide +kernel
theorem dX8_sinkRoot_23 : decode cX8_sinkRoot 23 = .ok (.putfield 9, 3) := by decide +kernel
theorem dX8_sinkRoot_26 : decode cX8_sinkRoot 26 = .ok (.aload_n 0, 1) := by decide +kernel
theorem dX8_sinkRoot_27 : decode cX8_sinkRoot 27 = .ok (.getfield 9, 3) := by decide +kernel
theorem dX8_sinkRoot_30 : decode cX8_sinkRoot 30 = .ok (.iconst 0, 1) := by decide +kernel
theorem dX8_sinkRoot_31 : decode cX8_sinkRoot 31 = .ok (.invokestatic 31, 3) := by decide +kernel
theorem dX8_sinkRoot_34 : decode cX8_sinkRoot 34 = .ok (.istore_n 1, 1) := by decide +kernel
theorem dX8_sinkRoot_35 : decode cX8_sinkRoot 35 = .ok (.aload_n 0, 1) := by decide +kernel
theorem dX8_sinkRoot_36 : decode cX8_sinkRoot 36 = .ok (.invokevirtual 35, 3) := by decide +kernel
theorem dX8_sinkRoot_39 : decode cX8_sinkRoot 39 = .ok (.iload_n 1, 1) := by decide +kernel
theorem dX8_sinkRoot_40 : decode cX8_sinkRoot 40 = .ok (.ireturn, 1) := by decide +kernel
theorem dX8_give_0 : decode cX8_give 0 = .ok (.aload_n 0, 1) := by decide +kernel
theorem dX8_give_1 : decode cX8_give 1 = .ok (.aload_n 1, 1) := by decide +kernel
theorem dX8_give_2 : decode cX8_give 2 = .ok (.invokevirtual 38, 3) := by decide +kernel
theorem dX8_give_5 : decode cX8_give 5 = .ok (.ifCond .ne 5, 3) := by decide +kernel
theorem dX8_give_8 : decode cX8_give 8 = .ok (.aload_n 0, 1) := by decide +kernel
theorem dX8_give_9 : decode cX8_give 9 = .ok (.areturn, 1) := by decide +kernel
theorem dX8_give_10 : decode cX8_give 10 = .ok (.aload_n 0, 1) := by decide +kernel
theorem dX8_give_11 : decode cX8_give 11 = .ok (.invokevirtual 27, 3) := by decide +kernel
theorem dX8_give_14 : decode cX8_give 14 = .ok (.astore_n 3, 1) := by decide +kernel
theorem dX8_give_15 : decode cX8_give 15 = .ok (.aload_n 3, 1) := by decide +kernel
theorem dX8_give_16 : decode cX8_give 16 = .ok (.aload_n 1, 1) := by decide +kernel
theorem dX8_give_17 : decode cX8_give 17 = .ok (.invokevirtual 42, 3) := by decide +kernel
theorem dX8_give_20 : decode cX8_give 20 = .ok (.aload_n 3, 1) := by decide +kernel
theorem dX8_give_21 : decode cX8_give 21 = .ok (.getfield 15, 3) := by decide +kernel
theorem dX8_give_24 : decode cX8_give 24 = .ok (.invokevirtual 46, 3) := by decide +kernel
theorem dX8_give_27 : decode cX8_give 27 = .ok (.istore 4, 2) := by decide +kernel
theorem dX8_give_29 : decode cX8_give 29 = .ok (.iconst 0, 1) := by decide +kernel
theorem dX8_give_30 : decode cX8_give 30 = .ok (.istore 5, 2) := by decide +kernel
theorem dX8_give_32 : decode cX8_give 32 = .ok (.iload 5, 2) := by decide +kernel
theorem dX8_give_34 : decode cX8_give 34 = .ok (.iload 4, 2) := by decide +kernel
theorem dX8_give_36 : decode cX8_give 36 = .ok (.if_icmp .ge 27, 3) := by decide +kernel
theorem dX8_give_39 : decode cX8_give 39 = .ok (.aload_n 3, 1) := by decide +kernel
theorem dX8_give_40 : decode cX8_give 40 = .ok (.getfield 15, 3) := by decide +kernel
theorem dX8_give_43 : decode cX8_give 43 = .ok (.invokevirtual 46, 3) := by decide +kernel
theorem dX8_give_46 : decode cX8_give 46 = .ok (.bipush 8, 2) := by decide +kernel
theorem dX8_give_48 : decode cX8_give 48 = .ok (.if_icmp .le 15, 3) := by decide +kernel
theorem dX8_give_51 : decode cX8_give 51 = .ok (.aload_n 3, 1) := by decide +kernel
theorem dX8_give_52 : decode cX8_give 52 = .ok (.iload_n 2, 1) := by decide +kernel
theorem dX8_give_53 : decode cX8_give 53 = .ok (.invokestatic 31, 3) := by decide +kernel
theorem dX8_give_56 : decode cX8_give 56 = .ok (.pop, 1) := by decide +kernel
theorem dX8_give_57 : decode cX8_give 57 = .ok (.iinc 5 1, 3) := by decide +kernel
theorem dX8_give_60 : decode cX8_give 60 = .ok (.goto (-28), 3) := by decide +kernel
theorem dX8_give_63 : decode cX8_give 63 = .ok (.aload_n 3, 1) := by decide +kernel
theorem dX8_give_64 : decode cX8_give 64 = .ok (.areturn, 1) := by decide +kernel
theorem dX8_sinkPage_0 : decode cX8_sinkPage 0 = .ok (.aload_n 0, 1) := by decide +kernel
theorem dX8_sinkPage_1 : decode cX8_sinkPage 1 = .ok (.invokevirtual 50, 3) := by decide +kernel
theorem dX8_sinkPage_4 : decode cX8_sinkPage 4 = .ok (.istore_n 2, 1) := by decide +kernel
theorem dX8_sinkPage_5 : decode cX8_sinkPage 5 = .ok (.iload_n 1, 1) := by decide +kernel
theorem dX8_sinkPage_6 : decode cX8_sinkPage 6 = .ok (.bipush 40, 2) := by decide +kernel
theorem dX8_sinkPage_8 : decode cX8_sinkPage 8 = .ok (.if_icmp .ge 14, 3) := by decide +kernel
theorem dX8_sinkPage_11 : decode cX8_sinkPage 11 = .ok (.iload_n 2, 1) := by decide +kernel
theorem dX8_sinkPage_12 : decode cX8_sinkPage 12 = .ok (.aload_n 0, 1) := by decide +kernel
theorem dX8_sinkPage_13 : decode cX8_sinkPage 13 = .ok (.getfield 53, 3) := by decide +kernel
theorem dX8_sinkPage_16 : decode cX8_sinkPage 16 = .ok (.invokevirtual 46, 3) := by decide +kernel
theorem dX8_sinkPage_19 : decode cX8_sinkPage 19 = .ok (.if_icmp .lt 5, 3) := by decide +kernel
theorem dX8_sinkPage_22 : decode cX8_sinkPage 22 = .ok (.iconst 0, 1) := by decide +kernel
theorem dX8_sinkPage_23 : decode cX8_sinkPage 23 = .ok (.ireturn, 1) := by decide +kernel
theorem dX8_sinkPage_24 : decode cX8_sinkPage 24 = .ok (.aload_n 0, 1) := by decide +kernel
theorem dX8_sinkPage_25 : decode cX8_sinkPage 25 = .ok (.getfield 53, 3) := by decide +kernel
theorem dX8_sinkPage_28 : decode cX8_sinkPage 28 = .ok (.iload_n 2, 1) := by decide +kernel
theorem dX8_sinkPage_29 : decode cX8_sinkPage 29 = .ok (.invokevirtual 56, 3) := by decide +kernel
theorem dX8_sinkPage_32 : decode cX8_sinkPage 32 = .ok (.checkcast 16, 3) := by decide +kernel
theorem dX8_sinkPage_35 : decode cX8_sinkPage 35 = .ok (.astore_n 3, 1) := by decide +kernel
theorem dX8_sinkPage_36 : decode cX8_sinkPage 36 = .ok (.new 22, 3) := by decide +kernel
theorem dX8_sinkPage_39 : decode cX8_sinkPage 39 = .ok (.dup, 1) := by decide +kernel
theorem dX8_sinkPage_40 : decode cX8_sinkPage 40 = .ok (.invokespecial 60, 3) := by decide +kernel
theorem dX8_sinkPage_43 : decode cX8_sinkPage 43 = .ok (.astore 4, 2) := by decide +kernel
theorem dX8_sinkPage_45 : decode cX8_sinkPage 45 = .ok (.aload_n 0, 1) := by decide +kernel
theorem dX8_sinkPage_46 : decode cX8_sinkPage 46 = .ok (.aload_n 3, 1) := by decide +kernel
theorem dX8_sinkPage_47 : decode cX8_sinkPage 47 = .ok (.getfield 61, 3) := by decide +kernel
theorem dX8_sinkPage_50 : decode cX8_sinkPage 50 = .ok (.aload_n 0, 1) := by decide +kernel
theorem dX8_sinkPage_51 : decode cX8_sinkPage 51 = .ok (.iload_n 2, 1) := by decide +kernel
theorem dX8_sinkPage_52 : decode cX8_sinkPage 52 = .ok (.invokevirtual 65, 3) := by decide +kernel
theorem dX8_sinkPage_55 : decode cX8_sinkPage 55 = .ok (.aload 4, 2) := by decide +kernel
theorem dX8_sinkPage_57 : decode cX8_sinkPage 57 = .ok (.invokevirtual 69, 3) := by decide +kernel
theorem dX8_sinkPage_60 : decode cX8_sinkPage 60 = .ok (.aload_n 0, 1) := by decide +kernel
theorem dX8_sinkPage_61 : decode cX8_sinkPage 61 = .ok (.getfield 53, 3) := by decide +kernel
theorem dX8_sinkPage_64 : decode cX8_sinkPage 64 = .ok (.iload_n 2, 1) := by decide +kernel
theorem dX8_sinkPage_65 : decode cX8_sinkPage 65 = .ok (.aload_n 3, 1) := by decide +kernel
theorem dX8_sinkPage_66 : decode cX8_sinkPage 66 = .ok (.aload 4, 2) := by decide +kernel
theorem dX8_sinkPage_68 : decode cX8_sinkPage 68 = .ok (.iload_n 1, 1) := by decide +kernel
theorem dX8_sinkPage_69 : decode cX8_sinkPage 69 = .ok (.iconst 1, 1) := by decide +kernel
theorem dX8_sinkPage_70 : decode cX8_sinkPage 70 = .ok (.iadd, 1) := by decide +kernel
theorem dX8_sinkPage_71 : decode cX8_sinkPage 71 = .ok (.invokestatic 73, 3) := by decide +kernel
theorem dX8_sinkPage_74 : decode cX8_sinkPage 74 = .ok (.invokevirtual 77, 3) := by decide +kernel
theorem dX8_sinkPage_77 : decode cX8_sinkPage 77 = .ok (.pop, 1) := by decide +kernel
theorem dX8_sinkPage_78 : decode cX8_sinkPage 78 = .ok (.aload_n 0, 1) := by decide +kernel
theorem dX8_sinkPage_79 : decode cX8_sinkPage 79 = .ok (.iload_n 2, 1) := by decide +kernel
theorem dX8_sinkPage_80 : decode cX8_sinkPage 80 = .ok (.invokevirtual 81, 3) := by decide +kernel
theorem dX8_sinkPage_83 : decode cX8_sinkPage 83 = .ok (.aload 4, 2) := by decide +kernel
theorem dX8_sinkPage_85 : decode cX8_sinkPage 85 = .ok (.invokevirtual 46, 3) := by decide +kernel
theorem dX8_sinkPage_88 : decode cX8_sinkPage 88 = .ok (.ireturn, 1) := by decide +kernel
theorem dX8_partRoot_0 : decode cX8_partRoot 0 = .ok (.iconst 0, 1) := by decide +kernel
theorem dX8_partRoot_1 : decode cX8_partRoot 1 = .ok (.istore_n 1, 1) := by decide +kernel
theorem dX8_partRoot_2 : decode cX8_partRoot 2 = .ok (.iload_n 1, 1) := by decide +kernel
theorem dX8_partRoot_3 : decode cX8_partRoot 3 = .ok (.bipush 40, 2) := by decide +kernel
theorem dX8_partRoot_5 : decode cX8_partRoot 5 = .ok (.if_icmp .ge 59, 3) := by decide +kernel
theorem dX8_partRoot_8 : decode cX8_partRoot 8 = .ok (.aload_n 0, 1) := by decide +kernel
theorem dX8_partRoot_9 : decode cX8_partRoot 9 = .ok (.getfield 9, 3) := by decide +kernel
theorem dX8_partRoot_12 : decode cX8_partRoot 12 = .ok (.invokevirtual 85, 3) := by decide +kernel
theorem dX8_partRoot_15 : decode cX8_partRoot 15 = .ok (.ifCond .eq 49, 3) := by decide +kernel
theorem dX8_partRoot_18 : decode cX8_partRoot 18 = .ok (.new 16, 3) := by decide +kernel
theorem dX8_partRoot_21 : decode cX8_partRoot 21 = .ok (.dup, 1) := by decide +kernel
theorem dX8_partRoot_22 : decode cX8_partRoot 22 = .ok (.ldc2_w 88, 3) := by decide +kernel
theorem dX8_partRoot_25 : decode cX8_partRoot 25 = .ok (.new 90, 3) := by decide +kernel
theorem dX8_partRoot_28 : decode cX8_partRoot 28 = .ok (.dup, 1) := by decide +kernel
theorem dX8_partRoot_29 : decode cX8_partRoot 29 = .ok (.invokespecial 92, 3) := by decide +kernel
theorem dX8_partRoot_32 : decode cX8_partRoot 32 = .ok (.invokespecial 93, 3) := by decide +kernel
theorem dX8_partRoot_35 : decode cX8_partRoot 35 = .ok (.astore_n 2, 1) := by decide +kernel
theorem dX8_partRoot_36 : decode cX8_partRoot 36 = .ok (.aload_n 2, 1) := by decide +kernel
theorem dX8_partRoot_37 : decode cX8_partRoot 37 = .ok (.getfield 53, 3) := by decide +kernel
theorem dX8_partRoot_40 : decode cX8_partRoot 40 = .ok (.aload_n 0, 1) := by decide +kernel
theorem dX8_partRoot_41 : decode cX8_partRoot 41 = .ok (.getfield 9, 3) := by decide +kernel
theorem dX8_partRoot_44 : decode cX8_partRoot 44 = .ok (.invokevirtual 96, 3) := by decide +kernel
theorem dX8_partRoot_47 : decode cX8_partRoot 47 = .ok (.pop, 1) := by decide +kernel
theorem dX8_partRoot_48 : decode cX8_partRoot 48 = .ok (.aload_n 2, 1) := by decide +kernel
theorem dX8_partRoot_49 : decode cX8_partRoot 49 = .ok (.iconst 0, 1) := by decide +kernel
theorem dX8_partRoot_50 : decode cX8_partRoot 50 = .ok (.invokevirtual 81, 3) := by decide +kernel
theorem dX8_partRoot_53 : decode cX8_partRoot 53 = .ok (.aload_n 0, 1) := by decide +kernel
theorem dX8_partRoot_54 : decode cX8_partRoot 54 = .ok (.aload_n 2, 1) := by decide +kernel
theorem dX8_partRoot_55 : decode cX8_partRoot 55 = .ok (.putfield 9, 3) := by decide +kernel
theorem dX8_partRoot_58 : decode cX8_partRoot 58 = .ok (.iinc 1 1, 3) := by decide +kernel
theorem dX8_partRoot_61 : decode cX8_partRoot 61 = .ok (.goto (-59), 3) := by decide +kernel
theorem dX8_partRoot_64 : decode cX8_partRoot 64 = .ok (.return_, 1) := by decide +kernel
theorem dX8_settleAll_0 : decode cX8_settleAll 0 = .ok (.iconst 0, 1) := by decide +kernel
theorem dX8_settleAll_1 : decode cX8_settleAll 1 = .ok (.istore_n 1, 1) := by decide +kernel
theorem dX8_settleAll_2 : decode cX8_settleAll 2 = .ok (.iconst 1, 1) := by decide +kernel
theorem dX8_settleAll_3 : decode cX8_settleAll 3 = .ok (.istore_n 2, 1) := by decide +kernel
theorem dX8_settleAll_4 : decode cX8_settleAll 4 = .ok (.iconst 0, 1) := by decide +kernel
theorem dX8_settleAll_5 : decode cX8_settleAll 5 = .ok (.istore_n 3, 1) := by decide +kernel
theorem dX8_settleAll_6 : decode cX8_settleAll 6 = .ok (.iload_n 3, 1) := by decide +kernel
theorem dX8_settleAll_7 : decode cX8_settleAll 7 = .ok (.ldc 100, 2) := by decide +kernel
theorem dX8_settleAll_9 : decode cX8_settleAll 9 = .ok (.if_icmp .ge 52, 3) := by decide +kernel
theorem dX8_settleAll_12 : decode cX8_settleAll 12 = .ok (.iload_n 2, 1) := by decide +kernel
theorem dX8_settleAll_13 : decode cX8_settleAll 13 = .ok (.ifCond .le 48, 3) := by decide +kernel
theorem dX8_settleAll_16 : decode cX8_settleAll 16 = .ok (.aload_n 0, 1) := by decide +kernel
theorem dX8_settleAll_17 : decode cX8_settleAll 17 = .ok (.getfield 9, 3) := by decide +kernel
theorem dX8_settleAll_20 : decode cX8_settleAll 20 = .ok (.iconst 0, 1) := by decide +kernel
theorem dX8_settleAll_21 : decode cX8_settleAll 21 = .ok (.invokestatic 101, 3) := by decide +kernel
theorem dX8_settleAll_24 : decode cX8_settleAll 24 = .ok (.ifCond .le 37, 3) := by decide +kernel
theorem dX8_settleAll_27 : decode cX8_settleAll 27 = .ok (.aload_n 0, 1) := by decide +kernel
theorem dX8_settleAll_28 : decode cX8_settleAll 28 = .ok (.aload_n 0, 1) := by decide +kernel
theorem dX8_settleAll_29 : decode cX8_settleAll 29 = .ok (.getfield 9, 3) := by decide +kernel
theorem dX8_settleAll_32 : decode cX8_settleAll 32 = .ok (.invokevirtual 27, 3) := by decide +kernel
theorem dX8_settleAll_35 : decode cX8_settleAll 35 = .ok (.putfield 9, 3) := by decide +kernel
theorem dX8_settleAll_38 : decode cX8_settleAll 38 = .ok (.aload_n 0, 1) := by decide +kernel
theorem dX8_settleAll_39 : decode cX8_settleAll 39 = .ok (.getfield 9, 3) := by decide +kernel
theorem dX8_settleAll_42 : decode cX8_settleAll 42 = .ok (.iconst 0, 1) := by decide +kernel
theorem dX8_settleAll_43 : decode cX8_settleAll 43 = .ok (.invokestatic 104, 3) := by decide +kernel
theorem dX8_settleAll_46 : decode cX8_settleAll 46 = .ok (.istore_n 2, 1) := by decide +kernel
theorem dX8_settleAll_47 : decode cX8_settleAll 47 = .ok (.iload_n 1, 1) := by decide +kernel
theorem dX8_settleAll_48 : decode cX8_settleAll 48 = .ok (.iload_n 2, 1) := by decide +kernel
theorem dX8_settleAll_49 : decode cX8_settleAll 49 = .ok (.iadd, 1) := by decide +kernel
theorem dX8_settleAll_50 : decode cX8_settleAll 50 = .ok (.istore_n 1, 1) := by decide +kernel
theorem dX8_settleAll_51 : decode cX8_settleAll 51 = .ok (.aload_n 0, 1) := by decide +kernel
theorem dX8_settleAll_52 : decode cX8_settleAll 52 = .ok (.invokevirtual 35, 3) := by decide +kernel
theorem dX8_settleAll_55 : decode cX8_settleAll 55 = .ok (.iinc 3 1, 3) := by decide +kernel
theorem dX8_settleAll_58 : decode cX8_settleAll 58 = .ok (.goto (-52), 3) := by decide +kernel
theorem dX8_settleAll_61 : decode cX8_settleAll 61 = .ok (.iload_n 1, 1) := by decide +kernel
theorem dX8_settleAll_62 : decode cX8_settleAll 62 = .ok (.ireturn, 1) := by decide +kernel
theorem dX8_settleBelow_0 : decode cX8_settleBelow 0 = .ok (.iload_n 1, 1) := by decide +kernel
theorem dX8_settleBelow_1 : decode cX8_settleBelow 1 = .ok (.bipush 40, 2) := by decide +kernel
theorem dX8_settleBelow_3 : decode cX8_settleBelow 3 = .ok (.if_icmp .lt 5, 3) := by decide +kernel
theorem dX8_settleBelow_6 : decode cX8_settleBelow 6 = .ok (.iconst 0, 1) := by decide +kernel
theorem dX8_settleBelow_7 : decode cX8_settleBelow 7 = .ok (.ireturn, 1) := by decide +kernel
theorem dX8_settleBelow_8 : decode cX8_settleBelow 8 = .ok (.iconst 0, 1) := by decide +kernel
theorem dX8_settleBelow_9 : decode cX8_settleBelow 9 = .ok (.istore_n 2, 1) := by decide +kernel
theorem dX8_settleBelow_10 : decode cX8_settleBelow 10 = .ok (.aload_n 0, 1) := by decide +kernel
theorem dX8_settleBelow_11 : decode cX8_settleBelow 11 = .ok (.getfield 15, 3) := by decide +kernel
theorem dX8_settleBelow_14 : decode cX8_settleBelow 14 = .ok (.invokevirtual 46, 3) := by decide +kernel
theorem dX8_settleBelow_17 : decode cX8_settleBelow 17 = .ok (.istore_n 3, 1) := by decide +kernel
theorem dX8_settleBelow_18 : decode cX8_settleBelow 18 = .ok (.iconst 0, 1) := by decide +kernel
theorem dX8_settleBelow_19 : decode cX8_settleBelow 19 = .ok (.istore 4, 2) := by decide +kernel
theorem dX8_settleBelow_21 : decode cX8_settleBelow 21 = .ok (.iload 4, 2) := by decide +kernel
theorem dX8_settleBelow_23 : decode cX8_settleBelow 23 = .ok (.iload_n 3, 1) := by decide +kernel
theorem dX8_settleBelow_24 : decode cX8_settleBelow 24 = .ok (.if_icmp .ge 35, 3) := by decide +kernel
theorem dX8_settleBelow_27 : decode cX8_settleBelow 27 = .ok (.aload_n 0, 1) := by decide +kernel
theorem dX8_settleBelow_28 : decode cX8_settleBelow 28 = .ok (.getfield 15, 3) := by decide +kernel
theorem dX8_settleBelow_31 : decode cX8_settleBelow 31 = .ok (.invokevirtual 21, 3) := by decide +kernel
theorem dX8_settleBelow_34 : decode cX8_settleBelow 34 = .ok (.ifCond .ne 25, 3) := by decide +kernel
theorem dX8_settleBelow_37 : decode cX8_settleBelow 37 = .ok (.aload_n 0, 1) := by decide +kernel
theorem dX8_settleBelow_38 : decode cX8_settleBelow 38 = .ok (.invokevirtual 85, 3) := by decide +kernel
theorem dX8_settleBelow_41 : decode cX8_settleBelow 41 = .ok (.ifCond .ne 18, 3) := by decide +kernel
theorem dX8_settleBelow_44 : decode cX8_settleBelow 44 = .ok (.aload_n 0, 1) := by decide +kernel
theorem dX8_settleBelow_45 : decode cX8_settleBelow 45 = .ok (.iload_n 1, 1) := by decide +kernel
theorem dX8_settleBelow_46 : decode cX8_settleBelow 46 = .ok (.invokestatic 31, 3) := by decide +kernel
theorem dX8_settleBelow_49 : decode cX8_settleBelow 49 = .ok (.pop, 1) := by decide +kernel
theorem dX8_settleBelow_50 : decode cX8_settleBelow 50 = .ok (.iinc 2 1, 3) := by decide +kernel
theorem dX8_settleBelow_53 : decode cX8_settleBelow 53 = .ok (.iinc 4 1, 3) := by decide +kernel
theorem dX8_settleBelow_56 : decode cX8_settleBelow 56 = .ok (.goto (-35), 3) := by decide +kernel
theorem dX8_settleBelow_59 : decode cX8_settleBelow 59 = .ok (.iconst 0, 1) := by decide +kernel
theorem dX8_settleBelow_60 : decode cX8_settleBelow 60 = .ok (.istore 4, 2) := by decide +kernel
theorem dX8_settleBelow_62 : decode cX8_settleBelow 62 = .ok (.iconst 0, 1) := by decide +kernel
theorem dX8_settleBelow_63 : decode cX8_settleBelow 63 = .ok (.istore 5, 2) := by decide +kernel
theorem dX8_settleBelow_65 : decode cX8_settleBelow 65 = .ok (.iload 5, 2) := by decide +kernel
theorem dX8_settleBelow_67 : decode cX8_settleBelow 67 = .ok (.ldc 100, 2) := by decide +kernel
theorem dX8_settleBelow_69 : decode cX8_settleBelow 69 = .ok (.if_icmp .ge 50, 3) := by decide +kernel
theorem dX8_settleBelow_72 : decode cX8_settleBelow 72 = .ok (.iload 4, 2) := by decide +kernel
theorem dX8_settleBelow_74 : decode cX8_settleBelow 74 = .ok (.aload_n 0, 1) := by decide +kernel
theorem dX8_settleBelow_75 : decode cX8_settleBelow 75 = .ok (.getfield 53, 3) := by decide +kernel
theorem dX8_settleBelow_78 : decode cX8_settleBelow 78 = .ok (.invokevirtual 46, 3) := by decide +kernel
theorem dX8_settleBelow_81 : decode cX8_settleBelow 81 = .ok (.if_icmp .ge 38, 3) := by decide +kernel
theorem dX8_settleBelow_84 : decode cX8_settleBelow 84 = .ok (.aload_n 0, 1) := by decide +kernel
theorem dX8_settleBelow_85 : decode cX8_settleBelow 85 = .ok (.invokevirtual 85, 3) := by decide +kernel
theorem dX8_settleBelow_88 : decode cX8_settleBelow 88 = .ok (.ifCond .ne 31, 3) := by decide +kernel
theorem dX8_settleBelow_91 : decode cX8_settleBelow 91 = .ok (.aload_n 0, 1) := by decide +kernel
theorem dX8_settleBelow_92 : decode cX8_settleBelow 92 = .ok (.iload 4, 2) := by decide +kernel
theorem dX8_settleBelow_94 : decode cX8_settleBelow 94 = .ok (.iload_n 1, 1) := by decide +kernel
theorem dX8_settleBelow_95 : decode cX8_settleBelow 95 = .ok (.invokestatic 107, 3) := by decide +kernel
theorem dX8_settleBelow_98 : decode cX8_settleBelow 98 = .ok (.istore 6, 2) := by decide +kernel
theorem dX8_settleBelow_100 : decode cX8_settleBelow 100 = .ok (.iload_n 2, 1) := by decide +kernel
theorem dX8_settleBelow_101 : decode cX8_settleBelow 101 = .ok (.iload 6, 2) := by decide +kernel
theorem dX8_settleBelow_103 : decode cX8_settleBelow 103 = .ok (.iadd, 1) := by decide +kernel
theorem dX8_settleBelow_104 : decode cX8_settleBelow 104 = .ok (.istore_n 2, 1) := by decide +kernel
theorem dX8_settleBelow_105 : decode cX8_settleBelow 105 = .ok (.iload 6, 2) := by decide +kernel
theorem dX8_settleBelow_107 : decode cX8_settleBelow 107 = .ok (.ifCond .ne 6, 3) := by decide +kernel
theorem dX8_settleBelow_110 : decode cX8_settleBelow 110 = .ok (.iinc 4 1, 3) := by decide +kernel
theorem dX8_settleBelow_113 : decode cX8_settleBelow 113 = .ok (.iinc 5 1, 3) := by decide +kernel
theorem dX8_settleBelow_116 : decode cX8_settleBelow 116 = .ok (.goto (-51), 3) := by decide +kernel
theorem dX8_settleBelow_119 : decode cX8_settleBelow 119 = .ok (.iload_n 2, 1) := by decide +kernel
theorem dX8_settleBelow_120 : decode cX8_settleBelow 120 = .ok (.ireturn, 1) := by decide +kernel
theorem dX8_settleKid_0 : decode cX8_settleKid 0 = .ok (.iload_n 1, 1) := by decide +kernel
theorem dX8_settleKid_1 : decode cX8_settleKid 1 = .ok (.aload_n 0, 1) := by decide +kernel
theorem dX8_settleKid_2 : decode cX8_settleKid 2 = .ok (.getfield 53, 3) := by decide +kernel
theorem dX8_settleKid_5 : decode cX8_settleKid 5 = .ok (.invokevirtual 46, 3) := by decide +kernel
theorem dX8_settleKid_8 : decode cX8_settleKid 8 = .ok (.if_icmp .ge 21, 3) := by decide +kernel
theorem dX8_settleKid_11 : decode cX8_settleKid 11 = .ok (.aload_n 0, 1) := by decide +kernel
theorem dX8_settleKid_12 : decode cX8_settleKid 12 = .ok (.getfield 53, 3) := by decide +kernel
theorem dX8_settleKid_15 : decode cX8_settleKid 15 = .ok (.iload_n 1, 1) := by decide +kernel
theorem dX8_settleKid_16 : decode cX8_settleKid 16 = .ok (.invokevirtual 56, 3) := by decide +kernel
theorem dX8_settleKid_19 : decode cX8_settleKid 19 = .ok (.checkcast 16, 3) := by decide +kernel
theorem dX8_settleKid_22 : decode cX8_settleKid 22 = .ok (.iconst 0, 1) := by decide +kernel
theorem dX8_settleKid_23 : decode cX8_settleKid 23 = .ok (.invokestatic 101, 3) := by decide +kernel
theorem dX8_settleKid_26 : decode cX8_settleKid 26 = .ok (.ifCond .ne 5, 3) := by decide +kernel
theorem dX8_settleKid_29 : decode cX8_settleKid 29 = .ok (.iconst 0, 1) := by decide +kernel
theorem dX8_settleKid_30 : decode cX8_settleKid 30 = .ok (.ireturn, 1) := by decide +kernel
theorem dX8_settleKid_31 : decode cX8_settleKid 31 = .ok (.aload_n 0, 1) := by decide +kernel
theorem dX8_settleKid_32 : decode cX8_settleKid 32 = .ok (.getfield 53, 3) := by decide +kernel
theorem dX8_settleKid_35 : decode cX8_settleKid 35 = .ok (.iload_n 1, 1) := by decide +kernel
theorem dX8_settleKid_36 : decode cX8_settleKid 36 = .ok (.invokevirtual 56, 3) := by decide +kernel
theorem dX8_settleKid_39 : decode cX8_settleKid 39 = .ok (.checkcast 16, 3) := by decide +kernel
theorem dX8_settleKid_42 : decode cX8_settleKid 42 = .ok (.invokevirtual 27, 3) := by decide +kernel
theorem dX8_settleKid_45 : decode cX8_settleKid 45 = .ok (.astore_n 3, 1) := by decide +kernel
theorem dX8_settleKid_46 : decode cX8_settleKid 46 = .ok (.aload_n 0, 1) := by decide +kernel
theorem dX8_settleKid_47 : decode cX8_settleKid 47 = .ok (.getfield 53, 3) := by decide +kernel
theorem dX8_settleKid_50 : decode cX8_settleKid 50 = .ok (.iload_n 1, 1) := by decide +kernel
theorem dX8_settleKid_51 : decode cX8_settleKid 51 = .ok (.aload_n 3, 1) := by decide +kernel
theorem dX8_settleKid_52 : decode cX8_settleKid 52 = .ok (.invokevirtual 77, 3) := by decide +kernel
theorem dX8_settleKid_55 : decode cX8_settleKid 55 = .ok (.pop, 1) := by decide +kernel
theorem dX8_settleKid_56 : decode cX8_settleKid 56 = .ok (.aload_n 3, 1) := by decide +kernel
theorem dX8_settleKid_57 : decode cX8_settleKid 57 = .ok (.iload_n 2, 1) := by decide +kernel
theorem dX8_settleKid_58 : decode cX8_settleKid 58 = .ok (.iconst 1, 1) := by decide +kernel
theorem dX8_settleKid_59 : decode cX8_settleKid 59 = .ok (.iadd, 1) := by decide +kernel
theorem dX8_settleKid_60 : decode cX8_settleKid 60 = .ok (.invokestatic 104, 3) := by decide +kernel
theorem dX8_settleKid_63 : decode cX8_settleKid 63 = .ok (.istore 4, 2) := by decide +kernel
theorem dX8_settleKid_65 : decode cX8_settleKid 65 = .ok (.aload_n 0, 1) := by decide +kernel
theorem dX8_settleKid_66 : decode cX8_settleKid 66 = .ok (.iload_n 1, 1) := by decide +kernel
theorem dX8_settleKid_67 : decode cX8_settleKid 67 = .ok (.invokevirtual 81, 3) := by decide +kernel
theorem dX8_settleKid_70 : decode cX8_settleKid 70 = .ok (.iload 4, 2) := by decide +kernel
theorem dX8_settleKid_72 : decode cX8_settleKid 72 = .ok (.ireturn, 1) := by decide +kernel
theorem dX8_levels_0 : decode cX8_levels 0 = .ok (.iconst 1, 1) := by decide +kernel
theorem dX8_levels_1 : decode cX8_levels 1 = .ok (.istore_n 1, 1) := by decide +kernel
theorem dX8_levels_2 : decode cX8_levels 2 = .ok (.aload_n 0, 1) := by decide +kernel
theorem dX8_levels_3 : decode cX8_levels 3 = .ok (.getfield 9, 3) := by decide +kernel
theorem dX8_levels_6 : decode cX8_levels 6 = .ok (.astore_n 2, 1) := by decide +kernel
theorem dX8_levels_7 : decode cX8_levels 7 = .ok (.iconst 0, 1) := by decide +kernel
theorem dX8_levels_8 : decode cX8_levels 8 = .ok (.istore_n 3, 1) := by decide +kernel
theorem dX8_levels_9 : decode cX8_levels 9 = .ok (.iload_n 3, 1) := by decide +kernel
theorem dX8_levels_10 : decode cX8_levels 10 = .ok (.bipush 40, 2) := by decide +kernel
theorem dX8_levels_12 : decode cX8_levels 12 = .ok (.if_icmp .ge 31, 3) := by decide +kernel
theorem dX8_levels_15 : decode cX8_levels 15 = .ok (.aload_n 2, 1) := by decide +kernel
theorem dX8_levels_16 : decode cX8_levels 16 = .ok (.invokevirtual 111, 3) := by decide +kernel
theorem dX8_levels_19 : decode cX8_levels 19 = .ok (.ifCond .ne 24, 3) := by decide +kernel
theorem dX8_levels_22 : decode cX8_levels 22 = .ok (.aload_n 2, 1) := by decide +kernel
theorem dX8_levels_23 : decode cX8_levels 23 = .ok (.getfield 53, 3) := by decide +kernel
theorem dX8_levels_26 : decode cX8_levels 26 = .ok (.iconst 0, 1) := by decide +kernel
theorem dX8_levels_27 : decode cX8_levels 27 = .ok (.invokevirtual 56, 3) := by decide +kernel
theorem dX8_levels_30 : decode cX8_levels 30 = .ok (.checkcast 16, 3) := by decide +kernel
theorem dX8_levels_33 : decode cX8_levels 33 = .ok (.astore_n 2, 1) := by decide +kernel
theorem dX8_levels_34 : decode cX8_levels 34 = .ok (.iinc 1 1, 3) := by decide +kernel
theorem dX8_levels_37 : decode cX8_levels 37 = .ok (.iinc 3 1, 3) := by decide +kernel
theorem dX8_levels_40 : decode cX8_levels 40 = .ok (.goto (-31), 3) := by decide +kernel
theorem dX8_levels_43 : decode cX8_levels 43 = .ok (.iload_n 1, 1) := by decide +kernel
theorem dX8_levels_44 : decode cX8_levels 44 = .ok (.ireturn, 1) := by decide +kernel
theorem dX8_lettersOnWay_0 : decode cX8_lettersOnWay 0 = .ok (.iconst 0, 1) := by decide +kernel
theorem dX8_lettersOnWay_1 : decode cX8_lettersOnWay 1 = .ok (.istore_n 3, 1) := by decide +kernel
theorem dX8_lettersOnWay_2 : decode cX8_lettersOnWay 2 = .ok (.aload_n 0, 1) := by decide +kernel
theorem dX8_lettersOnWay_3 : decode cX8_lettersOnWay 3 = .ok (.getfield 9, 3) := by decide +kernel
theorem dX8_lettersOnWay_6 : decode cX8_lettersOnWay 6 = .ok (.astore 4, 2) := by decide +kernel
theorem dX8_lettersOnWay_8 : decode cX8_lettersOnWay 8 = .ok (.iconst 0, 1) := by decide +kernel
theorem dX8_lettersOnWay_9 : decode cX8_lettersOnWay 9 = .ok (.istore 5, 2) := by decide +kernel
theorem dX8_lettersOnWay_11 : decode cX8_lettersOnWay 11 = .ok (.iload 5, 2) := by decide +kernel
theorem dX8_lettersOnWay_13 : decode cX8_lettersOnWay 13 = .ok (.bipush 40, 2) := by decide +kernel
theorem dX8_lettersOnWay_15 : decode cX8_lettersOnWay 15 = .ok (.if_icmp .ge 81, 3) := by decide +kernel
theorem dX8_lettersOnWay_18 : decode cX8_lettersOnWay 18 = .ok (.aload 4, 2) := by decide +kernel
theorem dX8_lettersOnWay_20 : decode cX8_lettersOnWay 20 = .ok (.invokevirtual 111, 3) := by decide +kernel
theorem dX8_lettersOnWay_23 : decode cX8_lettersOnWay 23 = .ok (.ifCond .ne 73, 3) := by decide +kernel
theorem dX8_lettersOnWay_26 : decode cX8_lettersOnWay 26 = .ok (.iconst 0, 1) := by decide +kernel
theorem dX8_lettersOnWay_27 : decode cX8_lettersOnWay 27 = .ok (.istore 6, 2) := by decide +kernel
theorem dX8_lettersOnWay_29 : decode cX8_lettersOnWay 29 = .ok (.iload 6, 2) := by decide +kernel
theorem dX8_lettersOnWay_31 : decode cX8_lettersOnWay 31 = .ok (.aload 4, 2) := by decide +kernel
theorem dX8_lettersOnWay_33 : decode cX8_lettersOnWay 33 = .ok (.getfield 15, 3) := by decide +kernel
theorem dX8_lettersOnWay_36 : decode cX8_lettersOnWay 36 = .ok (.invokevirtual 46, 3) := by decide +kernel
theorem dX8_lettersOnWay_39 : decode cX8_lettersOnWay 39 = .ok (.if_icmp .ge 32, 3) := by decide +kernel
theorem dX8_lettersOnWay_42 : decode cX8_lettersOnWay 42 = .ok (.aload 4, 2) := by decide +kernel
theorem dX8_lettersOnWay_44 : decode cX8_lettersOnWay 44 = .ok (.getfield 15, 3) := by decide +kernel
theorem dX8_lettersOnWay_47 : decode cX8_lettersOnWay 47 = .ok (.iload 6, 2) := by decide +kernel
theorem dX8_lettersOnWay_49 : decode cX8_lettersOnWay 49 = .ok (.invokevirtual 56, 3) := by decide +kernel
theorem dX8_lettersOnWay_52 : decode cX8_lettersOnWay 52 = .ok (.checkcast 114, 3) := by decide +kernel
theorem dX8_lettersOnWay_55 : decode cX8_lettersOnWay 55 = .ok (.lload_n 1, 1) := by decide +kernel
theorem dX8_lettersOnWay_56 : decode cX8_lettersOnWay 56 = .ok (.invokevirtual 116, 3) := by decide +kernel
theorem dX8_lettersOnWay_59 : decode cX8_lettersOnWay 59 = .ok (.ifCond .eq 6, 3) := by decide +kernel
theorem dX8_lettersOnWay_62 : decode cX8_lettersOnWay 62 = .ok (.iinc 3 1, 3) := by decide +kernel
theorem dX8_lettersOnWay_65 : decode cX8_lettersOnWay 65 = .ok (.iinc 6 1, 3) := by decide +kernel
theorem dX8_lettersOnWay_68 : decode cX8_lettersOnWay 68 = .ok (.goto (-39), 3) := by decide +kernel
theorem dX8_lettersOnWay_71 : decode cX8_lettersOnWay 71 = .ok (.aload 4, 2) := by decide +kernel
theorem dX8_lettersOnWay_73 : decode cX8_lettersOnWay 73 = .ok (.getfield 53, 3) := by decide +kernel
theorem dX8_lettersOnWay_76 : decode cX8_lettersOnWay 76 = .ok (.aload 4, 2) := by decide +kernel
theorem dX8_lettersOnWay_78 : decode cX8_lettersOnWay 78 = .ok (.lload_n 1, 1) := by decide +kernel
theorem dX8_lettersOnWay_79 : decode cX8_lettersOnWay 79 = .ok (.invokevirtual 120, 3) := by decide +kernel
theorem dX8_lettersOnWay_82 : decode cX8_lettersOnWay 82 = .ok (.invokevirtual 56, 3) := by decide +kernel
theorem dX8_lettersOnWay_85 : decode cX8_lettersOnWay 85 = .ok (.checkcast 16, 3) := by decide +kernel
theorem dX8_lettersOnWay_88 : decode cX8_lettersOnWay 88 = .ok (.astore 4, 2) := by decide +kernel
theorem dX8_lettersOnWay_90 : decode cX8_lettersOnWay 90 = .ok (.iinc 5 1, 3) := by decide +kernel
theorem dX8_lettersOnWay_93 : decode cX8_lettersOnWay 93 = .ok (.goto (-82), 3) := by decide +kernel
theorem dX8_lettersOnWay_96 : decode cX8_lettersOnWay 96 = .ok (.iload_n 3, 1) := by decide +kernel
theorem dX8_lettersOnWay_97 : decode cX8_lettersOnWay 97 = .ok (.ireturn, 1) := by decide +kernel
theorem dX8_pagesIn_0 : decode cX8_pagesIn 0 = .ok (.iconst 1, 1) := by decide +kernel
theorem dX8_pagesIn_1 : decode cX8_pagesIn 1 = .ok (.istore_n 2, 1) := by decide +kernel
theorem dX8_pagesIn_2 : decode cX8_pagesIn 2 = .ok (.iconst 0, 1) := by decide +kernel
theorem dX8_pagesIn_3 : decode cX8_pagesIn 3 = .ok (.istore_n 3, 1) := by decide +kernel
theorem dX8_pagesIn_4 : decode cX8_pagesIn 4 = .ok (.iload_n 3, 1) := by decide +kernel
theorem dX8_pagesIn_5 : decode cX8_pagesIn 5 = .ok (.aload_n 0, 1) := by decide +kernel
theorem dX8_pagesIn_6 : decode cX8_pagesIn 6 = .ok (.getfield 53, 3) := by decide +kernel
theorem dX8_pagesIn_9 : decode cX8_pagesIn 9 = .ok (.invokevirtual 46, 3) := by decide +kernel
theorem dX8_pagesIn_12 : decode cX8_pagesIn 12 = .ok (.if_icmp .ge 35, 3) := by decide +kernel
theorem dX8_pagesIn_15 : decode cX8_pagesIn 15 = .ok (.iload_n 1, 1) := by decide +kernel
theorem dX8_pagesIn_16 : decode cX8_pagesIn 16 = .ok (.bipush 40, 2) := by decide +kernel
theorem dX8_pagesIn_18 : decode cX8_pagesIn 18 = .ok (.if_icmp .ge 29, 3) := by decide +kernel
theorem dX8_pagesIn_21 : decode cX8_pagesIn 21 = .ok (.iload_n 2, 1) := by decide +kernel
theorem dX8_pagesIn_22 : decode cX8_pagesIn 22 = .ok (.aload_n 0, 1) := by decide +kernel
theorem dX8_pagesIn_23 : decode cX8_pagesIn 23 = .ok (.getfield 53, 3) := by decide +kernel
theorem dX8_pagesIn_26 : decode cX8_pagesIn 26 = .ok (.iload_n 3, 1) := by decide +kernel
theorem dX8_pagesIn_27 : decode cX8_pagesIn 27 = .ok (.invokevirtual 56, 3) := by decide +kernel
theorem dX8_pagesIn_30 : decode cX8_pagesIn 30 = .ok (.checkcast 16, 3) := by decide +kernel
theorem dX8_pagesIn_33 : decode cX8_pagesIn 33 = .ok (.iload_n 1, 1) := by decide +kernel
theorem dX8_pagesIn_34 : decode cX8_pagesIn 34 = .ok (.iconst 1, 1) := by decide +kernel
theorem dX8_pagesIn_35 : decode cX8_pagesIn 35 = .ok (.iadd, 1) := by decide +kernel
theorem dX8_pagesIn_36 : decode cX8_pagesIn 36 = .ok (.invokestatic 124, 3) := by decide +kernel
theorem dX8_pagesIn_39 : decode cX8_pagesIn 39 = .ok (.iadd, 1) := by decide +kernel
theorem dX8_pagesIn_40 : decode cX8_pagesIn 40 = .ok (.istore_n 2, 1) := by decide +kernel
theorem dX8_pagesIn_41 : decode cX8_pagesIn 41 = .ok (.iinc 3 1, 3) := by decide +kernel
theorem dX8_pagesIn_44 : decode cX8_pagesIn 44 = .ok (.goto (-40), 3) := by decide +kernel
theorem dX8_pagesIn_47 : decode cX8_pagesIn 47 = .ok (.iload_n 2, 1) := by decide +kernel
theorem dX8_pagesIn_48 : decode cX8_pagesIn 48 = .ok (.ireturn, 1) := by decide +kernel
theorem dX8_lettersIn_0 : decode cX8_lettersIn 0 = .ok (.aload_n 0, 1) := by decide +kernel
theorem dX8_lettersIn_1 : decode cX8_lettersIn 1 = .ok (.getfield 15, 3) := by decide +kernel
theorem dX8_lettersIn_4 : decode cX8_lettersIn 4 = .ok (.invokevirtual 46, 3) := by decide +kernel
theorem dX8_lettersIn_7 : decode cX8_lettersIn 7 = .ok (.istore_n 2, 1) := by decide +kernel
theorem dX8_lettersIn_8 : decode cX8_lettersIn 8 = .ok (.iconst 0, 1) := by decide +kernel
theorem dX8_lettersIn_9 : decode cX8_lettersIn 9 = .ok (.istore_n 3, 1) := by decide +kernel
theorem dX8_lettersIn_10 : decode cX8_lettersIn 10 = .ok (.iload_n 3, 1) := by decide +kernel
theorem dX8_lettersIn_11 : decode cX8_lettersIn 11 = .ok (.aload_n 0, 1) := by decide +kernel
theorem dX8_lettersIn_12 : decode cX8_lettersIn 12 = .ok (.getfield 53, 3) := by decide +kernel
theorem dX8_lettersIn_15 : decode cX8_lettersIn 15 = .ok (.invokevirtual 46, 3) := by decide +kernel
theorem dX8_lettersIn_18 : decode cX8_lettersIn 18 = .ok (.if_icmp .ge 35, 3) := by decide +kernel
theorem dX8_lettersIn_21 : decode cX8_lettersIn 21 = .ok (.iload_n 1, 1) := by decide +kernel
theorem dX8_lettersIn_22 : decode cX8_lettersIn 22 = .ok (.bipush 40, 2) := by decide +kernel
theorem dX8_lettersIn_24 : decode cX8_lettersIn 24 = .ok (.if_icmp .ge 29, 3) := by decide +kernel
theorem dX8_lettersIn_27 : decode cX8_lettersIn 27 = .ok (.iload_n 2, 1) := by decide +kernel
theorem dX8_lettersIn_28 : decode cX8_lettersIn 28 = .ok (.aload_n 0, 1) := by decide +kernel
theorem dX8_lettersIn_29 : decode cX8_lettersIn 29 = .ok (.getfield 53, 3) := by decide +kernel
theorem dX8_lettersIn_32 : decode cX8_lettersIn 32 = .ok (.iload_n 3, 1) := by decide +kernel
theorem dX8_lettersIn_33 : decode cX8_lettersIn 33 = .ok (.invokevirtual 56, 3) := by decide +kernel
theorem dX8_lettersIn_36 : decode cX8_lettersIn 36 = .ok (.checkcast 16, 3) := by decide +kernel
theorem dX8_lettersIn_39 : decode cX8_lettersIn 39 = .ok (.iload_n 1, 1) := by decide +kernel
theorem dX8_lettersIn_40 : decode cX8_lettersIn 40 = .ok (.iconst 1, 1) := by decide +kernel
theorem dX8_lettersIn_41 : decode cX8_lettersIn 41 = .ok (.iadd, 1) := by decide +kernel
theorem dX8_lettersIn_42 : decode cX8_lettersIn 42 = .ok (.invokestatic 101, 3) := by decide +kernel
theorem dX8_lettersIn_45 : decode cX8_lettersIn 45 = .ok (.iadd, 1) := by decide +kernel
theorem dX8_lettersIn_46 : decode cX8_lettersIn 46 = .ok (.istore_n 2, 1) := by decide +kernel
theorem dX8_lettersIn_47 : decode cX8_lettersIn 47 = .ok (.iinc 3 1, 3) := by decide +kernel
theorem dX8_lettersIn_50 : decode cX8_lettersIn 50 = .ok (.goto (-40), 3) := by decide +kernel
theorem dX8_lettersIn_53 : decode cX8_lettersIn 53 = .ok (.iload_n 2, 1) := by decide +kernel
theorem dX8_lettersIn_54 : decode cX8_lettersIn 54 = .ok (.ireturn, 1) := by decide +kernel
theorem dX8_changedIn_0 : decode cX8_changedIn 0 = .ok (.aload_n 0, 1) := by decide +kernel
theorem dX8_changedIn_1 : decode cX8_changedIn 1 = .ok (.getfield 127, 3) := by decide +kernel
theorem dX8_changedIn_4 : decode cX8_changedIn 4 = .ok (.iconst (-1), 1) := by decide +kernel
theorem dX8_changedIn_5 : decode cX8_changedIn 5 = .ok (.if_icmp .eq 5, 3) := by decide +kernel
theorem dX8_changedIn_8 : decode cX8_changedIn 8 = .ok (.iconst 0, 1) := by decide +kernel
theorem dX8_changedIn_9 : decode cX8_changedIn 9 = .ok (.ireturn, 1) := by decide +kernel
theorem dX8_changedIn_10 : decode cX8_changedIn 10 = .ok (.iconst 1, 1) := by decide +kernel
theorem dX8_changedIn_11 : decode cX8_changedIn 11 = .ok (.istore_n 2, 1) := by decide +kernel
theorem dX8_changedIn_12 : decode cX8_changedIn 12 = .ok (.iconst 0, 1) := by decide +kernel
theorem dX8_changedIn_13 : decode cX8_changedIn 13 = .ok (.istore_n 3, 1) := by decide +kernel
theorem dX8_changedIn_14 : decode cX8_changedIn 14 = .ok (.iload_n 3, 1) := by decide +kernel
theorem dX8_changedIn_15 : decode cX8_changedIn 15 = .ok (.aload_n 0, 1) := by decide +kernel
theorem dX8_changedIn_16 : decode cX8_changedIn 16 = .ok (.getfield 53, 3) := by decide +kernel
theorem dX8_changedIn_19 : decode cX8_changedIn 19 = .ok (.invokevirtual 46, 3) := by decide +kernel
theorem dX8_changedIn_22 : decode cX8_changedIn 22 = .ok (.if_icmp .ge 35, 3) := by decide +kernel
theorem dX8_changedIn_25 : decode cX8_changedIn 25 = .ok (.iload_n 1, 1) := by decide +kernel
theorem dX8_changedIn_26 : decode cX8_changedIn 26 = .ok (.bipush 40, 2) := by decide +kernel
theorem dX8_changedIn_28 : decode cX8_changedIn 28 = .ok (.if_icmp .ge 29, 3) := by decide +kernel
theorem dX8_changedIn_31 : decode cX8_changedIn 31 = .ok (.iload_n 2, 1) := by decide +kernel
theorem dX8_changedIn_32 : decode cX8_changedIn 32 = .ok (.aload_n 0, 1) := by decide +kernel
theorem dX8_changedIn_33 : decode cX8_changedIn 33 = .ok (.getfield 53, 3) := by decide +kernel
theorem dX8_changedIn_36 : decode cX8_changedIn 36 = .ok (.iload_n 3, 1) := by decide +kernel
theorem dX8_changedIn_37 : decode cX8_changedIn 37 = .ok (.invokevirtual 56, 3) := by decide +kernel
theorem dX8_changedIn_40 : decode cX8_changedIn 40 = .ok (.checkcast 16, 3) := by decide +kernel
theorem dX8_changedIn_43 : decode cX8_changedIn 43 = .ok (.iload_n 1, 1) := by decide +kernel
theorem dX8_changedIn_44 : decode cX8_changedIn 44 = .ok (.iconst 1, 1) := by decide +kernel
theorem dX8_changedIn_45 : decode cX8_changedIn 45 = .ok (.iadd, 1) := by decide +kernel
theorem dX8_changedIn_46 : decode cX8_changedIn 46 = .ok (.invokestatic 131, 3) := by decide +kernel
theorem dX8_changedIn_49 : decode cX8_changedIn 49 = .ok (.iadd, 1) := by decide +kernel
theorem dX8_changedIn_50 : decode cX8_changedIn 50 = .ok (.istore_n 2, 1) := by decide +kernel
theorem dX8_changedIn_51 : decode cX8_changedIn 51 = .ok (.iinc 3 1, 3) := by decide +kernel
theorem dX8_changedIn_54 : decode cX8_changedIn 54 = .ok (.goto (-40), 3) := by decide +kernel
theorem dX8_changedIn_57 : decode cX8_changedIn 57 = .ok (.iload_n 2, 1) := by decide +kernel
theorem dX8_changedIn_58 : decode cX8_changedIn 58 = .ok (.ireturn, 1) := by decide +kernel
theorem dX8_pageAt_0 : decode cX8_pageAt 0 = .ok (.iload_n 1, 1) := by decide +kernel
theorem dX8_pageAt_1 : decode cX8_pageAt 1 = .ok (.ifCond .ne 5, 3) := by decide +kernel
theorem dX8_pageAt_4 : decode cX8_pageAt 4 = .ok (.aload_n 0, 1) := by decide +kernel
theorem dX8_pageAt_5 : decode cX8_pageAt 5 = .ok (.areturn, 1) := by decide +kernel
theorem dX8_pageAt_6 : decode cX8_pageAt 6 = .ok (.iconst 1, 1) := by decide +kernel
theorem dX8_pageAt_7 : decode cX8_pageAt 7 = .ok (.istore_n 3, 1) := by decide +kernel
theorem dX8_pageAt_8 : decode cX8_pageAt 8 = .ok (.iconst 0, 1) := by decide +kernel
theorem dX8_pageAt_9 : decode cX8_pageAt 9 = .ok (.istore 4, 2) := by decide +kernel
theorem dX8_pageAt_11 : decode cX8_pageAt 11 = .ok (.iload_n 1, 1) := by decide +kernel
theorem dX8_pageAt_12 : decode cX8_pageAt 12 = .ok (.ifCond .le 74, 3) := by decide +kernel
theorem dX8_pageAt_15 : decode cX8_pageAt 15 = .ok (.iload 4, 2) := by decide +kernel
theorem dX8_pageAt_17 : decode cX8_pageAt 17 = .ok (.aload_n 0, 1) := by decide +kernel
theorem dX8_pageAt_18 : decode cX8_pageAt 18 = .ok (.getfield 53, 3) := by decide +kernel
theorem dX8_pageAt_21 : decode cX8_pageAt 21 = .ok (.invokevirtual 46, 3) := by decide +kernel
theorem dX8_pageAt_24 : decode cX8_pageAt 24 = .ok (.if_icmp .ge 62, 3) := by decide +kernel
theorem dX8_pageAt_27 : decode cX8_pageAt 27 = .ok (.iload_n 2, 1) := by decide +kernel
theorem dX8_pageAt_28 : decode cX8_pageAt 28 = .ok (.bipush 40, 2) := by decide +kernel
theorem dX8_pageAt_30 : decode cX8_pageAt 30 = .ok (.if_icmp .ge 56, 3) := by decide +kernel
theorem dX8_pageAt_33 : decode cX8_pageAt 33 = .ok (.aload_n 0, 1) := by decide +kernel
theorem dX8_pageAt_34 : decode cX8_pageAt 34 = .ok (.getfield 53, 3) := by decide +kernel
theorem dX8_pageAt_37 : decode cX8_pageAt 37 = .ok (.iload 4, 2) := by decide +kernel
theorem dX8_pageAt_39 : decode cX8_pageAt 39 = .ok (.invokevirtual 56, 3) := by decide +kernel
theorem dX8_pageAt_42 : decode cX8_pageAt 42 = .ok (.checkcast 16, 3) := by decide +kernel
theorem dX8_pageAt_45 : decode cX8_pageAt 45 = .ok (.astore 5, 2) := by decide +kernel
theorem dX8_pageAt_47 : decode cX8_pageAt 47 = .ok (.aload 5, 2) := by decide +kernel
theorem dX8_pageAt_49 : decode cX8_pageAt 49 = .ok (.iconst 0, 1) := by decide +kernel
theorem dX8_pageAt_50 : decode cX8_pageAt 50 = .ok (.invokestatic 124, 3) := by decide +kernel
theorem dX8_pageAt_53 : decode cX8_pageAt 53 = .ok (.istore 6, 2) := by decide +kernel
theorem dX8_pageAt_55 : decode cX8_pageAt 55 = .ok (.iload_n 1, 1) := by decide +kernel
theorem dX8_pageAt_56 : decode cX8_pageAt 56 = .ok (.iload_n 3, 1) := by decide +kernel
theorem dX8_pageAt_57 : decode cX8_pageAt 57 = .ok (.iload 6, 2) := by decide +kernel
theorem dX8_pageAt_59 : decode cX8_pageAt 59 = .ok (.iadd, 1) := by decide +kernel
theorem dX8_pageAt_60 : decode cX8_pageAt 60 = .ok (.if_icmp .ge 15, 3) := by decide +kernel
theorem dX8_pageAt_63 : decode cX8_pageAt 63 = .ok (.aload 5, 2) := by decide +kernel
theorem dX8_pageAt_65 : decode cX8_pageAt 65 = .ok (.iload_n 1, 1) := by decide +kernel
theorem dX8_pageAt_66 : decode cX8_pageAt 66 = .ok (.iload_n 3, 1) := by decide +kernel
theorem dX8_pageAt_67 : decode cX8_pageAt 67 = .ok (.isub, 1) := by decide +kernel
theorem dX8_pageAt_68 : decode cX8_pageAt 68 = .ok (.iload_n 2, 1) := by decide +kernel
theorem dX8_pageAt_69 : decode cX8_pageAt 69 = .ok (.iconst 1, 1) := by decide +kernel
theorem dX8_pageAt_70 : decode cX8_pageAt 70 = .ok (.iadd, 1) := by decide +kernel
theorem dX8_pageAt_71 : decode cX8_pageAt 71 = .ok (.invokestatic 134, 3) := by decide +kernel
theorem dX8_pageAt_74 : decode cX8_pageAt 74 = .ok (.areturn, 1) := by decide +kernel
theorem dX8_pageAt_75 : decode cX8_pageAt 75 = .ok (.iload_n 3, 1) := by decide +kernel
theorem dX8_pageAt_76 : decode cX8_pageAt 76 = .ok (.iload 6, 2) := by decide +kernel
theorem dX8_pageAt_78 : decode cX8_pageAt 78 = .ok (.iadd, 1) := by decide +kernel
theorem dX8_pageAt_79 : decode cX8_pageAt 79 = .ok (.istore_n 3, 1) := by decide +kernel
theorem dX8_pageAt_80 : decode cX8_pageAt 80 = .ok (.iinc 4 1, 3) := by decide +kernel
theorem dX8_pageAt_83 : decode cX8_pageAt 83 = .ok (.goto (-72), 3) := by decide +kernel
theorem dX8_pageAt_86 : decode cX8_pageAt 86 = .ok (.aconst_null, 1) := by decide +kernel
theorem dX8_pageAt_87 : decode cX8_pageAt 87 = .ok (.areturn, 1) := by decide +kernel
theorem dX8_rowIn_0 : decode cX8_rowIn 0 = .ok (.aload_n 0, 1) := by decide +kernel
theorem dX8_rowIn_1 : decode cX8_rowIn 1 = .ok (.invokevirtual 111, 3) := by decide +kernel
theorem dX8_rowIn_4 : decode cX8_rowIn 4 = .ok (.ifCond .ne 9, 3) := by decide +kernel
theorem dX8_rowIn_7 : decode cX8_rowIn 7 = .ok (.iload_n 3, 1) := by decide +kernel
theorem dX8_rowIn_8 : decode cX8_rowIn 8 = .ok (.bipush 40, 2) := by decide +kernel
theorem dX8_rowIn_10 : decode cX8_rowIn 10 = .ok (.if_icmp .lt 12, 3) := by decide +kernel
theorem dX8_rowIn_13 : decode cX8_rowIn 13 = .ok (.aload_n 0, 1) := by decide +kernel
theorem dX8_rowIn_14 : decode cX8_rowIn 14 = .ok (.getfield 138, 3) := by decide +kernel
theorem dX8_rowIn_17 : decode cX8_rowIn 17 = .ok (.lload_n 1, 1) := by decide +kernel
theorem dX8_rowIn_18 : decode cX8_rowIn 18 = .ok (.invokevirtual 142, 3) := by decide +kernel
theorem dX8_rowIn_21 : decode cX8_rowIn 21 = .ok (.areturn, 1) := by decide +kernel
theorem dX8_rowIn_22 : decode cX8_rowIn 22 = .ok (.aload_n 0, 1) := by decide +kernel
theorem dX8_rowIn_23 : decode cX8_rowIn 23 = .ok (.getfield 53, 3) := by decide +kernel
theorem dX8_rowIn_26 : decode cX8_rowIn 26 = .ok (.aload_n 0, 1) := by decide +kernel
theorem dX8_rowIn_27 : decode cX8_rowIn 27 = .ok (.lload_n 1, 1) := by decide +kernel
theorem dX8_rowIn_28 : decode cX8_rowIn 28 = .ok (.invokevirtual 120, 3) := by decide +kernel
theorem dX8_rowIn_31 : decode cX8_rowIn 31 = .ok (.invokevirtual 56, 3) := by decide +kernel
theorem dX8_rowIn_34 : decode cX8_rowIn 34 = .ok (.checkcast 16, 3) := by decide +kernel
theorem dX8_rowIn_37 : decode cX8_rowIn 37 = .ok (.lload_n 1, 1) := by decide +kernel
theorem dX8_rowIn_38 : decode cX8_rowIn 38 = .ok (.iload_n 3, 1) := by decide +kernel
theorem dX8_rowIn_39 : decode cX8_rowIn 39 = .ok (.iconst 1, 1) := by decide +kernel
theorem dX8_rowIn_40 : decode cX8_rowIn 40 = .ok (.iadd, 1) := by decide +kernel
theorem dX8_rowIn_41 : decode cX8_rowIn 41 = .ok (.invokestatic 146, 3) := by decide +kernel
theorem dX8_rowIn_44 : decode cX8_rowIn 44 = .ok (.astore 4, 2) := by decide +kernel
theorem dX8_rowIn_46 : decode cX8_rowIn 46 = .ok (.iconst 0, 1) := by decide +kernel
theorem dX8_rowIn_47 : decode cX8_rowIn 47 = .ok (.istore 5, 2) := by decide +kernel
theorem dX8_rowIn_49 : decode cX8_rowIn 49 = .ok (.iload 5, 2) := by decide +kernel
theorem dX8_rowIn_51 : decode cX8_rowIn 51 = .ok (.aload_n 0, 1) := by decide +kernel
theorem dX8_rowIn_52 : decode cX8_rowIn 52 = .ok (.getfield 15, 3) := by decide +kernel
theorem dX8_rowIn_55 : decode cX8_rowIn 55 = .ok (.invokevirtual 46, 3) := by decide +kernel
theorem dX8_rowIn_58 : decode cX8_rowIn 58 = .ok (.if_icmp .ge 51, 3) := by decide +kernel
theorem dX8_rowIn_61 : decode cX8_rowIn 61 = .ok (.aload_n 0, 1) := by decide +kernel
theorem dX8_rowIn_62 : decode cX8_rowIn 62 = .ok (.getfield 15, 3) := by decide +kernel
theorem dX8_rowIn_65 : decode cX8_rowIn 65 = .ok (.iload 5, 2) := by decide +kernel
theorem dX8_rowIn_67 : decode cX8_rowIn 67 = .ok (.invokevirtual 56, 3) := by decide +kernel
theorem dX8_rowIn_70 : decode cX8_rowIn 70 = .ok (.checkcast 114, 3) := by decide +kernel
theorem dX8_rowIn_73 : decode cX8_rowIn 73 = .ok (.astore 6, 2) := by decide +kernel
theorem dX8_rowIn_75 : decode cX8_rowIn 75 = .ok (.aload 6, 2) := by decide +kernel
theorem dX8_rowIn_77 : decode cX8_rowIn 77 = .ok (.lload_n 1, 1) := by decide +kernel
theorem dX8_rowIn_78 : decode cX8_rowIn 78 = .ok (.invokevirtual 116, 3) := by decide +kernel
theorem dX8_rowIn_81 : decode cX8_rowIn 81 = .ok (.ifCond .eq 22, 3) := by decide +kernel
theorem dX8_rowIn_84 : decode cX8_rowIn 84 = .ok (.aload 6, 2) := by decide +kernel
theorem dX8_rowIn_86 : decode cX8_rowIn 86 = .ok (.aload 4, 2) := by decide +kernel
theorem dX8_rowIn_88 : decode cX8_rowIn 88 = .ok (.invokevirtual 150, 3) := by decide +kernel
theorem dX8_rowIn_91 : decode cX8_rowIn 91 = .ok (.ifCond .eq 12, 3) := by decide +kernel
theorem dX8_rowIn_94 : decode cX8_rowIn 94 = .ok (.aload 6, 2) := by decide +kernel
theorem dX8_rowIn_96 : decode cX8_rowIn 96 = .ok (.aload 4, 2) := by decide +kernel
theorem dX8_rowIn_98 : decode cX8_rowIn 98 = .ok (.invokevirtual 154, 3) := by decide +kernel
theorem dX8_rowIn_101 : decode cX8_rowIn 101 = .ok (.astore 4, 2) := by decide +kernel
theorem dX8_rowIn_103 : decode cX8_rowIn 103 = .ok (.iinc 5 1, 3) := by decide +kernel
theorem dX8_rowIn_106 : decode cX8_rowIn 106 = .ok (.goto (-57), 3) := by decide +kernel
theorem dX8_rowIn_109 : decode cX8_rowIn 109 = .ok (.aload 4, 2) := by decide +kernel
theorem dX8_rowIn_111 : decode cX8_rowIn 111 = .ok (.areturn, 1) := by decide +kernel
theorem dX8_gather_0 : decode cX8_gather 0 = .ok (.iconst 0, 1) := by decide +kernel
theorem dX8_gather_1 : decode cX8_gather 1 = .ok (.istore_n 3, 1) := by decide +kernel
theorem dX8_gather_2 : decode cX8_gather 2 = .ok (.iload_n 3, 1) := by decide +kernel
theorem dX8_gather_3 : decode cX8_gather 3 = .ok (.aload_n 0, 1) := by decide +kernel
theorem dX8_gather_4 : decode cX8_gather 4 = .ok (.getfield 138, 3) := by decide +kernel
theorem dX8_gather_7 : decode cX8_gather 7 = .ok (.getfield 158, 3) := by decide +kernel
theorem dX8_gather_10 : decode cX8_gather 10 = .ok (.invokevirtual 46, 3) := by decide +kernel
theorem dX8_gather_13 : decode cX8_gather 13 = .ok (.if_icmp .ge 31, 3) := by decide +kernel
theorem dX8_gather_16 : decode cX8_gather 16 = .ok (.aload_n 1, 1) := by decide +kernel
theorem dX8_gather_17 : decode cX8_gather 17 = .ok (.getfield 158, 3) := by decide +kernel
theorem dX8_gather_20 : decode cX8_gather 20 = .ok (.aload_n 0, 1) := by decide +kernel
theorem dX8_gather_21 : decode cX8_gather 21 = .ok (.getfield 138, 3) := by decide +kernel
theorem dX8_gather_24 : decode cX8_gather 24 = .ok (.getfield 158, 3) := by decide +kernel
theorem dX8_gather_27 : decode cX8_gather 27 = .ok (.iload_n 3, 1) := by decide +kernel
theorem dX8_gather_28 : decode cX8_gather 28 = .ok (.invokevirtual 56, 3) := by decide +kernel
theorem dX8_gather_31 : decode cX8_gather 31 = .ok (.checkcast 161, 3) := by decide +kernel
theorem dX8_gather_34 : decode cX8_gather 34 = .ok (.invokevirtual 96, 3) := by decide +kernel
theorem dX8_gather_37 : decode cX8_gather 37 = .ok (.pop, 1) := by decide +kernel
theorem dX8_gather_38 : decode cX8_gather 38 = .ok (.iinc 3 1, 3) := by decide +kernel
theorem dX8_gather_41 : decode cX8_gather 41 = .ok (.goto (-39), 3) := by decide +kernel
theorem dX8_gather_44 : decode cX8_gather 44 = .ok (.iconst 0, 1) := by decide +kernel
theorem dX8_gather_45 : decode cX8_gather 45 = .ok (.istore_n 3, 1) := by decide +kernel
theorem dX8_gather_46 : decode cX8_gather 46 = .ok (.iload_n 3, 1) := by decide +kernel
theorem dX8_gather_47 : decode cX8_gather 47 = .ok (.aload_n 0, 1) := by decide +kernel
theorem dX8_gather_48 : decode cX8_gather 48 = .ok (.getfield 53, 3) := by decide +kernel
theorem dX8_gather_51 : decode cX8_gather 51 = .ok (.invokevirtual 46, 3) := by decide +kernel
theorem dX8_gather_54 : decode cX8_gather 54 = .ok (.if_icmp .ge 33, 3) := by decide +kernel
theorem dX8_gather_57 : decode cX8_gather 57 = .ok (.iload_n 2, 1) := by decide +kernel
theorem dX8_gather_58 : decode cX8_gather 58 = .ok (.bipush 40, 2) := by decide +kernel
theorem dX8_gather_60 : decode cX8_gather 60 = .ok (.if_icmp .ge 27, 3) := by decide +kernel
theorem dX8_gather_63 : decode cX8_gather 63 = .ok (.aload_n 0, 1) := by decide +kernel
theorem dX8_gather_64 : decode cX8_gather 64 = .ok (.getfield 53, 3) := by decide +kernel
theorem dX8_gather_67 : decode cX8_gather 67 = .ok (.iload_n 3, 1) := by decide +kernel
theorem dX8_gather_68 : decode cX8_gather 68 = .ok (.invokevirtual 56, 3) := by decide +kernel
theorem dX8_gather_71 : decode cX8_gather 71 = .ok (.checkcast 16, 3) := by decide +kernel
theorem dX8_gather_74 : decode cX8_gather 74 = .ok (.aload_n 1, 1) := by decide +kernel
theorem dX8_gather_75 : decode cX8_gather 75 = .ok (.iload_n 2, 1) := by decide +kernel
theorem dX8_gather_76 : decode cX8_gather 76 = .ok (.iconst 1, 1) := by decide +kernel
theorem dX8_gather_77 : decode cX8_gather 77 = .ok (.iadd, 1) := by decide +kernel
theorem dX8_gather_78 : decode cX8_gather 78 = .ok (.invokestatic 163, 3) := by decide +kernel
theorem dX8_gather_81 : decode cX8_gather 81 = .ok (.iinc 3 1, 3) := by decide +kernel
theorem dX8_gather_84 : decode cX8_gather 84 = .ok (.goto (-38), 3) := by decide +kernel
theorem dX8_gather_87 : decode cX8_gather 87 = .ok (.iconst 0, 1) := by decide +kernel
theorem dX8_gather_88 : decode cX8_gather 88 = .ok (.istore_n 3, 1) := by decide +kernel
theorem dX8_gather_89 : decode cX8_gather 89 = .ok (.iload_n 3, 1) := by decide +kernel
theorem dX8_gather_90 : decode cX8_gather 90 = .ok (.aload_n 0, 1) := by decide +kernel
theorem dX8_gather_91 : decode cX8_gather 91 = .ok (.getfield 15, 3) := by decide +kernel
theorem dX8_gather_94 : decode cX8_gather 94 = .ok (.invokevirtual 46, 3) := by decide +kernel
theorem dX8_gather_97 : decode cX8_gather 97 = .ok (.if_icmp .ge 25, 3) := by decide +kernel
theorem dX8_gather_100 : decode cX8_gather 100 = .ok (.aload_n 1, 1) := by decide +kernel
theorem dX8_gather_101 : decode cX8_gather 101 = .ok (.aload_n 0, 1) := by decide +kernel
theorem dX8_gather_102 : decode cX8_gather 102 = .ok (.getfield 15, 3) := by decide +kernel
theorem dX8_gather_105 : decode cX8_gather 105 = .ok (.iload_n 3, 1) := by decide +kernel
theorem dX8_gather_106 : decode cX8_gather 106 = .ok (.invokevirtual 56, 3) := by decide +kernel
theorem dX8_gather_109 : decode cX8_gather 109 = .ok (.checkcast 114, 3) := by decide +kernel
theorem dX8_gather_112 : decode cX8_gather 112 = .ok (.invokevirtual 167, 3) := by decide +kernel
theorem dX8_gather_115 : decode cX8_gather 115 = .ok (.pop, 1) := by decide +kernel
theorem dX8_gather_116 : decode cX8_gather 116 = .ok (.iinc 3 1, 3) := by decide +kernel
theorem dX8_gather_119 : decode cX8_gather 119 = .ok (.goto (-30), 3) := by decide +kernel
theorem dX8_gather_122 : decode cX8_gather 122 = .ok (.return_, 1) := by decide +kernel
theorem dX9_init_0 : decode cX9_init 0 = .ok (.aload_n 0, 1) := by decide +kernel
theorem dX9_init_1 : decode cX9_init 1 = .ok (.invokespecial 1, 3) := by decide +kernel
theorem dX9_init_4 : decode cX9_init 4 = .ok (.aload_n 0, 1) := by decide +kernel
theorem dX9_init_5 : decode cX9_init 5 = .ok (.new 7, 3) := by decide +kernel
theorem dX9_init_8 : decode cX9_init 8 = .ok (.dup, 1) := by decide +kernel
theorem dX9_init_9 : decode cX9_init 9 = .ok (.invokespecial 9, 3) := by decide +kernel
theorem dX9_init_12 : decode cX9_init 12 = .ok (.putfield 10, 3) := by decide +kernel
theorem dX9_init_15 : decode cX9_init 15 = .ok (.aload_n 0, 1) := by decide +kernel
theorem dX9_init_16 : decode cX9_init 16 = .ok (.new 16, 3) := by decide +kernel
theorem dX9_init_19 : decode cX9_init 19 = .ok (.dup, 1) := by decide +kernel
theorem dX9_init_20 : decode cX9_init 20 = .ok (.invokespecial 18, 3) := by decide +kernel
theorem dX9_init_23 : decode cX9_init 23 = .ok (.putfield 19, 3) := by decide +kernel
theorem dX9_init_26 : decode cX9_init 26 = .ok (.aload_n 0, 1) := by decide +kernel
theorem dX9_init_27 : decode cX9_init 27 = .ok (.new 23, 3) := by decide +kernel
theorem dX9_init_30 : decode cX9_init 30 = .ok (.dup, 1) := by decide +kernel
theorem dX9_init_31 : decode cX9_init 31 = .ok (.invokespecial 25, 3) := by decide +kernel
theorem dX9_init_34 : decode cX9_init 34 = .ok (.putfield 26, 3) := by decide +kernel
theorem dX9_init_37 : decode cX9_init 37 = .ok (.aload_n 0, 1) := by decide +kernel
theorem dX9_init_38 : decode cX9_init 38 = .ok (.new 30, 3) := by decide +kernel
theorem dX9_init_41 : decode cX9_init 41 = .ok (.dup, 1) := by decide +kernel
theorem dX9_init_42 : decode cX9_init 42 = .ok (.invokespecial 32, 3) := by decide +kernel
theorem dX9_init_45 : decode cX9_init 45 = .ok (.putfield 33, 3) := by decide +kernel
theorem dX9_init_48 : decode cX9_init 48 = .ok (.aload_n 0, 1) := by decide +kernel
theorem dX9_init_49 : decode cX9_init 49 = .ok (.new 37, 3) := by decide +kernel
theorem dX9_init_52 : decode cX9_init 52 = .ok (.dup, 1) := by decide +kernel
theorem dX9_init_53 : decode cX9_init 53 = .ok (.invokespecial 39, 3) := by decide +kernel
theorem dX9_init_56 : decode cX9_init 56 = .ok (.putfield 40, 3) := by decide +kernel
theorem dX9_init_59 : decode cX9_init 59 = .ok (.aload_n 0, 1) := by decide +kernel
theorem dX9_init_60 : decode cX9_init 60 = .ok (.invokevirtual 44, 3) := by decide +kernel
theorem dX9_init_63 : decode cX9_init 63 = .ok (.return_, 1) := by decide +kernel
theorem dX9_feed_0 : decode cX9_feed 0 = .ok (.iload_n 3, 1) := by decide +kernel
theorem dX9_feed_1 : decode cX9_feed 1 = .ok (.iconst 1, 1) := by decide +kernel
theorem dX9_feed_2 : decode cX9_feed 2 = .ok (.if_icmp .lt 23, 3) := by decide +kernel
theorem dX9_feed_5 : decode cX9_feed 5 = .ok (.iload_n 3, 1) := by decide +kernel
theorem dX9_feed_6 : decode cX9_feed 6 = .ok (.bipush 8, 2) := by decide +kernel
theorem dX9_feed_8 : decode cX9_feed 8 = .ok (.if_icmp .gt 17, 3) := by decide +kernel
theorem dX9_feed_11 : decode cX9_feed 11 = .ok (.aload_n 0, 1) := by decide +kernel
theorem dX9_feed_12 : decode cX9_feed 12 = .ok (.getfield 10, 3) := by decide +kernel
theorem dX9_feed_15 : decode cX9_feed 15 = .ok (.getfield 47, 3) := by decide +kernel
theorem dX9_feed_18 : decode cX9_feed 18 = .ok (.iload_n 3, 1) := by decide +kernel
theorem dX9_feed_19 : decode cX9_feed 19 = .ok (.iadd, 1) := by decide +kernel
theorem dX9_feed_20 : decode cX9_feed 20 = .ok (.bipush 40, 2) := by decide +kernel
theorem dX9_feed_22 : decode cX9_feed 22 = .ok (.if_icmp .le 6, 3) := by decide +kernel
theorem dX9_feed_25 : decode cX9_feed 25 = .ok (.bipush (-2), 2) := by decide +kernel
theorem dX9_feed_27 : decode cX9_feed 27 = .ok (.ireturn, 1) := by decide +kernel
theorem dX9_feed_28 : decode cX9_feed 28 = .ok (.aload_n 0, 1) := by decide +kernel
theorem dX9_feed_29 : decode cX9_feed 29 = .ok (.getfield 10, 3) := by decide +kernel
theorem dX9_feed_32 : decode cX9_feed 32 = .ok (.lload_n 1, 1) := by decide +kernel
theorem dX9_feed_33 : decode cX9_feed 33 = .ok (.iload_n 3, 1) := by decide +kernel
theorem dX9_feed_34 : decode cX9_feed 34 = .ok (.invokevirtual 51, 3) := by decide +kernel
theorem dX9_feed_37 : decode cX9_feed 37 = .ok (.aload_n 0, 1) := by decide +kernel
theorem dX9_feed_38 : decode cX9_feed 38 = .ok (.getfield 10, 3) := by decide +kernel
theorem dX9_feed_41 : decode cX9_feed 41 = .ok (.getfield 47, 3) := by decide +kernel
theorem dX9_feed_44 : decode cX9_feed 44 = .ok (.ireturn, 1) := by decide +kernel
theorem dX9_cut_0 : decode cX9_cut 0 = .ok (.iload_n 1, 1) := by decide +kernel
theorem dX9_cut_1 : decode cX9_cut 1 = .ok (.ifCond .lt 14, 3) := by decide +kernel
theorem dX9_cut_4 : decode cX9_cut 4 = .ok (.iload_n 1, 1) := by decide +kernel
theorem dX9_cut_5 : decode cX9_cut 5 = .ok (.aload_n 0, 1) := by decide +kernel
theorem dX9_cut_6 : decode cX9_cut 6 = .ok (.getfield 10, 3) := by decide +kernel
theorem dX9_cut_9 : decode cX9_cut 9 = .ok (.getfield 47, 3) := by decide +kernel
theorem dX9_cut_12 : decode cX9_cut 12 = .ok (.if_icmp .le 6, 3) := by decide +kernel
theorem dX9_cut_15 : decode cX9_cut 15 = .ok (.bipush (-2), 2) := by decide +kernel
theorem dX9_cut_17 : decode cX9_cut 17 = .ok (.ireturn, 1) := by decide +kernel
theorem dX9_cut_18 : decode cX9_cut 18 = .ok (.aload_n 0, 1) := by decide +kernel
theorem dX9_cut_19 : decode cX9_cut 19 = .ok (.getfield 10, 3) := by decide +kernel
theorem dX9_cut_22 : decode cX9_cut 22 = .ok (.iload_n 1, 1) := by decide +kernel
theorem dX9_cut_23 : decode cX9_cut 23 = .ok (.putfield 47, 3) := by decide +kernel
theorem dX9_cut_26 : decode cX9_cut 26 = .ok (.iload_n 1, 1) := by decide +kernel
theorem dX9_cut_27 : decode cX9_cut 27 = .ok (.ireturn, 1) := by decide +kernel
theorem dX9_byteAt_0 : decode cX9_byteAt 0 = .ok (.iload_n 1, 1) := by decide +kernel
theorem dX9_byteAt_1 : decode cX9_byteAt 1 = .ok (.ifCond .lt 14, 3) := by decide +kernel
theorem dX9_byteAt_4 : decode cX9_byteAt 4 = .ok (.iload_n 1, 1) := by decide +kernel
theorem dX9_byteAt_5 : decode cX9_byteAt 5 = .ok (.aload_n 0, 1) := by decide +kernel
theorem dX9_byteAt_6 : decode cX9_byteAt 6 = .ok (.getfield 10, 3) := by decide +kernel
theorem dX9_byteAt_9 : decode cX9_byteAt 9 = .ok (.getfield 47, 3) := by decide +kernel
theorem dX9_byteAt_12 : decode cX9_byteAt 12 = .ok (.if_icmp .lt 5, 3) := by decide +kernel
theorem dX9_byteAt_15 : decode cX9_byteAt 15 = .ok (.iconst (-1), 1) := by decide +kernel
theorem dX9_byteAt_16 : decode cX9_byteAt 16 = .ok (.ireturn, 1) := by decide +kernel
theorem dX9_byteAt_17 : decode cX9_byteAt 17 = .ok (.aload_n 0, 1) := by decide +kernel
theorem dX9_byteAt_18 : decode cX9_byteAt 18 = .ok (.getfield 10, 3) := by decide +kernel
theorem dX9_byteAt_21 : decode cX9_byteAt 21 = .ok (.getfield 55, 3) := by decide +kernel
theorem dX9_byteAt_24 : decode cX9_byteAt 24 = .ok (.iload_n 1, 1) := by decide +kernel
theorem dX9_byteAt_25 : decode cX9_byteAt 25 = .ok (.baload, 1) := by decide +kernel
theorem dX9_byteAt_26 : decode cX9_byteAt 26 = .ok (.sipush 255, 3) := by decide +kernel
theorem dX9_byteAt_29 : decode cX9_byteAt 29 = .ok (.iand, 1) := by decide +kernel
theorem dX9_byteAt_30 : decode cX9_byteAt 30 = .ok (.ireturn, 1) := by decide +kernel
theorem dX9_put_0 : decode cX9_put 0 = .ok (.aload_n 0, 1) := by decide +kernel
theorem dX9_put_1 : decode cX9_put 1 = .ok (.aload_n 0, 1) := by decide +kernel
theorem dX9_put_2 : decode cX9_put 2 = .ok (.getfield 10, 3) := by decide +kernel
theorem dX9_put_5 : decode cX9_put 5 = .ok (.getfield 47, 3) := by decide +kernel
theorem dX9_put_8 : decode cX9_put 8 = .ok (.bipush 20, 2) := by decide +kernel
theorem dX9_put_10 : decode cX9_put 10 = .ok (.if_icmp .le 7, 3) := by decide +kernel
theorem dX9_put_13 : decode cX9_put 13 = .ok (.iconst 1, 1) := by decide +kernel
theorem dX9_put_14 : decode cX9_put 14 = .ok (.goto 4, 3) := by decide +kernel
theorem dX9_put_17 : decode cX9_put 17 = .ok (.iconst 0, 1) := by decide +kernel
theorem dX9_put_18 : decode cX9_put 18 = .ok (.invokevirtual 59, 3) := by decide +kernel
theorem dX9_put_21 : decode cX9_put 21 = .ok (.istore_n 3, 1) := by decide +kernel
theorem dX9_put_22 : decode cX9_put 22 = .ok (.iload_n 3, 1) := by decide +kernel
theorem dX9_put_23 : decode cX9_put 23 = .ok (.ifCond .eq 5, 3) := by decide +kernel
theorem dX9_put_26 : decode cX9_put 26 = .ok (.iload_n 3, 1) := by decide +kernel
theorem dX9_put_27 : decode cX9_put 27 = .ok (.ireturn, 1) := by decide +kernel
theorem dX9_put_28 : decode cX9_put 28 = .ok (.aload_n 0, 1) := by decide +kernel
theorem dX9_put_29 : decode cX9_put 29 = .ok (.getfield 33, 3) := by decide +kernel
theorem dX9_put_32 : decode cX9_put 32 = .ok (.lload_n 1, 1) := by decide +kernel
theorem dX9_put_33 : decode cX9_put 33 = .ok (.invokevirtual 63, 3) := by decide +kernel
theorem dX9_put_36 : decode cX9_put 36 = .ok (.ifnonnull 7, 3) := by decide +kernel
theorem dX9_put_39 : decode cX9_put 39 = .ok (.iconst 0, 1) := by decide +kernel
theorem dX9_put_40 : decode cX9_put 40 = .ok (.goto 4, 3) := by decide +kernel
theorem dX9_put_43 : decode cX9_put 43 = .ok (.iconst 1, 1) := by decide +kernel
theorem dX9_put_44 : decode cX9_put 44 = .ok (.istore 4, 2) := by decide +kernel
theorem dX9_put_46 : decode cX9_put 46 = .ok (.aload_n 0, 1) := by decide +kernel
theorem dX9_put_47 : decode cX9_put 47 = .ok (.iconst 1, 1) := by decide +kernel
theorem dX9_put_48 : decode cX9_put 48 = .ok (.lload_n 1, 1) := by decide +kernel
theorem dX9_put_49 : decode cX9_put 49 = .ok (.lload_n 1, 1) := by decide +kernel
theorem dX9_put_50 : decode cX9_put 50 = .ok (.iconst 0, 1) := by decide +kernel
theorem dX9_put_51 : decode cX9_put 51 = .ok (.invokevirtual 67, 3) := by decide +kernel
theorem dX9_put_54 : decode cX9_put 54 = .ok (.pop, 1) := by decide +kernel
theorem dX9_put_55 : decode cX9_put 55 = .ok (.iload 4, 2) := by decide +kernel
theorem dX9_put_57 : decode cX9_put 57 = .ok (.ireturn, 1) := by decide +kernel
theorem dX9_append_0 : decode cX9_append 0 = .ok (.aload_n 0, 1) := by decide +kernel
theorem dX9_append_1 : decode cX9_append 1 = .ok (.aload_n 0, 1) := by decide +kernel
theorem dX9_append_2 : decode cX9_append 2 = .ok (.getfield 10, 3) := by decide +kernel
theorem dX9_append_5 : decode cX9_append 5 = .ok (.getfield 47, 3) := by decide +kernel
theorem dX9_append_8 : decode cX9_append 8 = .ok (.bipush 20, 2) := by decide +kernel
theorem dX9_append_10 : decode cX9_append 10 = .ok (.if_icmp .le 7, 3) := by decide +kernel
theorem dX9_append_13 : decode cX9_append 13 = .ok (.iconst 1, 1) := by decide +kernel
theorem dX9_append_14 : decode cX9_append 14 = .ok (.goto 4, 3) := by decide +kernel
theorem dX9_append_17 : decode cX9_append 17 = .ok (.iconst 0, 1) := by decide +kernel
theorem dX9_append_18 : decode cX9_append 18 = .ok (.invokevirtual 59, 3) := by decide +kernel
theorem dX9_append_21 : decode cX9_append 21 = .ok (.istore_n 3, 1) := by decide +kernel
theorem dX9_append_22 : decode cX9_append 22 = .ok (.iload_n 3, 1) := by decide +kernel
theorem dX9_append_23 : decode cX9_append 23 = .ok (.ifCond .eq 5, 3) := by decide +kernel
theorem dX9_append_26 : decode cX9_append 26 = .ok (.iload_n 3, 1) := by decide +kernel
theorem dX9_append_27 : decode cX9_append 27 = .ok (.ireturn, 1) := by decide +kernel
theorem dX9_append_28 : decode cX9_append 28 = .ok (.aload_n 0, 1) := by decide +kernel
theorem dX9_append_29 : decode cX9_append 29 = .ok (.iconst 2, 1) := by decide +kernel
theorem dX9_append_30 : decode cX9_append 30 = .ok (.lload_n 1, 1) := by decide +kernel
theorem dX9_append_31 : decode cX9_append 31 = .ok (.lload_n 1, 1) := by decide +kernel
theorem dX9_append_32 : decode cX9_append 32 = .ok (.iconst 0, 1) := by decide +kernel
theorem dX9_append_33 : decode cX9_append 33 = .ok (.invokevirtual 67, 3) := by decide +kernel
theorem dX9_append_36 : decode cX9_append 36 = .ok (.pop, 1) := by decide +kernel
theorem dX9_append_37 : decode cX9_append 37 = .ok (.aload_n 0, 1) := by decide +kernel
theorem dX9_append_38 : decode cX9_append 38 = .ok (.getfield 33, 3) := by decide +kernel
theorem dX9_append_41 : decode cX9_append 41 = .ok (.lload_n 1, 1) := by decide +kernel
theorem dX9_append_42 : decode cX9_append 42 = .ok (.invokevirtual 63, 3) := by decide +kernel
theorem dX9_append_45 : decode cX9_append 45 = .ok (.astore 4, 2) := by decide +kernel
theorem dX9_append_47 : decode cX9_append 47 = .ok (.aload 4, 2) := by decide +kernel
theorem dX9_append_49 : decode cX9_append 49 = .ok (.ifnonnull 7, 3) := by decide +kernel
theorem dX9_append_52 : decode cX9_append 52 = .ok (.iconst 0, 1) := by decide +kernel
theorem dX9_append_53 : decode cX9_append 53 = .ok (.goto 6, 3) := by decide +kernel
theorem dX9_append_56 : decode cX9_append 56 = .ok (.aload 4, 2) := by decide +kernel
theorem dX9_append_58 : decode cX9_append 58 = .ok (.arraylength, 1) := by decide +kernel
theorem dX9_append_59 : decode cX9_append 59 = .ok (.ireturn, 1) := by decide +kernel
theorem dX9_swap_0 : decode cX9_swap 0 = .ok (.iload_n 3, 1) := by decide +kernel
theorem dX9_swap_1 : decode cX9_swap 1 = .ok (.ifCond .lt 34, 3) := by decide +kernel
theorem dX9_swap_4 : decode cX9_swap 4 = .ok (.iload_n 3, 1) := by decide +kernel
theorem dX9_swap_5 : decode cX9_swap 5 = .ok (.bipush 20, 2) := by decide +kernel
theorem dX9_swap_7 : decode cX9_swap 7 = .ok (.if_icmp .gt 28, 3) := by decide +kernel
theorem dX9_swap_10 : decode cX9_swap 10 = .ok (.iload_n 3, 1) := by decide +kernel
theorem dX9_swap_11 : decode cX9_swap 11 = .ok (.aload_n 0, 1) := by decide +kernel
theorem dX9_swap_12 : decode cX9_swap 12 = .ok (.getfield 10, 3) := by decide +kernel
theorem dX9_swap_15 : decode cX9_swap 15 = .ok (.getfield 47, 3) := by decide +kernel
theorem dX9_swap_18 : decode cX9_swap 18 = .ok (.if_icmp .gt 17, 3) := by decide +kernel
theorem dX9_swap_21 : decode cX9_swap 21 = .ok (.aload_n 0, 1) := by decide +kernel
theorem dX9_swap_22 : decode cX9_swap 22 = .ok (.getfield 10, 3) := by decide +kernel
theorem dX9_swap_25 : decode cX9_swap 25 = .ok (.getfield 47, 3) := by decide +kernel
theorem dX9_swap_28 : decode cX9_swap 28 = .ok (.iload_n 3, 1) := by decide +kernel
theorem dX9_swap_29 : decode cX9_swap 29 = .ok (.isub, 1) := by decide +kernel
theorem dX9_swap_30 : decode cX9_swap 30 = .ok (.bipush 20, 2) := by decide +kernel
theorem dX9_swap_32 : decode cX9_swap 32 = .ok (.if_icmp .le 7, 3) := by decide +kernel
theorem dX9_swap_35 : decode cX9_swap 35 = .ok (.iconst 1, 1) := by decide +kernel
theorem dX9_swap_36 : decode cX9_swap 36 = .ok (.goto 4, 3) := by decide +kernel
theorem dX9_swap_39 : decode cX9_swap 39 = .ok (.iconst 0, 1) := by decide +kernel
theorem dX9_swap_40 : decode cX9_swap 40 = .ok (.istore 4, 2) := by decide +kernel
theorem dX9_swap_42 : decode cX9_swap 42 = .ok (.aload_n 0, 1) := by decide +kernel
theorem dX9_swap_43 : decode cX9_swap 43 = .ok (.iload 4, 2) := by decide +kernel
theorem dX9_swap_45 : decode cX9_swap 45 = .ok (.invokevirtual 59, 3) := by decide +kernel
theorem dX9_swap_48 : decode cX9_swap 48 = .ok (.istore 5, 2) := by decide +kernel
theorem dX9_swap_50 : decode cX9_swap 50 = .ok (.iload 5, 2) := by decide +kernel
theorem dX9_swap_52 : decode cX9_swap 52 = .ok (.ifCond .eq 6, 3) := by decide +kernel
theorem dX9_swap_55 : decode cX9_swap 55 = .ok (.iload 5, 2) := by decide +kernel
theorem dX9_swap_57 : decode cX9_swap 57 = .ok (.ireturn, 1) := by decide +kernel
theorem dX9_swap_58 : decode cX9_swap 58 = .ok (.aload_n 0, 1) := by decide +kernel
theorem dX9_swap_59 : decode cX9_swap 59 = .ok (.iconst 3, 1) := by decide +kernel
theorem dX9_swap_60 : decode cX9_swap 60 = .ok (.lload_n 1, 1) := by decide +kernel
theorem dX9_swap_61 : decode cX9_swap 61 = .ok (.lload_n 1, 1) := by decide +kernel
theorem dX9_swap_62 : decode cX9_swap 62 = .ok (.iload_n 3, 1) := by decide +kernel
theorem dX9_swap_63 : decode cX9_swap 63 = .ok (.invokevirtual 67, 3) := by decide +kernel
theorem dX9_swap_66 : decode cX9_swap 66 = .ok (.ireturn, 1) := by decide +kernel
theorem dX9_drop_0 : decode cX9_drop 0 = .ok (.aload_n 0, 1) := by decide +kernel
theorem dX9_drop_1 : decode cX9_drop 1 = .ok (.iconst 0, 1) := by decide +kernel
theorem dX9_drop_2 : decode cX9_drop 2 = .ok (.invokevirtual 59, 3) := by decide +kernel
theorem dX9_drop_5 : decode cX9_drop 5 = .ok (.istore_n 3, 1) := by decide +kernel
theorem dX9_drop_6 : decode cX9_drop 6 = .ok (.iload_n 3, 1) := by decide +kernel
theorem dX9_drop_7 : decode cX9_drop 7 = .ok (.ifCond .eq 5, 3) := by decide +kernel
theorem dX9_drop_10 : decode cX9_drop 10 = .ok (.iload_n 3, 1) := by decide +kernel
theorem dX9_drop_11 : decode cX9_drop 11 = .ok (.ireturn, 1) := by decide +kernel
theorem dX9_drop_12 : decode cX9_drop 12 = .ok (.aload_n 0, 1) := by decide +kernel
theorem dX9_drop_13 : decode cX9_drop 13 = .ok (.iconst 4, 1) := by decide +kernel
theorem dX9_drop_14 : decode cX9_drop 14 = .ok (.lload_n 1, 1) := by decide +kernel
theorem dX9_drop_15 : decode cX9_drop 15 = .ok (.lload_n 1, 1) := by decide +kernel
theorem dX9_drop_16 : decode cX9_drop 16 = .ok (.iconst 0, 1) := by decide +kernel
theorem dX9_drop_17 : decode cX9_drop 17 = .ok (.invokevirtual 67, 3) := by decide +kernel
theorem dX9_drop_20 : decode cX9_drop 20 = .ok (.ireturn, 1) := by decide +kernel
theorem dX9_sweep_0 : decode cX9_sweep 0 = .ok (.aload_n 0, 1) := by decide +kernel
theorem dX9_sweep_1 : decode cX9_sweep 1 = .ok (.lload_n 3, 1) := by decide +kernel
theorem dX9_sweep_2 : decode cX9_sweep 2 = .ok (.lload_n 1, 1) := by decide +kernel
theorem dX9_sweep_3 : decode cX9_sweep 3 = .ok (.lcmp, 1) := by decide +kernel
theorem dX9_sweep_4 : decode cX9_sweep 4 = .ok (.ifCond .ge 7, 3) := by decide +kernel
theorem dX9_sweep_7 : decode cX9_sweep 7 = .ok (.iconst 1, 1) := by decide +kernel
theorem dX9_sweep_8 : decode cX9_sweep 8 = .ok (.goto 4, 3) := by decide +kernel
theorem dX9_sweep_11 : decode cX9_sweep 11 = .ok (.iconst 0, 1) := by decide +kernel
theorem dX9_sweep_12 : decode cX9_sweep 12 = .ok (.invokevirtual 59, 3) := by decide +kernel
theorem dX9_sweep_15 : decode cX9_sweep 15 = .ok (.istore 5, 2) := by decide +kernel
theorem dX9_sweep_17 : decode cX9_sweep 17 = .ok (.iload 5, 2) := by decide +kernel
theorem dX9_sweep_19 : decode cX9_sweep 19 = .ok (.ifCond .eq 6, 3) := by decide +kernel
theorem dX9_sweep_22 : decode cX9_sweep 22 = .ok (.iload 5, 2) := by decide +kernel
theorem dX9_sweep_24 : decode cX9_sweep 24 = .ok (.ireturn, 1) := by decide +kernel
theorem dX9_sweep_25 : decode cX9_sweep 25 = .ok (.aload_n 0, 1) := by decide +kernel
theorem dX9_sweep_26 : decode cX9_sweep 26 = .ok (.iconst 5, 1) := by decide +kernel
theorem dX9_sweep_27 : decode cX9_sweep 27 = .ok (.lload_n 1, 1) := by decide +kernel
theorem dX9_sweep_28 : decode cX9_sweep 28 = .ok (.lload_n 3, 1) := by decide +kernel
theorem dX9_sweep_29 : decode cX9_sweep 29 = .ok (.iconst 0, 1) := by decide +kernel
theorem dX9_sweep_30 : decode cX9_sweep 30 = .ok (.invokevirtual 67, 3) := by decide +kernel
theorem dX9_sweep_33 : decode cX9_sweep 33 = .ok (.ireturn, 1) := by decide +kernel
theorem dX9_get_0 : decode cX9_get 0 = .ok (.aload_n 0, 1) := by decide +kernel
theorem dX9_get_1 : decode cX9_get 1 = .ok (.getfield 71, 3) := by decide +kernel
theorem dX9_get_4 : decode cX9_get 4 = .ok (.ifCond .eq 6, 3) := by decide +kernel
theorem dX9_get_7 : decode cX9_get 7 = .ok (.bipush (-4), 2) := by decide +kernel
theorem dX9_get_9 : decode cX9_get 9 = .ok (.ireturn, 1) := by decide +kernel
theorem dX9_get_10 : decode cX9_get 10 = .ok (.aload_n 0, 1) := by decide +kernel
theorem dX9_get_11 : decode cX9_get 11 = .ok (.aload_n 0, 1) := by decide +kernel
theorem dX9_get_12 : decode cX9_get 12 = .ok (.getfield 33, 3) := by decide +kernel
theorem dX9_get_15 : decode cX9_get 15 = .ok (.lload_n 1, 1) := by decide +kernel
theorem dX9_get_16 : decode cX9_get 16 = .ok (.invokevirtual 63, 3) := by decide +kernel
theorem dX9_get_19 : decode cX9_get 19 = .ok (.invokevirtual 75, 3) := by decide +kernel
theorem dX9_get_22 : decode cX9_get 22 = .ok (.ireturn, 1) := by decide +kernel
theorem dX9_has_0 : decode cX9_has 0 = .ok (.aload_n 0, 1) := by decide +kernel
theorem dX9_has_1 : decode cX9_has 1 = .ok (.getfield 71, 3) := by decide +kernel
theorem dX9_has_4 : decode cX9_has 4 = .ok (.ifCond .eq 6, 3) := by decide +kernel
theorem dX9_has_7 : decode cX9_has 7 = .ok (.bipush (-4), 2) := by decide +kernel
theorem dX9_has_9 : decode cX9_has 9 = .ok (.ireturn, 1) := by decide +kernel
theorem dX9_has_10 : decode cX9_has 10 = .ok (.aload_n 0, 1) := by decide +kernel
theorem dX9_has_11 : decode cX9_has 11 = .ok (.getfield 33, 3) := by decide +kernel
theorem dX9_has_14 : decode cX9_has 14 = .ok (.lload_n 1, 1) := by decide +kernel
theorem dX9_has_15 : decode cX9_has 15 = .ok (.invokevirtual 63, 3) := by decide +kernel
theorem dX9_has_18 : decode cX9_has 18 = .ok (.ifnonnull 7, 3) := by decide +kernel
theorem dX9_has_21 : decode cX9_has 21 = .ok (.iconst 0, 1) := by decide +kernel
theorem dX9_has_22 : decode cX9_has 22 = .ok (.goto 4, 3) := by decide +kernel
theorem dX9_has_25 : decode cX9_has 25 = .ok (.iconst 1, 1) := by decide +kernel
theorem dX9_has_26 : decode cX9_has 26 = .ok (.ireturn, 1) := by decide +kernel
theorem dX9_next_0 : decode cX9_next 0 = .ok (.aload_n 0, 1) := by decide +kernel
theorem dX9_next_1 : decode cX9_next 1 = .ok (.getfield 71, 3) := by decide +kernel
theorem dX9_next_4 : decode cX9_next 4 = .ok (.ifCond .eq 6, 3) := by decide +kernel
theorem dX9_next_7 : decode cX9_next 7 = .ok (.bipush (-4), 2) := by decide +kernel
theorem dX9_next_9 : decode cX9_next 9 = .ok (.ireturn, 1) := by decide +kernel
theorem dX9_next_10 : decode cX9_next 10 = .ok (.aload_n 0, 1) := by decide +kernel
theorem dX9_next_11 : decode cX9_next 11 = .ok (.aload_n 0, 1) := by decide +kernel
theorem dX9_next_12 : decode cX9_next 12 = .ok (.getfield 33, 3) := by decide +kernel
theorem dX9_next_15 : decode cX9_next 15 = .ok (.lload_n 1, 1) := by decide +kernel
theorem dX9_next_16 : decode cX9_next 16 = .ok (.invokevirtual 79, 3) := by decide +kernel
theorem dX9_next_19 : decode cX9_next 19 = .ok (.invokevirtual 83, 3) := by decide +kernel
theorem dX9_next_22 : decode cX9_next 22 = .ok (.ireturn, 1) := by decide +kernel
theorem dX9_prior_0 : decode cX9_prior 0 = .ok (.aload_n 0, 1) := by decide +kernel
theorem dX9_prior_1 : decode cX9_prior 1 = .ok (.getfield 71, 3) := by decide +kernel
theorem dX9_prior_4 : decode cX9_prior 4 = .ok (.ifCond .eq 6, 3) := by decide +kernel
theorem dX9_prior_7 : decode cX9_prior 7 = .ok (.bipush (-4), 2) := by decide +kernel
theorem dX9_prior_9 : decode cX9_prior 9 = .ok (.ireturn, 1) := by decide +kernel
theorem dX9_prior_10 : decode cX9_prior 10 = .ok (.aload_n 0, 1) := by decide +kernel
theorem dX9_prior_11 : decode cX9_prior 11 = .ok (.getfield 33, 3) := by decide +kernel
theorem dX9_prior_14 : decode cX9_prior 14 = .ok (.lload_n 1, 1) := by decide +kernel
theorem dX9_prior_15 : decode cX9_prior 15 = .ok (.invokevirtual 79, 3) := by decide +kernel
theorem dX9_prior_18 : decode cX9_prior 18 = .ok (.istore_n 3, 1) := by decide +kernel
theorem dX9_prior_19 : decode cX9_prior 19 = .ok (.aload_n 0, 1) := by decide +kernel
theorem dX9_prior_20 : decode cX9_prior 20 = .ok (.aload_n 0, 1) := by decide +kernel
theorem dX9_prior_21 : decode cX9_prior 21 = .ok (.getfield 33, 3) := by decide +kernel
theorem dX9_prior_24 : decode cX9_prior 24 = .ok (.iload_n 3, 1) := by decide +kernel
theorem dX9_prior_25 : decode cX9_prior 25 = .ok (.lload_n 1, 1) := by decide +kernel
theorem dX9_prior_26 : decode cX9_prior 26 = .ok (.invokevirtual 87, 3) := by decide +kernel
theorem dX9_prior_29 : decode cX9_prior 29 = .ok (.ifCond .eq 7, 3) := by decide +kernel
theorem dX9_prior_32 : decode cX9_prior 32 = .ok (.iload_n 3, 1) := by decide +kernel
theorem dX9_prior_33 : decode cX9_prior 33 = .ok (.goto 6, 3) := by decide +kernel
theorem dX9_prior_36 : decode cX9_prior 36 = .ok (.iload_n 3, 1) := by decide +kernel
theorem dX9_prior_37 : decode cX9_prior 37 = .ok (.iconst 1, 1) := by decide +kernel
theorem dX9_prior_38 : decode cX9_prior 38 = .ok (.isub, 1) := by decide +kernel
theorem dX9_prior_39 : decode cX9_prior 39 = .ok (.invokevirtual 83, 3) := by decide +kernel
theorem dX9_prior_42 : decode cX9_prior 42 = .ok (.ireturn, 1) := by decide +kernel
theorem dX9_found_0 : decode cX9_found 0 = .ok (.aload_n 0, 1) := by decide +kernel
theorem dX9_found_1 : decode cX9_found 1 = .ok (.getfield 91, 3) := by decide +kernel
theorem dX9_found_4 : decode cX9_found 4 = .ok (.lreturn, 1) := by decide +kernel
theorem dX9_count_0 : decode cX9_count 0 = .ok (.aload_n 0, 1) := by decide +kernel
theorem dX9_count_1 : decode cX9_count 1 = .ok (.getfield 71, 3) := by decide +kernel
theorem dX9_count_4 : decode cX9_count 4 = .ok (.ifCond .eq 8, 3) := by decide +kernel
theorem dX9_count_7 : decode cX9_count 7 = .ok (.bipush (-4), 2) := by decide +kernel
theorem dX9_count_9 : decode cX9_count 9 = .ok (.goto 13, 3) := by decide +kernel
theorem dX9_count_12 : decode cX9_count 12 = .ok (.aload_n 0, 1) := by decide +kernel
theorem dX9_count_13 : decode cX9_count 13 = .ok (.getfield 33, 3) := by decide +kernel
theorem dX9_count_16 : decode cX9_count 16 = .ok (.getfield 95, 3) := by decide +kernel
theorem dX9_count_19 : decode cX9_count 19 = .ok (.invokevirtual 98, 3) := by decide +kernel
theorem dX9_count_22 : decode cX9_count 22 = .ok (.ireturn, 1) := by decide +kernel
theorem dX9_sink_0 : decode cX9_sink 0 = .ok (.aload_n 0, 1) := by decide +kernel
theorem dX9_sink_1 : decode cX9_sink 1 = .ok (.getfield 71, 3) := by decide +kernel
theorem dX9_sink_4 : decode cX9_sink 4 = .ok (.ifCond .eq 8, 3) := by decide +kernel
theorem dX9_sink_7 : decode cX9_sink 7 = .ok (.bipush (-4), 2) := by decide +kernel
theorem dX9_sink_9 : decode cX9_sink 9 = .ok (.goto 10, 3) := by decide +kernel
theorem dX9_sink_12 : decode cX9_sink 12 = .ok (.aload_n 0, 1) := by decide +kernel
theorem dX9_sink_13 : decode cX9_sink 13 = .ok (.getfield 26, 3) := by decide +kernel
theorem dX9_sink_16 : decode cX9_sink 16 = .ok (.invokevirtual 101, 3) := by decide +kernel
theorem dX9_sink_19 : decode cX9_sink 19 = .ok (.ireturn, 1) := by decide +kernel
theorem dX9_settle_0 : decode cX9_settle 0 = .ok (.aload_n 0, 1) := by decide +kernel
theorem dX9_settle_1 : decode cX9_settle 1 = .ok (.getfield 71, 3) := by decide +kernel
theorem dX9_settle_4 : decode cX9_settle 4 = .ok (.ifCond .eq 8, 3) := by decide +kernel
theorem dX9_settle_7 : decode cX9_settle 7 = .ok (.bipush (-4), 2) := by decide +kernel
theorem dX9_settle_9 : decode cX9_settle 9 = .ok (.goto 10, 3) := by decide +kernel
theorem dX9_settle_12 : decode cX9_settle 12 = .ok (.aload_n 0, 1) := by decide +kernel
end
section
theorem dX9_settle_13 : decode cX9_settle 13 = .ok (.getfield 26, 3) := by decide +kernel
theorem dX9_settle_16 : decode cX9_settle 16 = .ok (.invokevirtual 104, 3) := by decide +kernel
theorem dX9_settle_19 : decode cX9_settle 19 = .ok (.ireturn, 1) := by decide +kernel
theorem dX9_pages_0 : decode cX9_pages 0 = .ok (.aload_n 0, 1) := by decide +kernel
theorem dX9_pages_1 : decode cX9_pages 1 = .ok (.getfield 71, 3) := by decide +kernel
theorem dX9_pages_4 : decode cX9_pages 4 = .ok (.ifCond .eq 8, 3) := by decide +kernel
theorem dX9_pages_7 : decode cX9_pages 7 = .ok (.bipush (-4), 2) := by decide +kernel
theorem dX9_pages_9 : decode cX9_pages 9 = .ok (.goto 14, 3) := by decide +kernel
theorem dX9_pages_12 : decode cX9_pages 12 = .ok (.aload_n 0, 1) := by decide +kernel
theorem dX9_pages_13 : decode cX9_pages 13 = .ok (.getfield 26, 3) := by decide +kernel
theorem dX9_pages_16 : decode cX9_pages 16 = .ok (.getfield 107, 3) := by decide +kernel
theorem dX9_pages_19 : decode cX9_pages 19 = .ok (.iconst 0, 1) := by decide +kernel
theorem dX9_pages_20 : decode cX9_pages 20 = .ok (.invokestatic 111, 3) := by decide +kernel
theorem dX9_pages_23 : decode cX9_pages 23 = .ok (.ireturn, 1) := by decide +kernel
theorem dX9_height_0 : decode cX9_height 0 = .ok (.aload_n 0, 1) := by decide +kernel
theorem dX9_height_1 : decode cX9_height 1 = .ok (.getfield 71, 3) := by decide +kernel
theorem dX9_height_4 : decode cX9_height 4 = .ok (.ifCond .eq 8, 3) := by decide +kernel
theorem dX9_height_7 : decode cX9_height 7 = .ok (.bipush (-4), 2) := by decide +kernel
theorem dX9_height_9 : decode cX9_height 9 = .ok (.goto 10, 3) := by decide +kernel
theorem dX9_height_12 : decode cX9_height 12 = .ok (.aload_n 0, 1) := by decide +kernel
theorem dX9_height_13 : decode cX9_height 13 = .ok (.getfield 26, 3) := by decide +kernel
theorem dX9_height_16 : decode cX9_height 16 = .ok (.invokevirtual 115, 3) := by decide +kernel
theorem dX9_height_19 : decode cX9_height 19 = .ok (.ireturn, 1) := by decide +kernel
theorem dX9_letters_0 : decode cX9_letters 0 = .ok (.aload_n 0, 1) := by decide +kernel
theorem dX9_letters_1 : decode cX9_letters 1 = .ok (.getfield 71, 3) := by decide +kernel
theorem dX9_letters_4 : decode cX9_letters 4 = .ok (.ifCond .eq 8, 3) := by decide +kernel
theorem dX9_letters_7 : decode cX9_letters 7 = .ok (.bipush (-4), 2) := by decide +kernel
theorem dX9_letters_9 : decode cX9_letters 9 = .ok (.goto 14, 3) := by decide +kernel
theorem dX9_letters_12 : decode cX9_letters 12 = .ok (.aload_n 0, 1) := by decide +kernel
theorem dX9_letters_13 : decode cX9_letters 13 = .ok (.getfield 26, 3) := by decide +kernel
theorem dX9_letters_16 : decode cX9_letters 16 = .ok (.getfield 107, 3) := by decide +kernel
theorem dX9_letters_19 : decode cX9_letters 19 = .ok (.iconst 0, 1) := by decide +kernel
theorem dX9_letters_20 : decode cX9_letters 20 = .ok (.invokestatic 118, 3) := by decide +kernel
theorem dX9_letters_23 : decode cX9_letters 23 = .ok (.ireturn, 1) := by decide +kernel
theorem dX9_page_0 : decode cX9_page 0 = .ok (.aload_n 0, 1) := by decide +kernel
theorem dX9_page_1 : decode cX9_page 1 = .ok (.getfield 71, 3) := by decide +kernel
theorem dX9_page_4 : decode cX9_page 4 = .ok (.ifCond .eq 6, 3) := by decide +kernel
theorem dX9_page_7 : decode cX9_page 7 = .ok (.bipush (-4), 2) := by decide +kernel
theorem dX9_page_9 : decode cX9_page 9 = .ok (.ireturn, 1) := by decide +kernel
theorem dX9_page_10 : decode cX9_page 10 = .ok (.aload_n 0, 1) := by decide +kernel
theorem dX9_page_11 : decode cX9_page 11 = .ok (.getfield 26, 3) := by decide +kernel
theorem dX9_page_14 : decode cX9_page 14 = .ok (.getfield 107, 3) := by decide +kernel
theorem dX9_page_17 : decode cX9_page 17 = .ok (.iload_n 1, 1) := by decide +kernel
theorem dX9_page_18 : decode cX9_page 18 = .ok (.iconst 0, 1) := by decide +kernel
theorem dX9_page_19 : decode cX9_page 19 = .ok (.invokestatic 121, 3) := by decide +kernel
theorem dX9_page_22 : decode cX9_page 22 = .ok (.astore_n 3, 1) := by decide +kernel
theorem dX9_page_23 : decode cX9_page 23 = .ok (.aload_n 3, 1) := by decide +kernel
theorem dX9_page_24 : decode cX9_page 24 = .ok (.ifnonnull 5, 3) := by decide +kernel
theorem dX9_page_27 : decode cX9_page 27 = .ok (.iconst (-1), 1) := by decide +kernel
theorem dX9_page_28 : decode cX9_page 28 = .ok (.ireturn, 1) := by decide +kernel
theorem dX9_page_29 : decode cX9_page 29 = .ok (.iload_n 2, 1) := by decide +kernel
theorem dX9_page_30 : decode cX9_page 30 = .ok (.tableswitch 61 0 3 #[30, 43, 48, 56], 30) := by decide +kernel
theorem dX9_page_60 : decode cX9_page 60 = .ok (.aload_n 3, 1) := by decide +kernel
theorem dX9_page_61 : decode cX9_page 61 = .ok (.invokevirtual 125, 3) := by decide +kernel
theorem dX9_page_64 : decode cX9_page 64 = .ok (.ifCond .eq 7, 3) := by decide +kernel
theorem dX9_page_67 : decode cX9_page 67 = .ok (.iconst 0, 1) := by decide +kernel
theorem dX9_page_68 : decode cX9_page 68 = .ok (.goto 4, 3) := by decide +kernel
theorem dX9_page_71 : decode cX9_page 71 = .ok (.iconst 1, 1) := by decide +kernel
theorem dX9_page_72 : decode cX9_page 72 = .ok (.ireturn, 1) := by decide +kernel
theorem dX9_page_73 : decode cX9_page 73 = .ok (.aload_n 3, 1) := by decide +kernel
theorem dX9_page_74 : decode cX9_page 74 = .ok (.invokevirtual 131, 3) := by decide +kernel
theorem dX9_page_77 : decode cX9_page 77 = .ok (.ireturn, 1) := by decide +kernel
theorem dX9_page_78 : decode cX9_page 78 = .ok (.aload_n 3, 1) := by decide +kernel
theorem dX9_page_79 : decode cX9_page 79 = .ok (.getfield 134, 3) := by decide +kernel
theorem dX9_page_82 : decode cX9_page 82 = .ok (.invokevirtual 98, 3) := by decide +kernel
theorem dX9_page_85 : decode cX9_page 85 = .ok (.ireturn, 1) := by decide +kernel
theorem dX9_page_86 : decode cX9_page 86 = .ok (.aload_n 3, 1) := by decide +kernel
theorem dX9_page_87 : decode cX9_page 87 = .ok (.getfield 137, 3) := by decide +kernel
theorem dX9_page_90 : decode cX9_page 90 = .ok (.ireturn, 1) := by decide +kernel
theorem dX9_page_91 : decode cX9_page 91 = .ok (.iconst (-1), 1) := by decide +kernel
theorem dX9_page_92 : decode cX9_page 92 = .ok (.ireturn, 1) := by decide +kernel
theorem dX9_border_0 : decode cX9_border 0 = .ok (.aload_n 0, 1) := by decide +kernel
theorem dX9_border_1 : decode cX9_border 1 = .ok (.getfield 71, 3) := by decide +kernel
theorem dX9_border_4 : decode cX9_border 4 = .ok (.ifCond .eq 6, 3) := by decide +kernel
theorem dX9_border_7 : decode cX9_border 7 = .ok (.bipush (-4), 2) := by decide +kernel
theorem dX9_border_9 : decode cX9_border 9 = .ok (.ireturn, 1) := by decide +kernel
theorem dX9_border_10 : decode cX9_border 10 = .ok (.aload_n 0, 1) := by decide +kernel
theorem dX9_border_11 : decode cX9_border 11 = .ok (.getfield 26, 3) := by decide +kernel
theorem dX9_border_14 : decode cX9_border 14 = .ok (.getfield 107, 3) := by decide +kernel
theorem dX9_border_17 : decode cX9_border 17 = .ok (.iload_n 1, 1) := by decide +kernel
theorem dX9_border_18 : decode cX9_border 18 = .ok (.iconst 0, 1) := by decide +kernel
theorem dX9_border_19 : decode cX9_border 19 = .ok (.invokestatic 121, 3) := by decide +kernel
theorem dX9_border_22 : decode cX9_border 22 = .ok (.astore_n 3, 1) := by decide +kernel
theorem dX9_border_23 : decode cX9_border 23 = .ok (.aload_n 3, 1) := by decide +kernel
theorem dX9_border_24 : decode cX9_border 24 = .ok (.ifnull 8, 3) := by decide +kernel
theorem dX9_border_27 : decode cX9_border 27 = .ok (.iload_n 2, 1) := by decide +kernel
theorem dX9_border_28 : decode cX9_border 28 = .ok (.iconst 1, 1) := by decide +kernel
theorem dX9_border_29 : decode cX9_border 29 = .ok (.if_icmp .ge 5, 3) := by decide +kernel
theorem dX9_border_32 : decode cX9_border 32 = .ok (.iconst (-1), 1) := by decide +kernel
theorem dX9_border_33 : decode cX9_border 33 = .ok (.ireturn, 1) := by decide +kernel
theorem dX9_border_34 : decode cX9_border 34 = .ok (.aload_n 3, 1) := by decide +kernel
theorem dX9_border_35 : decode cX9_border 35 = .ok (.invokevirtual 125, 3) := by decide +kernel
theorem dX9_border_38 : decode cX9_border 38 = .ok (.ifCond .eq 42, 3) := by decide +kernel
theorem dX9_border_41 : decode cX9_border 41 = .ok (.iload_n 2, 1) := by decide +kernel
theorem dX9_border_42 : decode cX9_border 42 = .ok (.aload_n 3, 1) := by decide +kernel
theorem dX9_border_43 : decode cX9_border 43 = .ok (.getfield 140, 3) := by decide +kernel
theorem dX9_border_46 : decode cX9_border 46 = .ok (.getfield 95, 3) := by decide +kernel
theorem dX9_border_49 : decode cX9_border 49 = .ok (.invokevirtual 98, 3) := by decide +kernel
theorem dX9_border_52 : decode cX9_border 52 = .ok (.if_icmp .gt 28, 3) := by decide +kernel
theorem dX9_border_55 : decode cX9_border 55 = .ok (.aload_n 0, 1) := by decide +kernel
theorem dX9_border_56 : decode cX9_border 56 = .ok (.aload_n 3, 1) := by decide +kernel
theorem dX9_border_57 : decode cX9_border 57 = .ok (.getfield 140, 3) := by decide +kernel
theorem dX9_border_60 : decode cX9_border 60 = .ok (.getfield 95, 3) := by decide +kernel
theorem dX9_border_63 : decode cX9_border 63 = .ok (.iload_n 2, 1) := by decide +kernel
theorem dX9_border_64 : decode cX9_border 64 = .ok (.iconst 1, 1) := by decide +kernel
theorem dX9_border_65 : decode cX9_border 65 = .ok (.isub, 1) := by decide +kernel
theorem dX9_border_66 : decode cX9_border 66 = .ok (.invokevirtual 143, 3) := by decide +kernel
theorem dX9_border_69 : decode cX9_border 69 = .ok (.checkcast 147, 3) := by decide +kernel
theorem dX9_border_72 : decode cX9_border 72 = .ok (.getfield 149, 3) := by decide +kernel
theorem dX9_border_75 : decode cX9_border 75 = .ok (.putfield 91, 3) := by decide +kernel
theorem dX9_border_78 : decode cX9_border 78 = .ok (.iconst 1, 1) := by decide +kernel
theorem dX9_border_79 : decode cX9_border 79 = .ok (.ireturn, 1) := by decide +kernel
theorem dX9_border_80 : decode cX9_border 80 = .ok (.iload_n 2, 1) := by decide +kernel
theorem dX9_border_81 : decode cX9_border 81 = .ok (.aload_n 3, 1) := by decide +kernel
theorem dX9_border_82 : decode cX9_border 82 = .ok (.getfield 152, 3) := by decide +kernel
theorem dX9_border_85 : decode cX9_border 85 = .ok (.invokevirtual 98, 3) := by decide +kernel
theorem dX9_border_88 : decode cX9_border 88 = .ok (.if_icmp .ge 23, 3) := by decide +kernel
theorem dX9_border_91 : decode cX9_border 91 = .ok (.aload_n 0, 1) := by decide +kernel
theorem dX9_border_92 : decode cX9_border 92 = .ok (.aload_n 3, 1) := by decide +kernel
theorem dX9_border_93 : decode cX9_border 93 = .ok (.getfield 152, 3) := by decide +kernel
theorem dX9_border_96 : decode cX9_border 96 = .ok (.iload_n 2, 1) := by decide +kernel
theorem dX9_border_97 : decode cX9_border 97 = .ok (.invokevirtual 143, 3) := by decide +kernel
theorem dX9_border_100 : decode cX9_border 100 = .ok (.checkcast 126, 3) := by decide +kernel
theorem dX9_border_103 : decode cX9_border 103 = .ok (.getfield 155, 3) := by decide +kernel
theorem dX9_border_106 : decode cX9_border 106 = .ok (.putfield 91, 3) := by decide +kernel
theorem dX9_border_109 : decode cX9_border 109 = .ok (.iconst 1, 1) := by decide +kernel
theorem dX9_border_110 : decode cX9_border 110 = .ok (.ireturn, 1) := by decide +kernel
theorem dX9_border_111 : decode cX9_border 111 = .ok (.iconst (-1), 1) := by decide +kernel
theorem dX9_border_112 : decode cX9_border 112 = .ok (.ireturn, 1) := by decide +kernel
theorem dX9_letter_0 : decode cX9_letter 0 = .ok (.aload_n 0, 1) := by decide +kernel
theorem dX9_letter_1 : decode cX9_letter 1 = .ok (.getfield 71, 3) := by decide +kernel
theorem dX9_letter_4 : decode cX9_letter 4 = .ok (.ifCond .eq 6, 3) := by decide +kernel
theorem dX9_letter_7 : decode cX9_letter 7 = .ok (.bipush (-4), 2) := by decide +kernel
theorem dX9_letter_9 : decode cX9_letter 9 = .ok (.ireturn, 1) := by decide +kernel
theorem dX9_letter_10 : decode cX9_letter 10 = .ok (.aload_n 0, 1) := by decide +kernel
theorem dX9_letter_11 : decode cX9_letter 11 = .ok (.getfield 26, 3) := by decide +kernel
theorem dX9_letter_14 : decode cX9_letter 14 = .ok (.getfield 107, 3) := by decide +kernel
theorem dX9_letter_17 : decode cX9_letter 17 = .ok (.iload_n 1, 1) := by decide +kernel
theorem dX9_letter_18 : decode cX9_letter 18 = .ok (.iconst 0, 1) := by decide +kernel
theorem dX9_letter_19 : decode cX9_letter 19 = .ok (.invokestatic 121, 3) := by decide +kernel
theorem dX9_letter_22 : decode cX9_letter 22 = .ok (.astore 4, 2) := by decide +kernel
theorem dX9_letter_24 : decode cX9_letter 24 = .ok (.aload 4, 2) := by decide +kernel
theorem dX9_letter_26 : decode cX9_letter 26 = .ok (.ifnull 19, 3) := by decide +kernel
theorem dX9_letter_29 : decode cX9_letter 29 = .ok (.iload_n 2, 1) := by decide +kernel
theorem dX9_letter_30 : decode cX9_letter 30 = .ok (.ifCond .lt 15, 3) := by decide +kernel
theorem dX9_letter_33 : decode cX9_letter 33 = .ok (.iload_n 2, 1) := by decide +kernel
theorem dX9_letter_34 : decode cX9_letter 34 = .ok (.aload 4, 2) := by decide +kernel
theorem dX9_letter_36 : decode cX9_letter 36 = .ok (.getfield 134, 3) := by decide +kernel
theorem dX9_letter_39 : decode cX9_letter 39 = .ok (.invokevirtual 98, 3) := by decide +kernel
theorem dX9_letter_42 : decode cX9_letter 42 = .ok (.if_icmp .lt 5, 3) := by decide +kernel
theorem dX9_letter_45 : decode cX9_letter 45 = .ok (.iconst (-1), 1) := by decide +kernel
theorem dX9_letter_46 : decode cX9_letter 46 = .ok (.ireturn, 1) := by decide +kernel
theorem dX9_letter_47 : decode cX9_letter 47 = .ok (.aload 4, 2) := by decide +kernel
theorem dX9_letter_49 : decode cX9_letter 49 = .ok (.getfield 134, 3) := by decide +kernel
theorem dX9_letter_52 : decode cX9_letter 52 = .ok (.iload_n 2, 1) := by decide +kernel
theorem dX9_letter_53 : decode cX9_letter 53 = .ok (.invokevirtual 143, 3) := by decide +kernel
theorem dX9_letter_56 : decode cX9_letter 56 = .ok (.checkcast 158, 3) := by decide +kernel
theorem dX9_letter_59 : decode cX9_letter 59 = .ok (.astore 5, 2) := by decide +kernel
theorem dX9_letter_61 : decode cX9_letter 61 = .ok (.iload_n 3, 1) := by decide +kernel
theorem dX9_letter_62 : decode cX9_letter 62 = .ok (.ifCond .ne 9, 3) := by decide +kernel
theorem dX9_letter_65 : decode cX9_letter 65 = .ok (.aload 5, 2) := by decide +kernel
theorem dX9_letter_67 : decode cX9_letter 67 = .ok (.getfield 160, 3) := by decide +kernel
theorem dX9_letter_70 : decode cX9_letter 70 = .ok (.ireturn, 1) := by decide +kernel
theorem dX9_letter_71 : decode cX9_letter 71 = .ok (.iload_n 3, 1) := by decide +kernel
theorem dX9_letter_72 : decode cX9_letter 72 = .ok (.iconst 1, 1) := by decide +kernel
theorem dX9_letter_73 : decode cX9_letter 73 = .ok (.if_icmp .ne 11, 3) := by decide +kernel
theorem dX9_letter_76 : decode cX9_letter 76 = .ok (.aload 5, 2) := by decide +kernel
theorem dX9_letter_78 : decode cX9_letter 78 = .ok (.getfield 163, 3) := by decide +kernel
theorem dX9_letter_81 : decode cX9_letter 81 = .ok (.goto 4, 3) := by decide +kernel
theorem dX9_letter_84 : decode cX9_letter 84 = .ok (.iconst (-1), 1) := by decide +kernel
theorem dX9_letter_85 : decode cX9_letter 85 = .ok (.ireturn, 1) := by decide +kernel
theorem dX9_met_0 : decode cX9_met 0 = .ok (.aload_n 0, 1) := by decide +kernel
theorem dX9_met_1 : decode cX9_met 1 = .ok (.getfield 71, 3) := by decide +kernel
theorem dX9_met_4 : decode cX9_met 4 = .ok (.ifCond .eq 8, 3) := by decide +kernel
theorem dX9_met_7 : decode cX9_met 7 = .ok (.bipush (-4), 2) := by decide +kernel
theorem dX9_met_9 : decode cX9_met 9 = .ok (.goto 11, 3) := by decide +kernel
theorem dX9_met_12 : decode cX9_met 12 = .ok (.aload_n 0, 1) := by decide +kernel
theorem dX9_met_13 : decode cX9_met 13 = .ok (.getfield 26, 3) := by decide +kernel
theorem dX9_met_16 : decode cX9_met 16 = .ok (.lload_n 1, 1) := by decide +kernel
theorem dX9_met_17 : decode cX9_met 17 = .ok (.invokevirtual 166, 3) := by decide +kernel
theorem dX9_met_20 : decode cX9_met 20 = .ok (.ireturn, 1) := by decide +kernel
theorem dX9_sync_0 : decode cX9_sync 0 = .ok (.aload_n 0, 1) := by decide +kernel
theorem dX9_sync_1 : decode cX9_sync 1 = .ok (.getfield 71, 3) := by decide +kernel
theorem dX9_sync_4 : decode cX9_sync 4 = .ok (.ifCond .eq 6, 3) := by decide +kernel
theorem dX9_sync_7 : decode cX9_sync 7 = .ok (.bipush (-4), 2) := by decide +kernel
theorem dX9_sync_9 : decode cX9_sync 9 = .ok (.ireturn, 1) := by decide +kernel
theorem dX9_sync_10 : decode cX9_sync 10 = .ok (.aload_n 0, 1) := by decide +kernel
theorem dX9_sync_11 : decode cX9_sync 11 = .ok (.getfield 26, 3) := by decide +kernel
theorem dX9_sync_14 : decode cX9_sync 14 = .ok (.getfield 107, 3) := by decide +kernel
theorem dX9_sync_17 : decode cX9_sync 17 = .ok (.iconst 0, 1) := by decide +kernel
theorem dX9_sync_18 : decode cX9_sync 18 = .ok (.invokestatic 169, 3) := by decide +kernel
theorem dX9_sync_21 : decode cX9_sync 21 = .ok (.istore_n 1, 1) := by decide +kernel
theorem dX9_sync_22 : decode cX9_sync 22 = .ok (.aload_n 0, 1) := by decide +kernel
theorem dX9_sync_23 : decode cX9_sync 23 = .ok (.invokevirtual 172, 3) := by decide +kernel
theorem dX9_sync_26 : decode cX9_sync 26 = .ok (.iload_n 1, 1) := by decide +kernel
theorem dX9_sync_27 : decode cX9_sync 27 = .ok (.if_icmp .ge 6, 3) := by decide +kernel
theorem dX9_sync_30 : decode cX9_sync 30 = .ok (.bipush (-3), 2) := by decide +kernel
theorem dX9_sync_32 : decode cX9_sync 32 = .ok (.ireturn, 1) := by decide +kernel
theorem dX9_sync_33 : decode cX9_sync 33 = .ok (.aload_n 0, 1) := by decide +kernel
theorem dX9_sync_34 : decode cX9_sync 34 = .ok (.invokevirtual 175, 3) := by decide +kernel
theorem dX9_sync_37 : decode cX9_sync 37 = .ok (.ifCond .eq 9, 3) := by decide +kernel
theorem dX9_sync_40 : decode cX9_sync 40 = .ok (.iload_n 1, 1) := by decide +kernel
theorem dX9_sync_41 : decode cX9_sync 41 = .ok (.iconst 1, 1) := by decide +kernel
theorem dX9_sync_42 : decode cX9_sync 42 = .ok (.iadd, 1) := by decide +kernel
theorem dX9_sync_43 : decode cX9_sync 43 = .ok (.goto 5, 3) := by decide +kernel
theorem dX9_sync_46 : decode cX9_sync 46 = .ok (.bipush (-5), 2) := by decide +kernel
theorem dX9_sync_48 : decode cX9_sync 48 = .ok (.ireturn, 1) := by decide +kernel
theorem dX9_picture_0 : decode cX9_picture 0 = .ok (.aload_n 0, 1) := by decide +kernel
theorem dX9_picture_1 : decode cX9_picture 1 = .ok (.getfield 71, 3) := by decide +kernel
theorem dX9_picture_4 : decode cX9_picture 4 = .ok (.ifCond .eq 6, 3) := by decide +kernel
theorem dX9_picture_7 : decode cX9_picture 7 = .ok (.bipush (-4), 2) := by decide +kernel
theorem dX9_picture_9 : decode cX9_picture 9 = .ok (.ireturn, 1) := by decide +kernel
theorem dX9_picture_10 : decode cX9_picture 10 = .ok (.aload_n 0, 1) := by decide +kernel
theorem dX9_picture_11 : decode cX9_picture 11 = .ok (.getfield 40, 3) := by decide +kernel
theorem dX9_picture_14 : decode cX9_picture 14 = .ok (.invokevirtual 98, 3) := by decide +kernel
theorem dX9_picture_17 : decode cX9_picture 17 = .ok (.bipush 12, 2) := by decide +kernel
theorem dX9_picture_19 : decode cX9_picture 19 = .ok (.if_icmp .ge 21, 3) := by decide +kernel
theorem dX9_picture_22 : decode cX9_picture 22 = .ok (.aload_n 0, 1) := by decide +kernel
theorem dX9_picture_23 : decode cX9_picture 23 = .ok (.invokevirtual 172, 3) := by decide +kernel
theorem dX9_picture_26 : decode cX9_picture 26 = .ok (.aload_n 0, 1) := by decide +kernel
theorem dX9_picture_27 : decode cX9_picture 27 = .ok (.getfield 26, 3) := by decide +kernel
theorem dX9_picture_30 : decode cX9_picture 30 = .ok (.getfield 107, 3) := by decide +kernel
theorem dX9_picture_33 : decode cX9_picture 33 = .ok (.iconst 0, 1) := by decide +kernel
theorem dX9_picture_34 : decode cX9_picture 34 = .ok (.invokestatic 169, 3) := by decide +kernel
theorem dX9_picture_37 : decode cX9_picture 37 = .ok (.if_icmp .ge 6, 3) := by decide +kernel
theorem dX9_picture_40 : decode cX9_picture 40 = .ok (.bipush (-3), 2) := by decide +kernel
theorem dX9_picture_42 : decode cX9_picture 42 = .ok (.ireturn, 1) := by decide +kernel
theorem dX9_picture_43 : decode cX9_picture 43 = .ok (.aload_n 0, 1) := by decide +kernel
theorem dX9_picture_44 : decode cX9_picture 44 = .ok (.dup, 1) := by decide +kernel
theorem dX9_picture_45 : decode cX9_picture 45 = .ok (.getfield 178, 3) := by decide +kernel
theorem dX9_picture_48 : decode cX9_picture 48 = .ok (.iconst 1, 1) := by decide +kernel
theorem dX9_picture_49 : decode cX9_picture 49 = .ok (.iadd, 1) := by decide +kernel
theorem dX9_picture_50 : decode cX9_picture 50 = .ok (.putfield 178, 3) := by decide +kernel
theorem dX9_picture_53 : decode cX9_picture 53 = .ok (.aload_n 0, 1) := by decide +kernel
theorem dX9_picture_54 : decode cX9_picture 54 = .ok (.getfield 40, 3) := by decide +kernel
theorem dX9_picture_57 : decode cX9_picture 57 = .ok (.new 181, 3) := by decide +kernel
theorem dX9_picture_60 : decode cX9_picture 60 = .ok (.dup, 1) := by decide +kernel
theorem dX9_picture_61 : decode cX9_picture 61 = .ok (.aload_n 0, 1) := by decide +kernel
theorem dX9_picture_62 : decode cX9_picture 62 = .ok (.getfield 178, 3) := by decide +kernel
theorem dX9_picture_65 : decode cX9_picture 65 = .ok (.aload_n 0, 1) := by decide +kernel
theorem dX9_picture_66 : decode cX9_picture 66 = .ok (.getfield 26, 3) := by decide +kernel
theorem dX9_picture_69 : decode cX9_picture 69 = .ok (.getfield 107, 3) := by decide +kernel
theorem dX9_picture_72 : decode cX9_picture 72 = .ok (.invokespecial 183, 3) := by decide +kernel
theorem dX9_picture_75 : decode cX9_picture 75 = .ok (.invokevirtual 186, 3) := by decide +kernel
theorem dX9_picture_78 : decode cX9_picture 78 = .ok (.pop, 1) := by decide +kernel
theorem dX9_picture_79 : decode cX9_picture 79 = .ok (.aload_n 0, 1) := by decide +kernel
theorem dX9_picture_80 : decode cX9_picture 80 = .ok (.invokevirtual 175, 3) := by decide +kernel
theorem dX9_picture_83 : decode cX9_picture 83 = .ok (.ifCond .eq 10, 3) := by decide +kernel
theorem dX9_picture_86 : decode cX9_picture 86 = .ok (.aload_n 0, 1) := by decide +kernel
theorem dX9_picture_87 : decode cX9_picture 87 = .ok (.getfield 178, 3) := by decide +kernel
theorem dX9_picture_90 : decode cX9_picture 90 = .ok (.goto 5, 3) := by decide +kernel
theorem dX9_picture_93 : decode cX9_picture 93 = .ok (.bipush (-5), 2) := by decide +kernel
theorem dX9_picture_95 : decode cX9_picture 95 = .ok (.ireturn, 1) := by decide +kernel
theorem dX9_look_0 : decode cX9_look 0 = .ok (.aload_n 0, 1) := by decide +kernel
theorem dX9_look_1 : decode cX9_look 1 = .ok (.getfield 71, 3) := by decide +kernel
theorem dX9_look_4 : decode cX9_look 4 = .ok (.ifCond .eq 6, 3) := by decide +kernel
theorem dX9_look_7 : decode cX9_look 7 = .ok (.bipush (-4), 2) := by decide +kernel
theorem dX9_look_9 : decode cX9_look 9 = .ok (.ireturn, 1) := by decide +kernel
theorem dX9_look_10 : decode cX9_look 10 = .ok (.aload_n 0, 1) := by decide +kernel
theorem dX9_look_11 : decode cX9_look 11 = .ok (.iload_n 1, 1) := by decide +kernel
theorem dX9_look_12 : decode cX9_look 12 = .ok (.invokevirtual 190, 3) := by decide +kernel
theorem dX9_look_15 : decode cX9_look 15 = .ok (.istore 4, 2) := by decide +kernel
theorem dX9_look_17 : decode cX9_look 17 = .ok (.iload 4, 2) := by decide +kernel
theorem dX9_look_19 : decode cX9_look 19 = .ok (.ifCond .ge 6, 3) := by decide +kernel
theorem dX9_look_22 : decode cX9_look 22 = .ok (.bipush (-2), 2) := by decide +kernel
theorem dX9_look_24 : decode cX9_look 24 = .ok (.ireturn, 1) := by decide +kernel
theorem dX9_look_25 : decode cX9_look 25 = .ok (.aload_n 0, 1) := by decide +kernel
theorem dX9_look_26 : decode cX9_look 26 = .ok (.aload_n 0, 1) := by decide +kernel
theorem dX9_look_27 : decode cX9_look 27 = .ok (.getfield 40, 3) := by decide +kernel
theorem dX9_look_30 : decode cX9_look 30 = .ok (.iload 4, 2) := by decide +kernel
theorem dX9_look_32 : decode cX9_look 32 = .ok (.invokevirtual 143, 3) := by decide +kernel
theorem dX9_look_35 : decode cX9_look 35 = .ok (.checkcast 181, 3) := by decide +kernel
theorem dX9_look_38 : decode cX9_look 38 = .ok (.getfield 193, 3) := by decide +kernel
theorem dX9_look_41 : decode cX9_look 41 = .ok (.lload_n 2, 1) := by decide +kernel
theorem dX9_look_42 : decode cX9_look 42 = .ok (.iconst 0, 1) := by decide +kernel
theorem dX9_look_43 : decode cX9_look 43 = .ok (.invokestatic 194, 3) := by decide +kernel
theorem dX9_look_46 : decode cX9_look 46 = .ok (.invokevirtual 75, 3) := by decide +kernel
theorem dX9_look_49 : decode cX9_look 49 = .ok (.ireturn, 1) := by decide +kernel
theorem dX9_release_0 : decode cX9_release 0 = .ok (.aload_n 0, 1) := by decide +kernel
theorem dX9_release_1 : decode cX9_release 1 = .ok (.getfield 71, 3) := by decide +kernel
theorem dX9_release_4 : decode cX9_release 4 = .ok (.ifCond .eq 6, 3) := by decide +kernel
theorem dX9_release_7 : decode cX9_release 7 = .ok (.bipush (-4), 2) := by decide +kernel
theorem dX9_release_9 : decode cX9_release 9 = .ok (.ireturn, 1) := by decide +kernel
theorem dX9_release_10 : decode cX9_release 10 = .ok (.aload_n 0, 1) := by decide +kernel
theorem dX9_release_11 : decode cX9_release 11 = .ok (.iload_n 1, 1) := by decide +kernel
theorem dX9_release_12 : decode cX9_release 12 = .ok (.invokevirtual 190, 3) := by decide +kernel
theorem dX9_release_15 : decode cX9_release 15 = .ok (.istore_n 2, 1) := by decide +kernel
theorem dX9_release_16 : decode cX9_release 16 = .ok (.iload_n 2, 1) := by decide +kernel
theorem dX9_release_17 : decode cX9_release 17 = .ok (.ifCond .ge 5, 3) := by decide +kernel
theorem dX9_release_20 : decode cX9_release 20 = .ok (.iconst (-1), 1) := by decide +kernel
theorem dX9_release_21 : decode cX9_release 21 = .ok (.ireturn, 1) := by decide +kernel
theorem dX9_release_22 : decode cX9_release 22 = .ok (.aload_n 0, 1) := by decide +kernel
theorem dX9_release_23 : decode cX9_release 23 = .ok (.getfield 40, 3) := by decide +kernel
theorem dX9_release_26 : decode cX9_release 26 = .ok (.iload_n 2, 1) := by decide +kernel
theorem dX9_release_27 : decode cX9_release 27 = .ok (.invokevirtual 198, 3) := by decide +kernel
theorem dX9_release_30 : decode cX9_release 30 = .ok (.pop, 1) := by decide +kernel
theorem dX9_release_31 : decode cX9_release 31 = .ok (.aload_n 0, 1) := by decide +kernel
theorem dX9_release_32 : decode cX9_release 32 = .ok (.getfield 40, 3) := by decide +kernel
theorem dX9_release_35 : decode cX9_release 35 = .ok (.invokevirtual 98, 3) := by decide +kernel
theorem dX9_release_38 : decode cX9_release 38 = .ok (.ireturn, 1) := by decide +kernel
theorem dX9_pictured_0 : decode cX9_pictured 0 = .ok (.aload_n 0, 1) := by decide +kernel
theorem dX9_pictured_1 : decode cX9_pictured 1 = .ok (.getfield 71, 3) := by decide +kernel
theorem dX9_pictured_4 : decode cX9_pictured 4 = .ok (.ifCond .eq 6, 3) := by decide +kernel
theorem dX9_pictured_7 : decode cX9_pictured 7 = .ok (.bipush (-4), 2) := by decide +kernel
theorem dX9_pictured_9 : decode cX9_pictured 9 = .ok (.ireturn, 1) := by decide +kernel
theorem dX9_pictured_10 : decode cX9_pictured 10 = .ok (.iload_n 1, 1) := by decide +kernel
theorem dX9_pictured_11 : decode cX9_pictured 11 = .ok (.ifCond .lt 14, 3) := by decide +kernel
theorem dX9_pictured_14 : decode cX9_pictured 14 = .ok (.iload_n 1, 1) := by decide +kernel
theorem dX9_pictured_15 : decode cX9_pictured 15 = .ok (.aload_n 0, 1) := by decide +kernel
theorem dX9_pictured_16 : decode cX9_pictured 16 = .ok (.getfield 40, 3) := by decide +kernel
theorem dX9_pictured_19 : decode cX9_pictured 19 = .ok (.invokevirtual 98, 3) := by decide +kernel
theorem dX9_pictured_22 : decode cX9_pictured 22 = .ok (.if_icmp .lt 5, 3) := by decide +kernel
theorem dX9_pictured_25 : decode cX9_pictured 25 = .ok (.iconst (-1), 1) := by decide +kernel
theorem dX9_pictured_26 : decode cX9_pictured 26 = .ok (.ireturn, 1) := by decide +kernel
theorem dX9_pictured_27 : decode cX9_pictured 27 = .ok (.aload_n 0, 1) := by decide +kernel
theorem dX9_pictured_28 : decode cX9_pictured 28 = .ok (.getfield 40, 3) := by decide +kernel
theorem dX9_pictured_31 : decode cX9_pictured 31 = .ok (.iload_n 1, 1) := by decide +kernel
theorem dX9_pictured_32 : decode cX9_pictured 32 = .ok (.invokevirtual 143, 3) := by decide +kernel
theorem dX9_pictured_35 : decode cX9_pictured 35 = .ok (.checkcast 181, 3) := by decide +kernel
theorem dX9_pictured_38 : decode cX9_pictured 38 = .ok (.getfield 201, 3) := by decide +kernel
theorem dX9_pictured_41 : decode cX9_pictured 41 = .ok (.ireturn, 1) := by decide +kernel
theorem dX9_free_0 : decode cX9_free 0 = .ok (.aload_n 0, 1) := by decide +kernel
theorem dX9_free_1 : decode cX9_free 1 = .ok (.getfield 71, 3) := by decide +kernel
theorem dX9_free_4 : decode cX9_free 4 = .ok (.ifCond .eq 8, 3) := by decide +kernel
theorem dX9_free_7 : decode cX9_free 7 = .ok (.bipush (-4), 2) := by decide +kernel
theorem dX9_free_9 : decode cX9_free 9 = .ok (.goto 7, 3) := by decide +kernel
theorem dX9_free_12 : decode cX9_free 12 = .ok (.aload_n 0, 1) := by decide +kernel
theorem dX9_free_13 : decode cX9_free 13 = .ok (.invokevirtual 172, 3) := by decide +kernel
theorem dX9_free_16 : decode cX9_free 16 = .ok (.ireturn, 1) := by decide +kernel
theorem dX9_fall_0 : decode cX9_fall 0 = .ok (.iload_n 1, 1) := by decide +kernel
theorem dX9_fall_1 : decode cX9_fall 1 = .ok (.ifCond .lt 10, 3) := by decide +kernel
theorem dX9_fall_4 : decode cX9_fall 4 = .ok (.iload_n 1, 1) := by decide +kernel
theorem dX9_fall_5 : decode cX9_fall 5 = .ok (.sipush 10000, 3) := by decide +kernel
theorem dX9_fall_8 : decode cX9_fall 8 = .ok (.if_icmp .le 6, 3) := by decide +kernel
theorem dX9_fall_11 : decode cX9_fall 11 = .ok (.bipush (-2), 2) := by decide +kernel
theorem dX9_fall_13 : decode cX9_fall 13 = .ok (.ireturn, 1) := by decide +kernel
theorem dX9_fall_14 : decode cX9_fall 14 = .ok (.aload_n 0, 1) := by decide +kernel
theorem dX9_fall_15 : decode cX9_fall 15 = .ok (.getfield 19, 3) := by decide +kernel
theorem dX9_fall_18 : decode cX9_fall 18 = .ok (.iload_n 1, 1) := by decide +kernel
theorem dX9_fall_19 : decode cX9_fall 19 = .ok (.putfield 202, 3) := by decide +kernel
theorem dX9_fall_22 : decode cX9_fall 22 = .ok (.iload_n 1, 1) := by decide +kernel
theorem dX9_fall_23 : decode cX9_fall 23 = .ok (.ireturn, 1) := by decide +kernel
theorem dX9_crash_0 : decode cX9_crash 0 = .ok (.aload_n 0, 1) := by decide +kernel
theorem dX9_crash_1 : decode cX9_crash 1 = .ok (.getfield 71, 3) := by decide +kernel
theorem dX9_crash_4 : decode cX9_crash 4 = .ok (.ifCond .eq 6, 3) := by decide +kernel
theorem dX9_crash_7 : decode cX9_crash 7 = .ok (.bipush (-4), 2) := by decide +kernel
theorem dX9_crash_9 : decode cX9_crash 9 = .ok (.ireturn, 1) := by decide +kernel
theorem dX9_crash_10 : decode cX9_crash 10 = .ok (.aload_n 0, 1) := by decide +kernel
theorem dX9_crash_11 : decode cX9_crash 11 = .ok (.invokevirtual 205, 3) := by decide +kernel
theorem dX9_crash_14 : decode cX9_crash 14 = .ok (.iconst 0, 1) := by decide +kernel
theorem dX9_crash_15 : decode cX9_crash 15 = .ok (.ireturn, 1) := by decide +kernel
theorem dX9_rise_0 : decode cX9_rise 0 = .ok (.aload_n 0, 1) := by decide +kernel
theorem dX9_rise_1 : decode cX9_rise 1 = .ok (.getfield 71, 3) := by decide +kernel
theorem dX9_rise_4 : decode cX9_rise 4 = .ok (.ifCond .ne 6, 3) := by decide +kernel
theorem dX9_rise_7 : decode cX9_rise 7 = .ok (.bipush (-2), 2) := by decide +kernel
theorem dX9_rise_9 : decode cX9_rise 9 = .ok (.ireturn, 1) := by decide +kernel
theorem dX9_rise_10 : decode cX9_rise 10 = .ok (.aload_n 0, 1) := by decide +kernel
theorem dX9_rise_11 : decode cX9_rise 11 = .ok (.invokevirtual 44, 3) := by decide +kernel
theorem dX9_rise_14 : decode cX9_rise 14 = .ok (.aload_n 0, 1) := by decide +kernel
theorem dX9_rise_15 : decode cX9_rise 15 = .ok (.getfield 19, 3) := by decide +kernel
theorem dX9_rise_18 : decode cX9_rise 18 = .ok (.invokevirtual 208, 3) := by decide +kernel
theorem dX9_rise_21 : decode cX9_rise 21 = .ok (.astore_n 1, 1) := by decide +kernel
theorem dX9_rise_22 : decode cX9_rise 22 = .ok (.aload_n 1, 1) := by decide +kernel
theorem dX9_rise_23 : decode cX9_rise 23 = .ok (.ifnull 19, 3) := by decide +kernel
theorem dX9_rise_26 : decode cX9_rise 26 = .ok (.aload_n 0, 1) := by decide +kernel
theorem dX9_rise_27 : decode cX9_rise 27 = .ok (.aload_n 1, 1) := by decide +kernel
theorem dX9_rise_28 : decode cX9_rise 28 = .ok (.invokevirtual 212, 3) := by decide +kernel
theorem dX9_rise_31 : decode cX9_rise 31 = .ok (.aload_n 0, 1) := by decide +kernel
theorem dX9_rise_32 : decode cX9_rise 32 = .ok (.aload_n 0, 1) := by decide +kernel
theorem dX9_rise_33 : decode cX9_rise 33 = .ok (.getfield 19, 3) := by decide +kernel
theorem dX9_rise_36 : decode cX9_rise 36 = .ok (.invokevirtual 216, 3) := by decide +kernel
theorem dX9_rise_39 : decode cX9_rise 39 = .ok (.putfield 178, 3) := by decide +kernel
theorem dX9_rise_42 : decode cX9_rise 42 = .ok (.aload_n 0, 1) := by decide +kernel
theorem dX9_rise_43 : decode cX9_rise 43 = .ok (.getfield 219, 3) := by decide +kernel
theorem dX9_rise_46 : decode cX9_rise 46 = .ok (.ireturn, 1) := by decide +kernel
theorem dX9_disk_0 : decode cX9_disk 0 = .ok (.iload_n 1, 1) := by decide +kernel
theorem dX9_disk_1 : decode cX9_disk 1 = .ok (.ifCond .lt 17, 3) := by decide +kernel
theorem dX9_disk_4 : decode cX9_disk 4 = .ok (.iload_n 1, 1) := by decide +kernel
theorem dX9_disk_5 : decode cX9_disk 5 = .ok (.iconst 1, 1) := by decide +kernel
theorem dX9_disk_6 : decode cX9_disk 6 = .ok (.if_icmp .gt 12, 3) := by decide +kernel
theorem dX9_disk_9 : decode cX9_disk 9 = .ok (.iload_n 2, 1) := by decide +kernel
theorem dX9_disk_10 : decode cX9_disk 10 = .ok (.ifCond .lt 8, 3) := by decide +kernel
theorem dX9_disk_13 : decode cX9_disk 13 = .ok (.iload_n 2, 1) := by decide +kernel
theorem dX9_disk_14 : decode cX9_disk 14 = .ok (.iconst 3, 1) := by decide +kernel
theorem dX9_disk_15 : decode cX9_disk 15 = .ok (.if_icmp .le 5, 3) := by decide +kernel
theorem dX9_disk_18 : decode cX9_disk 18 = .ok (.iconst (-1), 1) := by decide +kernel
theorem dX9_disk_19 : decode cX9_disk 19 = .ok (.ireturn, 1) := by decide +kernel
theorem dX9_disk_20 : decode cX9_disk 20 = .ok (.aload_n 0, 1) := by decide +kernel
theorem dX9_disk_21 : decode cX9_disk 21 = .ok (.getfield 19, 3) := by decide +kernel
theorem dX9_disk_24 : decode cX9_disk 24 = .ok (.getfield 222, 3) := by decide +kernel
theorem dX9_disk_27 : decode cX9_disk 27 = .ok (.iload_n 1, 1) := by decide +kernel
theorem dX9_disk_28 : decode cX9_disk 28 = .ok (.aaload, 1) := by decide +kernel
theorem dX9_disk_29 : decode cX9_disk 29 = .ok (.astore_n 3, 1) := by decide +kernel
theorem dX9_disk_30 : decode cX9_disk 30 = .ok (.aload_n 3, 1) := by decide +kernel
theorem dX9_disk_31 : decode cX9_disk 31 = .ok (.ifnonnull 5, 3) := by decide +kernel
theorem dX9_disk_34 : decode cX9_disk 34 = .ok (.iconst 0, 1) := by decide +kernel
theorem dX9_disk_35 : decode cX9_disk 35 = .ok (.ireturn, 1) := by decide +kernel
theorem dX9_disk_36 : decode cX9_disk 36 = .ok (.iload_n 2, 1) := by decide +kernel
theorem dX9_disk_37 : decode cX9_disk 37 = .ok (.tableswitch 45 0 2 #[27, 32, 37], 27) := by decide +kernel
theorem dX9_disk_64 : decode cX9_disk 64 = .ok (.aload_n 3, 1) := by decide +kernel
theorem dX9_disk_65 : decode cX9_disk 65 = .ok (.getfield 226, 3) := by decide +kernel
theorem dX9_disk_68 : decode cX9_disk 68 = .ok (.ireturn, 1) := by decide +kernel
theorem dX9_disk_69 : decode cX9_disk 69 = .ok (.aload_n 3, 1) := by decide +kernel
theorem dX9_disk_70 : decode cX9_disk 70 = .ok (.getfield 229, 3) := by decide +kernel
theorem dX9_disk_73 : decode cX9_disk 73 = .ok (.ireturn, 1) := by decide +kernel
theorem dX9_disk_74 : decode cX9_disk 74 = .ok (.aload_n 3, 1) := by decide +kernel
theorem dX9_disk_75 : decode cX9_disk 75 = .ok (.getfield 230, 3) := by decide +kernel
theorem dX9_disk_78 : decode cX9_disk 78 = .ok (.invokevirtual 98, 3) := by decide +kernel
theorem dX9_disk_81 : decode cX9_disk 81 = .ok (.ireturn, 1) := by decide +kernel
theorem dX9_disk_82 : decode cX9_disk 82 = .ok (.aload_n 3, 1) := by decide +kernel
theorem dX9_disk_83 : decode cX9_disk 83 = .ok (.getfield 231, 3) := by decide +kernel
theorem dX9_disk_86 : decode cX9_disk 86 = .ok (.iconst 0, 1) := by decide +kernel
theorem dX9_disk_87 : decode cX9_disk 87 = .ok (.invokestatic 111, 3) := by decide +kernel
theorem dX9_disk_90 : decode cX9_disk 90 = .ok (.ireturn, 1) := by decide +kernel
theorem dX9_bend_0 : decode cX9_bend 0 = .ok (.iload_n 1, 1) := by decide +kernel
theorem dX9_bend_1 : decode cX9_bend 1 = .ok (.ifCond .lt 8, 3) := by decide +kernel
theorem dX9_bend_4 : decode cX9_bend 4 = .ok (.iload_n 1, 1) := by decide +kernel
theorem dX9_bend_5 : decode cX9_bend 5 = .ok (.iconst 1, 1) := by decide +kernel
theorem dX9_bend_6 : decode cX9_bend 6 = .ok (.if_icmp .le 5, 3) := by decide +kernel
theorem dX9_bend_9 : decode cX9_bend 9 = .ok (.iconst (-1), 1) := by decide +kernel
theorem dX9_bend_10 : decode cX9_bend 10 = .ok (.ireturn, 1) := by decide +kernel
theorem dX9_bend_11 : decode cX9_bend 11 = .ok (.aload_n 0, 1) := by decide +kernel
theorem dX9_bend_12 : decode cX9_bend 12 = .ok (.getfield 19, 3) := by decide +kernel
theorem dX9_bend_15 : decode cX9_bend 15 = .ok (.getfield 222, 3) := by decide +kernel
theorem dX9_bend_18 : decode cX9_bend 18 = .ok (.iload_n 1, 1) := by decide +kernel
theorem dX9_bend_19 : decode cX9_bend 19 = .ok (.aaload, 1) := by decide +kernel
theorem dX9_bend_20 : decode cX9_bend 20 = .ok (.ifnonnull 7, 3) := by decide +kernel
theorem dX9_bend_23 : decode cX9_bend 23 = .ok (.iconst 0, 1) := by decide +kernel
theorem dX9_bend_24 : decode cX9_bend 24 = .ok (.goto 4, 3) := by decide +kernel
theorem dX9_bend_27 : decode cX9_bend 27 = .ok (.iconst 1, 1) := by decide +kernel
theorem dX9_bend_28 : decode cX9_bend 28 = .ok (.istore_n 2, 1) := by decide +kernel
theorem dX9_bend_29 : decode cX9_bend 29 = .ok (.aload_n 0, 1) := by decide +kernel
theorem dX9_bend_30 : decode cX9_bend 30 = .ok (.getfield 19, 3) := by decide +kernel
theorem dX9_bend_33 : decode cX9_bend 33 = .ok (.getfield 222, 3) := by decide +kernel
theorem dX9_bend_36 : decode cX9_bend 36 = .ok (.iload_n 1, 1) := by decide +kernel
theorem dX9_bend_37 : decode cX9_bend 37 = .ok (.aconst_null, 1) := by decide +kernel
theorem dX9_bend_38 : decode cX9_bend 38 = .ok (.aastore, 1) := by decide +kernel
theorem dX9_bend_39 : decode cX9_bend 39 = .ok (.iload_n 2, 1) := by decide +kernel
theorem dX9_bend_40 : decode cX9_bend 40 = .ok (.ireturn, 1) := by decide +kernel
theorem dX9_writes_0 : decode cX9_writes 0 = .ok (.iload_n 1, 1) := by decide +kernel
theorem dX9_writes_1 : decode cX9_writes 1 = .ok (.ifCond .lt 15, 3) := by decide +kernel
theorem dX9_writes_4 : decode cX9_writes 4 = .ok (.iload_n 1, 1) := by decide +kernel
theorem dX9_writes_5 : decode cX9_writes 5 = .ok (.aload_n 0, 1) := by decide +kernel
theorem dX9_writes_6 : decode cX9_writes 6 = .ok (.getfield 19, 3) := by decide +kernel
theorem dX9_writes_9 : decode cX9_writes 9 = .ok (.getfield 232, 3) := by decide +kernel
theorem dX9_writes_12 : decode cX9_writes 12 = .ok (.arraylength, 1) := by decide +kernel
theorem dX9_writes_13 : decode cX9_writes 13 = .ok (.if_icmp .lt 5, 3) := by decide +kernel
theorem dX9_writes_16 : decode cX9_writes 16 = .ok (.iconst (-1), 1) := by decide +kernel
theorem dX9_writes_17 : decode cX9_writes 17 = .ok (.ireturn, 1) := by decide +kernel
theorem dX9_writes_18 : decode cX9_writes 18 = .ok (.aload_n 0, 1) := by decide +kernel
theorem dX9_writes_19 : decode cX9_writes 19 = .ok (.getfield 19, 3) := by decide +kernel
theorem dX9_writes_22 : decode cX9_writes 22 = .ok (.getfield 232, 3) := by decide +kernel
theorem dX9_writes_25 : decode cX9_writes 25 = .ok (.iload_n 1, 1) := by decide +kernel
theorem dX9_writes_26 : decode cX9_writes 26 = .ok (.iaload, 1) := by decide +kernel
theorem dX9_writes_27 : decode cX9_writes 27 = .ok (.ireturn, 1) := by decide +kernel
theorem dX9_number_0 : decode cX9_number 0 = .ok (.aload_n 0, 1) := by decide +kernel
theorem dX9_number_1 : decode cX9_number 1 = .ok (.getfield 71, 3) := by decide +kernel
theorem dX9_number_4 : decode cX9_number 4 = .ok (.ifCond .eq 6, 3) := by decide +kernel
theorem dX9_number_7 : decode cX9_number 7 = .ok (.bipush (-4), 2) := by decide +kernel
theorem dX9_number_9 : decode cX9_number 9 = .ok (.ireturn, 1) := by decide +kernel
theorem dX9_number_10 : decode cX9_number 10 = .ok (.iload_n 1, 1) := by decide +kernel
theorem dX9_number_11 : decode cX9_number 11 = .ok (.ifCond .ne 8, 3) := by decide +kernel
theorem dX9_number_14 : decode cX9_number 14 = .ok (.aload_n 0, 1) := by decide +kernel
theorem dX9_number_15 : decode cX9_number 15 = .ok (.getfield 236, 3) := by decide +kernel
theorem dX9_number_18 : decode cX9_number 18 = .ok (.ireturn, 1) := by decide +kernel
theorem dX9_number_19 : decode cX9_number 19 = .ok (.iload_n 1, 1) := by decide +kernel
theorem dX9_number_20 : decode cX9_number 20 = .ok (.iconst 1, 1) := by decide +kernel
theorem dX9_number_21 : decode cX9_number 21 = .ok (.if_icmp .ne 10, 3) := by decide +kernel
theorem dX9_number_24 : decode cX9_number 24 = .ok (.aload_n 0, 1) := by decide +kernel
theorem dX9_number_25 : decode cX9_number 25 = .ok (.getfield 219, 3) := by decide +kernel
theorem dX9_number_28 : decode cX9_number 28 = .ok (.goto 4, 3) := by decide +kernel
theorem dX9_number_31 : decode cX9_number 31 = .ok (.iconst (-1), 1) := by decide +kernel
theorem dX9_number_32 : decode cX9_number 32 = .ok (.ireturn, 1) := by decide +kernel
theorem dX9_writeRefusal_0 : decode cX9_writeRefusal 0 = .ok (.aload_n 0, 1) := by decide +kernel
theorem dX9_writeRefusal_1 : decode cX9_writeRefusal 1 = .ok (.getfield 71, 3) := by decide +kernel
theorem dX9_writeRefusal_4 : decode cX9_writeRefusal 4 = .ok (.ifCond .eq 6, 3) := by decide +kernel
theorem dX9_writeRefusal_7 : decode cX9_writeRefusal 7 = .ok (.bipush (-4), 2) := by decide +kernel
theorem dX9_writeRefusal_9 : decode cX9_writeRefusal 9 = .ok (.ireturn, 1) := by decide +kernel
theorem dX9_writeRefusal_10 : decode cX9_writeRefusal 10 = .ok (.iload_n 1, 1) := by decide +kernel
theorem dX9_writeRefusal_11 : decode cX9_writeRefusal 11 = .ok (.ifCond .eq 6, 3) := by decide +kernel
theorem dX9_writeRefusal_14 : decode cX9_writeRefusal 14 = .ok (.bipush (-2), 2) := by decide +kernel
theorem dX9_writeRefusal_16 : decode cX9_writeRefusal 16 = .ok (.ireturn, 1) := by decide +kernel
theorem dX9_writeRefusal_17 : decode cX9_writeRefusal 17 = .ok (.aload_n 0, 1) := by decide +kernel
theorem dX9_writeRefusal_18 : decode cX9_writeRefusal 18 = .ok (.getfield 236, 3) := by decide +kernel
theorem dX9_writeRefusal_21 : decode cX9_writeRefusal 21 = .ok (.sipush 512, 3) := by decide +kernel
theorem dX9_writeRefusal_24 : decode cX9_writeRefusal 24 = .ok (.if_icmp .lt 8, 3) := by decide +kernel
theorem dX9_writeRefusal_27 : decode cX9_writeRefusal 27 = .ok (.bipush (-3), 2) := by decide +kernel
theorem dX9_writeRefusal_29 : decode cX9_writeRefusal 29 = .ok (.goto 4, 3) := by decide +kernel
theorem dX9_writeRefusal_32 : decode cX9_writeRefusal 32 = .ok (.iconst 0, 1) := by decide +kernel
theorem dX9_writeRefusal_33 : decode cX9_writeRefusal 33 = .ok (.ireturn, 1) := by decide +kernel
theorem dX9_write_0 : decode cX9_write 0 = .ok (.getstatic 239, 3) := by decide +kernel
theorem dX9_write_3 : decode cX9_write 3 = .ok (.astore 7, 2) := by decide +kernel
theorem dX9_write_5 : decode cX9_write 5 = .ok (.getstatic 239, 3) := by decide +kernel
theorem dX9_write_8 : decode cX9_write 8 = .ok (.astore 8, 2) := by decide +kernel
theorem dX9_write_10 : decode cX9_write 10 = .ok (.iload_n 1, 1) := by decide +kernel
theorem dX9_write_11 : decode cX9_write 11 = .ok (.iconst 1, 1) := by decide +kernel
theorem dX9_write_12 : decode cX9_write 12 = .ok (.if_icmp .eq 13, 3) := by decide +kernel
theorem dX9_write_15 : decode cX9_write 15 = .ok (.iload_n 1, 1) := by decide +kernel
theorem dX9_write_16 : decode cX9_write 16 = .ok (.iconst 2, 1) := by decide +kernel
theorem dX9_write_17 : decode cX9_write 17 = .ok (.if_icmp .eq 8, 3) := by decide +kernel
theorem dX9_write_20 : decode cX9_write 20 = .ok (.iload_n 1, 1) := by decide +kernel
theorem dX9_write_21 : decode cX9_write 21 = .ok (.iconst 3, 1) := by decide +kernel
theorem dX9_write_22 : decode cX9_write 22 = .ok (.if_icmp .ne 41, 3) := by decide +kernel
theorem dX9_write_25 : decode cX9_write 25 = .ok (.aload_n 0, 1) := by decide +kernel
theorem dX9_write_26 : decode cX9_write 26 = .ok (.getfield 10, 3) := by decide +kernel
theorem dX9_write_29 : decode cX9_write 29 = .ok (.iconst 0, 1) := by decide +kernel
theorem dX9_write_30 : decode cX9_write 30 = .ok (.iload 6, 2) := by decide +kernel
theorem dX9_write_32 : decode cX9_write 32 = .ok (.invokevirtual 242, 3) := by decide +kernel
theorem dX9_write_35 : decode cX9_write 35 = .ok (.astore 7, 2) := by decide +kernel
theorem dX9_write_37 : decode cX9_write 37 = .ok (.aload_n 0, 1) := by decide +kernel
theorem dX9_write_38 : decode cX9_write 38 = .ok (.getfield 10, 3) := by decide +kernel
theorem dX9_write_41 : decode cX9_write 41 = .ok (.iload 6, 2) := by decide +kernel
theorem dX9_write_43 : decode cX9_write 43 = .ok (.aload_n 0, 1) := by decide +kernel
theorem dX9_write_44 : decode cX9_write 44 = .ok (.getfield 10, 3) := by decide +kernel
theorem dX9_write_47 : decode cX9_write 47 = .ok (.getfield 47, 3) := by decide +kernel
theorem dX9_write_50 : decode cX9_write 50 = .ok (.invokevirtual 242, 3) := by decide +kernel
theorem dX9_write_53 : decode cX9_write 53 = .ok (.astore 8, 2) := by decide +kernel
theorem dX9_write_55 : decode cX9_write 55 = .ok (.aload_n 0, 1) := by decide +kernel
theorem dX9_write_56 : decode cX9_write 56 = .ok (.getfield 10, 3) := by decide +kernel
theorem dX9_write_59 : decode cX9_write 59 = .ok (.iconst 0, 1) := by decide +kernel
theorem dX9_write_60 : decode cX9_write 60 = .ok (.putfield 47, 3) := by decide +kernel
theorem dX9_write_63 : decode cX9_write 63 = .ok (.aload_n 0, 1) := by decide +kernel
theorem dX9_write_64 : decode cX9_write 64 = .ok (.dup, 1) := by decide +kernel
theorem dX9_write_65 : decode cX9_write 65 = .ok (.getfield 236, 3) := by decide +kernel
theorem dX9_write_68 : decode cX9_write 68 = .ok (.iconst 1, 1) := by decide +kernel
theorem dX9_write_69 : decode cX9_write 69 = .ok (.iadd, 1) := by decide +kernel
theorem dX9_write_70 : decode cX9_write 70 = .ok (.putfield 236, 3) := by decide +kernel
theorem dX9_write_73 : decode cX9_write 73 = .ok (.new 37, 3) := by decide +kernel
theorem dX9_write_76 : decode cX9_write 76 = .ok (.dup, 1) := by decide +kernel
theorem dX9_write_77 : decode cX9_write 77 = .ok (.invokespecial 39, 3) := by decide +kernel
theorem dX9_write_80 : decode cX9_write 80 = .ok (.astore 9, 2) := by decide +kernel
theorem dX9_write_82 : decode cX9_write 82 = .ok (.aload 9, 2) := by decide +kernel
theorem dX9_write_84 : decode cX9_write 84 = .ok (.new 158, 3) := by decide +kernel
theorem dX9_write_87 : decode cX9_write 87 = .ok (.dup, 1) := by decide +kernel
theorem dX9_write_88 : decode cX9_write 88 = .ok (.iload_n 1, 1) := by decide +kernel
theorem dX9_write_89 : decode cX9_write 89 = .ok (.aload_n 0, 1) := by decide +kernel
theorem dX9_write_90 : decode cX9_write 90 = .ok (.getfield 236, 3) := by decide +kernel
theorem dX9_write_93 : decode cX9_write 93 = .ok (.lload_n 2, 1) := by decide +kernel
theorem dX9_write_94 : decode cX9_write 94 = .ok (.lload 4, 2) := by decide +kernel
theorem dX9_write_96 : decode cX9_write 96 = .ok (.aload 7, 2) := by decide +kernel
theorem dX9_write_98 : decode cX9_write 98 = .ok (.aload 8, 2) := by decide +kernel
theorem dX9_write_100 : decode cX9_write 100 = .ok (.invokespecial 246, 3) := by decide +kernel
theorem dX9_write_103 : decode cX9_write 103 = .ok (.invokevirtual 186, 3) := by decide +kernel
theorem dX9_write_106 : decode cX9_write 106 = .ok (.pop, 1) := by decide +kernel
theorem dX9_write_107 : decode cX9_write 107 = .ok (.aload_n 0, 1) := by decide +kernel
theorem dX9_write_108 : decode cX9_write 108 = .ok (.getfield 26, 3) := by decide +kernel
theorem dX9_write_111 : decode cX9_write 111 = .ok (.aload_n 0, 1) := by decide +kernel
theorem dX9_write_112 : decode cX9_write 112 = .ok (.getfield 26, 3) := by decide +kernel
theorem dX9_write_115 : decode cX9_write 115 = .ok (.getfield 107, 3) := by decide +kernel
theorem dX9_write_118 : decode cX9_write 118 = .ok (.aload 9, 2) := by decide +kernel
theorem dX9_write_120 : decode cX9_write 120 = .ok (.iconst 0, 1) := by decide +kernel
theorem dX9_write_121 : decode cX9_write 121 = .ok (.invokestatic 249, 3) := by decide +kernel
theorem dX9_write_124 : decode cX9_write 124 = .ok (.putfield 107, 3) := by decide +kernel
theorem dX9_write_127 : decode cX9_write 127 = .ok (.aload_n 0, 1) := by decide +kernel
theorem dX9_write_128 : decode cX9_write 128 = .ok (.getfield 26, 3) := by decide +kernel
theorem dX9_write_131 : decode cX9_write 131 = .ok (.invokevirtual 253, 3) := by decide +kernel
theorem dX9_write_134 : decode cX9_write 134 = .ok (.aload_n 0, 1) := by decide +kernel
theorem dX9_write_135 : decode cX9_write 135 = .ok (.getfield 33, 3) := by decide +kernel
theorem dX9_write_138 : decode cX9_write 138 = .ok (.aload 9, 2) := by decide +kernel
theorem dX9_write_140 : decode cX9_write 140 = .ok (.iconst 0, 1) := by decide +kernel
theorem dX9_write_141 : decode cX9_write 141 = .ok (.invokevirtual 143, 3) := by decide +kernel
theorem dX9_write_144 : decode cX9_write 144 = .ok (.checkcast 158, 3) := by decide +kernel
theorem dX9_write_147 : decode cX9_write 147 = .ok (.invokevirtual 256, 3) := by decide +kernel
theorem dX9_write_150 : decode cX9_write 150 = .ok (.ireturn, 1) := by decide +kernel
theorem dX9_load_0 : decode cX9_load 0 = .ok (.aload_n 1, 1) := by decide +kernel
theorem dX9_load_1 : decode cX9_load 1 = .ok (.ifnonnull 5, 3) := by decide +kernel
theorem dX9_load_4 : decode cX9_load 4 = .ok (.iconst (-1), 1) := by decide +kernel
theorem dX9_load_5 : decode cX9_load 5 = .ok (.ireturn, 1) := by decide +kernel
theorem dX9_load_6 : decode cX9_load 6 = .ok (.aload_n 0, 1) := by decide +kernel
theorem dX9_load_7 : decode cX9_load 7 = .ok (.getfield 10, 3) := by decide +kernel
theorem dX9_load_10 : decode cX9_load 10 = .ok (.aload_n 1, 1) := by decide +kernel
theorem dX9_load_11 : decode cX9_load 11 = .ok (.invokevirtual 260, 3) := by decide +kernel
theorem dX9_load_14 : decode cX9_load 14 = .ok (.aload_n 0, 1) := by decide +kernel
theorem dX9_load_15 : decode cX9_load 15 = .ok (.getfield 10, 3) := by decide +kernel
theorem dX9_load_18 : decode cX9_load 18 = .ok (.getfield 47, 3) := by decide +kernel
theorem dX9_load_21 : decode cX9_load 21 = .ok (.ireturn, 1) := by decide +kernel
theorem dX9_findEntry_0 : decode cX9_findEntry 0 = .ok (.iload_n 1, 1) := by decide +kernel
theorem dX9_findEntry_1 : decode cX9_findEntry 1 = .ok (.ifCond .lt 17, 3) := by decide +kernel
theorem dX9_findEntry_4 : decode cX9_findEntry 4 = .ok (.iload_n 1, 1) := by decide +kernel
theorem dX9_findEntry_5 : decode cX9_findEntry 5 = .ok (.aload_n 0, 1) := by decide +kernel
theorem dX9_findEntry_6 : decode cX9_findEntry 6 = .ok (.getfield 33, 3) := by decide +kernel
theorem dX9_findEntry_9 : decode cX9_findEntry 9 = .ok (.getfield 95, 3) := by decide +kernel
theorem dX9_findEntry_12 : decode cX9_findEntry 12 = .ok (.invokevirtual 98, 3) := by decide +kernel
theorem dX9_findEntry_15 : decode cX9_findEntry 15 = .ok (.if_icmp .lt 5, 3) := by decide +kernel
theorem dX9_findEntry_18 : decode cX9_findEntry 18 = .ok (.iconst 0, 1) := by decide +kernel
theorem dX9_findEntry_19 : decode cX9_findEntry 19 = .ok (.ireturn, 1) := by decide +kernel
theorem dX9_findEntry_20 : decode cX9_findEntry 20 = .ok (.aload_n 0, 1) := by decide +kernel
theorem dX9_findEntry_21 : decode cX9_findEntry 21 = .ok (.aload_n 0, 1) := by decide +kernel
theorem dX9_findEntry_22 : decode cX9_findEntry 22 = .ok (.getfield 33, 3) := by decide +kernel
theorem dX9_findEntry_25 : decode cX9_findEntry 25 = .ok (.getfield 95, 3) := by decide +kernel
theorem dX9_findEntry_28 : decode cX9_findEntry 28 = .ok (.iload_n 1, 1) := by decide +kernel
theorem dX9_findEntry_29 : decode cX9_findEntry 29 = .ok (.invokevirtual 143, 3) := by decide +kernel
theorem dX9_findEntry_32 : decode cX9_findEntry 32 = .ok (.checkcast 147, 3) := by decide +kernel
theorem dX9_findEntry_35 : decode cX9_findEntry 35 = .ok (.getfield 149, 3) := by decide +kernel
theorem dX9_findEntry_38 : decode cX9_findEntry 38 = .ok (.putfield 91, 3) := by decide +kernel
theorem dX9_findEntry_41 : decode cX9_findEntry 41 = .ok (.iconst 1, 1) := by decide +kernel
theorem dX9_findEntry_42 : decode cX9_findEntry 42 = .ok (.ireturn, 1) := by decide +kernel
theorem dX9_pictureIndex_0 : decode cX9_pictureIndex 0 = .ok (.iconst 0, 1) := by decide +kernel
theorem dX9_pictureIndex_1 : decode cX9_pictureIndex 1 = .ok (.istore_n 2, 1) := by decide +kernel
theorem dX9_pictureIndex_2 : decode cX9_pictureIndex 2 = .ok (.iload_n 2, 1) := by decide +kernel
theorem dX9_pictureIndex_3 : decode cX9_pictureIndex 3 = .ok (.aload_n 0, 1) := by decide +kernel
theorem dX9_pictureIndex_4 : decode cX9_pictureIndex 4 = .ok (.getfield 40, 3) := by decide +kernel
theorem dX9_pictureIndex_7 : decode cX9_pictureIndex 7 = .ok (.invokevirtual 98, 3) := by decide +kernel
theorem dX9_pictureIndex_10 : decode cX9_pictureIndex 10 = .ok (.if_icmp .ge 29, 3) := by decide +kernel
theorem dX9_pictureIndex_13 : decode cX9_pictureIndex 13 = .ok (.aload_n 0, 1) := by decide +kernel
theorem dX9_pictureIndex_14 : decode cX9_pictureIndex 14 = .ok (.getfield 40, 3) := by decide +kernel
theorem dX9_pictureIndex_17 : decode cX9_pictureIndex 17 = .ok (.iload_n 2, 1) := by decide +kernel
theorem dX9_pictureIndex_18 : decode cX9_pictureIndex 18 = .ok (.invokevirtual 143, 3) := by decide +kernel
theorem dX9_pictureIndex_21 : decode cX9_pictureIndex 21 = .ok (.checkcast 181, 3) := by decide +kernel
theorem dX9_pictureIndex_24 : decode cX9_pictureIndex 24 = .ok (.getfield 201, 3) := by decide +kernel
theorem dX9_pictureIndex_27 : decode cX9_pictureIndex 27 = .ok (.iload_n 1, 1) := by decide +kernel
theorem dX9_pictureIndex_28 : decode cX9_pictureIndex 28 = .ok (.if_icmp .ne 5, 3) := by decide +kernel
theorem dX9_pictureIndex_31 : decode cX9_pictureIndex 31 = .ok (.iload_n 2, 1) := by decide +kernel
theorem dX9_pictureIndex_32 : decode cX9_pictureIndex 32 = .ok (.ireturn, 1) := by decide +kernel
theorem dX9_pictureIndex_33 : decode cX9_pictureIndex 33 = .ok (.iinc 2 1, 3) := by decide +kernel
theorem dX9_pictureIndex_36 : decode cX9_pictureIndex 36 = .ok (.goto (-34), 3) := by decide +kernel
theorem dX9_pictureIndex_39 : decode cX9_pictureIndex 39 = .ok (.iconst (-1), 1) := by decide +kernel
theorem dX9_pictureIndex_40 : decode cX9_pictureIndex 40 = .ok (.ireturn, 1) := by decide +kernel
theorem dX9_freePlaces_0 : decode cX9_freePlaces 0 = .ok (.aload_n 0, 1) := by decide +kernel
theorem dX9_freePlaces_1 : decode cX9_freePlaces 1 = .ok (.getfield 19, 3) := by decide +kernel
theorem dX9_freePlaces_4 : decode cX9_freePlaces 4 = .ok (.aload_n 0, 1) := by decide +kernel
theorem dX9_freePlaces_5 : decode cX9_freePlaces 5 = .ok (.getfield 26, 3) := by decide +kernel
theorem dX9_freePlaces_8 : decode cX9_freePlaces 8 = .ok (.getfield 107, 3) := by decide +kernel
theorem dX9_freePlaces_11 : decode cX9_freePlaces 11 = .ok (.aload_n 0, 1) := by decide +kernel
theorem dX9_freePlaces_12 : decode cX9_freePlaces 12 = .ok (.getfield 40, 3) := by decide +kernel
theorem dX9_freePlaces_15 : decode cX9_freePlaces 15 = .ok (.invokevirtual 264, 3) := by decide +kernel
theorem dX9_freePlaces_18 : decode cX9_freePlaces 18 = .ok (.sipush 1000, 3) := by decide +kernel
theorem dX9_freePlaces_21 : decode cX9_freePlaces 21 = .ok (.aload_n 0, 1) := by decide +kernel
theorem dX9_freePlaces_22 : decode cX9_freePlaces 22 = .ok (.getfield 19, 3) := by decide +kernel
theorem dX9_freePlaces_25 : decode cX9_freePlaces 25 = .ok (.getfield 268, 3) := by decide +kernel
theorem dX9_freePlaces_28 : decode cX9_freePlaces 28 = .ok (.isub, 1) := by decide +kernel
theorem dX9_freePlaces_29 : decode cX9_freePlaces 29 = .ok (.ireturn, 1) := by decide +kernel
theorem dX9_writeAll_0 : decode cX9_writeAll 0 = .ok (.aload_n 0, 1) := by decide +kernel
theorem dX9_writeAll_1 : decode cX9_writeAll 1 = .ok (.getfield 19, 3) := by decide +kernel
theorem dX9_writeAll_4 : decode cX9_writeAll 4 = .ok (.aload_n 0, 1) := by decide +kernel
theorem dX9_writeAll_5 : decode cX9_writeAll 5 = .ok (.getfield 26, 3) := by decide +kernel
theorem dX9_writeAll_8 : decode cX9_writeAll 8 = .ok (.getfield 107, 3) := by decide +kernel
theorem dX9_writeAll_11 : decode cX9_writeAll 11 = .ok (.iconst 0, 1) := by decide +kernel
theorem dX9_writeAll_12 : decode cX9_writeAll 12 = .ok (.invokevirtual 271, 3) := by decide +kernel
theorem dX9_writeAll_15 : decode cX9_writeAll 15 = .ok (.ifCond .ne 9, 3) := by decide +kernel
theorem dX9_writeAll_18 : decode cX9_writeAll 18 = .ok (.aload_n 0, 1) := by decide +kernel
theorem dX9_writeAll_19 : decode cX9_writeAll 19 = .ok (.invokevirtual 205, 3) := by decide +kernel
theorem dX9_writeAll_22 : decode cX9_writeAll 22 = .ok (.iconst 0, 1) := by decide +kernel
theorem dX9_writeAll_23 : decode cX9_writeAll 23 = .ok (.ireturn, 1) := by decide +kernel
theorem dX9_writeAll_24 : decode cX9_writeAll 24 = .ok (.new 227, 3) := by decide +kernel
theorem dX9_writeAll_27 : decode cX9_writeAll 27 = .ok (.dup, 1) := by decide +kernel
theorem dX9_writeAll_28 : decode cX9_writeAll 28 = .ok (.aload_n 0, 1) := by decide +kernel
theorem dX9_writeAll_29 : decode cX9_writeAll 29 = .ok (.getfield 219, 3) := by decide +kernel
theorem dX9_writeAll_32 : decode cX9_writeAll 32 = .ok (.iconst 1, 1) := by decide +kernel
theorem dX9_writeAll_33 : decode cX9_writeAll 33 = .ok (.iadd, 1) := by decide +kernel
theorem dX9_writeAll_34 : decode cX9_writeAll 34 = .ok (.aload_n 0, 1) := by decide +kernel
theorem dX9_writeAll_35 : decode cX9_writeAll 35 = .ok (.getfield 236, 3) := by decide +kernel
theorem dX9_writeAll_38 : decode cX9_writeAll 38 = .ok (.aload_n 0, 1) := by decide +kernel
theorem dX9_writeAll_39 : decode cX9_writeAll 39 = .ok (.getfield 26, 3) := by decide +kernel
theorem dX9_writeAll_42 : decode cX9_writeAll 42 = .ok (.getfield 107, 3) := by decide +kernel
theorem dX9_writeAll_45 : decode cX9_writeAll 45 = .ok (.aload_n 0, 1) := by decide +kernel
theorem dX9_writeAll_46 : decode cX9_writeAll 46 = .ok (.getfield 178, 3) := by decide +kernel
theorem dX9_writeAll_49 : decode cX9_writeAll 49 = .ok (.invokespecial 275, 3) := by decide +kernel
theorem dX9_writeAll_52 : decode cX9_writeAll 52 = .ok (.astore_n 1, 1) := by decide +kernel
theorem dX9_writeAll_53 : decode cX9_writeAll 53 = .ok (.aload_n 0, 1) := by decide +kernel
theorem dX9_writeAll_54 : decode cX9_writeAll 54 = .ok (.getfield 40, 3) := by decide +kernel
theorem dX9_writeAll_57 : decode cX9_writeAll 57 = .ok (.aload_n 1, 1) := by decide +kernel
theorem dX9_writeAll_58 : decode cX9_writeAll 58 = .ok (.getfield 230, 3) := by decide +kernel
theorem dX9_writeAll_61 : decode cX9_writeAll 61 = .ok (.invokestatic 278, 3) := by decide +kernel
theorem dX9_writeAll_64 : decode cX9_writeAll 64 = .ok (.aload_n 0, 1) := by decide +kernel
theorem dX9_writeAll_65 : decode cX9_writeAll 65 = .ok (.getfield 19, 3) := by decide +kernel
theorem dX9_writeAll_68 : decode cX9_writeAll 68 = .ok (.aload_n 1, 1) := by decide +kernel
theorem dX9_writeAll_69 : decode cX9_writeAll 69 = .ok (.invokevirtual 282, 3) := by decide +kernel
theorem dX9_writeAll_72 : decode cX9_writeAll 72 = .ok (.ifCond .ne 9, 3) := by decide +kernel
theorem dX9_writeAll_75 : decode cX9_writeAll 75 = .ok (.aload_n 0, 1) := by decide +kernel
theorem dX9_writeAll_76 : decode cX9_writeAll 76 = .ok (.invokevirtual 205, 3) := by decide +kernel
theorem dX9_writeAll_79 : decode cX9_writeAll 79 = .ok (.iconst 0, 1) := by decide +kernel
theorem dX9_writeAll_80 : decode cX9_writeAll 80 = .ok (.ireturn, 1) := by decide +kernel
theorem dX9_writeAll_81 : decode cX9_writeAll 81 = .ok (.aload_n 0, 1) := by decide +kernel
theorem dX9_writeAll_82 : decode cX9_writeAll 82 = .ok (.dup, 1) := by decide +kernel
theorem dX9_writeAll_83 : decode cX9_writeAll 83 = .ok (.getfield 219, 3) := by decide +kernel
theorem dX9_writeAll_86 : decode cX9_writeAll 86 = .ok (.iconst 1, 1) := by decide +kernel
theorem dX9_writeAll_87 : decode cX9_writeAll 87 = .ok (.iadd, 1) := by decide +kernel
theorem dX9_writeAll_88 : decode cX9_writeAll 88 = .ok (.putfield 219, 3) := by decide +kernel
theorem dX9_writeAll_91 : decode cX9_writeAll 91 = .ok (.iconst 1, 1) := by decide +kernel
theorem dX9_writeAll_92 : decode cX9_writeAll 92 = .ok (.ireturn, 1) := by decide +kernel
theorem dX9_goDown_0 : decode cX9_goDown 0 = .ok (.aload_n 0, 1) := by decide +kernel
theorem dX9_goDown_1 : decode cX9_goDown 1 = .ok (.invokevirtual 44, 3) := by decide +kernel
theorem dX9_goDown_4 : decode cX9_goDown 4 = .ok (.aload_n 0, 1) := by decide +kernel
theorem dX9_goDown_5 : decode cX9_goDown 5 = .ok (.iconst 1, 1) := by decide +kernel
theorem dX9_goDown_6 : decode cX9_goDown 6 = .ok (.putfield 71, 3) := by decide +kernel
theorem dX9_goDown_9 : decode cX9_goDown 9 = .ok (.return_, 1) := by decide +kernel
theorem dX9_startAnew_0 : decode cX9_startAnew 0 = .ok (.aload_n 0, 1) := by decide +kernel
theorem dX9_startAnew_1 : decode cX9_startAnew 1 = .ok (.getfield 26, 3) := by decide +kernel
theorem dX9_startAnew_4 : decode cX9_startAnew 4 = .ok (.new 126, 3) := by decide +kernel
theorem dX9_startAnew_7 : decode cX9_startAnew 7 = .ok (.dup, 1) := by decide +kernel
theorem dX9_startAnew_8 : decode cX9_startAnew 8 = .ok (.ldc2_w 286, 3) := by decide +kernel
theorem dX9_startAnew_11 : decode cX9_startAnew 11 = .ok (.new 30, 3) := by decide +kernel
theorem dX9_startAnew_14 : decode cX9_startAnew 14 = .ok (.dup, 1) := by decide +kernel
theorem dX9_startAnew_15 : decode cX9_startAnew 15 = .ok (.invokespecial 32, 3) := by decide +kernel
theorem dX9_startAnew_18 : decode cX9_startAnew 18 = .ok (.invokespecial 288, 3) := by decide +kernel
theorem dX9_startAnew_21 : decode cX9_startAnew 21 = .ok (.putfield 107, 3) := by decide +kernel
theorem dX9_startAnew_24 : decode cX9_startAnew 24 = .ok (.aload_n 0, 1) := by decide +kernel
theorem dX9_startAnew_25 : decode cX9_startAnew 25 = .ok (.getfield 33, 3) := by decide +kernel
theorem dX9_startAnew_28 : decode cX9_startAnew 28 = .ok (.getfield 95, 3) := by decide +kernel
theorem dX9_startAnew_31 : decode cX9_startAnew 31 = .ok (.invokevirtual 291, 3) := by decide +kernel
theorem dX9_startAnew_34 : decode cX9_startAnew 34 = .ok (.aload_n 0, 1) := by decide +kernel
theorem dX9_startAnew_35 : decode cX9_startAnew 35 = .ok (.getfield 40, 3) := by decide +kernel
theorem dX9_startAnew_38 : decode cX9_startAnew 38 = .ok (.invokevirtual 291, 3) := by decide +kernel
theorem dX9_startAnew_41 : decode cX9_startAnew 41 = .ok (.aload_n 0, 1) := by decide +kernel
theorem dX9_startAnew_42 : decode cX9_startAnew 42 = .ok (.iconst 0, 1) := by decide +kernel
theorem dX9_startAnew_43 : decode cX9_startAnew 43 = .ok (.putfield 178, 3) := by decide +kernel
theorem dX9_startAnew_46 : decode cX9_startAnew 46 = .ok (.aload_n 0, 1) := by decide +kernel
theorem dX9_startAnew_47 : decode cX9_startAnew 47 = .ok (.iconst 0, 1) := by decide +kernel
theorem dX9_startAnew_48 : decode cX9_startAnew 48 = .ok (.putfield 236, 3) := by decide +kernel
theorem dX9_startAnew_51 : decode cX9_startAnew 51 = .ok (.aload_n 0, 1) := by decide +kernel
theorem dX9_startAnew_52 : decode cX9_startAnew 52 = .ok (.iconst 0, 1) := by decide +kernel
theorem dX9_startAnew_53 : decode cX9_startAnew 53 = .ok (.putfield 219, 3) := by decide +kernel
theorem dX9_startAnew_56 : decode cX9_startAnew 56 = .ok (.aload_n 0, 1) := by decide +kernel
theorem dX9_startAnew_57 : decode cX9_startAnew 57 = .ok (.iconst 0, 1) := by decide +kernel
theorem dX9_startAnew_58 : decode cX9_startAnew 58 = .ok (.putfield 71, 3) := by decide +kernel
theorem dX9_startAnew_61 : decode cX9_startAnew 61 = .ok (.return_, 1) := by decide +kernel
theorem dX9_adopt_0 : decode cX9_adopt 0 = .ok (.aload_n 0, 1) := by decide +kernel
theorem dX9_adopt_1 : decode cX9_adopt 1 = .ok (.getfield 26, 3) := by decide +kernel
theorem dX9_adopt_4 : decode cX9_adopt 4 = .ok (.aload_n 1, 1) := by decide +kernel
theorem dX9_adopt_5 : decode cX9_adopt 5 = .ok (.getfield 231, 3) := by decide +kernel
theorem dX9_adopt_8 : decode cX9_adopt 8 = .ok (.putfield 107, 3) := by decide +kernel
theorem dX9_adopt_11 : decode cX9_adopt 11 = .ok (.aload_n 1, 1) := by decide +kernel
theorem dX9_adopt_12 : decode cX9_adopt 12 = .ok (.getfield 231, 3) := by decide +kernel
theorem dX9_adopt_15 : decode cX9_adopt 15 = .ok (.aload_n 0, 1) := by decide +kernel
theorem dX9_adopt_16 : decode cX9_adopt 16 = .ok (.getfield 33, 3) := by decide +kernel
theorem dX9_adopt_19 : decode cX9_adopt 19 = .ok (.iconst 0, 1) := by decide +kernel
theorem dX9_adopt_20 : decode cX9_adopt 20 = .ok (.invokestatic 294, 3) := by decide +kernel
theorem dX9_adopt_23 : decode cX9_adopt 23 = .ok (.aload_n 1, 1) := by decide +kernel
theorem dX9_adopt_24 : decode cX9_adopt 24 = .ok (.getfield 230, 3) := by decide +kernel
theorem dX9_adopt_27 : decode cX9_adopt 27 = .ok (.aload_n 0, 1) := by decide +kernel
theorem dX9_adopt_28 : decode cX9_adopt 28 = .ok (.getfield 40, 3) := by decide +kernel
theorem dX9_adopt_31 : decode cX9_adopt 31 = .ok (.invokestatic 278, 3) := by decide +kernel
theorem dX9_adopt_34 : decode cX9_adopt 34 = .ok (.aload_n 0, 1) := by decide +kernel
theorem dX9_adopt_35 : decode cX9_adopt 35 = .ok (.aload_n 1, 1) := by decide +kernel
theorem dX9_adopt_36 : decode cX9_adopt 36 = .ok (.getfield 229, 3) := by decide +kernel
theorem dX9_adopt_39 : decode cX9_adopt 39 = .ok (.putfield 236, 3) := by decide +kernel
theorem dX9_adopt_42 : decode cX9_adopt 42 = .ok (.aload_n 0, 1) := by decide +kernel
theorem dX9_adopt_43 : decode cX9_adopt 43 = .ok (.aload_n 1, 1) := by decide +kernel
theorem dX9_adopt_44 : decode cX9_adopt 44 = .ok (.getfield 226, 3) := by decide +kernel
theorem dX9_adopt_47 : decode cX9_adopt 47 = .ok (.putfield 219, 3) := by decide +kernel
theorem dX9_adopt_50 : decode cX9_adopt 50 = .ok (.return_, 1) := by decide +kernel
theorem dX9_copyPictures_0 : decode cX9_copyPictures 0 = .ok (.iconst 0, 1) := by decide +kernel
theorem dX9_copyPictures_1 : decode cX9_copyPictures 1 = .ok (.istore_n 2, 1) := by decide +kernel
theorem dX9_copyPictures_2 : decode cX9_copyPictures 2 = .ok (.iload_n 2, 1) := by decide +kernel
theorem dX9_copyPictures_3 : decode cX9_copyPictures 3 = .ok (.aload_n 0, 1) := by decide +kernel
theorem dX9_copyPictures_4 : decode cX9_copyPictures 4 = .ok (.invokevirtual 98, 3) := by decide +kernel
theorem dX9_copyPictures_7 : decode cX9_copyPictures 7 = .ok (.if_icmp .ge 22, 3) := by decide +kernel
theorem dX9_copyPictures_10 : decode cX9_copyPictures 10 = .ok (.aload_n 1, 1) := by decide +kernel
theorem dX9_copyPictures_11 : decode cX9_copyPictures 11 = .ok (.aload_n 0, 1) := by decide +kernel
theorem dX9_copyPictures_12 : decode cX9_copyPictures 12 = .ok (.iload_n 2, 1) := by decide +kernel
theorem dX9_copyPictures_13 : decode cX9_copyPictures 13 = .ok (.invokevirtual 143, 3) := by decide +kernel
theorem dX9_copyPictures_16 : decode cX9_copyPictures 16 = .ok (.checkcast 181, 3) := by decide +kernel
theorem dX9_copyPictures_19 : decode cX9_copyPictures 19 = .ok (.invokevirtual 186, 3) := by decide +kernel
theorem dX9_copyPictures_22 : decode cX9_copyPictures 22 = .ok (.pop, 1) := by decide +kernel
theorem dX9_copyPictures_23 : decode cX9_copyPictures 23 = .ok (.iinc 2 1, 3) := by decide +kernel
theorem dX9_copyPictures_26 : decode cX9_copyPictures 26 = .ok (.goto (-24), 3) := by decide +kernel
theorem dX9_copyPictures_29 : decode cX9_copyPictures 29 = .ok (.return_, 1) := by decide +kernel
theorem dX10_feed_0 : decode cX10_feed 0 = .ok (.iload_n 3, 1) := by decide +kernel
theorem dX10_feed_1 : decode cX10_feed 1 = .ok (.iconst 1, 1) := by decide +kernel
theorem dX10_feed_2 : decode cX10_feed 2 = .ok (.if_icmp .lt 20, 3) := by decide +kernel
theorem dX10_feed_5 : decode cX10_feed 5 = .ok (.iload_n 3, 1) := by decide +kernel
theorem dX10_feed_6 : decode cX10_feed 6 = .ok (.bipush 8, 2) := by decide +kernel
theorem dX10_feed_8 : decode cX10_feed 8 = .ok (.if_icmp .gt 14, 3) := by decide +kernel
theorem dX10_feed_11 : decode cX10_feed 11 = .ok (.aload_n 0, 1) := by decide +kernel
theorem dX10_feed_12 : decode cX10_feed 12 = .ok (.getfield 9, 3) := by decide +kernel
theorem dX10_feed_15 : decode cX10_feed 15 = .ok (.iload_n 3, 1) := by decide +kernel
theorem dX10_feed_16 : decode cX10_feed 16 = .ok (.iadd, 1) := by decide +kernel
theorem dX10_feed_17 : decode cX10_feed 17 = .ok (.bipush 40, 2) := by decide +kernel
theorem dX10_feed_19 : decode cX10_feed 19 = .ok (.if_icmp .le 6, 3) := by decide +kernel
theorem dX10_feed_22 : decode cX10_feed 22 = .ok (.bipush (-2), 2) := by decide +kernel
theorem dX10_feed_24 : decode cX10_feed 24 = .ok (.ireturn, 1) := by decide +kernel
theorem dX10_feed_25 : decode cX10_feed 25 = .ok (.iload_n 3, 1) := by decide +kernel
theorem dX10_feed_26 : decode cX10_feed 26 = .ok (.iconst 1, 1) := by decide +kernel
theorem dX10_feed_27 : decode cX10_feed 27 = .ok (.isub, 1) := by decide +kernel
theorem dX10_feed_28 : decode cX10_feed 28 = .ok (.istore 4, 2) := by decide +kernel
theorem dX10_feed_30 : decode cX10_feed 30 = .ok (.iload 4, 2) := by decide +kernel
theorem dX10_feed_32 : decode cX10_feed 32 = .ok (.ifCond .lt 37, 3) := by decide +kernel
theorem dX10_feed_35 : decode cX10_feed 35 = .ok (.aload_n 0, 1) := by decide +kernel
theorem dX10_feed_36 : decode cX10_feed 36 = .ok (.getfield 12, 3) := by decide +kernel
theorem dX10_feed_39 : decode cX10_feed 39 = .ok (.aload_n 0, 1) := by decide +kernel
theorem dX10_feed_40 : decode cX10_feed 40 = .ok (.getfield 9, 3) := by decide +kernel
theorem dX10_feed_43 : decode cX10_feed 43 = .ok (.lload_n 1, 1) := by decide +kernel
theorem dX10_feed_44 : decode cX10_feed 44 = .ok (.bipush 8, 2) := by decide +kernel
theorem dX10_feed_46 : decode cX10_feed 46 = .ok (.iload 4, 2) := by decide +kernel
theorem dX10_feed_48 : decode cX10_feed 48 = .ok (.imul, 1) := by decide +kernel
theorem dX10_feed_49 : decode cX10_feed 49 = .ok (.lshr, 1) := by decide +kernel
theorem dX10_feed_50 : decode cX10_feed 50 = .ok (.l2i, 1) := by decide +kernel
theorem dX10_feed_51 : decode cX10_feed 51 = .ok (.i2b, 1) := by decide +kernel
theorem dX10_feed_52 : decode cX10_feed 52 = .ok (.bastore, 1) := by decide +kernel
theorem dX10_feed_53 : decode cX10_feed 53 = .ok (.aload_n 0, 1) := by decide +kernel
theorem dX10_feed_54 : decode cX10_feed 54 = .ok (.dup, 1) := by decide +kernel
theorem dX10_feed_55 : decode cX10_feed 55 = .ok (.getfield 9, 3) := by decide +kernel
theorem dX10_feed_58 : decode cX10_feed 58 = .ok (.iconst 1, 1) := by decide +kernel
theorem dX10_feed_59 : decode cX10_feed 59 = .ok (.iadd, 1) := by decide +kernel
theorem dX10_feed_60 : decode cX10_feed 60 = .ok (.putfield 9, 3) := by decide +kernel
theorem dX10_feed_63 : decode cX10_feed 63 = .ok (.iinc 4 (-1), 3) := by decide +kernel
theorem dX10_feed_66 : decode cX10_feed 66 = .ok (.goto (-36), 3) := by decide +kernel
theorem dX10_feed_69 : decode cX10_feed 69 = .ok (.aload_n 0, 1) := by decide +kernel
theorem dX10_feed_70 : decode cX10_feed 70 = .ok (.getfield 9, 3) := by decide +kernel
theorem dX10_feed_73 : decode cX10_feed 73 = .ok (.ireturn, 1) := by decide +kernel
theorem dX10_cut_0 : decode cX10_cut 0 = .ok (.iload_n 1, 1) := by decide +kernel
theorem dX10_cut_1 : decode cX10_cut 1 = .ok (.ifCond .lt 11, 3) := by decide +kernel
theorem dX10_cut_4 : decode cX10_cut 4 = .ok (.iload_n 1, 1) := by decide +kernel
theorem dX10_cut_5 : decode cX10_cut 5 = .ok (.aload_n 0, 1) := by decide +kernel
theorem dX10_cut_6 : decode cX10_cut 6 = .ok (.getfield 9, 3) := by decide +kernel
theorem dX10_cut_9 : decode cX10_cut 9 = .ok (.if_icmp .le 6, 3) := by decide +kernel
theorem dX10_cut_12 : decode cX10_cut 12 = .ok (.bipush (-2), 2) := by decide +kernel
theorem dX10_cut_14 : decode cX10_cut 14 = .ok (.ireturn, 1) := by decide +kernel
theorem dX10_cut_15 : decode cX10_cut 15 = .ok (.aload_n 0, 1) := by decide +kernel
theorem dX10_cut_16 : decode cX10_cut 16 = .ok (.iload_n 1, 1) := by decide +kernel
theorem dX10_cut_17 : decode cX10_cut 17 = .ok (.putfield 9, 3) := by decide +kernel
theorem dX10_cut_20 : decode cX10_cut 20 = .ok (.iload_n 1, 1) := by decide +kernel
theorem dX10_cut_21 : decode cX10_cut 21 = .ok (.ireturn, 1) := by decide +kernel
theorem dX10_byteAt_0 : decode cX10_byteAt 0 = .ok (.iload_n 1, 1) := by decide +kernel
theorem dX10_byteAt_1 : decode cX10_byteAt 1 = .ok (.ifCond .lt 24, 3) := by decide +kernel
theorem dX10_byteAt_4 : decode cX10_byteAt 4 = .ok (.iload_n 1, 1) := by decide +kernel
theorem dX10_byteAt_5 : decode cX10_byteAt 5 = .ok (.aload_n 0, 1) := by decide +kernel
theorem dX10_byteAt_6 : decode cX10_byteAt 6 = .ok (.getfield 9, 3) := by decide +kernel
theorem dX10_byteAt_9 : decode cX10_byteAt 9 = .ok (.if_icmp .ge 16, 3) := by decide +kernel
theorem dX10_byteAt_12 : decode cX10_byteAt 12 = .ok (.aload_n 0, 1) := by decide +kernel
theorem dX10_byteAt_13 : decode cX10_byteAt 13 = .ok (.getfield 12, 3) := by decide +kernel
theorem dX10_byteAt_16 : decode cX10_byteAt 16 = .ok (.iload_n 1, 1) := by decide +kernel
theorem dX10_byteAt_17 : decode cX10_byteAt 17 = .ok (.baload, 1) := by decide +kernel
theorem dX10_byteAt_18 : decode cX10_byteAt 18 = .ok (.sipush 255, 3) := by decide +kernel
theorem dX10_byteAt_21 : decode cX10_byteAt 21 = .ok (.iand, 1) := by decide +kernel
theorem dX10_byteAt_22 : decode cX10_byteAt 22 = .ok (.goto 4, 3) := by decide +kernel
theorem dX10_byteAt_25 : decode cX10_byteAt 25 = .ok (.iconst (-1), 1) := by decide +kernel
theorem dX10_byteAt_26 : decode cX10_byteAt 26 = .ok (.ireturn, 1) := by decide +kernel
theorem dX10_place_0 : decode cX10_place 0 = .ok (.iconst 0, 1) := by decide +kernel
theorem dX10_place_1 : decode cX10_place 1 = .ok (.istore_n 3, 1) := by decide +kernel
theorem dX10_place_2 : decode cX10_place 2 = .ok (.aload_n 0, 1) := by decide +kernel
theorem dX10_place_3 : decode cX10_place 3 = .ok (.getfield 16, 3) := by decide +kernel
theorem dX10_place_6 : decode cX10_place 6 = .ok (.istore 4, 2) := by decide +kernel
theorem dX10_place_8 : decode cX10_place 8 = .ok (.iload_n 3, 1) := by decide +kernel
theorem dX10_place_9 : decode cX10_place 9 = .ok (.iload 4, 2) := by decide +kernel
theorem dX10_place_11 : decode cX10_place 11 = .ok (.if_icmp .ge 38, 3) := by decide +kernel
theorem dX10_place_14 : decode cX10_place 14 = .ok (.iload_n 3, 1) := by decide +kernel
theorem dX10_place_15 : decode cX10_place 15 = .ok (.iload 4, 2) := by decide +kernel
theorem dX10_place_17 : decode cX10_place 17 = .ok (.iadd, 1) := by decide +kernel
theorem dX10_place_18 : decode cX10_place 18 = .ok (.iconst 2, 1) := by decide +kernel
theorem dX10_place_19 : decode cX10_place 19 = .ok (.idiv, 1) := by decide +kernel
theorem dX10_place_20 : decode cX10_place 20 = .ok (.istore 5, 2) := by decide +kernel
theorem dX10_place_22 : decode cX10_place 22 = .ok (.aload_n 0, 1) := by decide +kernel
theorem dX10_place_23 : decode cX10_place 23 = .ok (.getfield 19, 3) := by decide +kernel
theorem dX10_place_26 : decode cX10_place 26 = .ok (.iload 5, 2) := by decide +kernel
theorem dX10_place_28 : decode cX10_place 28 = .ok (.laload, 1) := by decide +kernel
theorem dX10_place_29 : decode cX10_place 29 = .ok (.lload_n 1, 1) := by decide +kernel
theorem dX10_place_30 : decode cX10_place 30 = .ok (.lcmp, 1) := by decide +kernel
theorem dX10_place_31 : decode cX10_place 31 = .ok (.ifCond .ge 11, 3) := by decide +kernel
theorem dX10_place_34 : decode cX10_place 34 = .ok (.iload 5, 2) := by decide +kernel
theorem dX10_place_36 : decode cX10_place 36 = .ok (.iconst 1, 1) := by decide +kernel
theorem dX10_place_37 : decode cX10_place 37 = .ok (.iadd, 1) := by decide +kernel
theorem dX10_place_38 : decode cX10_place 38 = .ok (.istore_n 3, 1) := by decide +kernel
theorem dX10_place_39 : decode cX10_place 39 = .ok (.goto 7, 3) := by decide +kernel
theorem dX10_place_42 : decode cX10_place 42 = .ok (.iload 5, 2) := by decide +kernel
theorem dX10_place_44 : decode cX10_place 44 = .ok (.istore 4, 2) := by decide +kernel
theorem dX10_place_46 : decode cX10_place 46 = .ok (.goto (-38), 3) := by decide +kernel
theorem dX10_place_49 : decode cX10_place 49 = .ok (.iload_n 3, 1) := by decide +kernel
theorem dX10_place_50 : decode cX10_place 50 = .ok (.ireturn, 1) := by decide +kernel
theorem dX10_isAt_0 : decode cX10_isAt 0 = .ok (.iload_n 1, 1) := by decide +kernel
theorem dX10_isAt_1 : decode cX10_isAt 1 = .ok (.aload_n 0, 1) := by decide +kernel
theorem dX10_isAt_2 : decode cX10_isAt 2 = .ok (.getfield 16, 3) := by decide +kernel
theorem dX10_isAt_5 : decode cX10_isAt 5 = .ok (.if_icmp .ge 18, 3) := by decide +kernel
theorem dX10_isAt_8 : decode cX10_isAt 8 = .ok (.aload_n 0, 1) := by decide +kernel
theorem dX10_isAt_9 : decode cX10_isAt 9 = .ok (.getfield 19, 3) := by decide +kernel
theorem dX10_isAt_12 : decode cX10_isAt 12 = .ok (.iload_n 1, 1) := by decide +kernel
theorem dX10_isAt_13 : decode cX10_isAt 13 = .ok (.laload, 1) := by decide +kernel
theorem dX10_isAt_14 : decode cX10_isAt 14 = .ok (.lload_n 2, 1) := by decide +kernel
theorem dX10_isAt_15 : decode cX10_isAt 15 = .ok (.lcmp, 1) := by decide +kernel
theorem dX10_isAt_16 : decode cX10_isAt 16 = .ok (.ifCond .ne 7, 3) := by decide +kernel
theorem dX10_isAt_19 : decode cX10_isAt 19 = .ok (.iconst 1, 1) := by decide +kernel
theorem dX10_isAt_20 : decode cX10_isAt 20 = .ok (.goto 4, 3) := by decide +kernel
theorem dX10_isAt_23 : decode cX10_isAt 23 = .ok (.iconst 0, 1) := by decide +kernel
theorem dX10_isAt_24 : decode cX10_isAt 24 = .ok (.ireturn, 1) := by decide +kernel
theorem dX10_open_0 : decode cX10_open 0 = .ok (.aload_n 0, 1) := by decide +kernel
theorem dX10_open_1 : decode cX10_open 1 = .ok (.getfield 16, 3) := by decide +kernel
theorem dX10_open_4 : decode cX10_open 4 = .ok (.istore 4, 2) := by decide +kernel
theorem dX10_open_6 : decode cX10_open 6 = .ok (.iload 4, 2) := by decide +kernel
theorem dX10_open_8 : decode cX10_open 8 = .ok (.iload_n 1, 1) := by decide +kernel
theorem dX10_open_9 : decode cX10_open 9 = .ok (.if_icmp .le 19, 3) := by decide +kernel
theorem dX10_open_12 : decode cX10_open 12 = .ok (.aload_n 0, 1) := by decide +kernel
theorem dX10_open_13 : decode cX10_open 13 = .ok (.iload 4, 2) := by decide +kernel
theorem dX10_open_15 : decode cX10_open 15 = .ok (.iconst 1, 1) := by decide +kernel
theorem dX10_open_16 : decode cX10_open 16 = .ok (.isub, 1) := by decide +kernel
theorem dX10_open_17 : decode cX10_open 17 = .ok (.iload 4, 2) := by decide +kernel
theorem dX10_open_19 : decode cX10_open 19 = .ok (.invokevirtual 23, 3) := by decide +kernel
theorem dX10_open_22 : decode cX10_open 22 = .ok (.iinc 4 (-1), 3) := by decide +kernel
theorem dX10_open_25 : decode cX10_open 25 = .ok (.goto (-19), 3) := by decide +kernel
theorem dX10_open_28 : decode cX10_open 28 = .ok (.aload_n 0, 1) := by decide +kernel
theorem dX10_open_29 : decode cX10_open 29 = .ok (.getfield 19, 3) := by decide +kernel
theorem dX10_open_32 : decode cX10_open 32 = .ok (.iload_n 1, 1) := by decide +kernel
theorem dX10_open_33 : decode cX10_open 33 = .ok (.lload_n 2, 1) := by decide +kernel
theorem dX10_open_34 : decode cX10_open 34 = .ok (.lastore, 1) := by decide +kernel
theorem dX10_open_35 : decode cX10_open 35 = .ok (.aload_n 0, 1) := by decide +kernel
theorem dX10_open_36 : decode cX10_open 36 = .ok (.getfield 27, 3) := by decide +kernel
theorem dX10_open_39 : decode cX10_open 39 = .ok (.iload_n 1, 1) := by decide +kernel
theorem dX10_open_40 : decode cX10_open 40 = .ok (.iconst 0, 1) := by decide +kernel
theorem dX10_open_41 : decode cX10_open 41 = .ok (.iastore, 1) := by decide +kernel
theorem dX10_open_42 : decode cX10_open 42 = .ok (.aload_n 0, 1) := by decide +kernel
theorem dX10_open_43 : decode cX10_open 43 = .ok (.dup, 1) := by decide +kernel
theorem dX10_open_44 : decode cX10_open 44 = .ok (.getfield 16, 3) := by decide +kernel
theorem dX10_open_47 : decode cX10_open 47 = .ok (.iconst 1, 1) := by decide +kernel
theorem dX10_open_48 : decode cX10_open 48 = .ok (.iadd, 1) := by decide +kernel
theorem dX10_open_49 : decode cX10_open 49 = .ok (.putfield 16, 3) := by decide +kernel
theorem dX10_open_52 : decode cX10_open 52 = .ok (.return_, 1) := by decide +kernel
theorem dX10_move_0 : decode cX10_move 0 = .ok (.aload_n 0, 1) := by decide +kernel
theorem dX10_move_1 : decode cX10_move 1 = .ok (.getfield 19, 3) := by decide +kernel
theorem dX10_move_4 : decode cX10_move 4 = .ok (.iload_n 2, 1) := by decide +kernel
theorem dX10_move_5 : decode cX10_move 5 = .ok (.aload_n 0, 1) := by decide +kernel
theorem dX10_move_6 : decode cX10_move 6 = .ok (.getfield 19, 3) := by decide +kernel
theorem dX10_move_9 : decode cX10_move 9 = .ok (.iload_n 1, 1) := by decide +kernel
theorem dX10_move_10 : decode cX10_move 10 = .ok (.laload, 1) := by decide +kernel
theorem dX10_move_11 : decode cX10_move 11 = .ok (.lastore, 1) := by decide +kernel
theorem dX10_move_12 : decode cX10_move 12 = .ok (.aload_n 0, 1) := by decide +kernel
theorem dX10_move_13 : decode cX10_move 13 = .ok (.getfield 27, 3) := by decide +kernel
theorem dX10_move_16 : decode cX10_move 16 = .ok (.iload_n 2, 1) := by decide +kernel
theorem dX10_move_17 : decode cX10_move 17 = .ok (.aload_n 0, 1) := by decide +kernel
theorem dX10_move_18 : decode cX10_move 18 = .ok (.getfield 27, 3) := by decide +kernel
theorem dX10_move_21 : decode cX10_move 21 = .ok (.iload_n 1, 1) := by decide +kernel
theorem dX10_move_22 : decode cX10_move 22 = .ok (.iaload, 1) := by decide +kernel
theorem dX10_move_23 : decode cX10_move 23 = .ok (.iastore, 1) := by decide +kernel
theorem dX10_move_24 : decode cX10_move 24 = .ok (.iconst 0, 1) := by decide +kernel
theorem dX10_move_25 : decode cX10_move 25 = .ok (.istore_n 3, 1) := by decide +kernel
theorem dX10_move_26 : decode cX10_move 26 = .ok (.iload_n 3, 1) := by decide +kernel
theorem dX10_move_27 : decode cX10_move 27 = .ok (.bipush 20, 2) := by decide +kernel
theorem dX10_move_29 : decode cX10_move 29 = .ok (.if_icmp .ge 31, 3) := by decide +kernel
theorem dX10_move_32 : decode cX10_move 32 = .ok (.aload_n 0, 1) := by decide +kernel
theorem dX10_move_33 : decode cX10_move 33 = .ok (.getfield 31, 3) := by decide +kernel
theorem dX10_move_36 : decode cX10_move 36 = .ok (.bipush 20, 2) := by decide +kernel
theorem dX10_move_38 : decode cX10_move 38 = .ok (.iload_n 2, 1) := by decide +kernel
theorem dX10_move_39 : decode cX10_move 39 = .ok (.imul, 1) := by decide +kernel
theorem dX10_move_40 : decode cX10_move 40 = .ok (.iload_n 3, 1) := by decide +kernel
theorem dX10_move_41 : decode cX10_move 41 = .ok (.iadd, 1) := by decide +kernel
theorem dX10_move_42 : decode cX10_move 42 = .ok (.aload_n 0, 1) := by decide +kernel
theorem dX10_move_43 : decode cX10_move 43 = .ok (.getfield 31, 3) := by decide +kernel
theorem dX10_move_46 : decode cX10_move 46 = .ok (.bipush 20, 2) := by decide +kernel
theorem dX10_move_48 : decode cX10_move 48 = .ok (.iload_n 1, 1) := by decide +kernel
theorem dX10_move_49 : decode cX10_move 49 = .ok (.imul, 1) := by decide +kernel
theorem dX10_move_50 : decode cX10_move 50 = .ok (.iload_n 3, 1) := by decide +kernel
theorem dX10_move_51 : decode cX10_move 51 = .ok (.iadd, 1) := by decide +kernel
theorem dX10_move_52 : decode cX10_move 52 = .ok (.baload, 1) := by decide +kernel
theorem dX10_move_53 : decode cX10_move 53 = .ok (.bastore, 1) := by decide +kernel
theorem dX10_move_54 : decode cX10_move 54 = .ok (.iinc 3 1, 3) := by decide +kernel
theorem dX10_move_57 : decode cX10_move 57 = .ok (.goto (-31), 3) := by decide +kernel
theorem dX10_move_60 : decode cX10_move 60 = .ok (.return_, 1) := by decide +kernel
theorem dX10_shut_0 : decode cX10_shut 0 = .ok (.iload_n 2, 1) := by decide +kernel
theorem dX10_shut_1 : decode cX10_shut 1 = .ok (.istore_n 3, 1) := by decide +kernel
theorem dX10_shut_2 : decode cX10_shut 2 = .ok (.iload_n 3, 1) := by decide +kernel
theorem dX10_shut_3 : decode cX10_shut 3 = .ok (.aload_n 0, 1) := by decide +kernel
theorem dX10_shut_4 : decode cX10_shut 4 = .ok (.getfield 16, 3) := by decide +kernel
theorem dX10_shut_7 : decode cX10_shut 7 = .ok (.if_icmp .ge 19, 3) := by decide +kernel
theorem dX10_shut_10 : decode cX10_shut 10 = .ok (.aload_n 0, 1) := by decide +kernel
theorem dX10_shut_11 : decode cX10_shut 11 = .ok (.iload_n 3, 1) := by decide +kernel
theorem dX10_shut_12 : decode cX10_shut 12 = .ok (.iload_n 1, 1) := by decide +kernel
theorem dX10_shut_13 : decode cX10_shut 13 = .ok (.iload_n 3, 1) := by decide +kernel
theorem dX10_shut_14 : decode cX10_shut 14 = .ok (.iadd, 1) := by decide +kernel
theorem dX10_shut_15 : decode cX10_shut 15 = .ok (.iload_n 2, 1) := by decide +kernel
theorem dX10_shut_16 : decode cX10_shut 16 = .ok (.isub, 1) := by decide +kernel
theorem dX10_shut_17 : decode cX10_shut 17 = .ok (.invokevirtual 23, 3) := by decide +kernel
theorem dX10_shut_20 : decode cX10_shut 20 = .ok (.iinc 3 1, 3) := by decide +kernel
theorem dX10_shut_23 : decode cX10_shut 23 = .ok (.goto (-21), 3) := by decide +kernel
theorem dX10_shut_26 : decode cX10_shut 26 = .ok (.aload_n 0, 1) := by decide +kernel
theorem dX10_shut_27 : decode cX10_shut 27 = .ok (.dup, 1) := by decide +kernel
theorem dX10_shut_28 : decode cX10_shut 28 = .ok (.getfield 16, 3) := by decide +kernel
theorem dX10_shut_31 : decode cX10_shut 31 = .ok (.iload_n 2, 1) := by decide +kernel
theorem dX10_shut_32 : decode cX10_shut 32 = .ok (.iload_n 1, 1) := by decide +kernel
theorem dX10_shut_33 : decode cX10_shut 33 = .ok (.isub, 1) := by decide +kernel
theorem dX10_shut_34 : decode cX10_shut 34 = .ok (.isub, 1) := by decide +kernel
theorem dX10_shut_35 : decode cX10_shut 35 = .ok (.putfield 16, 3) := by decide +kernel
theorem dX10_shut_38 : decode cX10_shut 38 = .ok (.return_, 1) := by decide +kernel
theorem dX10_begins_0 : decode cX10_begins 0 = .ok (.aload_n 0, 1) := by decide +kernel
theorem dX10_begins_1 : decode cX10_begins 1 = .ok (.getfield 34, 3) := by decide +kernel
theorem dX10_begins_4 : decode cX10_begins 4 = .ok (.aload_n 0, 1) := by decide +kernel
theorem dX10_begins_5 : decode cX10_begins 5 = .ok (.getfield 37, 3) := by decide +kernel
theorem dX10_begins_8 : decode cX10_begins 8 = .ok (.iload_n 1, 1) := by decide +kernel
theorem dX10_begins_9 : decode cX10_begins 9 = .ok (.iaload, 1) := by decide +kernel
theorem dX10_begins_10 : decode cX10_begins 10 = .ok (.if_icmp .ne 7, 3) := by decide +kernel
theorem dX10_begins_13 : decode cX10_begins 13 = .ok (.iconst 1, 1) := by decide +kernel
theorem dX10_begins_14 : decode cX10_begins 14 = .ok (.goto 4, 3) := by decide +kernel
theorem dX10_begins_17 : decode cX10_begins 17 = .ok (.iconst 0, 1) := by decide +kernel
theorem dX10_begins_18 : decode cX10_begins 18 = .ok (.istore_n 2, 1) := by decide +kernel
theorem dX10_begins_19 : decode cX10_begins 19 = .ok (.iconst 0, 1) := by decide +kernel
theorem dX10_begins_20 : decode cX10_begins 20 = .ok (.istore_n 3, 1) := by decide +kernel
theorem dX10_begins_21 : decode cX10_begins 21 = .ok (.iload_n 3, 1) := by decide +kernel
theorem dX10_begins_22 : decode cX10_begins 22 = .ok (.aload_n 0, 1) := by decide +kernel
theorem dX10_begins_23 : decode cX10_begins 23 = .ok (.getfield 34, 3) := by decide +kernel
theorem dX10_begins_26 : decode cX10_begins 26 = .ok (.if_icmp .ge 39, 3) := by decide +kernel
theorem dX10_begins_29 : decode cX10_begins 29 = .ok (.iload_n 2, 1) := by decide +kernel
theorem dX10_begins_30 : decode cX10_begins 30 = .ok (.ifCond .eq 35, 3) := by decide +kernel
theorem dX10_begins_33 : decode cX10_begins 33 = .ok (.aload_n 0, 1) := by decide +kernel
theorem dX10_begins_34 : decode cX10_begins 34 = .ok (.getfield 40, 3) := by decide +kernel
theorem dX10_begins_37 : decode cX10_begins 37 = .ok (.iload_n 3, 1) := by decide +kernel
theorem dX10_begins_38 : decode cX10_begins 38 = .ok (.baload, 1) := by decide +kernel
theorem dX10_begins_39 : decode cX10_begins 39 = .ok (.aload_n 0, 1) := by decide +kernel
theorem dX10_begins_40 : decode cX10_begins 40 = .ok (.getfield 43, 3) := by decide +kernel
theorem dX10_begins_43 : decode cX10_begins 43 = .ok (.bipush 40, 2) := by decide +kernel
theorem dX10_begins_45 : decode cX10_begins 45 = .ok (.iload_n 1, 1) := by decide +kernel
theorem dX10_begins_46 : decode cX10_begins 46 = .ok (.imul, 1) := by decide +kernel
theorem dX10_begins_47 : decode cX10_begins 47 = .ok (.iload_n 3, 1) := by decide +kernel
theorem dX10_begins_48 : decode cX10_begins 48 = .ok (.iadd, 1) := by decide +kernel
theorem dX10_begins_49 : decode cX10_begins 49 = .ok (.baload, 1) := by decide +kernel
theorem dX10_begins_50 : decode cX10_begins 50 = .ok (.if_icmp .ne 7, 3) := by decide +kernel
theorem dX10_begins_53 : decode cX10_begins 53 = .ok (.iconst 1, 1) := by decide +kernel
theorem dX10_begins_54 : decode cX10_begins 54 = .ok (.goto 4, 3) := by decide +kernel
theorem dX10_begins_57 : decode cX10_begins 57 = .ok (.iconst 0, 1) := by decide +kernel
theorem dX10_begins_58 : decode cX10_begins 58 = .ok (.istore_n 2, 1) := by decide +kernel
theorem dX10_begins_59 : decode cX10_begins 59 = .ok (.iinc 3 1, 3) := by decide +kernel
theorem dX10_begins_62 : decode cX10_begins 62 = .ok (.goto (-41), 3) := by decide +kernel
theorem dX10_begins_65 : decode cX10_begins 65 = .ok (.iload_n 2, 1) := by decide +kernel
theorem dX10_begins_66 : decode cX10_begins 66 = .ok (.ireturn, 1) := by decide +kernel
theorem dX10_acts_0 : decode cX10_acts 0 = .ok (.aload_n 0, 1) := by decide +kernel
theorem dX10_acts_1 : decode cX10_acts 1 = .ok (.getfield 46, 3) := by decide +kernel
theorem dX10_acts_4 : decode cX10_acts 4 = .ok (.iload_n 1, 1) := by decide +kernel
theorem dX10_acts_5 : decode cX10_acts 5 = .ok (.iaload, 1) := by decide +kernel
theorem dX10_acts_6 : decode cX10_acts 6 = .ok (.tableswitch 156 1 3 #[26, 49, 111], 26) := by decide +kernel
theorem dX10_acts_32 : decode cX10_acts 32 = .ok (.aload_n 0, 1) := by decide +kernel
theorem dX10_acts_33 : decode cX10_acts 33 = .ok (.aload_n 0, 1) := by decide +kernel
theorem dX10_acts_34 : decode cX10_acts 34 = .ok (.getfield 49, 3) := by decide +kernel
theorem dX10_acts_37 : decode cX10_acts 37 = .ok (.iload_n 1, 1) := by decide +kernel
theorem dX10_acts_38 : decode cX10_acts 38 = .ok (.iaload, 1) := by decide +kernel
theorem dX10_acts_39 : decode cX10_acts 39 = .ok (.putfield 34, 3) := by decide +kernel
theorem dX10_acts_42 : decode cX10_acts 42 = .ok (.aload_n 0, 1) := by decide +kernel
theorem dX10_acts_43 : decode cX10_acts 43 = .ok (.iload_n 1, 1) := by decide +kernel
theorem dX10_acts_44 : decode cX10_acts 44 = .ok (.iconst 0, 1) := by decide +kernel
theorem dX10_acts_45 : decode cX10_acts 45 = .ok (.iconst 0, 1) := by decide +kernel
theorem dX10_acts_46 : decode cX10_acts 46 = .ok (.aload_n 0, 1) := by decide +kernel
theorem dX10_acts_47 : decode cX10_acts 47 = .ok (.getfield 34, 3) := by decide +kernel
theorem dX10_acts_50 : decode cX10_acts 50 = .ok (.invokevirtual 52, 3) := by decide +kernel
theorem dX10_acts_53 : decode cX10_acts 53 = .ok (.iconst 1, 1) := by decide +kernel
theorem dX10_acts_54 : decode cX10_acts 54 = .ok (.ireturn, 1) := by decide +kernel
theorem dX10_acts_55 : decode cX10_acts 55 = .ok (.aload_n 0, 1) := by decide +kernel
theorem dX10_acts_56 : decode cX10_acts 56 = .ok (.getfield 34, 3) := by decide +kernel
theorem dX10_acts_59 : decode cX10_acts 59 = .ok (.iconst (-1), 1) := by decide +kernel
theorem dX10_acts_60 : decode cX10_acts 60 = .ok (.if_icmp .ne 7, 3) := by decide +kernel
theorem dX10_acts_63 : decode cX10_acts 63 = .ok (.iconst 0, 1) := by decide +kernel
theorem dX10_acts_64 : decode cX10_acts 64 = .ok (.goto 7, 3) := by decide +kernel
theorem dX10_acts_67 : decode cX10_acts 67 = .ok (.aload_n 0, 1) := by decide +kernel
theorem dX10_acts_68 : decode cX10_acts 68 = .ok (.getfield 34, 3) := by decide +kernel
theorem dX10_acts_71 : decode cX10_acts 71 = .ok (.istore_n 2, 1) := by decide +kernel
theorem dX10_acts_72 : decode cX10_acts 72 = .ok (.aload_n 0, 1) := by decide +kernel
theorem dX10_acts_73 : decode cX10_acts 73 = .ok (.iload_n 2, 1) := by decide +kernel
theorem dX10_acts_74 : decode cX10_acts 74 = .ok (.aload_n 0, 1) := by decide +kernel
theorem dX10_acts_75 : decode cX10_acts 75 = .ok (.getfield 49, 3) := by decide +kernel
theorem dX10_acts_78 : decode cX10_acts 78 = .ok (.iload_n 1, 1) := by decide +kernel
theorem dX10_acts_79 : decode cX10_acts 79 = .ok (.iaload, 1) := by decide +kernel
theorem dX10_acts_80 : decode cX10_acts 80 = .ok (.iadd, 1) := by decide +kernel
theorem dX10_acts_81 : decode cX10_acts 81 = .ok (.bipush 20, 2) := by decide +kernel
theorem dX10_acts_83 : decode cX10_acts 83 = .ok (.if_icmp .le 8, 3) := by decide +kernel
theorem dX10_acts_86 : decode cX10_acts 86 = .ok (.bipush 20, 2) := by decide +kernel
theorem dX10_acts_88 : decode cX10_acts 88 = .ok (.goto 11, 3) := by decide +kernel
theorem dX10_acts_91 : decode cX10_acts 91 = .ok (.iload_n 2, 1) := by decide +kernel
theorem dX10_acts_92 : decode cX10_acts 92 = .ok (.aload_n 0, 1) := by decide +kernel
theorem dX10_acts_93 : decode cX10_acts 93 = .ok (.getfield 49, 3) := by decide +kernel
theorem dX10_acts_96 : decode cX10_acts 96 = .ok (.iload_n 1, 1) := by decide +kernel
theorem dX10_acts_97 : decode cX10_acts 97 = .ok (.iaload, 1) := by decide +kernel
theorem dX10_acts_98 : decode cX10_acts 98 = .ok (.iadd, 1) := by decide +kernel
theorem dX10_acts_99 : decode cX10_acts 99 = .ok (.putfield 34, 3) := by decide +kernel
theorem dX10_acts_102 : decode cX10_acts 102 = .ok (.aload_n 0, 1) := by decide +kernel
theorem dX10_acts_103 : decode cX10_acts 103 = .ok (.iload_n 1, 1) := by decide +kernel
theorem dX10_acts_104 : decode cX10_acts 104 = .ok (.iconst 0, 1) := by decide +kernel
theorem dX10_acts_105 : decode cX10_acts 105 = .ok (.iload_n 2, 1) := by decide +kernel
theorem dX10_acts_106 : decode cX10_acts 106 = .ok (.aload_n 0, 1) := by decide +kernel
theorem dX10_acts_107 : decode cX10_acts 107 = .ok (.getfield 34, 3) := by decide +kernel
theorem dX10_acts_110 : decode cX10_acts 110 = .ok (.iload_n 2, 1) := by decide +kernel
theorem dX10_acts_111 : decode cX10_acts 111 = .ok (.isub, 1) := by decide +kernel
theorem dX10_acts_112 : decode cX10_acts 112 = .ok (.invokevirtual 52, 3) := by decide +kernel
theorem dX10_acts_115 : decode cX10_acts 115 = .ok (.iconst 1, 1) := by decide +kernel
theorem dX10_acts_116 : decode cX10_acts 116 = .ok (.ireturn, 1) := by decide +kernel
theorem dX10_acts_117 : decode cX10_acts 117 = .ok (.aload_n 0, 1) := by decide +kernel
theorem dX10_acts_118 : decode cX10_acts 118 = .ok (.iload_n 1, 1) := by decide +kernel
theorem dX10_acts_119 : decode cX10_acts 119 = .ok (.invokevirtual 56, 3) := by decide +kernel
theorem dX10_acts_122 : decode cX10_acts 122 = .ok (.ifCond .ne 5, 3) := by decide +kernel
theorem dX10_acts_125 : decode cX10_acts 125 = .ok (.iconst 0, 1) := by decide +kernel
theorem dX10_acts_126 : decode cX10_acts 126 = .ok (.ireturn, 1) := by decide +kernel
theorem dX10_acts_127 : decode cX10_acts 127 = .ok (.aload_n 0, 1) := by decide +kernel
theorem dX10_acts_128 : decode cX10_acts 128 = .ok (.aload_n 0, 1) := by decide +kernel
theorem dX10_acts_129 : decode cX10_acts 129 = .ok (.getfield 49, 3) := by decide +kernel
theorem dX10_acts_132 : decode cX10_acts 132 = .ok (.iload_n 1, 1) := by decide +kernel
theorem dX10_acts_133 : decode cX10_acts 133 = .ok (.iaload, 1) := by decide +kernel
theorem dX10_acts_134 : decode cX10_acts 134 = .ok (.aload_n 0, 1) := by decide +kernel
theorem dX10_acts_135 : decode cX10_acts 135 = .ok (.getfield 37, 3) := by decide +kernel
theorem dX10_acts_138 : decode cX10_acts 138 = .ok (.iload_n 1, 1) := by decide +kernel
theorem dX10_acts_139 : decode cX10_acts 139 = .ok (.iaload, 1) := by decide +kernel
theorem dX10_acts_140 : decode cX10_acts 140 = .ok (.isub, 1) := by decide +kernel
theorem dX10_acts_141 : decode cX10_acts 141 = .ok (.putfield 34, 3) := by decide +kernel
theorem dX10_acts_144 : decode cX10_acts 144 = .ok (.aload_n 0, 1) := by decide +kernel
theorem dX10_acts_145 : decode cX10_acts 145 = .ok (.iload_n 1, 1) := by decide +kernel
theorem dX10_acts_146 : decode cX10_acts 146 = .ok (.aload_n 0, 1) := by decide +kernel
theorem dX10_acts_147 : decode cX10_acts 147 = .ok (.getfield 37, 3) := by decide +kernel
theorem dX10_acts_150 : decode cX10_acts 150 = .ok (.iload_n 1, 1) := by decide +kernel
theorem dX10_acts_151 : decode cX10_acts 151 = .ok (.iaload, 1) := by decide +kernel
theorem dX10_acts_152 : decode cX10_acts 152 = .ok (.iconst 0, 1) := by decide +kernel
theorem dX10_acts_153 : decode cX10_acts 153 = .ok (.aload_n 0, 1) := by decide +kernel
theorem dX10_acts_154 : decode cX10_acts 154 = .ok (.getfield 34, 3) := by decide +kernel
theorem dX10_acts_157 : decode cX10_acts 157 = .ok (.invokevirtual 52, 3) := by decide +kernel
theorem dX10_acts_160 : decode cX10_acts 160 = .ok (.iconst 1, 1) := by decide +kernel
theorem dX10_acts_161 : decode cX10_acts 161 = .ok (.ireturn, 1) := by decide +kernel
theorem dX10_acts_162 : decode cX10_acts 162 = .ok (.aload_n 0, 1) := by decide +kernel
theorem dX10_acts_163 : decode cX10_acts 163 = .ok (.getfield 34, 3) := by decide +kernel
theorem dX10_acts_166 : decode cX10_acts 166 = .ok (.iconst (-1), 1) := by decide +kernel
theorem dX10_acts_167 : decode cX10_acts 167 = .ok (.if_icmp .eq 7, 3) := by decide +kernel
theorem dX10_acts_170 : decode cX10_acts 170 = .ok (.iconst 1, 1) := by decide +kernel
theorem dX10_acts_171 : decode cX10_acts 171 = .ok (.goto 4, 3) := by decide +kernel
theorem dX10_acts_174 : decode cX10_acts 174 = .ok (.iconst 0, 1) := by decide +kernel
theorem dX10_acts_175 : decode cX10_acts 175 = .ok (.istore_n 3, 1) := by decide +kernel
theorem dX10_acts_176 : decode cX10_acts 176 = .ok (.aload_n 0, 1) := by decide +kernel
theorem dX10_acts_177 : decode cX10_acts 177 = .ok (.iconst (-1), 1) := by decide +kernel
theorem dX10_acts_178 : decode cX10_acts 178 = .ok (.putfield 34, 3) := by decide +kernel
theorem dX10_acts_181 : decode cX10_acts 181 = .ok (.iload_n 3, 1) := by decide +kernel
theorem dX10_acts_182 : decode cX10_acts 182 = .ok (.ireturn, 1) := by decide +kernel
theorem dX10_copy_0 : decode cX10_copy 0 = .ok (.iconst 0, 1) := by decide +kernel
theorem dX10_copy_1 : decode cX10_copy 1 = .ok (.istore 5, 2) := by decide +kernel
theorem dX10_copy_3 : decode cX10_copy 3 = .ok (.iload 5, 2) := by decide +kernel
theorem dX10_copy_5 : decode cX10_copy 5 = .ok (.iload 4, 2) := by decide +kernel
theorem dX10_copy_7 : decode cX10_copy 7 = .ok (.if_icmp .ge 32, 3) := by decide +kernel
theorem dX10_copy_10 : decode cX10_copy 10 = .ok (.aload_n 0, 1) := by decide +kernel
theorem dX10_copy_11 : decode cX10_copy 11 = .ok (.getfield 40, 3) := by decide +kernel
theorem dX10_copy_14 : decode cX10_copy 14 = .ok (.iload_n 3, 1) := by decide +kernel
theorem dX10_copy_15 : decode cX10_copy 15 = .ok (.iload 5, 2) := by decide +kernel
theorem dX10_copy_17 : decode cX10_copy 17 = .ok (.iadd, 1) := by decide +kernel
theorem dX10_copy_18 : decode cX10_copy 18 = .ok (.aload_n 0, 1) := by decide +kernel
theorem dX10_copy_19 : decode cX10_copy 19 = .ok (.getfield 43, 3) := by decide +kernel
theorem dX10_copy_22 : decode cX10_copy 22 = .ok (.bipush 40, 2) := by decide +kernel
theorem dX10_copy_24 : decode cX10_copy 24 = .ok (.iload_n 1, 1) := by decide +kernel
theorem dX10_copy_25 : decode cX10_copy 25 = .ok (.imul, 1) := by decide +kernel
theorem dX10_copy_26 : decode cX10_copy 26 = .ok (.iload_n 2, 1) := by decide +kernel
theorem dX10_copy_27 : decode cX10_copy 27 = .ok (.iadd, 1) := by decide +kernel
theorem dX10_copy_28 : decode cX10_copy 28 = .ok (.iload 5, 2) := by decide +kernel
theorem dX10_copy_30 : decode cX10_copy 30 = .ok (.iadd, 1) := by decide +kernel
theorem dX10_copy_31 : decode cX10_copy 31 = .ok (.baload, 1) := by decide +kernel
theorem dX10_copy_32 : decode cX10_copy 32 = .ok (.bastore, 1) := by decide +kernel
theorem dX10_copy_33 : decode cX10_copy 33 = .ok (.iinc 5 1, 3) := by decide +kernel
theorem dX10_copy_36 : decode cX10_copy 36 = .ok (.goto (-33), 3) := by decide +kernel
theorem dX10_copy_39 : decode cX10_copy 39 = .ok (.return_, 1) := by decide +kernel
theorem dX10_write_0 : decode cX10_write 0 = .ok (.aload_n 0, 1) := by decide +kernel
theorem dX10_write_1 : decode cX10_write 1 = .ok (.getfield 60, 3) := by decide +kernel
theorem dX10_write_4 : decode cX10_write 4 = .ok (.istore 5, 2) := by decide +kernel
theorem dX10_write_6 : decode cX10_write 6 = .ok (.aload_n 0, 1) := by decide +kernel
theorem dX10_write_7 : decode cX10_write 7 = .ok (.dup, 1) := by decide +kernel
theorem dX10_write_8 : decode cX10_write 8 = .ok (.getfield 60, 3) := by decide +kernel
theorem dX10_write_11 : decode cX10_write 11 = .ok (.iconst 1, 1) := by decide +kernel
theorem dX10_write_12 : decode cX10_write 12 = .ok (.iadd, 1) := by decide +kernel
theorem dX10_write_13 : decode cX10_write 13 = .ok (.putfield 60, 3) := by decide +kernel
theorem dX10_write_16 : decode cX10_write 16 = .ok (.aload_n 0, 1) := by decide +kernel
theorem dX10_write_17 : decode cX10_write 17 = .ok (.dup, 1) := by decide +kernel
theorem dX10_write_18 : decode cX10_write 18 = .ok (.getfield 63, 3) := by decide +kernel
theorem dX10_write_21 : decode cX10_write 21 = .ok (.iconst 1, 1) := by decide +kernel
theorem dX10_write_22 : decode cX10_write 22 = .ok (.iadd, 1) := by decide +kernel
theorem dX10_write_23 : decode cX10_write 23 = .ok (.putfield 63, 3) := by decide +kernel
theorem dX10_write_26 : decode cX10_write 26 = .ok (.aload_n 0, 1) := by decide +kernel
theorem dX10_write_27 : decode cX10_write 27 = .ok (.getfield 46, 3) := by decide +kernel
theorem dX10_write_30 : decode cX10_write 30 = .ok (.iload 5, 2) := by decide +kernel
theorem dX10_write_32 : decode cX10_write 32 = .ok (.iload_n 1, 1) := by decide +kernel
theorem dX10_write_33 : decode cX10_write 33 = .ok (.iastore, 1) := by decide +kernel
theorem dX10_write_34 : decode cX10_write 34 = .ok (.aload_n 0, 1) := by decide +kernel
theorem dX10_write_35 : decode cX10_write 35 = .ok (.getfield 66, 3) := by decide +kernel
theorem dX10_write_38 : decode cX10_write 38 = .ok (.iload 5, 2) := by decide +kernel
theorem dX10_write_40 : decode cX10_write 40 = .ok (.lload_n 2, 1) := by decide +kernel
theorem dX10_write_41 : decode cX10_write 41 = .ok (.lastore, 1) := by decide +kernel
theorem dX10_write_42 : decode cX10_write 42 = .ok (.aload_n 0, 1) := by decide +kernel
theorem dX10_write_43 : decode cX10_write 43 = .ok (.getfield 37, 3) := by decide +kernel
theorem dX10_write_46 : decode cX10_write 46 = .ok (.iload 5, 2) := by decide +kernel
theorem dX10_write_48 : decode cX10_write 48 = .ok (.iload 4, 2) := by decide +kernel
theorem dX10_write_50 : decode cX10_write 50 = .ok (.iastore, 1) := by decide +kernel
theorem dX10_write_51 : decode cX10_write 51 = .ok (.aload_n 0, 1) := by decide +kernel
theorem dX10_write_52 : decode cX10_write 52 = .ok (.getfield 49, 3) := by decide +kernel
theorem dX10_write_55 : decode cX10_write 55 = .ok (.iload 5, 2) := by decide +kernel
theorem dX10_write_57 : decode cX10_write 57 = .ok (.iload_n 1, 1) := by decide +kernel
theorem dX10_write_58 : decode cX10_write 58 = .ok (.iconst 4, 1) := by decide +kernel
theorem dX10_write_59 : decode cX10_write 59 = .ok (.if_icmp .eq 8, 3) := by decide +kernel
theorem dX10_write_62 : decode cX10_write 62 = .ok (.iload_n 1, 1) := by decide +kernel
theorem dX10_write_63 : decode cX10_write 63 = .ok (.iconst 5, 1) := by decide +kernel
theorem dX10_write_64 : decode cX10_write 64 = .ok (.if_icmp .ne 7, 3) := by decide +kernel
theorem dX10_write_67 : decode cX10_write 67 = .ok (.iconst 0, 1) := by decide +kernel
theorem dX10_write_68 : decode cX10_write 68 = .ok (.goto 7, 3) := by decide +kernel
theorem dX10_write_71 : decode cX10_write 71 = .ok (.aload_n 0, 1) := by decide +kernel
theorem dX10_write_72 : decode cX10_write 72 = .ok (.getfield 9, 3) := by decide +kernel
theorem dX10_write_75 : decode cX10_write 75 = .ok (.iastore, 1) := by decide +kernel
theorem dX10_write_76 : decode cX10_write 76 = .ok (.aload_n 0, 1) := by decide +kernel
theorem dX10_write_77 : decode cX10_write 77 = .ok (.getfield 69, 3) := by decide +kernel
theorem dX10_write_80 : decode cX10_write 80 = .ok (.iload 5, 2) := by decide +kernel
theorem dX10_write_82 : decode cX10_write 82 = .ok (.aload_n 0, 1) := by decide +kernel
theorem dX10_write_83 : decode cX10_write 83 = .ok (.getfield 63, 3) := by decide +kernel
theorem dX10_write_86 : decode cX10_write 86 = .ok (.iastore, 1) := by decide +kernel
theorem dX10_write_87 : decode cX10_write 87 = .ok (.iconst 0, 1) := by decide +kernel
theorem dX10_write_88 : decode cX10_write 88 = .ok (.istore 6, 2) := by decide +kernel
theorem dX10_write_90 : decode cX10_write 90 = .ok (.iload 6, 2) := by decide +kernel
theorem dX10_write_92 : decode cX10_write 92 = .ok (.aload_n 0, 1) := by decide +kernel
theorem dX10_write_93 : decode cX10_write 93 = .ok (.getfield 49, 3) := by decide +kernel
theorem dX10_write_96 : decode cX10_write 96 = .ok (.iload 5, 2) := by decide +kernel
theorem dX10_write_98 : decode cX10_write 98 = .ok (.iaload, 1) := by decide +kernel
theorem dX10_write_99 : decode cX10_write 99 = .ok (.if_icmp .ge 29, 3) := by decide +kernel
theorem dX10_write_102 : decode cX10_write 102 = .ok (.aload_n 0, 1) := by decide +kernel
theorem dX10_write_103 : decode cX10_write 103 = .ok (.getfield 43, 3) := by decide +kernel
theorem dX10_write_106 : decode cX10_write 106 = .ok (.bipush 40, 2) := by decide +kernel
theorem dX10_write_108 : decode cX10_write 108 = .ok (.iload 5, 2) := by decide +kernel
theorem dX10_write_110 : decode cX10_write 110 = .ok (.imul, 1) := by decide +kernel
theorem dX10_write_111 : decode cX10_write 111 = .ok (.iload 6, 2) := by decide +kernel
theorem dX10_write_113 : decode cX10_write 113 = .ok (.iadd, 1) := by decide +kernel
theorem dX10_write_114 : decode cX10_write 114 = .ok (.aload_n 0, 1) := by decide +kernel
theorem dX10_write_115 : decode cX10_write 115 = .ok (.getfield 12, 3) := by decide +kernel
theorem dX10_write_118 : decode cX10_write 118 = .ok (.iload 6, 2) := by decide +kernel
theorem dX10_write_120 : decode cX10_write 120 = .ok (.baload, 1) := by decide +kernel
theorem dX10_write_121 : decode cX10_write 121 = .ok (.bastore, 1) := by decide +kernel
theorem dX10_write_122 : decode cX10_write 122 = .ok (.iinc 6 1, 3) := by decide +kernel
theorem dX10_write_125 : decode cX10_write 125 = .ok (.goto (-35), 3) := by decide +kernel
theorem dX10_write_128 : decode cX10_write 128 = .ok (.iload_n 1, 1) := by decide +kernel
theorem dX10_write_129 : decode cX10_write 129 = .ok (.iconst 4, 1) := by decide +kernel
theorem dX10_write_130 : decode cX10_write 130 = .ok (.if_icmp .eq 13, 3) := by decide +kernel
theorem dX10_write_133 : decode cX10_write 133 = .ok (.iload_n 1, 1) := by decide +kernel
theorem dX10_write_134 : decode cX10_write 134 = .ok (.iconst 5, 1) := by decide +kernel
theorem dX10_write_135 : decode cX10_write 135 = .ok (.if_icmp .eq 8, 3) := by decide +kernel
theorem dX10_write_138 : decode cX10_write 138 = .ok (.aload_n 0, 1) := by decide +kernel
theorem dX10_write_139 : decode cX10_write 139 = .ok (.iconst 0, 1) := by decide +kernel
theorem dX10_write_140 : decode cX10_write 140 = .ok (.putfield 9, 3) := by decide +kernel
theorem dX10_write_143 : decode cX10_write 143 = .ok (.iload 5, 2) := by decide +kernel
theorem dX10_write_145 : decode cX10_write 145 = .ok (.ireturn, 1) := by decide +kernel
theorem dX10_actsOnMap_0 : decode cX10_actsOnMap 0 = .ok (.aload_n 0, 1) := by decide +kernel
theorem dX10_actsOnMap_1 : decode cX10_actsOnMap 1 = .ok (.aload_n 0, 1) := by decide +kernel
theorem dX10_actsOnMap_2 : decode cX10_actsOnMap 2 = .ok (.getfield 66, 3) := by decide +kernel
theorem dX10_actsOnMap_5 : decode cX10_actsOnMap 5 = .ok (.iload_n 1, 1) := by decide +kernel
theorem dX10_actsOnMap_6 : decode cX10_actsOnMap 6 = .ok (.laload, 1) := by decide +kernel
theorem dX10_actsOnMap_7 : decode cX10_actsOnMap 7 = .ok (.invokevirtual 72, 3) := by decide +kernel
theorem dX10_actsOnMap_10 : decode cX10_actsOnMap 10 = .ok (.istore_n 2, 1) := by decide +kernel
theorem dX10_actsOnMap_11 : decode cX10_actsOnMap 11 = .ok (.aload_n 0, 1) := by decide +kernel
theorem dX10_actsOnMap_12 : decode cX10_actsOnMap 12 = .ok (.iload_n 2, 1) := by decide +kernel
theorem dX10_actsOnMap_13 : decode cX10_actsOnMap 13 = .ok (.aload_n 0, 1) := by decide +kernel
theorem dX10_actsOnMap_14 : decode cX10_actsOnMap 14 = .ok (.getfield 66, 3) := by decide +kernel
theorem dX10_actsOnMap_17 : decode cX10_actsOnMap 17 = .ok (.iload_n 1, 1) := by decide +kernel
theorem dX10_actsOnMap_18 : decode cX10_actsOnMap 18 = .ok (.laload, 1) := by decide +kernel
theorem dX10_actsOnMap_19 : decode cX10_actsOnMap 19 = .ok (.invokevirtual 76, 3) := by decide +kernel
theorem dX10_actsOnMap_22 : decode cX10_actsOnMap 22 = .ok (.istore_n 3, 1) := by decide +kernel
theorem dX10_actsOnMap_23 : decode cX10_actsOnMap 23 = .ok (.aload_n 0, 1) := by decide +kernel
theorem dX10_actsOnMap_24 : decode cX10_actsOnMap 24 = .ok (.iload_n 3, 1) := by decide +kernel
theorem dX10_actsOnMap_25 : decode cX10_actsOnMap 25 = .ok (.ifCond .eq 12, 3) := by decide +kernel
theorem dX10_actsOnMap_28 : decode cX10_actsOnMap 28 = .ok (.aload_n 0, 1) := by decide +kernel
theorem dX10_actsOnMap_29 : decode cX10_actsOnMap 29 = .ok (.getfield 27, 3) := by decide +kernel
theorem dX10_actsOnMap_32 : decode cX10_actsOnMap 32 = .ok (.iload_n 2, 1) := by decide +kernel
theorem dX10_actsOnMap_33 : decode cX10_actsOnMap 33 = .ok (.iaload, 1) := by decide +kernel
theorem dX10_actsOnMap_34 : decode cX10_actsOnMap 34 = .ok (.goto 4, 3) := by decide +kernel
theorem dX10_actsOnMap_37 : decode cX10_actsOnMap 37 = .ok (.iconst (-1), 1) := by decide +kernel
theorem dX10_actsOnMap_38 : decode cX10_actsOnMap 38 = .ok (.putfield 34, 3) := by decide +kernel
theorem dX10_actsOnMap_41 : decode cX10_actsOnMap 41 = .ok (.iconst 0, 1) := by decide +kernel
theorem dX10_actsOnMap_42 : decode cX10_actsOnMap 42 = .ok (.istore 4, 2) := by decide +kernel
theorem dX10_actsOnMap_44 : decode cX10_actsOnMap 44 = .ok (.iload 4, 2) := by decide +kernel
theorem dX10_actsOnMap_46 : decode cX10_actsOnMap 46 = .ok (.bipush 20, 2) := by decide +kernel
theorem dX10_actsOnMap_48 : decode cX10_actsOnMap 48 = .ok (.if_icmp .ge 32, 3) := by decide +kernel
theorem dX10_actsOnMap_51 : decode cX10_actsOnMap 51 = .ok (.iload_n 3, 1) := by decide +kernel
theorem dX10_actsOnMap_52 : decode cX10_actsOnMap 52 = .ok (.ifCond .eq 28, 3) := by decide +kernel
theorem dX10_actsOnMap_55 : decode cX10_actsOnMap 55 = .ok (.aload_n 0, 1) := by decide +kernel
theorem dX10_actsOnMap_56 : decode cX10_actsOnMap 56 = .ok (.getfield 40, 3) := by decide +kernel
theorem dX10_actsOnMap_59 : decode cX10_actsOnMap 59 = .ok (.iload 4, 2) := by decide +kernel
theorem dX10_actsOnMap_61 : decode cX10_actsOnMap 61 = .ok (.aload_n 0, 1) := by decide +kernel
theorem dX10_actsOnMap_62 : decode cX10_actsOnMap 62 = .ok (.getfield 31, 3) := by decide +kernel
theorem dX10_actsOnMap_65 : decode cX10_actsOnMap 65 = .ok (.bipush 20, 2) := by decide +kernel
theorem dX10_actsOnMap_67 : decode cX10_actsOnMap 67 = .ok (.iload_n 2, 1) := by decide +kernel
theorem dX10_actsOnMap_68 : decode cX10_actsOnMap 68 = .ok (.imul, 1) := by decide +kernel
theorem dX10_actsOnMap_69 : decode cX10_actsOnMap 69 = .ok (.iload 4, 2) := by decide +kernel
theorem dX10_actsOnMap_71 : decode cX10_actsOnMap 71 = .ok (.iadd, 1) := by decide +kernel
theorem dX10_actsOnMap_72 : decode cX10_actsOnMap 72 = .ok (.baload, 1) := by decide +kernel
theorem dX10_actsOnMap_73 : decode cX10_actsOnMap 73 = .ok (.bastore, 1) := by decide +kernel
theorem dX10_actsOnMap_74 : decode cX10_actsOnMap 74 = .ok (.iinc 4 1, 3) := by decide +kernel
theorem dX10_actsOnMap_77 : decode cX10_actsOnMap 77 = .ok (.goto (-33), 3) := by decide +kernel
theorem dX10_actsOnMap_80 : decode cX10_actsOnMap 80 = .ok (.aload_n 0, 1) := by decide +kernel
theorem dX10_actsOnMap_81 : decode cX10_actsOnMap 81 = .ok (.iload_n 1, 1) := by decide +kernel
theorem dX10_actsOnMap_82 : decode cX10_actsOnMap 82 = .ok (.invokevirtual 80, 3) := by decide +kernel
theorem dX10_actsOnMap_85 : decode cX10_actsOnMap 85 = .ok (.istore 4, 2) := by decide +kernel
theorem dX10_actsOnMap_87 : decode cX10_actsOnMap 87 = .ok (.aload_n 0, 1) := by decide +kernel
theorem dX10_actsOnMap_88 : decode cX10_actsOnMap 88 = .ok (.getfield 34, 3) := by decide +kernel
theorem dX10_actsOnMap_91 : decode cX10_actsOnMap 91 = .ok (.iconst (-1), 1) := by decide +kernel
theorem dX10_actsOnMap_92 : decode cX10_actsOnMap 92 = .ok (.if_icmp .ne 18, 3) := by decide +kernel
theorem dX10_actsOnMap_95 : decode cX10_actsOnMap 95 = .ok (.iload_n 3, 1) := by decide +kernel
theorem dX10_actsOnMap_96 : decode cX10_actsOnMap 96 = .ok (.ifCond .eq 11, 3) := by decide +kernel
theorem dX10_actsOnMap_99 : decode cX10_actsOnMap 99 = .ok (.aload_n 0, 1) := by decide +kernel
theorem dX10_actsOnMap_100 : decode cX10_actsOnMap 100 = .ok (.iload_n 2, 1) := by decide +kernel
theorem dX10_actsOnMap_101 : decode cX10_actsOnMap 101 = .ok (.iload_n 2, 1) := by decide +kernel
theorem dX10_actsOnMap_102 : decode cX10_actsOnMap 102 = .ok (.iconst 1, 1) := by decide +kernel
theorem dX10_actsOnMap_103 : decode cX10_actsOnMap 103 = .ok (.iadd, 1) := by decide +kernel
theorem dX10_actsOnMap_104 : decode cX10_actsOnMap 104 = .ok (.invokevirtual 83, 3) := by decide +kernel
theorem dX10_actsOnMap_107 : decode cX10_actsOnMap 107 = .ok (.iload 4, 2) := by decide +kernel
theorem dX10_actsOnMap_109 : decode cX10_actsOnMap 109 = .ok (.ireturn, 1) := by decide +kernel
theorem dX10_actsOnMap_110 : decode cX10_actsOnMap 110 = .ok (.iload_n 3, 1) := by decide +kernel
theorem dX10_actsOnMap_111 : decode cX10_actsOnMap 111 = .ok (.ifCond .ne 14, 3) := by decide +kernel
theorem dX10_actsOnMap_114 : decode cX10_actsOnMap 114 = .ok (.aload_n 0, 1) := by decide +kernel
theorem dX10_actsOnMap_115 : decode cX10_actsOnMap 115 = .ok (.iload_n 2, 1) := by decide +kernel
theorem dX10_actsOnMap_116 : decode cX10_actsOnMap 116 = .ok (.aload_n 0, 1) := by decide +kernel
theorem dX10_actsOnMap_117 : decode cX10_actsOnMap 117 = .ok (.getfield 66, 3) := by decide +kernel
theorem dX10_actsOnMap_120 : decode cX10_actsOnMap 120 = .ok (.iload_n 1, 1) := by decide +kernel
theorem dX10_actsOnMap_121 : decode cX10_actsOnMap 121 = .ok (.laload, 1) := by decide +kernel
theorem dX10_actsOnMap_122 : decode cX10_actsOnMap 122 = .ok (.invokevirtual 86, 3) := by decide +kernel
theorem dX10_actsOnMap_125 : decode cX10_actsOnMap 125 = .ok (.aload_n 0, 1) := by decide +kernel
theorem dX10_actsOnMap_126 : decode cX10_actsOnMap 126 = .ok (.getfield 27, 3) := by decide +kernel
theorem dX10_actsOnMap_129 : decode cX10_actsOnMap 129 = .ok (.iload_n 2, 1) := by decide +kernel
theorem dX10_actsOnMap_130 : decode cX10_actsOnMap 130 = .ok (.aload_n 0, 1) := by decide +kernel
theorem dX10_actsOnMap_131 : decode cX10_actsOnMap 131 = .ok (.getfield 34, 3) := by decide +kernel
theorem dX10_actsOnMap_134 : decode cX10_actsOnMap 134 = .ok (.iastore, 1) := by decide +kernel
theorem dX10_actsOnMap_135 : decode cX10_actsOnMap 135 = .ok (.iconst 0, 1) := by decide +kernel
theorem dX10_actsOnMap_136 : decode cX10_actsOnMap 136 = .ok (.istore 5, 2) := by decide +kernel
theorem dX10_actsOnMap_138 : decode cX10_actsOnMap 138 = .ok (.iload 5, 2) := by decide +kernel
theorem dX10_actsOnMap_140 : decode cX10_actsOnMap 140 = .ok (.bipush 20, 2) := by decide +kernel
theorem dX10_actsOnMap_142 : decode cX10_actsOnMap 142 = .ok (.if_icmp .ge 28, 3) := by decide +kernel
theorem dX10_actsOnMap_145 : decode cX10_actsOnMap 145 = .ok (.aload_n 0, 1) := by decide +kernel
theorem dX10_actsOnMap_146 : decode cX10_actsOnMap 146 = .ok (.getfield 31, 3) := by decide +kernel
theorem dX10_actsOnMap_149 : decode cX10_actsOnMap 149 = .ok (.bipush 20, 2) := by decide +kernel
theorem dX10_actsOnMap_151 : decode cX10_actsOnMap 151 = .ok (.iload_n 2, 1) := by decide +kernel
theorem dX10_actsOnMap_152 : decode cX10_actsOnMap 152 = .ok (.imul, 1) := by decide +kernel
theorem dX10_actsOnMap_153 : decode cX10_actsOnMap 153 = .ok (.iload 5, 2) := by decide +kernel
theorem dX10_actsOnMap_155 : decode cX10_actsOnMap 155 = .ok (.iadd, 1) := by decide +kernel
theorem dX10_actsOnMap_156 : decode cX10_actsOnMap 156 = .ok (.aload_n 0, 1) := by decide +kernel
theorem dX10_actsOnMap_157 : decode cX10_actsOnMap 157 = .ok (.getfield 40, 3) := by decide +kernel
theorem dX10_actsOnMap_160 : decode cX10_actsOnMap 160 = .ok (.iload 5, 2) := by decide +kernel
theorem dX10_actsOnMap_162 : decode cX10_actsOnMap 162 = .ok (.baload, 1) := by decide +kernel
theorem dX10_actsOnMap_163 : decode cX10_actsOnMap 163 = .ok (.bastore, 1) := by decide +kernel
theorem dX10_actsOnMap_164 : decode cX10_actsOnMap 164 = .ok (.iinc 5 1, 3) := by decide +kernel
theorem dX10_actsOnMap_167 : decode cX10_actsOnMap 167 = .ok (.goto (-29), 3) := by decide +kernel
theorem dX10_actsOnMap_170 : decode cX10_actsOnMap 170 = .ok (.iload 4, 2) := by decide +kernel
theorem dX10_actsOnMap_172 : decode cX10_actsOnMap 172 = .ok (.ireturn, 1) := by decide +kernel
theorem dX10_put_0 : decode cX10_put 0 = .ok (.aload_n 0, 1) := by decide +kernel
theorem dX10_put_1 : decode cX10_put 1 = .ok (.getfield 90, 3) := by decide +kernel
theorem dX10_put_4 : decode cX10_put 4 = .ok (.ifCond .eq 6, 3) := by decide +kernel
theorem dX10_put_7 : decode cX10_put 7 = .ok (.bipush (-4), 2) := by decide +kernel
theorem dX10_put_9 : decode cX10_put 9 = .ok (.ireturn, 1) := by decide +kernel
theorem dX10_put_10 : decode cX10_put 10 = .ok (.aload_n 0, 1) := by decide +kernel
theorem dX10_put_11 : decode cX10_put 11 = .ok (.getfield 9, 3) := by decide +kernel
theorem dX10_put_14 : decode cX10_put 14 = .ok (.bipush 20, 2) := by decide +kernel
theorem dX10_put_16 : decode cX10_put 16 = .ok (.if_icmp .le 6, 3) := by decide +kernel
theorem dX10_put_19 : decode cX10_put 19 = .ok (.bipush (-2), 2) := by decide +kernel
theorem dX10_put_21 : decode cX10_put 21 = .ok (.ireturn, 1) := by decide +kernel
theorem dX10_put_22 : decode cX10_put 22 = .ok (.aload_n 0, 1) := by decide +kernel
theorem dX10_put_23 : decode cX10_put 23 = .ok (.aload_n 0, 1) := by decide +kernel
theorem dX10_put_24 : decode cX10_put 24 = .ok (.lload_n 1, 1) := by decide +kernel
theorem dX10_put_25 : decode cX10_put 25 = .ok (.invokevirtual 72, 3) := by decide +kernel
theorem dX10_put_28 : decode cX10_put 28 = .ok (.lload_n 1, 1) := by decide +kernel
theorem dX10_put_29 : decode cX10_put 29 = .ok (.invokevirtual 76, 3) := by decide +kernel
theorem dX10_put_32 : decode cX10_put 32 = .ok (.ifCond .eq 7, 3) := by decide +kernel
theorem dX10_put_35 : decode cX10_put 35 = .ok (.iconst 1, 1) := by decide +kernel
theorem dX10_put_36 : decode cX10_put 36 = .ok (.goto 4, 3) := by decide +kernel
theorem dX10_put_39 : decode cX10_put 39 = .ok (.iconst 0, 1) := by decide +kernel
theorem dX10_put_40 : decode cX10_put 40 = .ok (.istore_n 3, 1) := by decide +kernel
theorem dX10_put_41 : decode cX10_put 41 = .ok (.aload_n 0, 1) := by decide +kernel
theorem dX10_put_42 : decode cX10_put 42 = .ok (.iconst 1, 1) := by decide +kernel
theorem dX10_put_43 : decode cX10_put 43 = .ok (.lload_n 1, 1) := by decide +kernel
theorem dX10_put_44 : decode cX10_put 44 = .ok (.iconst 0, 1) := by decide +kernel
theorem dX10_put_45 : decode cX10_put 45 = .ok (.invokevirtual 94, 3) := by decide +kernel
theorem dX10_put_48 : decode cX10_put 48 = .ok (.istore 4, 2) := by decide +kernel
theorem dX10_put_50 : decode cX10_put 50 = .ok (.aload_n 0, 1) := by decide +kernel
theorem dX10_put_51 : decode cX10_put 51 = .ok (.iload 4, 2) := by decide +kernel
theorem dX10_put_53 : decode cX10_put 53 = .ok (.invokevirtual 98, 3) := by decide +kernel
theorem dX10_put_56 : decode cX10_put 56 = .ok (.istore 5, 2) := by decide +kernel
theorem dX10_put_58 : decode cX10_put 58 = .ok (.aload_n 0, 1) := by decide +kernel
theorem dX10_put_59 : decode cX10_put 59 = .ok (.iload 4, 2) := by decide +kernel
theorem dX10_put_61 : decode cX10_put 61 = .ok (.lload_n 1, 1) := by decide +kernel
theorem dX10_put_62 : decode cX10_put 62 = .ok (.lload_n 1, 1) := by decide +kernel
theorem dX10_put_63 : decode cX10_put 63 = .ok (.invokevirtual 101, 3) := by decide +kernel
theorem dX10_put_66 : decode cX10_put 66 = .ok (.iload_n 3, 1) := by decide +kernel
theorem dX10_put_67 : decode cX10_put 67 = .ok (.ireturn, 1) := by decide +kernel
theorem dX10_append_0 : decode cX10_append 0 = .ok (.aload_n 0, 1) := by decide +kernel
theorem dX10_append_1 : decode cX10_append 1 = .ok (.getfield 90, 3) := by decide +kernel
theorem dX10_append_4 : decode cX10_append 4 = .ok (.ifCond .eq 6, 3) := by decide +kernel
theorem dX10_append_7 : decode cX10_append 7 = .ok (.bipush (-4), 2) := by decide +kernel
theorem dX10_append_9 : decode cX10_append 9 = .ok (.ireturn, 1) := by decide +kernel
theorem dX10_append_10 : decode cX10_append 10 = .ok (.aload_n 0, 1) := by decide +kernel
theorem dX10_append_11 : decode cX10_append 11 = .ok (.getfield 9, 3) := by decide +kernel
theorem dX10_append_14 : decode cX10_append 14 = .ok (.bipush 20, 2) := by decide +kernel
theorem dX10_append_16 : decode cX10_append 16 = .ok (.if_icmp .le 6, 3) := by decide +kernel
theorem dX10_append_19 : decode cX10_append 19 = .ok (.bipush (-2), 2) := by decide +kernel
theorem dX10_append_21 : decode cX10_append 21 = .ok (.ireturn, 1) := by decide +kernel
theorem dX10_append_22 : decode cX10_append 22 = .ok (.aload_n 0, 1) := by decide +kernel
theorem dX10_append_23 : decode cX10_append 23 = .ok (.iconst 2, 1) := by decide +kernel
theorem dX10_append_24 : decode cX10_append 24 = .ok (.lload_n 1, 1) := by decide +kernel
theorem dX10_append_25 : decode cX10_append 25 = .ok (.iconst 0, 1) := by decide +kernel
theorem dX10_append_26 : decode cX10_append 26 = .ok (.invokevirtual 94, 3) := by decide +kernel
theorem dX10_append_29 : decode cX10_append 29 = .ok (.istore_n 3, 1) := by decide +kernel
theorem dX10_append_30 : decode cX10_append 30 = .ok (.aload_n 0, 1) := by decide +kernel
theorem dX10_append_31 : decode cX10_append 31 = .ok (.iload_n 3, 1) := by decide +kernel
theorem dX10_append_32 : decode cX10_append 32 = .ok (.invokevirtual 98, 3) := by decide +kernel
theorem dX10_append_35 : decode cX10_append 35 = .ok (.istore 4, 2) := by decide +kernel
theorem dX10_append_37 : decode cX10_append 37 = .ok (.aload_n 0, 1) := by decide +kernel
theorem dX10_append_38 : decode cX10_append 38 = .ok (.iload_n 3, 1) := by decide +kernel
theorem dX10_append_39 : decode cX10_append 39 = .ok (.lload_n 1, 1) := by decide +kernel
theorem dX10_append_40 : decode cX10_append 40 = .ok (.lload_n 1, 1) := by decide +kernel
theorem dX10_append_41 : decode cX10_append 41 = .ok (.invokevirtual 101, 3) := by decide +kernel
theorem dX10_append_44 : decode cX10_append 44 = .ok (.aload_n 0, 1) := by decide +kernel
theorem dX10_append_45 : decode cX10_append 45 = .ok (.getfield 27, 3) := by decide +kernel
theorem dX10_append_48 : decode cX10_append 48 = .ok (.aload_n 0, 1) := by decide +kernel
theorem dX10_append_49 : decode cX10_append 49 = .ok (.lload_n 1, 1) := by decide +kernel
theorem dX10_append_50 : decode cX10_append 50 = .ok (.invokevirtual 72, 3) := by decide +kernel
theorem dX10_append_53 : decode cX10_append 53 = .ok (.iaload, 1) := by decide +kernel
theorem dX10_append_54 : decode cX10_append 54 = .ok (.ireturn, 1) := by decide +kernel
theorem dX10_swap_0 : decode cX10_swap 0 = .ok (.aload_n 0, 1) := by decide +kernel
theorem dX10_swap_1 : decode cX10_swap 1 = .ok (.getfield 90, 3) := by decide +kernel
theorem dX10_swap_4 : decode cX10_swap 4 = .ok (.ifCond .eq 6, 3) := by decide +kernel
theorem dX10_swap_7 : decode cX10_swap 7 = .ok (.bipush (-4), 2) := by decide +kernel
theorem dX10_swap_9 : decode cX10_swap 9 = .ok (.ireturn, 1) := by decide +kernel
theorem dX10_swap_10 : decode cX10_swap 10 = .ok (.iload_n 3, 1) := by decide +kernel
theorem dX10_swap_11 : decode cX10_swap 11 = .ok (.ifCond .lt 28, 3) := by decide +kernel
theorem dX10_swap_14 : decode cX10_swap 14 = .ok (.iload_n 3, 1) := by decide +kernel
theorem dX10_swap_15 : decode cX10_swap 15 = .ok (.bipush 20, 2) := by decide +kernel
theorem dX10_swap_17 : decode cX10_swap 17 = .ok (.if_icmp .gt 22, 3) := by decide +kernel
theorem dX10_swap_20 : decode cX10_swap 20 = .ok (.aload_n 0, 1) := by decide +kernel
theorem dX10_swap_21 : decode cX10_swap 21 = .ok (.getfield 9, 3) := by decide +kernel
theorem dX10_swap_24 : decode cX10_swap 24 = .ok (.iload_n 3, 1) := by decide +kernel
theorem dX10_swap_25 : decode cX10_swap 25 = .ok (.if_icmp .lt 14, 3) := by decide +kernel
theorem dX10_swap_28 : decode cX10_swap 28 = .ok (.aload_n 0, 1) := by decide +kernel
theorem dX10_swap_29 : decode cX10_swap 29 = .ok (.getfield 9, 3) := by decide +kernel
theorem dX10_swap_32 : decode cX10_swap 32 = .ok (.iload_n 3, 1) := by decide +kernel
theorem dX10_swap_33 : decode cX10_swap 33 = .ok (.isub, 1) := by decide +kernel
theorem dX10_swap_34 : decode cX10_swap 34 = .ok (.bipush 20, 2) := by decide +kernel
theorem dX10_swap_36 : decode cX10_swap 36 = .ok (.if_icmp .le 6, 3) := by decide +kernel
theorem dX10_swap_39 : decode cX10_swap 39 = .ok (.bipush (-2), 2) := by decide +kernel
theorem dX10_swap_41 : decode cX10_swap 41 = .ok (.ireturn, 1) := by decide +kernel
theorem dX10_swap_42 : decode cX10_swap 42 = .ok (.aload_n 0, 1) := by decide +kernel
theorem dX10_swap_43 : decode cX10_swap 43 = .ok (.iconst 3, 1) := by decide +kernel
theorem dX10_swap_44 : decode cX10_swap 44 = .ok (.lload_n 1, 1) := by decide +kernel
theorem dX10_swap_45 : decode cX10_swap 45 = .ok (.iload_n 3, 1) := by decide +kernel
theorem dX10_swap_46 : decode cX10_swap 46 = .ok (.invokevirtual 94, 3) := by decide +kernel
theorem dX10_swap_49 : decode cX10_swap 49 = .ok (.istore 4, 2) := by decide +kernel
theorem dX10_swap_51 : decode cX10_swap 51 = .ok (.aload_n 0, 1) := by decide +kernel
theorem dX10_swap_52 : decode cX10_swap 52 = .ok (.iload 4, 2) := by decide +kernel
theorem dX10_swap_54 : decode cX10_swap 54 = .ok (.invokevirtual 98, 3) := by decide +kernel
theorem dX10_swap_57 : decode cX10_swap 57 = .ok (.ifCond .eq 7, 3) := by decide +kernel
theorem dX10_swap_60 : decode cX10_swap 60 = .ok (.iconst 1, 1) := by decide +kernel
theorem dX10_swap_61 : decode cX10_swap 61 = .ok (.goto 4, 3) := by decide +kernel
theorem dX10_swap_64 : decode cX10_swap 64 = .ok (.iconst 0, 1) := by decide +kernel
theorem dX10_swap_65 : decode cX10_swap 65 = .ok (.istore 5, 2) := by decide +kernel
theorem dX10_swap_67 : decode cX10_swap 67 = .ok (.aload_n 0, 1) := by decide +kernel
theorem dX10_swap_68 : decode cX10_swap 68 = .ok (.iload 4, 2) := by decide +kernel
theorem dX10_swap_70 : decode cX10_swap 70 = .ok (.lload_n 1, 1) := by decide +kernel
theorem dX10_swap_71 : decode cX10_swap 71 = .ok (.lload_n 1, 1) := by decide +kernel
theorem dX10_swap_72 : decode cX10_swap 72 = .ok (.invokevirtual 101, 3) := by decide +kernel
theorem dX10_swap_75 : decode cX10_swap 75 = .ok (.iload 5, 2) := by decide +kernel
theorem dX10_swap_77 : decode cX10_swap 77 = .ok (.ireturn, 1) := by decide +kernel
theorem dX10_drop_0 : decode cX10_drop 0 = .ok (.aload_n 0, 1) := by decide +kernel
theorem dX10_drop_1 : decode cX10_drop 1 = .ok (.getfield 90, 3) := by decide +kernel
theorem dX10_drop_4 : decode cX10_drop 4 = .ok (.ifCond .eq 6, 3) := by decide +kernel
theorem dX10_drop_7 : decode cX10_drop 7 = .ok (.bipush (-4), 2) := by decide +kernel
theorem dX10_drop_9 : decode cX10_drop 9 = .ok (.ireturn, 1) := by decide +kernel
theorem dX10_drop_10 : decode cX10_drop 10 = .ok (.aload_n 0, 1) := by decide +kernel
theorem dX10_drop_11 : decode cX10_drop 11 = .ok (.iconst 4, 1) := by decide +kernel
theorem dX10_drop_12 : decode cX10_drop 12 = .ok (.lload_n 1, 1) := by decide +kernel
theorem dX10_drop_13 : decode cX10_drop 13 = .ok (.iconst 0, 1) := by decide +kernel
theorem dX10_drop_14 : decode cX10_drop 14 = .ok (.invokevirtual 94, 3) := by decide +kernel
theorem dX10_drop_17 : decode cX10_drop 17 = .ok (.istore_n 3, 1) := by decide +kernel
theorem dX10_drop_18 : decode cX10_drop 18 = .ok (.aload_n 0, 1) := by decide +kernel
theorem dX10_drop_19 : decode cX10_drop 19 = .ok (.iload_n 3, 1) := by decide +kernel
theorem dX10_drop_20 : decode cX10_drop 20 = .ok (.invokevirtual 98, 3) := by decide +kernel
theorem dX10_drop_23 : decode cX10_drop 23 = .ok (.ifCond .eq 7, 3) := by decide +kernel
theorem dX10_drop_26 : decode cX10_drop 26 = .ok (.iconst 1, 1) := by decide +kernel
theorem dX10_drop_27 : decode cX10_drop 27 = .ok (.goto 4, 3) := by decide +kernel
theorem dX10_drop_30 : decode cX10_drop 30 = .ok (.iconst 0, 1) := by decide +kernel
theorem dX10_drop_31 : decode cX10_drop 31 = .ok (.istore 4, 2) := by decide +kernel
theorem dX10_drop_33 : decode cX10_drop 33 = .ok (.aload_n 0, 1) := by decide +kernel
theorem dX10_drop_34 : decode cX10_drop 34 = .ok (.iload_n 3, 1) := by decide +kernel
theorem dX10_drop_35 : decode cX10_drop 35 = .ok (.lload_n 1, 1) := by decide +kernel
theorem dX10_drop_36 : decode cX10_drop 36 = .ok (.lload_n 1, 1) := by decide +kernel
theorem dX10_drop_37 : decode cX10_drop 37 = .ok (.invokevirtual 101, 3) := by decide +kernel
theorem dX10_drop_40 : decode cX10_drop 40 = .ok (.iload 4, 2) := by decide +kernel
theorem dX10_drop_42 : decode cX10_drop 42 = .ok (.ireturn, 1) := by decide +kernel
theorem dX10_sweep_0 : decode cX10_sweep 0 = .ok (.aload_n 0, 1) := by decide +kernel
theorem dX10_sweep_1 : decode cX10_sweep 1 = .ok (.getfield 90, 3) := by decide +kernel
theorem dX10_sweep_4 : decode cX10_sweep 4 = .ok (.ifCond .eq 6, 3) := by decide +kernel
theorem dX10_sweep_7 : decode cX10_sweep 7 = .ok (.bipush (-4), 2) := by decide +kernel
theorem dX10_sweep_9 : decode cX10_sweep 9 = .ok (.ireturn, 1) := by decide +kernel
theorem dX10_sweep_10 : decode cX10_sweep 10 = .ok (.lload_n 3, 1) := by decide +kernel
theorem dX10_sweep_11 : decode cX10_sweep 11 = .ok (.lload_n 1, 1) := by decide +kernel
theorem dX10_sweep_12 : decode cX10_sweep 12 = .ok (.lcmp, 1) := by decide +kernel
theorem dX10_sweep_13 : decode cX10_sweep 13 = .ok (.ifCond .ge 6, 3) := by decide +kernel
theorem dX10_sweep_16 : decode cX10_sweep 16 = .ok (.bipush (-2), 2) := by decide +kernel
theorem dX10_sweep_18 : decode cX10_sweep 18 = .ok (.ireturn, 1) := by decide +kernel
theorem dX10_sweep_19 : decode cX10_sweep 19 = .ok (.aload_n 0, 1) := by decide +kernel
theorem dX10_sweep_20 : decode cX10_sweep 20 = .ok (.iconst 5, 1) := by decide +kernel
theorem dX10_sweep_21 : decode cX10_sweep 21 = .ok (.lload_n 1, 1) := by decide +kernel
theorem dX10_sweep_22 : decode cX10_sweep 22 = .ok (.iconst 0, 1) := by decide +kernel
theorem dX10_sweep_23 : decode cX10_sweep 23 = .ok (.invokevirtual 94, 3) := by decide +kernel
theorem dX10_sweep_26 : decode cX10_sweep 26 = .ok (.istore 5, 2) := by decide +kernel
theorem dX10_sweep_28 : decode cX10_sweep 28 = .ok (.aload_n 0, 1) := by decide +kernel
theorem dX10_sweep_29 : decode cX10_sweep 29 = .ok (.lload_n 1, 1) := by decide +kernel
theorem dX10_sweep_30 : decode cX10_sweep 30 = .ok (.invokevirtual 72, 3) := by decide +kernel
theorem dX10_sweep_33 : decode cX10_sweep 33 = .ok (.istore 6, 2) := by decide +kernel
theorem dX10_sweep_35 : decode cX10_sweep 35 = .ok (.lload_n 3, 1) := by decide +kernel
theorem dX10_sweep_36 : decode cX10_sweep 36 = .ok (.ldc2_w 105, 3) := by decide +kernel
theorem dX10_sweep_39 : decode cX10_sweep 39 = .ok (.lcmp, 1) := by decide +kernel
theorem dX10_sweep_40 : decode cX10_sweep 40 = .ok (.ifCond .ne 10, 3) := by decide +kernel
theorem dX10_sweep_43 : decode cX10_sweep 43 = .ok (.aload_n 0, 1) := by decide +kernel
theorem dX10_sweep_44 : decode cX10_sweep 44 = .ok (.getfield 16, 3) := by decide +kernel
theorem dX10_sweep_47 : decode cX10_sweep 47 = .ok (.goto 10, 3) := by decide +kernel
theorem dX10_sweep_50 : decode cX10_sweep 50 = .ok (.aload_n 0, 1) := by decide +kernel
theorem dX10_sweep_51 : decode cX10_sweep 51 = .ok (.lload_n 3, 1) := by decide +kernel
theorem dX10_sweep_52 : decode cX10_sweep 52 = .ok (.lconst 1, 1) := by decide +kernel
theorem dX10_sweep_53 : decode cX10_sweep 53 = .ok (.ladd, 1) := by decide +kernel
theorem dX10_sweep_54 : decode cX10_sweep 54 = .ok (.invokevirtual 72, 3) := by decide +kernel
theorem dX10_sweep_57 : decode cX10_sweep 57 = .ok (.istore 7, 2) := by decide +kernel
theorem dX10_sweep_59 : decode cX10_sweep 59 = .ok (.aload_n 0, 1) := by decide +kernel
theorem dX10_sweep_60 : decode cX10_sweep 60 = .ok (.iload 6, 2) := by decide +kernel
theorem dX10_sweep_62 : decode cX10_sweep 62 = .ok (.iload 7, 2) := by decide +kernel
theorem dX10_sweep_64 : decode cX10_sweep 64 = .ok (.invokevirtual 83, 3) := by decide +kernel
theorem dX10_sweep_67 : decode cX10_sweep 67 = .ok (.aload_n 0, 1) := by decide +kernel
theorem dX10_sweep_68 : decode cX10_sweep 68 = .ok (.iload 5, 2) := by decide +kernel
theorem dX10_sweep_70 : decode cX10_sweep 70 = .ok (.lload_n 1, 1) := by decide +kernel
theorem dX10_sweep_71 : decode cX10_sweep 71 = .ok (.lload_n 3, 1) := by decide +kernel
theorem dX10_sweep_72 : decode cX10_sweep 72 = .ok (.invokevirtual 101, 3) := by decide +kernel
theorem dX10_sweep_75 : decode cX10_sweep 75 = .ok (.iload 7, 2) := by decide +kernel
theorem dX10_sweep_77 : decode cX10_sweep 77 = .ok (.iload 6, 2) := by decide +kernel
theorem dX10_sweep_79 : decode cX10_sweep 79 = .ok (.isub, 1) := by decide +kernel
theorem dX10_sweep_80 : decode cX10_sweep 80 = .ok (.ireturn, 1) := by decide +kernel
theorem dX10_get_0 : decode cX10_get 0 = .ok (.aload_n 0, 1) := by decide +kernel
theorem dX10_get_1 : decode cX10_get 1 = .ok (.getfield 90, 3) := by decide +kernel
theorem dX10_get_4 : decode cX10_get 4 = .ok (.ifCond .eq 6, 3) := by decide +kernel
theorem dX10_get_7 : decode cX10_get 7 = .ok (.bipush (-4), 2) := by decide +kernel
theorem dX10_get_9 : decode cX10_get 9 = .ok (.ireturn, 1) := by decide +kernel
theorem dX10_get_10 : decode cX10_get 10 = .ok (.aload_n 0, 1) := by decide +kernel
theorem dX10_get_11 : decode cX10_get 11 = .ok (.lload_n 1, 1) := by decide +kernel
theorem dX10_get_12 : decode cX10_get 12 = .ok (.invokevirtual 72, 3) := by decide +kernel
theorem dX10_get_15 : decode cX10_get 15 = .ok (.istore_n 3, 1) := by decide +kernel
theorem dX10_get_16 : decode cX10_get 16 = .ok (.aload_n 0, 1) := by decide +kernel
theorem dX10_get_17 : decode cX10_get 17 = .ok (.iload_n 3, 1) := by decide +kernel
theorem dX10_get_18 : decode cX10_get 18 = .ok (.lload_n 1, 1) := by decide +kernel
theorem dX10_get_19 : decode cX10_get 19 = .ok (.invokevirtual 76, 3) := by decide +kernel
theorem dX10_get_22 : decode cX10_get 22 = .ok (.ifCond .ne 5, 3) := by decide +kernel
theorem dX10_get_25 : decode cX10_get 25 = .ok (.iconst (-1), 1) := by decide +kernel
theorem dX10_get_26 : decode cX10_get 26 = .ok (.ireturn, 1) := by decide +kernel
theorem dX10_get_27 : decode cX10_get 27 = .ok (.aload_n 0, 1) := by decide +kernel
theorem dX10_get_28 : decode cX10_get 28 = .ok (.aload_n 0, 1) := by decide +kernel
theorem dX10_get_29 : decode cX10_get 29 = .ok (.getfield 27, 3) := by decide +kernel
theorem dX10_get_32 : decode cX10_get 32 = .ok (.iload_n 3, 1) := by decide +kernel
theorem dX10_get_33 : decode cX10_get 33 = .ok (.iaload, 1) := by decide +kernel
theorem dX10_get_34 : decode cX10_get 34 = .ok (.putfield 9, 3) := by decide +kernel
theorem dX10_get_37 : decode cX10_get 37 = .ok (.iconst 0, 1) := by decide +kernel
theorem dX10_get_38 : decode cX10_get 38 = .ok (.istore 4, 2) := by decide +kernel
theorem dX10_get_40 : decode cX10_get 40 = .ok (.iload 4, 2) := by decide +kernel
theorem dX10_get_42 : decode cX10_get 42 = .ok (.aload_n 0, 1) := by decide +kernel
theorem dX10_get_43 : decode cX10_get 43 = .ok (.getfield 9, 3) := by decide +kernel
theorem dX10_get_46 : decode cX10_get 46 = .ok (.if_icmp .ge 28, 3) := by decide +kernel
theorem dX10_get_49 : decode cX10_get 49 = .ok (.aload_n 0, 1) := by decide +kernel
theorem dX10_get_50 : decode cX10_get 50 = .ok (.getfield 12, 3) := by decide +kernel
theorem dX10_get_53 : decode cX10_get 53 = .ok (.iload 4, 2) := by decide +kernel
theorem dX10_get_55 : decode cX10_get 55 = .ok (.aload_n 0, 1) := by decide +kernel
theorem dX10_get_56 : decode cX10_get 56 = .ok (.getfield 31, 3) := by decide +kernel
theorem dX10_get_59 : decode cX10_get 59 = .ok (.bipush 20, 2) := by decide +kernel
theorem dX10_get_61 : decode cX10_get 61 = .ok (.iload_n 3, 1) := by decide +kernel
theorem dX10_get_62 : decode cX10_get 62 = .ok (.imul, 1) := by decide +kernel
theorem dX10_get_63 : decode cX10_get 63 = .ok (.iload 4, 2) := by decide +kernel
theorem dX10_get_65 : decode cX10_get 65 = .ok (.iadd, 1) := by decide +kernel
theorem dX10_get_66 : decode cX10_get 66 = .ok (.baload, 1) := by decide +kernel
theorem dX10_get_67 : decode cX10_get 67 = .ok (.bastore, 1) := by decide +kernel
theorem dX10_get_68 : decode cX10_get 68 = .ok (.iinc 4 1, 3) := by decide +kernel
theorem dX10_get_71 : decode cX10_get 71 = .ok (.goto (-31), 3) := by decide +kernel
theorem dX10_get_74 : decode cX10_get 74 = .ok (.aload_n 0, 1) := by decide +kernel
theorem dX10_get_75 : decode cX10_get 75 = .ok (.getfield 9, 3) := by decide +kernel
theorem dX10_get_78 : decode cX10_get 78 = .ok (.ireturn, 1) := by decide +kernel
theorem dX10_has_0 : decode cX10_has 0 = .ok (.aload_n 0, 1) := by decide +kernel
theorem dX10_has_1 : decode cX10_has 1 = .ok (.getfield 90, 3) := by decide +kernel
theorem dX10_has_4 : decode cX10_has 4 = .ok (.ifCond .eq 6, 3) := by decide +kernel
theorem dX10_has_7 : decode cX10_has 7 = .ok (.bipush (-4), 2) := by decide +kernel
theorem dX10_has_9 : decode cX10_has 9 = .ok (.ireturn, 1) := by decide +kernel
theorem dX10_has_10 : decode cX10_has 10 = .ok (.aload_n 0, 1) := by decide +kernel
theorem dX10_has_11 : decode cX10_has 11 = .ok (.aload_n 0, 1) := by decide +kernel
theorem dX10_has_12 : decode cX10_has 12 = .ok (.lload_n 1, 1) := by decide +kernel
theorem dX10_has_13 : decode cX10_has 13 = .ok (.invokevirtual 72, 3) := by decide +kernel
theorem dX10_has_16 : decode cX10_has 16 = .ok (.lload_n 1, 1) := by decide +kernel
theorem dX10_has_17 : decode cX10_has 17 = .ok (.invokevirtual 76, 3) := by decide +kernel
theorem dX10_has_20 : decode cX10_has 20 = .ok (.ifCond .eq 7, 3) := by decide +kernel
theorem dX10_has_23 : decode cX10_has 23 = .ok (.iconst 1, 1) := by decide +kernel
theorem dX10_has_24 : decode cX10_has 24 = .ok (.goto 4, 3) := by decide +kernel
theorem dX10_has_27 : decode cX10_has 27 = .ok (.iconst 0, 1) := by decide +kernel
theorem dX10_has_28 : decode cX10_has 28 = .ok (.ireturn, 1) := by decide +kernel
theorem dX10_next_0 : decode cX10_next 0 = .ok (.aload_n 0, 1) := by decide +kernel
theorem dX10_next_1 : decode cX10_next 1 = .ok (.getfield 90, 3) := by decide +kernel
theorem dX10_next_4 : decode cX10_next 4 = .ok (.ifCond .eq 6, 3) := by decide +kernel
theorem dX10_next_7 : decode cX10_next 7 = .ok (.bipush (-4), 2) := by decide +kernel
theorem dX10_next_9 : decode cX10_next 9 = .ok (.ireturn, 1) := by decide +kernel
theorem dX10_next_10 : decode cX10_next 10 = .ok (.aload_n 0, 1) := by decide +kernel
theorem dX10_next_11 : decode cX10_next 11 = .ok (.lload_n 1, 1) := by decide +kernel
theorem dX10_next_12 : decode cX10_next 12 = .ok (.invokevirtual 72, 3) := by decide +kernel
theorem dX10_next_15 : decode cX10_next 15 = .ok (.istore_n 3, 1) := by decide +kernel
theorem dX10_next_16 : decode cX10_next 16 = .ok (.iload_n 3, 1) := by decide +kernel
theorem dX10_next_17 : decode cX10_next 17 = .ok (.aload_n 0, 1) := by decide +kernel
theorem dX10_next_18 : decode cX10_next 18 = .ok (.getfield 16, 3) := by decide +kernel
theorem dX10_next_21 : decode cX10_next 21 = .ok (.if_icmp .ne 5, 3) := by decide +kernel
theorem dX10_next_24 : decode cX10_next 24 = .ok (.iconst 0, 1) := by decide +kernel
theorem dX10_next_25 : decode cX10_next 25 = .ok (.ireturn, 1) := by decide +kernel
theorem dX10_next_26 : decode cX10_next 26 = .ok (.aload_n 0, 1) := by decide +kernel
theorem dX10_next_27 : decode cX10_next 27 = .ok (.aload_n 0, 1) := by decide +kernel
theorem dX10_next_28 : decode cX10_next 28 = .ok (.getfield 19, 3) := by decide +kernel
theorem dX10_next_31 : decode cX10_next 31 = .ok (.iload_n 3, 1) := by decide +kernel
theorem dX10_next_32 : decode cX10_next 32 = .ok (.laload, 1) := by decide +kernel
theorem dX10_next_33 : decode cX10_next 33 = .ok (.putfield 107, 3) := by decide +kernel
theorem dX10_next_36 : decode cX10_next 36 = .ok (.iconst 1, 1) := by decide +kernel
theorem dX10_next_37 : decode cX10_next 37 = .ok (.ireturn, 1) := by decide +kernel
theorem dX10_prior_0 : decode cX10_prior 0 = .ok (.aload_n 0, 1) := by decide +kernel
theorem dX10_prior_1 : decode cX10_prior 1 = .ok (.getfield 90, 3) := by decide +kernel
theorem dX10_prior_4 : decode cX10_prior 4 = .ok (.ifCond .eq 6, 3) := by decide +kernel
theorem dX10_prior_7 : decode cX10_prior 7 = .ok (.bipush (-4), 2) := by decide +kernel
theorem dX10_prior_9 : decode cX10_prior 9 = .ok (.ireturn, 1) := by decide +kernel
theorem dX10_prior_10 : decode cX10_prior 10 = .ok (.aload_n 0, 1) := by decide +kernel
theorem dX10_prior_11 : decode cX10_prior 11 = .ok (.lload_n 1, 1) := by decide +kernel
theorem dX10_prior_12 : decode cX10_prior 12 = .ok (.invokevirtual 72, 3) := by decide +kernel
theorem dX10_prior_15 : decode cX10_prior 15 = .ok (.istore_n 3, 1) := by decide +kernel
theorem dX10_prior_16 : decode cX10_prior 16 = .ok (.aload_n 0, 1) := by decide +kernel
theorem dX10_prior_17 : decode cX10_prior 17 = .ok (.iload_n 3, 1) := by decide +kernel
theorem dX10_prior_18 : decode cX10_prior 18 = .ok (.lload_n 1, 1) := by decide +kernel
theorem dX10_prior_19 : decode cX10_prior 19 = .ok (.invokevirtual 76, 3) := by decide +kernel
theorem dX10_prior_22 : decode cX10_prior 22 = .ok (.ifCond .ne 6, 3) := by decide +kernel
theorem dX10_prior_25 : decode cX10_prior 25 = .ok (.iinc 3 (-1), 3) := by decide +kernel
theorem dX10_prior_28 : decode cX10_prior 28 = .ok (.iload_n 3, 1) := by decide +kernel
theorem dX10_prior_29 : decode cX10_prior 29 = .ok (.ifCond .ge 5, 3) := by decide +kernel
theorem dX10_prior_32 : decode cX10_prior 32 = .ok (.iconst 0, 1) := by decide +kernel
theorem dX10_prior_33 : decode cX10_prior 33 = .ok (.ireturn, 1) := by decide +kernel
theorem dX10_prior_34 : decode cX10_prior 34 = .ok (.aload_n 0, 1) := by decide +kernel
theorem dX10_prior_35 : decode cX10_prior 35 = .ok (.aload_n 0, 1) := by decide +kernel
theorem dX10_prior_36 : decode cX10_prior 36 = .ok (.getfield 19, 3) := by decide +kernel
theorem dX10_prior_39 : decode cX10_prior 39 = .ok (.iload_n 3, 1) := by decide +kernel
theorem dX10_prior_40 : decode cX10_prior 40 = .ok (.laload, 1) := by decide +kernel
theorem dX10_prior_41 : decode cX10_prior 41 = .ok (.putfield 107, 3) := by decide +kernel
theorem dX10_prior_44 : decode cX10_prior 44 = .ok (.iconst 1, 1) := by decide +kernel
theorem dX10_prior_45 : decode cX10_prior 45 = .ok (.ireturn, 1) := by decide +kernel
theorem dX10_found_0 : decode cX10_found 0 = .ok (.aload_n 0, 1) := by decide +kernel
theorem dX10_found_1 : decode cX10_found 1 = .ok (.getfield 107, 3) := by decide +kernel
theorem dX10_found_4 : decode cX10_found 4 = .ok (.lreturn, 1) := by decide +kernel
theorem dX10_count_0 : decode cX10_count 0 = .ok (.aload_n 0, 1) := by decide +kernel
theorem dX10_count_1 : decode cX10_count 1 = .ok (.getfield 90, 3) := by decide +kernel
theorem dX10_count_4 : decode cX10_count 4 = .ok (.ifCond .eq 8, 3) := by decide +kernel
theorem dX10_count_7 : decode cX10_count 7 = .ok (.bipush (-4), 2) := by decide +kernel
theorem dX10_count_9 : decode cX10_count 9 = .ok (.goto 7, 3) := by decide +kernel
theorem dX10_count_12 : decode cX10_count 12 = .ok (.aload_n 0, 1) := by decide +kernel
theorem dX10_count_13 : decode cX10_count 13 = .ok (.getfield 16, 3) := by decide +kernel
theorem dX10_count_16 : decode cX10_count 16 = .ok (.ireturn, 1) := by decide +kernel
theorem dX10_init_0 : decode cX10_init 0 = .ok (.aload_n 0, 1) := by decide +kernel
theorem dX10_init_1 : decode cX10_init 1 = .ok (.invokespecial 111, 3) := by decide +kernel
theorem dX10_init_4 : decode cX10_init 4 = .ok (.aload_n 0, 1) := by decide +kernel
theorem dX10_init_5 : decode cX10_init 5 = .ok (.bipush 40, 2) := by decide +kernel
theorem dX10_init_7 : decode cX10_init 7 = .ok (.newarray .byte, 2) := by decide +kernel
theorem dX10_init_9 : decode cX10_init 9 = .ok (.putfield 12, 3) := by decide +kernel
theorem dX10_init_12 : decode cX10_init 12 = .ok (.aload_n 0, 1) := by decide +kernel
theorem dX10_init_13 : decode cX10_init 13 = .ok (.sipush 4200, 3) := by decide +kernel
theorem dX10_init_16 : decode cX10_init 16 = .ok (.newarray .long, 2) := by decide +kernel
theorem dX10_init_18 : decode cX10_init 18 = .ok (.putfield 19, 3) := by decide +kernel
theorem dX10_init_21 : decode cX10_init 21 = .ok (.aload_n 0, 1) := by decide +kernel
theorem dX10_init_22 : decode cX10_init 22 = .ok (.sipush 4200, 3) := by decide +kernel
theorem dX10_init_25 : decode cX10_init 25 = .ok (.newarray .int, 2) := by decide +kernel
theorem dX10_init_27 : decode cX10_init 27 = .ok (.putfield 27, 3) := by decide +kernel
theorem dX10_init_30 : decode cX10_init 30 = .ok (.aload_n 0, 1) := by decide +kernel
theorem dX10_init_31 : decode cX10_init 31 = .ok (.ldc 117, 2) := by decide +kernel
theorem dX10_init_33 : decode cX10_init 33 = .ok (.newarray .byte, 2) := by decide +kernel
theorem dX10_init_35 : decode cX10_init 35 = .ok (.putfield 31, 3) := by decide +kernel
theorem dX10_init_38 : decode cX10_init 38 = .ok (.aload_n 0, 1) := by decide +kernel
theorem dX10_init_39 : decode cX10_init 39 = .ok (.sipush 4200, 3) := by decide +kernel
theorem dX10_init_42 : decode cX10_init 42 = .ok (.newarray .int, 2) := by decide +kernel
theorem dX10_init_44 : decode cX10_init 44 = .ok (.putfield 46, 3) := by decide +kernel
theorem dX10_init_47 : decode cX10_init 47 = .ok (.aload_n 0, 1) := by decide +kernel
theorem dX10_init_48 : decode cX10_init 48 = .ok (.sipush 4200, 3) := by decide +kernel
theorem dX10_init_51 : decode cX10_init 51 = .ok (.newarray .long, 2) := by decide +kernel
theorem dX10_init_53 : decode cX10_init 53 = .ok (.putfield 66, 3) := by decide +kernel
theorem dX10_init_56 : decode cX10_init 56 = .ok (.aload_n 0, 1) := by decide +kernel
theorem dX10_init_57 : decode cX10_init 57 = .ok (.sipush 4200, 3) := by decide +kernel
theorem dX10_init_60 : decode cX10_init 60 = .ok (.newarray .int, 2) := by decide +kernel
theorem dX10_init_62 : decode cX10_init 62 = .ok (.putfield 37, 3) := by decide +kernel
theorem dX10_init_65 : decode cX10_init 65 = .ok (.aload_n 0, 1) := by decide +kernel
theorem dX10_init_66 : decode cX10_init 66 = .ok (.sipush 4200, 3) := by decide +kernel
theorem dX10_init_69 : decode cX10_init 69 = .ok (.newarray .int, 2) := by decide +kernel
theorem dX10_init_71 : decode cX10_init 71 = .ok (.putfield 49, 3) := by decide +kernel
theorem dX10_init_74 : decode cX10_init 74 = .ok (.aload_n 0, 1) := by decide +kernel
theorem dX10_init_75 : decode cX10_init 75 = .ok (.ldc 118, 2) := by decide +kernel
theorem dX10_init_77 : decode cX10_init 77 = .ok (.newarray .byte, 2) := by decide +kernel
theorem dX10_init_79 : decode cX10_init 79 = .ok (.putfield 43, 3) := by decide +kernel
theorem dX10_init_82 : decode cX10_init 82 = .ok (.aload_n 0, 1) := by decide +kernel
theorem dX10_init_83 : decode cX10_init 83 = .ok (.sipush 4200, 3) := by decide +kernel
theorem dX10_init_86 : decode cX10_init 86 = .ok (.newarray .int, 2) := by decide +kernel
theorem dX10_init_88 : decode cX10_init 88 = .ok (.putfield 69, 3) := by decide +kernel
theorem dX10_init_91 : decode cX10_init 91 = .ok (.aload_n 0, 1) := by decide +kernel
theorem dX10_init_92 : decode cX10_init 92 = .ok (.bipush 20, 2) := by decide +kernel
theorem dX10_init_94 : decode cX10_init 94 = .ok (.newarray .byte, 2) := by decide +kernel
theorem dX10_init_96 : decode cX10_init 96 = .ok (.putfield 40, 3) := by decide +kernel
theorem dX10_init_99 : decode cX10_init 99 = .ok (.aload_n 0, 1) := by decide +kernel
theorem dX10_init_100 : decode cX10_init 100 = .ok (.sipush 2700, 3) := by decide +kernel
theorem dX10_init_103 : decode cX10_init 103 = .ok (.newarray .boolean, 2) := by decide +kernel
theorem dX10_init_105 : decode cX10_init 105 = .ok (.putfield 119, 3) := by decide +kernel
theorem dX10_init_108 : decode cX10_init 108 = .ok (.aload_n 0, 1) := by decide +kernel
theorem dX10_init_109 : decode cX10_init 109 = .ok (.sipush 2700, 3) := by decide +kernel
theorem dX10_init_112 : decode cX10_init 112 = .ok (.newarray .int, 2) := by decide +kernel
theorem dX10_init_114 : decode cX10_init 114 = .ok (.putfield 123, 3) := by decide +kernel
theorem dX10_init_117 : decode cX10_init 117 = .ok (.aload_n 0, 1) := by decide +kernel
theorem dX10_init_118 : decode cX10_init 118 = .ok (.sipush 2700, 3) := by decide +kernel
theorem dX10_init_121 : decode cX10_init 121 = .ok (.newarray .int, 2) := by decide +kernel
theorem dX10_init_123 : decode cX10_init 123 = .ok (.putfield 126, 3) := by decide +kernel
theorem dX10_init_126 : decode cX10_init 126 = .ok (.aload_n 0, 1) := by decide +kernel
theorem dX10_init_127 : decode cX10_init 127 = .ok (.sipush 2700, 3) := by decide +kernel
theorem dX10_init_130 : decode cX10_init 130 = .ok (.newarray .int, 2) := by decide +kernel
theorem dX10_init_132 : decode cX10_init 132 = .ok (.putfield 129, 3) := by decide +kernel
theorem dX10_init_135 : decode cX10_init 135 = .ok (.aload_n 0, 1) := by decide +kernel
theorem dX10_init_136 : decode cX10_init 136 = .ok (.ldc 132, 2) := by decide +kernel
theorem dX10_init_138 : decode cX10_init 138 = .ok (.newarray .int, 2) := by decide +kernel
theorem dX10_init_140 : decode cX10_init 140 = .ok (.putfield 133, 3) := by decide +kernel
theorem dX10_init_143 : decode cX10_init 143 = .ok (.aload_n 0, 1) := by decide +kernel
theorem dX10_init_144 : decode cX10_init 144 = .ok (.ldc 132, 2) := by decide +kernel
theorem dX10_init_146 : decode cX10_init 146 = .ok (.newarray .long, 2) := by decide +kernel
theorem dX10_init_148 : decode cX10_init 148 = .ok (.putfield 136, 3) := by decide +kernel
theorem dX10_init_151 : decode cX10_init 151 = .ok (.aload_n 0, 1) := by decide +kernel
theorem dX10_init_152 : decode cX10_init 152 = .ok (.sipush 2700, 3) := by decide +kernel
theorem dX10_init_155 : decode cX10_init 155 = .ok (.newarray .int, 2) := by decide +kernel
theorem dX10_init_157 : decode cX10_init 157 = .ok (.putfield 139, 3) := by decide +kernel
theorem dX10_init_160 : decode cX10_init 160 = .ok (.aload_n 0, 1) := by decide +kernel
theorem dX10_init_161 : decode cX10_init 161 = .ok (.sipush 2700, 3) := by decide +kernel
theorem dX10_init_164 : decode cX10_init 164 = .ok (.newarray .int, 2) := by decide +kernel
theorem dX10_init_166 : decode cX10_init 166 = .ok (.putfield 142, 3) := by decide +kernel
theorem dX10_init_169 : decode cX10_init 169 = .ok (.aload_n 0, 1) := by decide +kernel
theorem dX10_init_170 : decode cX10_init 170 = .ok (.sipush 2700, 3) := by decide +kernel
theorem dX10_init_173 : decode cX10_init 173 = .ok (.newarray .int, 2) := by decide +kernel
theorem dX10_init_175 : decode cX10_init 175 = .ok (.putfield 145, 3) := by decide +kernel
theorem dX10_init_178 : decode cX10_init 178 = .ok (.aload_n 0, 1) := by decide +kernel
theorem dX10_init_179 : decode cX10_init 179 = .ok (.sipush 2700, 3) := by decide +kernel
theorem dX10_init_182 : decode cX10_init 182 = .ok (.newarray .int, 2) := by decide +kernel
theorem dX10_init_184 : decode cX10_init 184 = .ok (.putfield 148, 3) := by decide +kernel
theorem dX10_init_187 : decode cX10_init 187 = .ok (.aload_n 0, 1) := by decide +kernel
theorem dX10_init_188 : decode cX10_init 188 = .ok (.sipush 2700, 3) := by decide +kernel
theorem dX10_init_191 : decode cX10_init 191 = .ok (.newarray .int, 2) := by decide +kernel
theorem dX10_init_193 : decode cX10_init 193 = .ok (.putfield 151, 3) := by decide +kernel
theorem dX10_init_196 : decode cX10_init 196 = .ok (.aload_n 0, 1) := by decide +kernel
theorem dX10_init_197 : decode cX10_init 197 = .ok (.sipush 7000, 3) := by decide +kernel
theorem dX10_init_200 : decode cX10_init 200 = .ok (.newarray .long, 2) := by decide +kernel
theorem dX10_init_202 : decode cX10_init 202 = .ok (.putfield 154, 3) := by decide +kernel
theorem dX10_init_205 : decode cX10_init 205 = .ok (.aload_n 0, 1) := by decide +kernel
theorem dX10_init_206 : decode cX10_init 206 = .ok (.sipush 7000, 3) := by decide +kernel
theorem dX10_init_209 : decode cX10_init 209 = .ok (.newarray .int, 2) := by decide +kernel
theorem dX10_init_211 : decode cX10_init 211 = .ok (.putfield 157, 3) := by decide +kernel
theorem dX10_init_214 : decode cX10_init 214 = .ok (.aload_n 0, 1) := by decide +kernel
theorem dX10_init_215 : decode cX10_init 215 = .ok (.ldc 160, 2) := by decide +kernel
theorem dX10_init_217 : decode cX10_init 217 = .ok (.newarray .byte, 2) := by decide +kernel
theorem dX10_init_219 : decode cX10_init 219 = .ok (.putfield 161, 3) := by decide +kernel
theorem dX10_init_222 : decode cX10_init 222 = .ok (.aload_n 0, 1) := by decide +kernel
theorem dX10_init_223 : decode cX10_init 223 = .ok (.sipush 7000, 3) := by decide +kernel
theorem dX10_init_226 : decode cX10_init 226 = .ok (.newarray .int, 2) := by decide +kernel
theorem dX10_init_228 : decode cX10_init 228 = .ok (.putfield 164, 3) := by decide +kernel
theorem dX10_init_231 : decode cX10_init 231 = .ok (.aload_n 0, 1) := by decide +kernel
theorem dX10_init_232 : decode cX10_init 232 = .ok (.sipush 14000, 3) := by decide +kernel
theorem dX10_init_235 : decode cX10_init 235 = .ok (.newarray .int, 2) := by decide +kernel
theorem dX10_init_237 : decode cX10_init 237 = .ok (.putfield 167, 3) := by decide +kernel
theorem dX10_init_240 : decode cX10_init 240 = .ok (.aload_n 0, 1) := by decide +kernel
theorem dX10_init_241 : decode cX10_init 241 = .ok (.sipush 14000, 3) := by decide +kernel
theorem dX10_init_244 : decode cX10_init 244 = .ok (.newarray .long, 2) := by decide +kernel
theorem dX10_init_246 : decode cX10_init 246 = .ok (.putfield 170, 3) := by decide +kernel
theorem dX10_init_249 : decode cX10_init 249 = .ok (.aload_n 0, 1) := by decide +kernel
theorem dX10_init_250 : decode cX10_init 250 = .ok (.sipush 14000, 3) := by decide +kernel
theorem dX10_init_253 : decode cX10_init 253 = .ok (.newarray .long, 2) := by decide +kernel
theorem dX10_init_255 : decode cX10_init 255 = .ok (.putfield 173, 3) := by decide +kernel
theorem dX10_init_258 : decode cX10_init 258 = .ok (.aload_n 0, 1) := by decide +kernel
theorem dX10_init_259 : decode cX10_init 259 = .ok (.sipush 14000, 3) := by decide +kernel
theorem dX10_init_262 : decode cX10_init 262 = .ok (.newarray .int, 2) := by decide +kernel
theorem dX10_init_264 : decode cX10_init 264 = .ok (.putfield 176, 3) := by decide +kernel
theorem dX10_init_267 : decode cX10_init 267 = .ok (.aload_n 0, 1) := by decide +kernel
theorem dX10_init_268 : decode cX10_init 268 = .ok (.sipush 14000, 3) := by decide +kernel
theorem dX10_init_271 : decode cX10_init 271 = .ok (.newarray .int, 2) := by decide +kernel
theorem dX10_init_273 : decode cX10_init 273 = .ok (.putfield 179, 3) := by decide +kernel
theorem dX10_init_276 : decode cX10_init 276 = .ok (.aload_n 0, 1) := by decide +kernel
theorem dX10_init_277 : decode cX10_init 277 = .ok (.sipush 128, 3) := by decide +kernel
theorem dX10_init_280 : decode cX10_init 280 = .ok (.newarray .int, 2) := by decide +kernel
theorem dX10_init_282 : decode cX10_init 282 = .ok (.putfield 182, 3) := by decide +kernel
theorem dX10_init_285 : decode cX10_init 285 = .ok (.aload_n 0, 1) := by decide +kernel
theorem dX10_init_286 : decode cX10_init 286 = .ok (.bipush 64, 2) := by decide +kernel
theorem dX10_init_288 : decode cX10_init 288 = .ok (.newarray .int, 2) := by decide +kernel
theorem dX10_init_290 : decode cX10_init 290 = .ok (.putfield 185, 3) := by decide +kernel
theorem dX10_init_293 : decode cX10_init 293 = .ok (.aload_n 0, 1) := by decide +kernel
theorem dX10_init_294 : decode cX10_init 294 = .ok (.bipush 64, 2) := by decide +kernel
theorem dX10_init_296 : decode cX10_init 296 = .ok (.newarray .long, 2) := by decide +kernel
theorem dX10_init_298 : decode cX10_init 298 = .ok (.putfield 188, 3) := by decide +kernel
theorem dX10_init_301 : decode cX10_init 301 = .ok (.aload_n 0, 1) := by decide +kernel
theorem dX10_init_302 : decode cX10_init 302 = .ok (.sipush 2700, 3) := by decide +kernel
theorem dX10_init_305 : decode cX10_init 305 = .ok (.newarray .int, 2) := by decide +kernel
theorem dX10_init_307 : decode cX10_init 307 = .ok (.putfield 191, 3) := by decide +kernel
theorem dX10_init_310 : decode cX10_init 310 = .ok (.aload_n 0, 1) := by decide +kernel
theorem dX10_init_311 : decode cX10_init 311 = .ok (.sipush 2700, 3) := by decide +kernel
theorem dX10_init_314 : decode cX10_init 314 = .ok (.newarray .int, 2) := by decide +kernel
theorem dX10_init_316 : decode cX10_init 316 = .ok (.putfield 194, 3) := by decide +kernel
theorem dX10_init_319 : decode cX10_init 319 = .ok (.aload_n 0, 1) := by decide +kernel
theorem dX10_init_320 : decode cX10_init 320 = .ok (.sipush 2700, 3) := by decide +kernel
theorem dX10_init_323 : decode cX10_init 323 = .ok (.newarray .int, 2) := by decide +kernel
theorem dX10_init_325 : decode cX10_init 325 = .ok (.putfield 197, 3) := by decide +kernel
theorem dX10_init_328 : decode cX10_init 328 = .ok (.aload_n 0, 1) := by decide +kernel
theorem dX10_init_329 : decode cX10_init 329 = .ok (.sipush 1000, 3) := by decide +kernel
theorem dX10_init_332 : decode cX10_init 332 = .ok (.newarray .boolean, 2) := by decide +kernel
theorem dX10_init_334 : decode cX10_init 334 = .ok (.putfield 200, 3) := by decide +kernel
theorem dX10_init_337 : decode cX10_init 337 = .ok (.aload_n 0, 1) := by decide +kernel
theorem dX10_init_338 : decode cX10_init 338 = .ok (.sipush 1000, 3) := by decide +kernel
theorem dX10_init_341 : decode cX10_init 341 = .ok (.newarray .int, 2) := by decide +kernel
theorem dX10_init_343 : decode cX10_init 343 = .ok (.putfield 203, 3) := by decide +kernel
theorem dX10_init_346 : decode cX10_init 346 = .ok (.aload_n 0, 1) := by decide +kernel
theorem dX10_init_347 : decode cX10_init 347 = .ok (.sipush 6000, 3) := by decide +kernel
theorem dX10_init_350 : decode cX10_init 350 = .ok (.newarray .long, 2) := by decide +kernel
theorem dX10_init_352 : decode cX10_init 352 = .ok (.putfield 206, 3) := by decide +kernel
theorem dX10_init_355 : decode cX10_init 355 = .ok (.aload_n 0, 1) := by decide +kernel
theorem dX10_init_356 : decode cX10_init 356 = .ok (.sipush 6000, 3) := by decide +kernel
theorem dX10_init_359 : decode cX10_init 359 = .ok (.newarray .int, 2) := by decide +kernel
theorem dX10_init_361 : decode cX10_init 361 = .ok (.putfield 209, 3) := by decide +kernel
theorem dX10_init_364 : decode cX10_init 364 = .ok (.aload_n 0, 1) := by decide +kernel
theorem dX10_init_365 : decode cX10_init 365 = .ok (.ldc 212, 2) := by decide +kernel
theorem dX10_init_367 : decode cX10_init 367 = .ok (.newarray .byte, 2) := by decide +kernel
theorem dX10_init_369 : decode cX10_init 369 = .ok (.putfield 213, 3) := by decide +kernel
theorem dX10_init_372 : decode cX10_init 372 = .ok (.aload_n 0, 1) := by decide +kernel
theorem dX10_init_373 : decode cX10_init 373 = .ok (.sipush 6000, 3) := by decide +kernel
theorem dX10_init_376 : decode cX10_init 376 = .ok (.newarray .int, 2) := by decide +kernel
theorem dX10_init_378 : decode cX10_init 378 = .ok (.putfield 216, 3) := by decide +kernel
theorem dX10_init_381 : decode cX10_init 381 = .ok (.aload_n 0, 1) := by decide +kernel
theorem dX10_init_382 : decode cX10_init 382 = .ok (.sipush 1000, 3) := by decide +kernel
theorem dX10_init_385 : decode cX10_init 385 = .ok (.newarray .int, 2) := by decide +kernel
theorem dX10_init_387 : decode cX10_init 387 = .ok (.putfield 219, 3) := by decide +kernel
theorem dX10_init_390 : decode cX10_init 390 = .ok (.aload_n 0, 1) := by decide +kernel
theorem dX10_init_391 : decode cX10_init 391 = .ok (.sipush 8000, 3) := by decide +kernel
theorem dX10_init_394 : decode cX10_init 394 = .ok (.newarray .int, 2) := by decide +kernel
theorem dX10_init_396 : decode cX10_init 396 = .ok (.putfield 222, 3) := by decide +kernel
theorem dX10_init_399 : decode cX10_init 399 = .ok (.aload_n 0, 1) := by decide +kernel
theorem dX10_init_400 : decode cX10_init 400 = .ok (.sipush 8000, 3) := by decide +kernel
theorem dX10_init_403 : decode cX10_init 403 = .ok (.newarray .long, 2) := by decide +kernel
theorem dX10_init_405 : decode cX10_init 405 = .ok (.putfield 225, 3) := by decide +kernel
theorem dX10_init_408 : decode cX10_init 408 = .ok (.aload_n 0, 1) := by decide +kernel
theorem dX10_init_409 : decode cX10_init 409 = .ok (.sipush 8000, 3) := by decide +kernel
theorem dX10_init_412 : decode cX10_init 412 = .ok (.newarray .long, 2) := by decide +kernel
theorem dX10_init_414 : decode cX10_init 414 = .ok (.putfield 228, 3) := by decide +kernel
theorem dX10_init_417 : decode cX10_init 417 = .ok (.aload_n 0, 1) := by decide +kernel
theorem dX10_init_418 : decode cX10_init 418 = .ok (.iconst 2, 1) := by decide +kernel
theorem dX10_init_419 : decode cX10_init 419 = .ok (.newarray .int, 2) := by decide +kernel
theorem dX10_init_421 : decode cX10_init 421 = .ok (.putfield 231, 3) := by decide +kernel
theorem dX10_init_424 : decode cX10_init 424 = .ok (.aload_n 0, 1) := by decide +kernel
theorem dX10_init_425 : decode cX10_init 425 = .ok (.iconst 2, 1) := by decide +kernel
theorem dX10_init_426 : decode cX10_init 426 = .ok (.newarray .int, 2) := by decide +kernel
theorem dX10_init_428 : decode cX10_init 428 = .ok (.putfield 234, 3) := by decide +kernel
theorem dX10_init_431 : decode cX10_init 431 = .ok (.aload_n 0, 1) := by decide +kernel
theorem dX10_init_432 : decode cX10_init 432 = .ok (.iconst 2, 1) := by decide +kernel
theorem dX10_init_433 : decode cX10_init 433 = .ok (.newarray .int, 2) := by decide +kernel
theorem dX10_init_435 : decode cX10_init 435 = .ok (.putfield 237, 3) := by decide +kernel
theorem dX10_init_438 : decode cX10_init 438 = .ok (.aload_n 0, 1) := by decide +kernel
theorem dX10_init_439 : decode cX10_init 439 = .ok (.iconst 2, 1) := by decide +kernel
theorem dX10_init_440 : decode cX10_init 440 = .ok (.newarray .int, 2) := by decide +kernel
theorem dX10_init_442 : decode cX10_init 442 = .ok (.putfield 240, 3) := by decide +kernel
theorem dX10_init_445 : decode cX10_init 445 = .ok (.aload_n 0, 1) := by decide +kernel
theorem dX10_init_446 : decode cX10_init 446 = .ok (.iconst 2, 1) := by decide +kernel
theorem dX10_init_447 : decode cX10_init 447 = .ok (.newarray .int, 2) := by decide +kernel
theorem dX10_init_449 : decode cX10_init 449 = .ok (.putfield 243, 3) := by decide +kernel
theorem dX10_init_452 : decode cX10_init 452 = .ok (.aload_n 0, 1) := by decide +kernel
theorem dX10_init_453 : decode cX10_init 453 = .ok (.bipush 24, 2) := by decide +kernel
theorem dX10_init_455 : decode cX10_init 455 = .ok (.newarray .int, 2) := by decide +kernel
theorem dX10_init_457 : decode cX10_init 457 = .ok (.putfield 246, 3) := by decide +kernel
theorem dX10_init_460 : decode cX10_init 460 = .ok (.aload_n 0, 1) := by decide +kernel
theorem dX10_init_461 : decode cX10_init 461 = .ok (.bipush 24, 2) := by decide +kernel
theorem dX10_init_463 : decode cX10_init 463 = .ok (.newarray .int, 2) := by decide +kernel
theorem dX10_init_465 : decode cX10_init 465 = .ok (.putfield 249, 3) := by decide +kernel
theorem dX10_init_468 : decode cX10_init 468 = .ok (.aload_n 0, 1) := by decide +kernel
theorem dX10_init_469 : decode cX10_init 469 = .ok (.bipush 13, 2) := by decide +kernel
theorem dX10_init_471 : decode cX10_init 471 = .ok (.newarray .int, 2) := by decide +kernel
theorem dX10_init_473 : decode cX10_init 473 = .ok (.putfield 252, 3) := by decide +kernel
theorem dX10_init_476 : decode cX10_init 476 = .ok (.aload_n 0, 1) := by decide +kernel
theorem dX10_init_477 : decode cX10_init 477 = .ok (.bipush 13, 2) := by decide +kernel
theorem dX10_init_479 : decode cX10_init 479 = .ok (.newarray .int, 2) := by decide +kernel
theorem dX10_init_481 : decode cX10_init 481 = .ok (.putfield 255, 3) := by decide +kernel
theorem dX10_init_484 : decode cX10_init 484 = .ok (.aload_n 0, 1) := by decide +kernel
theorem dX10_init_485 : decode cX10_init 485 = .ok (.iconst 1, 1) := by decide +kernel
theorem dX10_init_486 : decode cX10_init 486 = .ok (.putfield 258, 3) := by decide +kernel
theorem dX10_init_489 : decode cX10_init 489 = .ok (.aload_n 0, 1) := by decide +kernel
theorem dX10_init_490 : decode cX10_init 490 = .ok (.iconst 4, 1) := by decide +kernel
theorem dX10_init_491 : decode cX10_init 491 = .ok (.newarray .int, 2) := by decide +kernel
theorem dX10_init_493 : decode cX10_init 493 = .ok (.putfield 261, 3) := by decide +kernel
theorem dX10_init_496 : decode cX10_init 496 = .ok (.aload_n 0, 1) := by decide +kernel
theorem dX10_init_497 : decode cX10_init 497 = .ok (.sipush 1000, 3) := by decide +kernel
theorem dX10_init_500 : decode cX10_init 500 = .ok (.newarray .boolean, 2) := by decide +kernel
theorem dX10_init_502 : decode cX10_init 502 = .ok (.putfield 264, 3) := by decide +kernel
theorem dX10_init_505 : decode cX10_init 505 = .ok (.aload_n 0, 1) := by decide +kernel
theorem dX10_init_506 : decode cX10_init 506 = .ok (.bipush 60, 2) := by decide +kernel
theorem dX10_init_508 : decode cX10_init 508 = .ok (.newarray .int, 2) := by decide +kernel
theorem dX10_init_510 : decode cX10_init 510 = .ok (.putfield 267, 3) := by decide +kernel
theorem dX10_init_513 : decode cX10_init 513 = .ok (.aload_n 0, 1) := by decide +kernel
theorem dX10_init_514 : decode cX10_init 514 = .ok (.invokevirtual 270, 3) := by decide +kernel
theorem dX10_init_517 : decode cX10_init 517 = .ok (.aload_n 0, 1) := by decide +kernel
theorem dX10_init_518 : decode cX10_init 518 = .ok (.aload_n 0, 1) := by decide +kernel
theorem dX10_init_519 : decode cX10_init 519 = .ok (.iconst 1, 1) := by decide +kernel
theorem dX10_init_520 : decode cX10_init 520 = .ok (.invokevirtual 273, 3) := by decide +kernel
theorem dX10_init_523 : decode cX10_init 523 = .ok (.putfield 277, 3) := by decide +kernel
theorem dX10_init_526 : decode cX10_init 526 = .ok (.return_, 1) := by decide +kernel
theorem dX10_clearPages_0 : decode cX10_clearPages 0 = .ok (.aload_n 0, 1) := by decide +kernel
theorem dX10_clearPages_1 : decode cX10_clearPages 1 = .ok (.iconst 0, 1) := by decide +kernel
theorem dX10_clearPages_2 : decode cX10_clearPages 2 = .ok (.putfield 280, 3) := by decide +kernel
theorem dX10_clearPages_5 : decode cX10_clearPages 5 = .ok (.sipush 2699, 3) := by decide +kernel
theorem dX10_clearPages_8 : decode cX10_clearPages 8 = .ok (.istore_n 1, 1) := by decide +kernel
theorem dX10_clearPages_9 : decode cX10_clearPages 9 = .ok (.iload_n 1, 1) := by decide +kernel
theorem dX10_clearPages_10 : decode cX10_clearPages 10 = .ok (.ifCond .lt 29, 3) := by decide +kernel
theorem dX10_clearPages_13 : decode cX10_clearPages 13 = .ok (.aload_n 0, 1) := by decide +kernel
theorem dX10_clearPages_14 : decode cX10_clearPages 14 = .ok (.getfield 151, 3) := by decide +kernel
theorem dX10_clearPages_17 : decode cX10_clearPages 17 = .ok (.aload_n 0, 1) := by decide +kernel
theorem dX10_clearPages_18 : decode cX10_clearPages 18 = .ok (.getfield 280, 3) := by decide +kernel
theorem dX10_clearPages_21 : decode cX10_clearPages 21 = .ok (.iload_n 1, 1) := by decide +kernel
theorem dX10_clearPages_22 : decode cX10_clearPages 22 = .ok (.iastore, 1) := by decide +kernel
theorem dX10_clearPages_23 : decode cX10_clearPages 23 = .ok (.aload_n 0, 1) := by decide +kernel
theorem dX10_clearPages_24 : decode cX10_clearPages 24 = .ok (.dup, 1) := by decide +kernel
theorem dX10_clearPages_25 : decode cX10_clearPages 25 = .ok (.getfield 280, 3) := by decide +kernel
theorem dX10_clearPages_28 : decode cX10_clearPages 28 = .ok (.iconst 1, 1) := by decide +kernel
theorem dX10_clearPages_29 : decode cX10_clearPages 29 = .ok (.iadd, 1) := by decide +kernel
theorem dX10_clearPages_30 : decode cX10_clearPages 30 = .ok (.putfield 280, 3) := by decide +kernel
theorem dX10_clearPages_33 : decode cX10_clearPages 33 = .ok (.iinc 1 (-1), 3) := by decide +kernel
theorem dX10_clearPages_36 : decode cX10_clearPages 36 = .ok (.goto (-27), 3) := by decide +kernel
theorem dX10_clearPages_39 : decode cX10_clearPages 39 = .ok (.iconst 0, 1) := by decide +kernel
theorem dX10_clearPages_40 : decode cX10_clearPages 40 = .ok (.istore_n 1, 1) := by decide +kernel
theorem dX10_clearPages_41 : decode cX10_clearPages 41 = .ok (.iload_n 1, 1) := by decide +kernel
theorem dX10_clearPages_42 : decode cX10_clearPages 42 = .ok (.sipush 7000, 3) := by decide +kernel
theorem dX10_clearPages_45 : decode cX10_clearPages 45 = .ok (.if_icmp .ge 31, 3) := by decide +kernel
theorem dX10_clearPages_48 : decode cX10_clearPages 48 = .ok (.aload_n 0, 1) := by decide +kernel
theorem dX10_clearPages_49 : decode cX10_clearPages 49 = .ok (.getfield 164, 3) := by decide +kernel
theorem dX10_clearPages_52 : decode cX10_clearPages 52 = .ok (.iload_n 1, 1) := by decide +kernel
theorem dX10_clearPages_53 : decode cX10_clearPages 53 = .ok (.iload_n 1, 1) := by decide +kernel
theorem dX10_clearPages_54 : decode cX10_clearPages 54 = .ok (.iconst 1, 1) := by decide +kernel
theorem dX10_clearPages_55 : decode cX10_clearPages 55 = .ok (.iadd, 1) := by decide +kernel
theorem dX10_clearPages_56 : decode cX10_clearPages 56 = .ok (.sipush 7000, 3) := by decide +kernel
theorem dX10_clearPages_59 : decode cX10_clearPages 59 = .ok (.if_icmp .ge 9, 3) := by decide +kernel
theorem dX10_clearPages_62 : decode cX10_clearPages 62 = .ok (.iload_n 1, 1) := by decide +kernel
theorem dX10_clearPages_63 : decode cX10_clearPages 63 = .ok (.iconst 1, 1) := by decide +kernel
theorem dX10_clearPages_64 : decode cX10_clearPages 64 = .ok (.iadd, 1) := by decide +kernel
theorem dX10_clearPages_65 : decode cX10_clearPages 65 = .ok (.goto 4, 3) := by decide +kernel
theorem dX10_clearPages_68 : decode cX10_clearPages 68 = .ok (.iconst (-1), 1) := by decide +kernel
theorem dX10_clearPages_69 : decode cX10_clearPages 69 = .ok (.iastore, 1) := by decide +kernel
theorem dX10_clearPages_70 : decode cX10_clearPages 70 = .ok (.iinc 1 1, 3) := by decide +kernel
theorem dX10_clearPages_73 : decode cX10_clearPages 73 = .ok (.goto (-32), 3) := by decide +kernel
theorem dX10_clearPages_76 : decode cX10_clearPages 76 = .ok (.aload_n 0, 1) := by decide +kernel
theorem dX10_clearPages_77 : decode cX10_clearPages 77 = .ok (.iconst 0, 1) := by decide +kernel
theorem dX10_clearPages_78 : decode cX10_clearPages 78 = .ok (.putfield 283, 3) := by decide +kernel
theorem dX10_clearPages_81 : decode cX10_clearPages 81 = .ok (.iconst 0, 1) := by decide +kernel
theorem dX10_clearPages_82 : decode cX10_clearPages 82 = .ok (.istore_n 1, 1) := by decide +kernel
theorem dX10_clearPages_83 : decode cX10_clearPages 83 = .ok (.iload_n 1, 1) := by decide +kernel
theorem dX10_clearPages_84 : decode cX10_clearPages 84 = .ok (.sipush 14000, 3) := by decide +kernel
theorem dX10_clearPages_87 : decode cX10_clearPages 87 = .ok (.if_icmp .ge 31, 3) := by decide +kernel
theorem dX10_clearPages_90 : decode cX10_clearPages 90 = .ok (.aload_n 0, 1) := by decide +kernel
theorem dX10_clearPages_91 : decode cX10_clearPages 91 = .ok (.getfield 176, 3) := by decide +kernel
theorem dX10_clearPages_94 : decode cX10_clearPages 94 = .ok (.iload_n 1, 1) := by decide +kernel
theorem dX10_clearPages_95 : decode cX10_clearPages 95 = .ok (.iload_n 1, 1) := by decide +kernel
theorem dX10_clearPages_96 : decode cX10_clearPages 96 = .ok (.iconst 1, 1) := by decide +kernel
theorem dX10_clearPages_97 : decode cX10_clearPages 97 = .ok (.iadd, 1) := by decide +kernel
theorem dX10_clearPages_98 : decode cX10_clearPages 98 = .ok (.sipush 14000, 3) := by decide +kernel
theorem dX10_clearPages_101 : decode cX10_clearPages 101 = .ok (.if_icmp .ge 9, 3) := by decide +kernel
theorem dX10_clearPages_104 : decode cX10_clearPages 104 = .ok (.iload_n 1, 1) := by decide +kernel
theorem dX10_clearPages_105 : decode cX10_clearPages 105 = .ok (.iconst 1, 1) := by decide +kernel
theorem dX10_clearPages_106 : decode cX10_clearPages 106 = .ok (.iadd, 1) := by decide +kernel
theorem dX10_clearPages_107 : decode cX10_clearPages 107 = .ok (.goto 4, 3) := by decide +kernel
theorem dX10_clearPages_110 : decode cX10_clearPages 110 = .ok (.iconst (-1), 1) := by decide +kernel
theorem dX10_clearPages_111 : decode cX10_clearPages 111 = .ok (.iastore, 1) := by decide +kernel
theorem dX10_clearPages_112 : decode cX10_clearPages 112 = .ok (.iinc 1 1, 3) := by decide +kernel
theorem dX10_clearPages_115 : decode cX10_clearPages 115 = .ok (.goto (-32), 3) := by decide +kernel
theorem dX10_clearPages_118 : decode cX10_clearPages 118 = .ok (.aload_n 0, 1) := by decide +kernel
theorem dX10_clearPages_119 : decode cX10_clearPages 119 = .ok (.iconst 0, 1) := by decide +kernel
theorem dX10_clearPages_120 : decode cX10_clearPages 120 = .ok (.putfield 286, 3) := by decide +kernel
theorem dX10_clearPages_123 : decode cX10_clearPages 123 = .ok (.return_, 1) := by decide +kernel
theorem dX10_page_0 : decode cX10_page 0 = .ok (.aload_n 0, 1) := by decide +kernel
theorem dX10_page_1 : decode cX10_page 1 = .ok (.dup, 1) := by decide +kernel
theorem dX10_page_2 : decode cX10_page 2 = .ok (.getfield 280, 3) := by decide +kernel
theorem dX10_page_5 : decode cX10_page 5 = .ok (.iconst 1, 1) := by decide +kernel
theorem dX10_page_6 : decode cX10_page 6 = .ok (.isub, 1) := by decide +kernel
theorem dX10_page_7 : decode cX10_page 7 = .ok (.putfield 280, 3) := by decide +kernel
theorem dX10_page_10 : decode cX10_page 10 = .ok (.aload_n 0, 1) := by decide +kernel
theorem dX10_page_11 : decode cX10_page 11 = .ok (.getfield 151, 3) := by decide +kernel
theorem dX10_page_14 : decode cX10_page 14 = .ok (.aload_n 0, 1) := by decide +kernel
theorem dX10_page_15 : decode cX10_page 15 = .ok (.getfield 280, 3) := by decide +kernel
theorem dX10_page_18 : decode cX10_page 18 = .ok (.iaload, 1) := by decide +kernel
theorem dX10_page_19 : decode cX10_page 19 = .ok (.istore_n 2, 1) := by decide +kernel
theorem dX10_page_20 : decode cX10_page 20 = .ok (.aload_n 0, 1) := by decide +kernel
theorem dX10_page_21 : decode cX10_page 21 = .ok (.getfield 119, 3) := by decide +kernel
theorem dX10_page_24 : decode cX10_page 24 = .ok (.iload_n 2, 1) := by decide +kernel
theorem dX10_page_25 : decode cX10_page 25 = .ok (.iload_n 1, 1) := by decide +kernel
theorem dX10_page_26 : decode cX10_page 26 = .ok (.bastore, 1) := by decide +kernel
theorem dX10_page_27 : decode cX10_page 27 = .ok (.aload_n 0, 1) := by decide +kernel
theorem dX10_page_28 : decode cX10_page 28 = .ok (.getfield 123, 3) := by decide +kernel
theorem dX10_page_31 : decode cX10_page 31 = .ok (.iload_n 2, 1) := by decide +kernel
theorem dX10_page_32 : decode cX10_page 32 = .ok (.iconst (-1), 1) := by decide +kernel
theorem dX10_page_33 : decode cX10_page 33 = .ok (.iastore, 1) := by decide +kernel
theorem dX10_page_34 : decode cX10_page 34 = .ok (.aload_n 0, 1) := by decide +kernel
theorem dX10_page_35 : decode cX10_page 35 = .ok (.getfield 126, 3) := by decide +kernel
theorem dX10_page_38 : decode cX10_page 38 = .ok (.iload_n 2, 1) := by decide +kernel
theorem dX10_page_39 : decode cX10_page 39 = .ok (.iconst 0, 1) := by decide +kernel
theorem dX10_page_40 : decode cX10_page 40 = .ok (.iastore, 1) := by decide +kernel
theorem dX10_page_41 : decode cX10_page 41 = .ok (.aload_n 0, 1) := by decide +kernel
theorem dX10_page_42 : decode cX10_page 42 = .ok (.getfield 129, 3) := by decide +kernel
theorem dX10_page_45 : decode cX10_page 45 = .ok (.iload_n 2, 1) := by decide +kernel
theorem dX10_page_46 : decode cX10_page 46 = .ok (.iconst 0, 1) := by decide +kernel
theorem dX10_page_47 : decode cX10_page 47 = .ok (.iastore, 1) := by decide +kernel
theorem dX10_page_48 : decode cX10_page 48 = .ok (.aload_n 0, 1) := by decide +kernel
theorem dX10_page_49 : decode cX10_page 49 = .ok (.getfield 139, 3) := by decide +kernel
theorem dX10_page_52 : decode cX10_page 52 = .ok (.iload_n 2, 1) := by decide +kernel
theorem dX10_page_53 : decode cX10_page 53 = .ok (.iconst (-1), 1) := by decide +kernel
theorem dX10_page_54 : decode cX10_page 54 = .ok (.iastore, 1) := by decide +kernel
theorem dX10_page_55 : decode cX10_page 55 = .ok (.aload_n 0, 1) := by decide +kernel
theorem dX10_page_56 : decode cX10_page 56 = .ok (.getfield 142, 3) := by decide +kernel
theorem dX10_page_59 : decode cX10_page 59 = .ok (.iload_n 2, 1) := by decide +kernel
theorem dX10_page_60 : decode cX10_page 60 = .ok (.iconst (-1), 1) := by decide +kernel
theorem dX10_page_61 : decode cX10_page 61 = .ok (.iastore, 1) := by decide +kernel
theorem dX10_page_62 : decode cX10_page 62 = .ok (.aload_n 0, 1) := by decide +kernel
theorem dX10_page_63 : decode cX10_page 63 = .ok (.getfield 145, 3) := by decide +kernel
theorem dX10_page_66 : decode cX10_page 66 = .ok (.iload_n 2, 1) := by decide +kernel
theorem dX10_page_67 : decode cX10_page 67 = .ok (.iconst 0, 1) := by decide +kernel
theorem dX10_page_68 : decode cX10_page 68 = .ok (.iastore, 1) := by decide +kernel
theorem dX10_page_69 : decode cX10_page 69 = .ok (.aload_n 0, 1) := by decide +kernel
theorem dX10_page_70 : decode cX10_page 70 = .ok (.getfield 148, 3) := by decide +kernel
theorem dX10_page_73 : decode cX10_page 73 = .ok (.iload_n 2, 1) := by decide +kernel
theorem dX10_page_74 : decode cX10_page 74 = .ok (.iconst (-1), 1) := by decide +kernel
theorem dX10_page_75 : decode cX10_page 75 = .ok (.iastore, 1) := by decide +kernel
theorem dX10_page_76 : decode cX10_page 76 = .ok (.iload_n 2, 1) := by decide +kernel
theorem dX10_page_77 : decode cX10_page 77 = .ok (.ireturn, 1) := by decide +kernel
theorem dX10_give_0 : decode cX10_give 0 = .ok (.aload_n 0, 1) := by decide +kernel
theorem dX10_give_1 : decode cX10_give 1 = .ok (.getfield 151, 3) := by decide +kernel
theorem dX10_give_4 : decode cX10_give 4 = .ok (.aload_n 0, 1) := by decide +kernel
theorem dX10_give_5 : decode cX10_give 5 = .ok (.getfield 280, 3) := by decide +kernel
theorem dX10_give_8 : decode cX10_give 8 = .ok (.iload_n 1, 1) := by decide +kernel
theorem dX10_give_9 : decode cX10_give 9 = .ok (.iastore, 1) := by decide +kernel
theorem dX10_give_10 : decode cX10_give 10 = .ok (.aload_n 0, 1) := by decide +kernel
theorem dX10_give_11 : decode cX10_give 11 = .ok (.dup, 1) := by decide +kernel
theorem dX10_give_12 : decode cX10_give 12 = .ok (.getfield 280, 3) := by decide +kernel
theorem dX10_give_15 : decode cX10_give 15 = .ok (.iconst 1, 1) := by decide +kernel
theorem dX10_give_16 : decode cX10_give 16 = .ok (.iadd, 1) := by decide +kernel
theorem dX10_give_17 : decode cX10_give 17 = .ok (.putfield 280, 3) := by decide +kernel
theorem dX10_give_20 : decode cX10_give 20 = .ok (.return_, 1) := by decide +kernel
theorem dX10_entry_0 : decode cX10_entry 0 = .ok (.aload_n 0, 1) := by decide +kernel
theorem dX10_entry_1 : decode cX10_entry 1 = .ok (.getfield 283, 3) := by decide +kernel
theorem dX10_entry_4 : decode cX10_entry 4 = .ok (.istore 5, 2) := by decide +kernel
theorem dX10_entry_6 : decode cX10_entry 6 = .ok (.aload_n 0, 1) := by decide +kernel
theorem dX10_entry_7 : decode cX10_entry 7 = .ok (.aload_n 0, 1) := by decide +kernel
theorem dX10_entry_8 : decode cX10_entry 8 = .ok (.getfield 164, 3) := by decide +kernel
theorem dX10_entry_11 : decode cX10_entry 11 = .ok (.iload 5, 2) := by decide +kernel
theorem dX10_entry_13 : decode cX10_entry 13 = .ok (.iaload, 1) := by decide +kernel
theorem dX10_entry_14 : decode cX10_entry 14 = .ok (.putfield 283, 3) := by decide +kernel
theorem dX10_entry_17 : decode cX10_entry 17 = .ok (.aload_n 0, 1) := by decide +kernel
theorem dX10_entry_18 : decode cX10_entry 18 = .ok (.getfield 154, 3) := by decide +kernel
theorem dX10_entry_21 : decode cX10_entry 21 = .ok (.iload 5, 2) := by decide +kernel
theorem dX10_entry_23 : decode cX10_entry 23 = .ok (.lload_n 3, 1) := by decide +kernel
theorem dX10_entry_24 : decode cX10_entry 24 = .ok (.lastore, 1) := by decide +kernel
theorem dX10_entry_25 : decode cX10_entry 25 = .ok (.iload_n 2, 1) := by decide +kernel
theorem dX10_entry_26 : decode cX10_entry 26 = .ok (.iconst (-1), 1) := by decide +kernel
theorem dX10_entry_27 : decode cX10_entry 27 = .ok (.if_icmp .ne 27, 3) := by decide +kernel
theorem dX10_entry_30 : decode cX10_entry 30 = .ok (.aload_n 0, 1) := by decide +kernel
theorem dX10_entry_31 : decode cX10_entry 31 = .ok (.getfield 164, 3) := by decide +kernel
theorem dX10_entry_34 : decode cX10_entry 34 = .ok (.iload 5, 2) := by decide +kernel
theorem dX10_entry_36 : decode cX10_entry 36 = .ok (.aload_n 0, 1) := by decide +kernel
theorem dX10_entry_37 : decode cX10_entry 37 = .ok (.getfield 123, 3) := by decide +kernel
theorem dX10_entry_40 : decode cX10_entry 40 = .ok (.iload_n 1, 1) := by decide +kernel
theorem dX10_entry_41 : decode cX10_entry 41 = .ok (.iaload, 1) := by decide +kernel
theorem dX10_entry_42 : decode cX10_entry 42 = .ok (.iastore, 1) := by decide +kernel
theorem dX10_entry_43 : decode cX10_entry 43 = .ok (.aload_n 0, 1) := by decide +kernel
theorem dX10_entry_44 : decode cX10_entry 44 = .ok (.getfield 123, 3) := by decide +kernel
theorem dX10_entry_47 : decode cX10_entry 47 = .ok (.iload_n 1, 1) := by decide +kernel
theorem dX10_entry_48 : decode cX10_entry 48 = .ok (.iload 5, 2) := by decide +kernel
theorem dX10_entry_50 : decode cX10_entry 50 = .ok (.iastore, 1) := by decide +kernel
theorem dX10_entry_51 : decode cX10_entry 51 = .ok (.goto 24, 3) := by decide +kernel
theorem dX10_entry_54 : decode cX10_entry 54 = .ok (.aload_n 0, 1) := by decide +kernel
theorem dX10_entry_55 : decode cX10_entry 55 = .ok (.getfield 164, 3) := by decide +kernel
theorem dX10_entry_58 : decode cX10_entry 58 = .ok (.iload 5, 2) := by decide +kernel
theorem dX10_entry_60 : decode cX10_entry 60 = .ok (.aload_n 0, 1) := by decide +kernel
theorem dX10_entry_61 : decode cX10_entry 61 = .ok (.getfield 164, 3) := by decide +kernel
theorem dX10_entry_64 : decode cX10_entry 64 = .ok (.iload_n 2, 1) := by decide +kernel
theorem dX10_entry_65 : decode cX10_entry 65 = .ok (.iaload, 1) := by decide +kernel
theorem dX10_entry_66 : decode cX10_entry 66 = .ok (.iastore, 1) := by decide +kernel
theorem dX10_entry_67 : decode cX10_entry 67 = .ok (.aload_n 0, 1) := by decide +kernel
theorem dX10_entry_68 : decode cX10_entry 68 = .ok (.getfield 164, 3) := by decide +kernel
theorem dX10_entry_71 : decode cX10_entry 71 = .ok (.iload_n 2, 1) := by decide +kernel
theorem dX10_entry_72 : decode cX10_entry 72 = .ok (.iload 5, 2) := by decide +kernel
theorem dX10_entry_74 : decode cX10_entry 74 = .ok (.iastore, 1) := by decide +kernel
theorem dX10_entry_75 : decode cX10_entry 75 = .ok (.aload_n 0, 1) := by decide +kernel
theorem dX10_entry_76 : decode cX10_entry 76 = .ok (.getfield 126, 3) := by decide +kernel
theorem dX10_entry_79 : decode cX10_entry 79 = .ok (.iload_n 1, 1) := by decide +kernel
theorem dX10_entry_80 : decode cX10_entry 80 = .ok (.dup2, 1) := by decide +kernel
theorem dX10_entry_81 : decode cX10_entry 81 = .ok (.iaload, 1) := by decide +kernel
theorem dX10_entry_82 : decode cX10_entry 82 = .ok (.iconst 1, 1) := by decide +kernel
theorem dX10_entry_83 : decode cX10_entry 83 = .ok (.iadd, 1) := by decide +kernel
theorem dX10_entry_84 : decode cX10_entry 84 = .ok (.iastore, 1) := by decide +kernel
theorem dX10_entry_85 : decode cX10_entry 85 = .ok (.iload 5, 2) := by decide +kernel
theorem dX10_entry_87 : decode cX10_entry 87 = .ok (.ireturn, 1) := by decide +kernel
theorem dX10_leave_0 : decode cX10_leave 0 = .ok (.iload_n 2, 1) := by decide +kernel
theorem dX10_leave_1 : decode cX10_leave 1 = .ok (.iconst (-1), 1) := by decide +kernel
theorem dX10_leave_2 : decode cX10_leave 2 = .ok (.if_icmp .ne 12, 3) := by decide +kernel
theorem dX10_leave_5 : decode cX10_leave 5 = .ok (.aload_n 0, 1) := by decide +kernel
theorem dX10_leave_6 : decode cX10_leave 6 = .ok (.getfield 123, 3) := by decide +kernel
theorem dX10_leave_9 : decode cX10_leave 9 = .ok (.iload_n 1, 1) := by decide +kernel
theorem dX10_leave_10 : decode cX10_leave 10 = .ok (.iaload, 1) := by decide +kernel
theorem dX10_leave_11 : decode cX10_leave 11 = .ok (.goto 9, 3) := by decide +kernel
theorem dX10_leave_14 : decode cX10_leave 14 = .ok (.aload_n 0, 1) := by decide +kernel
theorem dX10_leave_15 : decode cX10_leave 15 = .ok (.getfield 164, 3) := by decide +kernel
theorem dX10_leave_18 : decode cX10_leave 18 = .ok (.iload_n 2, 1) := by decide +kernel
theorem dX10_leave_19 : decode cX10_leave 19 = .ok (.iaload, 1) := by decide +kernel
theorem dX10_leave_20 : decode cX10_leave 20 = .ok (.istore_n 3, 1) := by decide +kernel
theorem dX10_leave_21 : decode cX10_leave 21 = .ok (.iload_n 2, 1) := by decide +kernel
theorem dX10_leave_22 : decode cX10_leave 22 = .ok (.iconst (-1), 1) := by decide +kernel
theorem dX10_leave_23 : decode cX10_leave 23 = .ok (.if_icmp .ne 18, 3) := by decide +kernel
theorem dX10_leave_26 : decode cX10_leave 26 = .ok (.aload_n 0, 1) := by decide +kernel
theorem dX10_leave_27 : decode cX10_leave 27 = .ok (.getfield 123, 3) := by decide +kernel
theorem dX10_leave_30 : decode cX10_leave 30 = .ok (.iload_n 1, 1) := by decide +kernel
theorem dX10_leave_31 : decode cX10_leave 31 = .ok (.aload_n 0, 1) := by decide +kernel
theorem dX10_leave_32 : decode cX10_leave 32 = .ok (.getfield 164, 3) := by decide +kernel
theorem dX10_leave_35 : decode cX10_leave 35 = .ok (.iload_n 3, 1) := by decide +kernel
theorem dX10_leave_36 : decode cX10_leave 36 = .ok (.iaload, 1) := by decide +kernel
theorem dX10_leave_37 : decode cX10_leave 37 = .ok (.iastore, 1) := by decide +kernel
theorem dX10_leave_38 : decode cX10_leave 38 = .ok (.goto 15, 3) := by decide +kernel
theorem dX10_leave_41 : decode cX10_leave 41 = .ok (.aload_n 0, 1) := by decide +kernel
theorem dX10_leave_42 : decode cX10_leave 42 = .ok (.getfield 164, 3) := by decide +kernel
theorem dX10_leave_45 : decode cX10_leave 45 = .ok (.iload_n 2, 1) := by decide +kernel
theorem dX10_leave_46 : decode cX10_leave 46 = .ok (.aload_n 0, 1) := by decide +kernel
theorem dX10_leave_47 : decode cX10_leave 47 = .ok (.getfield 164, 3) := by decide +kernel
theorem dX10_leave_50 : decode cX10_leave 50 = .ok (.iload_n 3, 1) := by decide +kernel
theorem dX10_leave_51 : decode cX10_leave 51 = .ok (.iaload, 1) := by decide +kernel
theorem dX10_leave_52 : decode cX10_leave 52 = .ok (.iastore, 1) := by decide +kernel
theorem dX10_leave_53 : decode cX10_leave 53 = .ok (.aload_n 0, 1) := by decide +kernel
theorem dX10_leave_54 : decode cX10_leave 54 = .ok (.getfield 126, 3) := by decide +kernel
theorem dX10_leave_57 : decode cX10_leave 57 = .ok (.iload_n 1, 1) := by decide +kernel
theorem dX10_leave_58 : decode cX10_leave 58 = .ok (.dup2, 1) := by decide +kernel
theorem dX10_leave_59 : decode cX10_leave 59 = .ok (.iaload, 1) := by decide +kernel
theorem dX10_leave_60 : decode cX10_leave 60 = .ok (.iconst 1, 1) := by decide +kernel
theorem dX10_leave_61 : decode cX10_leave 61 = .ok (.isub, 1) := by decide +kernel
theorem dX10_leave_62 : decode cX10_leave 62 = .ok (.iastore, 1) := by decide +kernel
theorem dX10_leave_63 : decode cX10_leave 63 = .ok (.aload_n 0, 1) := by decide +kernel
theorem dX10_leave_64 : decode cX10_leave 64 = .ok (.getfield 164, 3) := by decide +kernel
theorem dX10_leave_67 : decode cX10_leave 67 = .ok (.iload_n 3, 1) := by decide +kernel
theorem dX10_leave_68 : decode cX10_leave 68 = .ok (.aload_n 0, 1) := by decide +kernel
theorem dX10_leave_69 : decode cX10_leave 69 = .ok (.getfield 283, 3) := by decide +kernel
theorem dX10_leave_72 : decode cX10_leave 72 = .ok (.iastore, 1) := by decide +kernel
theorem dX10_leave_73 : decode cX10_leave 73 = .ok (.aload_n 0, 1) := by decide +kernel
theorem dX10_leave_74 : decode cX10_leave 74 = .ok (.iload_n 3, 1) := by decide +kernel
theorem dX10_leave_75 : decode cX10_leave 75 = .ok (.putfield 283, 3) := by decide +kernel
theorem dX10_leave_78 : decode cX10_leave 78 = .ok (.return_, 1) := by decide +kernel
theorem dX10_letter_0 : decode cX10_letter 0 = .ok (.aload_n 0, 1) := by decide +kernel
theorem dX10_letter_1 : decode cX10_letter 1 = .ok (.getfield 286, 3) := by decide +kernel
theorem dX10_letter_4 : decode cX10_letter 4 = .ok (.istore 7, 2) := by decide +kernel
theorem dX10_letter_6 : decode cX10_letter 6 = .ok (.aload_n 0, 1) := by decide +kernel
theorem dX10_letter_7 : decode cX10_letter 7 = .ok (.aload_n 0, 1) := by decide +kernel
theorem dX10_letter_8 : decode cX10_letter 8 = .ok (.getfield 176, 3) := by decide +kernel
theorem dX10_letter_11 : decode cX10_letter 11 = .ok (.iload 7, 2) := by decide +kernel
theorem dX10_letter_13 : decode cX10_letter 13 = .ok (.iaload, 1) := by decide +kernel
theorem dX10_letter_14 : decode cX10_letter 14 = .ok (.putfield 286, 3) := by decide +kernel
theorem dX10_letter_17 : decode cX10_letter 17 = .ok (.aload_n 0, 1) := by decide +kernel
theorem dX10_letter_18 : decode cX10_letter 18 = .ok (.getfield 167, 3) := by decide +kernel
theorem dX10_letter_21 : decode cX10_letter 21 = .ok (.iload 7, 2) := by decide +kernel
theorem dX10_letter_23 : decode cX10_letter 23 = .ok (.iload_n 2, 1) := by decide +kernel
theorem dX10_letter_24 : decode cX10_letter 24 = .ok (.iastore, 1) := by decide +kernel
theorem dX10_letter_25 : decode cX10_letter 25 = .ok (.aload_n 0, 1) := by decide +kernel
theorem dX10_letter_26 : decode cX10_letter 26 = .ok (.getfield 170, 3) := by decide +kernel
theorem dX10_letter_29 : decode cX10_letter 29 = .ok (.iload 7, 2) := by decide +kernel
theorem dX10_letter_31 : decode cX10_letter 31 = .ok (.lload_n 3, 1) := by decide +kernel
theorem dX10_letter_32 : decode cX10_letter 32 = .ok (.lastore, 1) := by decide +kernel
theorem dX10_letter_33 : decode cX10_letter 33 = .ok (.aload_n 0, 1) := by decide +kernel
theorem dX10_letter_34 : decode cX10_letter 34 = .ok (.getfield 173, 3) := by decide +kernel
theorem dX10_letter_37 : decode cX10_letter 37 = .ok (.iload 7, 2) := by decide +kernel
theorem dX10_letter_39 : decode cX10_letter 39 = .ok (.lload 5, 2) := by decide +kernel
theorem dX10_letter_41 : decode cX10_letter 41 = .ok (.lastore, 1) := by decide +kernel
theorem dX10_letter_42 : decode cX10_letter 42 = .ok (.aload_n 0, 1) := by decide +kernel
theorem dX10_letter_43 : decode cX10_letter 43 = .ok (.iload_n 1, 1) := by decide +kernel
theorem dX10_letter_44 : decode cX10_letter 44 = .ok (.iload 7, 2) := by decide +kernel
theorem dX10_letter_46 : decode cX10_letter 46 = .ok (.invokevirtual 289, 3) := by decide +kernel
theorem dX10_letter_49 : decode cX10_letter 49 = .ok (.aload_n 0, 1) := by decide +kernel
theorem dX10_letter_50 : decode cX10_letter 50 = .ok (.getfield 148, 3) := by decide +kernel
theorem dX10_letter_53 : decode cX10_letter 53 = .ok (.iload_n 1, 1) := by decide +kernel
theorem dX10_letter_54 : decode cX10_letter 54 = .ok (.iconst (-1), 1) := by decide +kernel
theorem dX10_letter_55 : decode cX10_letter 55 = .ok (.iastore, 1) := by decide +kernel
theorem dX10_letter_56 : decode cX10_letter 56 = .ok (.return_, 1) := by decide +kernel
theorem dX10_chain_0 : decode cX10_chain 0 = .ok (.aload_n 0, 1) := by decide +kernel
theorem dX10_chain_1 : decode cX10_chain 1 = .ok (.getfield 176, 3) := by decide +kernel
theorem dX10_chain_4 : decode cX10_chain 4 = .ok (.iload_n 2, 1) := by decide +kernel
theorem dX10_chain_5 : decode cX10_chain 5 = .ok (.iconst (-1), 1) := by decide +kernel
theorem dX10_chain_6 : decode cX10_chain 6 = .ok (.iastore, 1) := by decide +kernel
theorem dX10_chain_7 : decode cX10_chain 7 = .ok (.aload_n 0, 1) := by decide +kernel
theorem dX10_chain_8 : decode cX10_chain 8 = .ok (.getfield 142, 3) := by decide +kernel
theorem dX10_chain_11 : decode cX10_chain 11 = .ok (.iload_n 1, 1) := by decide +kernel
theorem dX10_chain_12 : decode cX10_chain 12 = .ok (.iaload, 1) := by decide +kernel
theorem dX10_chain_13 : decode cX10_chain 13 = .ok (.iconst (-1), 1) := by decide +kernel
theorem dX10_chain_14 : decode cX10_chain 14 = .ok (.if_icmp .ne 13, 3) := by decide +kernel
theorem dX10_chain_17 : decode cX10_chain 17 = .ok (.aload_n 0, 1) := by decide +kernel
theorem dX10_chain_18 : decode cX10_chain 18 = .ok (.getfield 139, 3) := by decide +kernel
theorem dX10_chain_21 : decode cX10_chain 21 = .ok (.iload_n 1, 1) := by decide +kernel
theorem dX10_chain_22 : decode cX10_chain 22 = .ok (.iload_n 2, 1) := by decide +kernel
theorem dX10_chain_23 : decode cX10_chain 23 = .ok (.iastore, 1) := by decide +kernel
theorem dX10_chain_24 : decode cX10_chain 24 = .ok (.goto 15, 3) := by decide +kernel
theorem dX10_chain_27 : decode cX10_chain 27 = .ok (.aload_n 0, 1) := by decide +kernel
theorem dX10_chain_28 : decode cX10_chain 28 = .ok (.getfield 176, 3) := by decide +kernel
theorem dX10_chain_31 : decode cX10_chain 31 = .ok (.aload_n 0, 1) := by decide +kernel
theorem dX10_chain_32 : decode cX10_chain 32 = .ok (.getfield 142, 3) := by decide +kernel
theorem dX10_chain_35 : decode cX10_chain 35 = .ok (.iload_n 1, 1) := by decide +kernel
theorem dX10_chain_36 : decode cX10_chain 36 = .ok (.iaload, 1) := by decide +kernel
theorem dX10_chain_37 : decode cX10_chain 37 = .ok (.iload_n 2, 1) := by decide +kernel
theorem dX10_chain_38 : decode cX10_chain 38 = .ok (.iastore, 1) := by decide +kernel
theorem dX10_chain_39 : decode cX10_chain 39 = .ok (.aload_n 0, 1) := by decide +kernel
theorem dX10_chain_40 : decode cX10_chain 40 = .ok (.getfield 142, 3) := by decide +kernel
theorem dX10_chain_43 : decode cX10_chain 43 = .ok (.iload_n 1, 1) := by decide +kernel
theorem dX10_chain_44 : decode cX10_chain 44 = .ok (.iload_n 2, 1) := by decide +kernel
theorem dX10_chain_45 : decode cX10_chain 45 = .ok (.iastore, 1) := by decide +kernel
theorem dX10_chain_46 : decode cX10_chain 46 = .ok (.aload_n 0, 1) := by decide +kernel
theorem dX10_chain_47 : decode cX10_chain 47 = .ok (.getfield 145, 3) := by decide +kernel
theorem dX10_chain_50 : decode cX10_chain 50 = .ok (.iload_n 1, 1) := by decide +kernel
theorem dX10_chain_51 : decode cX10_chain 51 = .ok (.dup2, 1) := by decide +kernel
theorem dX10_chain_52 : decode cX10_chain 52 = .ok (.iaload, 1) := by decide +kernel
theorem dX10_chain_53 : decode cX10_chain 53 = .ok (.iconst 1, 1) := by decide +kernel
theorem dX10_chain_54 : decode cX10_chain 54 = .ok (.iadd, 1) := by decide +kernel
theorem dX10_chain_55 : decode cX10_chain 55 = .ok (.iastore, 1) := by decide +kernel
theorem dX10_chain_56 : decode cX10_chain 56 = .ok (.return_, 1) := by decide +kernel
theorem dX10_below_0 : decode cX10_below 0 = .ok (.iconst (-1), 1) := by decide +kernel
theorem dX10_below_1 : decode cX10_below 1 = .ok (.istore 4, 2) := by decide +kernel
theorem dX10_below_3 : decode cX10_below 3 = .ok (.aload_n 0, 1) := by decide +kernel
theorem dX10_below_4 : decode cX10_below 4 = .ok (.getfield 123, 3) := by decide +kernel
theorem dX10_below_7 : decode cX10_below 7 = .ok (.iload_n 1, 1) := by decide +kernel
theorem dX10_below_8 : decode cX10_below 8 = .ok (.iaload, 1) := by decide +kernel
theorem dX10_below_9 : decode cX10_below 9 = .ok (.istore 5, 2) := by decide +kernel
theorem dX10_below_11 : decode cX10_below 11 = .ok (.iload 5, 2) := by decide +kernel
theorem dX10_below_13 : decode cX10_below 13 = .ok (.iconst (-1), 1) := by decide +kernel
theorem dX10_below_14 : decode cX10_below 14 = .ok (.if_icmp .eq 31, 3) := by decide +kernel
theorem dX10_below_17 : decode cX10_below 17 = .ok (.aload_n 0, 1) := by decide +kernel
theorem dX10_below_18 : decode cX10_below 18 = .ok (.getfield 154, 3) := by decide +kernel
theorem dX10_below_21 : decode cX10_below 21 = .ok (.iload 5, 2) := by decide +kernel
theorem dX10_below_23 : decode cX10_below 23 = .ok (.laload, 1) := by decide +kernel
theorem dX10_below_24 : decode cX10_below 24 = .ok (.lload_n 2, 1) := by decide +kernel
theorem dX10_below_25 : decode cX10_below 25 = .ok (.lcmp, 1) := by decide +kernel
theorem dX10_below_26 : decode cX10_below 26 = .ok (.ifCond .ge 19, 3) := by decide +kernel
theorem dX10_below_29 : decode cX10_below 29 = .ok (.iload 5, 2) := by decide +kernel
theorem dX10_below_31 : decode cX10_below 31 = .ok (.istore 4, 2) := by decide +kernel
theorem dX10_below_33 : decode cX10_below 33 = .ok (.aload_n 0, 1) := by decide +kernel
theorem dX10_below_34 : decode cX10_below 34 = .ok (.getfield 164, 3) := by decide +kernel
theorem dX10_below_37 : decode cX10_below 37 = .ok (.iload 5, 2) := by decide +kernel
theorem dX10_below_39 : decode cX10_below 39 = .ok (.iaload, 1) := by decide +kernel
theorem dX10_below_40 : decode cX10_below 40 = .ok (.istore 5, 2) := by decide +kernel
theorem dX10_below_42 : decode cX10_below 42 = .ok (.goto (-31), 3) := by decide +kernel
theorem dX10_below_45 : decode cX10_below 45 = .ok (.iload 4, 2) := by decide +kernel
theorem dX10_below_47 : decode cX10_below 47 = .ok (.ireturn, 1) := by decide +kernel
theorem dX10_actOnLeaf_0 : decode cX10_actOnLeaf 0 = .ok (.aload_n 0, 1) := by decide +kernel
theorem dX10_actOnLeaf_1 : decode cX10_actOnLeaf 1 = .ok (.iload_n 1, 1) := by decide +kernel
theorem dX10_actOnLeaf_2 : decode cX10_actOnLeaf 2 = .ok (.lload_n 3, 1) := by decide +kernel
theorem dX10_actOnLeaf_3 : decode cX10_actOnLeaf 3 = .ok (.invokevirtual 292, 3) := by decide +kernel
theorem dX10_actOnLeaf_6 : decode cX10_actOnLeaf 6 = .ok (.istore 7, 2) := by decide +kernel
theorem dX10_actOnLeaf_8 : decode cX10_actOnLeaf 8 = .ok (.iload 7, 2) := by decide +kernel
theorem dX10_actOnLeaf_10 : decode cX10_actOnLeaf 10 = .ok (.iconst (-1), 1) := by decide +kernel
theorem dX10_actOnLeaf_11 : decode cX10_actOnLeaf 11 = .ok (.if_icmp .ne 12, 3) := by decide +kernel
theorem dX10_actOnLeaf_14 : decode cX10_actOnLeaf 14 = .ok (.aload_n 0, 1) := by decide +kernel
theorem dX10_actOnLeaf_15 : decode cX10_actOnLeaf 15 = .ok (.getfield 123, 3) := by decide +kernel
theorem dX10_actOnLeaf_18 : decode cX10_actOnLeaf 18 = .ok (.iload_n 1, 1) := by decide +kernel
theorem dX10_actOnLeaf_19 : decode cX10_actOnLeaf 19 = .ok (.iaload, 1) := by decide +kernel
theorem dX10_actOnLeaf_20 : decode cX10_actOnLeaf 20 = .ok (.goto 10, 3) := by decide +kernel
theorem dX10_actOnLeaf_23 : decode cX10_actOnLeaf 23 = .ok (.aload_n 0, 1) := by decide +kernel
theorem dX10_actOnLeaf_24 : decode cX10_actOnLeaf 24 = .ok (.getfield 164, 3) := by decide +kernel
theorem dX10_actOnLeaf_27 : decode cX10_actOnLeaf 27 = .ok (.iload 7, 2) := by decide +kernel
theorem dX10_actOnLeaf_29 : decode cX10_actOnLeaf 29 = .ok (.iaload, 1) := by decide +kernel
theorem dX10_actOnLeaf_30 : decode cX10_actOnLeaf 30 = .ok (.istore 8, 2) := by decide +kernel
theorem dX10_actOnLeaf_32 : decode cX10_actOnLeaf 32 = .ok (.aload_n 0, 1) := by decide +kernel
theorem dX10_actOnLeaf_33 : decode cX10_actOnLeaf 33 = .ok (.getfield 46, 3) := by decide +kernel
theorem dX10_actOnLeaf_36 : decode cX10_actOnLeaf 36 = .ok (.iload_n 2, 1) := by decide +kernel
theorem dX10_actOnLeaf_37 : decode cX10_actOnLeaf 37 = .ok (.iaload, 1) := by decide +kernel
theorem dX10_actOnLeaf_38 : decode cX10_actOnLeaf 38 = .ok (.iconst 5, 1) := by decide +kernel
theorem dX10_actOnLeaf_39 : decode cX10_actOnLeaf 39 = .ok (.if_icmp .ne 53, 3) := by decide +kernel
theorem dX10_actOnLeaf_42 : decode cX10_actOnLeaf 42 = .ok (.iload 8, 2) := by decide +kernel
theorem dX10_actOnLeaf_44 : decode cX10_actOnLeaf 44 = .ok (.iconst (-1), 1) := by decide +kernel
theorem dX10_actOnLeaf_45 : decode cX10_actOnLeaf 45 = .ok (.if_icmp .eq 46, 3) := by decide +kernel
theorem dX10_actOnLeaf_48 : decode cX10_actOnLeaf 48 = .ok (.aload_n 0, 1) := by decide +kernel
theorem dX10_actOnLeaf_49 : decode cX10_actOnLeaf 49 = .ok (.getfield 154, 3) := by decide +kernel
theorem dX10_actOnLeaf_52 : decode cX10_actOnLeaf 52 = .ok (.iload 8, 2) := by decide +kernel
theorem dX10_actOnLeaf_54 : decode cX10_actOnLeaf 54 = .ok (.laload, 1) := by decide +kernel
end
section
theorem dX10_actOnLeaf_55 : decode cX10_actOnLeaf 55 = .ok (.lload 5, 2) := by decide +kernel
theorem dX10_actOnLeaf_57 : decode cX10_actOnLeaf 57 = .ok (.lcmp, 1) := by decide +kernel
theorem dX10_actOnLeaf_58 : decode cX10_actOnLeaf 58 = .ok (.ifCond .gt 33, 3) := by decide +kernel
theorem dX10_actOnLeaf_61 : decode cX10_actOnLeaf 61 = .ok (.aload_n 0, 1) := by decide +kernel
theorem dX10_actOnLeaf_62 : decode cX10_actOnLeaf 62 = .ok (.getfield 164, 3) := by decide +kernel
theorem dX10_actOnLeaf_65 : decode cX10_actOnLeaf 65 = .ok (.iload 8, 2) := by decide +kernel
theorem dX10_actOnLeaf_67 : decode cX10_actOnLeaf 67 = .ok (.iaload, 1) := by decide +kernel
theorem dX10_actOnLeaf_68 : decode cX10_actOnLeaf 68 = .ok (.istore 9, 2) := by decide +kernel
theorem dX10_actOnLeaf_70 : decode cX10_actOnLeaf 70 = .ok (.aload_n 0, 1) := by decide +kernel
theorem dX10_actOnLeaf_71 : decode cX10_actOnLeaf 71 = .ok (.iload_n 1, 1) := by decide +kernel
theorem dX10_actOnLeaf_72 : decode cX10_actOnLeaf 72 = .ok (.iload 7, 2) := by decide +kernel
theorem dX10_actOnLeaf_74 : decode cX10_actOnLeaf 74 = .ok (.invokevirtual 296, 3) := by decide +kernel
theorem dX10_actOnLeaf_77 : decode cX10_actOnLeaf 77 = .ok (.aload_n 0, 1) := by decide +kernel
theorem dX10_actOnLeaf_78 : decode cX10_actOnLeaf 78 = .ok (.getfield 148, 3) := by decide +kernel
theorem dX10_actOnLeaf_81 : decode cX10_actOnLeaf 81 = .ok (.iload_n 1, 1) := by decide +kernel
theorem dX10_actOnLeaf_82 : decode cX10_actOnLeaf 82 = .ok (.iconst (-1), 1) := by decide +kernel
theorem dX10_actOnLeaf_83 : decode cX10_actOnLeaf 83 = .ok (.iastore, 1) := by decide +kernel
theorem dX10_actOnLeaf_84 : decode cX10_actOnLeaf 84 = .ok (.iload 9, 2) := by decide +kernel
theorem dX10_actOnLeaf_86 : decode cX10_actOnLeaf 86 = .ok (.istore 8, 2) := by decide +kernel
theorem dX10_actOnLeaf_88 : decode cX10_actOnLeaf 88 = .ok (.goto (-46), 3) := by decide +kernel
theorem dX10_actOnLeaf_91 : decode cX10_actOnLeaf 91 = .ok (.return_, 1) := by decide +kernel
theorem dX10_actOnLeaf_92 : decode cX10_actOnLeaf 92 = .ok (.iload 8, 2) := by decide +kernel
theorem dX10_actOnLeaf_94 : decode cX10_actOnLeaf 94 = .ok (.iconst (-1), 1) := by decide +kernel
theorem dX10_actOnLeaf_95 : decode cX10_actOnLeaf 95 = .ok (.if_icmp .eq 19, 3) := by decide +kernel
theorem dX10_actOnLeaf_98 : decode cX10_actOnLeaf 98 = .ok (.aload_n 0, 1) := by decide +kernel
theorem dX10_actOnLeaf_99 : decode cX10_actOnLeaf 99 = .ok (.getfield 154, 3) := by decide +kernel
theorem dX10_actOnLeaf_102 : decode cX10_actOnLeaf 102 = .ok (.iload 8, 2) := by decide +kernel
theorem dX10_actOnLeaf_104 : decode cX10_actOnLeaf 104 = .ok (.laload, 1) := by decide +kernel
theorem dX10_actOnLeaf_105 : decode cX10_actOnLeaf 105 = .ok (.lload_n 3, 1) := by decide +kernel
theorem dX10_actOnLeaf_106 : decode cX10_actOnLeaf 106 = .ok (.lcmp, 1) := by decide +kernel
theorem dX10_actOnLeaf_107 : decode cX10_actOnLeaf 107 = .ok (.ifCond .ne 7, 3) := by decide +kernel
theorem dX10_actOnLeaf_110 : decode cX10_actOnLeaf 110 = .ok (.iconst 1, 1) := by decide +kernel
theorem dX10_actOnLeaf_111 : decode cX10_actOnLeaf 111 = .ok (.goto 4, 3) := by decide +kernel
theorem dX10_actOnLeaf_114 : decode cX10_actOnLeaf 114 = .ok (.iconst 0, 1) := by decide +kernel
theorem dX10_actOnLeaf_115 : decode cX10_actOnLeaf 115 = .ok (.istore 9, 2) := by decide +kernel
theorem dX10_actOnLeaf_117 : decode cX10_actOnLeaf 117 = .ok (.aload_n 0, 1) := by decide +kernel
theorem dX10_actOnLeaf_118 : decode cX10_actOnLeaf 118 = .ok (.iload 9, 2) := by decide +kernel
theorem dX10_actOnLeaf_120 : decode cX10_actOnLeaf 120 = .ok (.ifCond .eq 13, 3) := by decide +kernel
theorem dX10_actOnLeaf_123 : decode cX10_actOnLeaf 123 = .ok (.aload_n 0, 1) := by decide +kernel
theorem dX10_actOnLeaf_124 : decode cX10_actOnLeaf 124 = .ok (.getfield 157, 3) := by decide +kernel
theorem dX10_actOnLeaf_127 : decode cX10_actOnLeaf 127 = .ok (.iload 8, 2) := by decide +kernel
theorem dX10_actOnLeaf_129 : decode cX10_actOnLeaf 129 = .ok (.iaload, 1) := by decide +kernel
theorem dX10_actOnLeaf_130 : decode cX10_actOnLeaf 130 = .ok (.goto 4, 3) := by decide +kernel
theorem dX10_actOnLeaf_133 : decode cX10_actOnLeaf 133 = .ok (.iconst (-1), 1) := by decide +kernel
theorem dX10_actOnLeaf_134 : decode cX10_actOnLeaf 134 = .ok (.putfield 34, 3) := by decide +kernel
theorem dX10_actOnLeaf_137 : decode cX10_actOnLeaf 137 = .ok (.iconst 0, 1) := by decide +kernel
theorem dX10_actOnLeaf_138 : decode cX10_actOnLeaf 138 = .ok (.istore 10, 2) := by decide +kernel
theorem dX10_actOnLeaf_140 : decode cX10_actOnLeaf 140 = .ok (.iload 10, 2) := by decide +kernel
theorem dX10_actOnLeaf_142 : decode cX10_actOnLeaf 142 = .ok (.bipush 20, 2) := by decide +kernel
theorem dX10_actOnLeaf_144 : decode cX10_actOnLeaf 144 = .ok (.if_icmp .ge 34, 3) := by decide +kernel
theorem dX10_actOnLeaf_147 : decode cX10_actOnLeaf 147 = .ok (.iload 9, 2) := by decide +kernel
theorem dX10_actOnLeaf_149 : decode cX10_actOnLeaf 149 = .ok (.ifCond .eq 29, 3) := by decide +kernel
theorem dX10_actOnLeaf_152 : decode cX10_actOnLeaf 152 = .ok (.aload_n 0, 1) := by decide +kernel
theorem dX10_actOnLeaf_153 : decode cX10_actOnLeaf 153 = .ok (.getfield 40, 3) := by decide +kernel
theorem dX10_actOnLeaf_156 : decode cX10_actOnLeaf 156 = .ok (.iload 10, 2) := by decide +kernel
theorem dX10_actOnLeaf_158 : decode cX10_actOnLeaf 158 = .ok (.aload_n 0, 1) := by decide +kernel
theorem dX10_actOnLeaf_159 : decode cX10_actOnLeaf 159 = .ok (.getfield 161, 3) := by decide +kernel
theorem dX10_actOnLeaf_162 : decode cX10_actOnLeaf 162 = .ok (.bipush 20, 2) := by decide +kernel
theorem dX10_actOnLeaf_164 : decode cX10_actOnLeaf 164 = .ok (.iload 8, 2) := by decide +kernel
theorem dX10_actOnLeaf_166 : decode cX10_actOnLeaf 166 = .ok (.imul, 1) := by decide +kernel
theorem dX10_actOnLeaf_167 : decode cX10_actOnLeaf 167 = .ok (.iload 10, 2) := by decide +kernel
theorem dX10_actOnLeaf_169 : decode cX10_actOnLeaf 169 = .ok (.iadd, 1) := by decide +kernel
theorem dX10_actOnLeaf_170 : decode cX10_actOnLeaf 170 = .ok (.baload, 1) := by decide +kernel
theorem dX10_actOnLeaf_171 : decode cX10_actOnLeaf 171 = .ok (.bastore, 1) := by decide +kernel
theorem dX10_actOnLeaf_172 : decode cX10_actOnLeaf 172 = .ok (.iinc 10 1, 3) := by decide +kernel
theorem dX10_actOnLeaf_175 : decode cX10_actOnLeaf 175 = .ok (.goto (-35), 3) := by decide +kernel
theorem dX10_actOnLeaf_178 : decode cX10_actOnLeaf 178 = .ok (.aload_n 0, 1) := by decide +kernel
theorem dX10_actOnLeaf_179 : decode cX10_actOnLeaf 179 = .ok (.iload_n 2, 1) := by decide +kernel
theorem dX10_actOnLeaf_180 : decode cX10_actOnLeaf 180 = .ok (.invokevirtual 80, 3) := by decide +kernel
theorem dX10_actOnLeaf_183 : decode cX10_actOnLeaf 183 = .ok (.ifCond .eq 10, 3) := by decide +kernel
theorem dX10_actOnLeaf_186 : decode cX10_actOnLeaf 186 = .ok (.aload_n 0, 1) := by decide +kernel
theorem dX10_actOnLeaf_187 : decode cX10_actOnLeaf 187 = .ok (.getfield 148, 3) := by decide +kernel
theorem dX10_actOnLeaf_190 : decode cX10_actOnLeaf 190 = .ok (.iload_n 1, 1) := by decide +kernel
theorem dX10_actOnLeaf_191 : decode cX10_actOnLeaf 191 = .ok (.iconst (-1), 1) := by decide +kernel
theorem dX10_actOnLeaf_192 : decode cX10_actOnLeaf 192 = .ok (.iastore, 1) := by decide +kernel
theorem dX10_actOnLeaf_193 : decode cX10_actOnLeaf 193 = .ok (.aload_n 0, 1) := by decide +kernel
theorem dX10_actOnLeaf_194 : decode cX10_actOnLeaf 194 = .ok (.getfield 34, 3) := by decide +kernel
theorem dX10_actOnLeaf_197 : decode cX10_actOnLeaf 197 = .ok (.iconst (-1), 1) := by decide +kernel
theorem dX10_actOnLeaf_198 : decode cX10_actOnLeaf 198 = .ok (.if_icmp .ne 16, 3) := by decide +kernel
theorem dX10_actOnLeaf_201 : decode cX10_actOnLeaf 201 = .ok (.iload 9, 2) := by decide +kernel
theorem dX10_actOnLeaf_203 : decode cX10_actOnLeaf 203 = .ok (.ifCond .eq 10, 3) := by decide +kernel
theorem dX10_actOnLeaf_206 : decode cX10_actOnLeaf 206 = .ok (.aload_n 0, 1) := by decide +kernel
theorem dX10_actOnLeaf_207 : decode cX10_actOnLeaf 207 = .ok (.iload_n 1, 1) := by decide +kernel
theorem dX10_actOnLeaf_208 : decode cX10_actOnLeaf 208 = .ok (.iload 7, 2) := by decide +kernel
theorem dX10_actOnLeaf_210 : decode cX10_actOnLeaf 210 = .ok (.invokevirtual 296, 3) := by decide +kernel
theorem dX10_actOnLeaf_213 : decode cX10_actOnLeaf 213 = .ok (.return_, 1) := by decide +kernel
theorem dX10_actOnLeaf_214 : decode cX10_actOnLeaf 214 = .ok (.iload 9, 2) := by decide +kernel
theorem dX10_actOnLeaf_216 : decode cX10_actOnLeaf 216 = .ok (.ifCond .ne 13, 3) := by decide +kernel
theorem dX10_actOnLeaf_219 : decode cX10_actOnLeaf 219 = .ok (.aload_n 0, 1) := by decide +kernel
theorem dX10_actOnLeaf_220 : decode cX10_actOnLeaf 220 = .ok (.iload_n 1, 1) := by decide +kernel
theorem dX10_actOnLeaf_221 : decode cX10_actOnLeaf 221 = .ok (.iload 7, 2) := by decide +kernel
theorem dX10_actOnLeaf_223 : decode cX10_actOnLeaf 223 = .ok (.lload_n 3, 1) := by decide +kernel
theorem dX10_actOnLeaf_224 : decode cX10_actOnLeaf 224 = .ok (.invokevirtual 299, 3) := by decide +kernel
theorem dX10_actOnLeaf_227 : decode cX10_actOnLeaf 227 = .ok (.istore 8, 2) := by decide +kernel
theorem dX10_actOnLeaf_229 : decode cX10_actOnLeaf 229 = .ok (.aload_n 0, 1) := by decide +kernel
theorem dX10_actOnLeaf_230 : decode cX10_actOnLeaf 230 = .ok (.getfield 157, 3) := by decide +kernel
theorem dX10_actOnLeaf_233 : decode cX10_actOnLeaf 233 = .ok (.iload 8, 2) := by decide +kernel
theorem dX10_actOnLeaf_235 : decode cX10_actOnLeaf 235 = .ok (.aload_n 0, 1) := by decide +kernel
theorem dX10_actOnLeaf_236 : decode cX10_actOnLeaf 236 = .ok (.getfield 34, 3) := by decide +kernel
theorem dX10_actOnLeaf_239 : decode cX10_actOnLeaf 239 = .ok (.iastore, 1) := by decide +kernel
theorem dX10_actOnLeaf_240 : decode cX10_actOnLeaf 240 = .ok (.iconst 0, 1) := by decide +kernel
theorem dX10_actOnLeaf_241 : decode cX10_actOnLeaf 241 = .ok (.istore 10, 2) := by decide +kernel
theorem dX10_actOnLeaf_243 : decode cX10_actOnLeaf 243 = .ok (.iload 10, 2) := by decide +kernel
theorem dX10_actOnLeaf_245 : decode cX10_actOnLeaf 245 = .ok (.bipush 20, 2) := by decide +kernel
theorem dX10_actOnLeaf_247 : decode cX10_actOnLeaf 247 = .ok (.if_icmp .ge 29, 3) := by decide +kernel
theorem dX10_actOnLeaf_250 : decode cX10_actOnLeaf 250 = .ok (.aload_n 0, 1) := by decide +kernel
theorem dX10_actOnLeaf_251 : decode cX10_actOnLeaf 251 = .ok (.getfield 161, 3) := by decide +kernel
theorem dX10_actOnLeaf_254 : decode cX10_actOnLeaf 254 = .ok (.bipush 20, 2) := by decide +kernel
theorem dX10_actOnLeaf_256 : decode cX10_actOnLeaf 256 = .ok (.iload 8, 2) := by decide +kernel
theorem dX10_actOnLeaf_258 : decode cX10_actOnLeaf 258 = .ok (.imul, 1) := by decide +kernel
theorem dX10_actOnLeaf_259 : decode cX10_actOnLeaf 259 = .ok (.iload 10, 2) := by decide +kernel
theorem dX10_actOnLeaf_261 : decode cX10_actOnLeaf 261 = .ok (.iadd, 1) := by decide +kernel
theorem dX10_actOnLeaf_262 : decode cX10_actOnLeaf 262 = .ok (.aload_n 0, 1) := by decide +kernel
theorem dX10_actOnLeaf_263 : decode cX10_actOnLeaf 263 = .ok (.getfield 40, 3) := by decide +kernel
theorem dX10_actOnLeaf_266 : decode cX10_actOnLeaf 266 = .ok (.iload 10, 2) := by decide +kernel
theorem dX10_actOnLeaf_268 : decode cX10_actOnLeaf 268 = .ok (.baload, 1) := by decide +kernel
theorem dX10_actOnLeaf_269 : decode cX10_actOnLeaf 269 = .ok (.bastore, 1) := by decide +kernel
theorem dX10_actOnLeaf_270 : decode cX10_actOnLeaf 270 = .ok (.iinc 10 1, 3) := by decide +kernel
theorem dX10_actOnLeaf_273 : decode cX10_actOnLeaf 273 = .ok (.goto (-30), 3) := by decide +kernel
theorem dX10_actOnLeaf_276 : decode cX10_actOnLeaf 276 = .ok (.return_, 1) := by decide +kernel
theorem dX10_kidFor_0 : decode cX10_kidFor 0 = .ok (.iconst 0, 1) := by decide +kernel
theorem dX10_kidFor_1 : decode cX10_kidFor 1 = .ok (.istore 4, 2) := by decide +kernel
theorem dX10_kidFor_3 : decode cX10_kidFor 3 = .ok (.iload 4, 2) := by decide +kernel
theorem dX10_kidFor_5 : decode cX10_kidFor 5 = .ok (.iconst 1, 1) := by decide +kernel
theorem dX10_kidFor_6 : decode cX10_kidFor 6 = .ok (.iadd, 1) := by decide +kernel
theorem dX10_kidFor_7 : decode cX10_kidFor 7 = .ok (.aload_n 0, 1) := by decide +kernel
theorem dX10_kidFor_8 : decode cX10_kidFor 8 = .ok (.getfield 129, 3) := by decide +kernel
theorem dX10_kidFor_11 : decode cX10_kidFor 11 = .ok (.iload_n 1, 1) := by decide +kernel
theorem dX10_kidFor_12 : decode cX10_kidFor 12 = .ok (.iaload, 1) := by decide +kernel
theorem dX10_kidFor_13 : decode cX10_kidFor 13 = .ok (.if_icmp .ge 29, 3) := by decide +kernel
theorem dX10_kidFor_16 : decode cX10_kidFor 16 = .ok (.aload_n 0, 1) := by decide +kernel
theorem dX10_kidFor_17 : decode cX10_kidFor 17 = .ok (.getfield 136, 3) := by decide +kernel
theorem dX10_kidFor_20 : decode cX10_kidFor 20 = .ok (.sipush 128, 3) := by decide +kernel
theorem dX10_kidFor_23 : decode cX10_kidFor 23 = .ok (.iload_n 1, 1) := by decide +kernel
theorem dX10_kidFor_24 : decode cX10_kidFor 24 = .ok (.imul, 1) := by decide +kernel
theorem dX10_kidFor_25 : decode cX10_kidFor 25 = .ok (.iload 4, 2) := by decide +kernel
theorem dX10_kidFor_27 : decode cX10_kidFor 27 = .ok (.iadd, 1) := by decide +kernel
theorem dX10_kidFor_28 : decode cX10_kidFor 28 = .ok (.iconst 1, 1) := by decide +kernel
theorem dX10_kidFor_29 : decode cX10_kidFor 29 = .ok (.iadd, 1) := by decide +kernel
theorem dX10_kidFor_30 : decode cX10_kidFor 30 = .ok (.laload, 1) := by decide +kernel
theorem dX10_kidFor_31 : decode cX10_kidFor 31 = .ok (.lload_n 2, 1) := by decide +kernel
theorem dX10_kidFor_32 : decode cX10_kidFor 32 = .ok (.lcmp, 1) := by decide +kernel
theorem dX10_kidFor_33 : decode cX10_kidFor 33 = .ok (.ifCond .gt 9, 3) := by decide +kernel
theorem dX10_kidFor_36 : decode cX10_kidFor 36 = .ok (.iinc 4 1, 3) := by decide +kernel
theorem dX10_kidFor_39 : decode cX10_kidFor 39 = .ok (.goto (-36), 3) := by decide +kernel
theorem dX10_kidFor_42 : decode cX10_kidFor 42 = .ok (.iload 4, 2) := by decide +kernel
theorem dX10_kidFor_44 : decode cX10_kidFor 44 = .ok (.ireturn, 1) := by decide +kernel
theorem dX10_comes_0 : decode cX10_comes 0 = .ok (.aload_n 0, 1) := by decide +kernel
theorem dX10_comes_1 : decode cX10_comes 1 = .ok (.getfield 46, 3) := by decide +kernel
theorem dX10_comes_4 : decode cX10_comes 4 = .ok (.iload_n 2, 1) := by decide +kernel
theorem dX10_comes_5 : decode cX10_comes 5 = .ok (.iaload, 1) := by decide +kernel
theorem dX10_comes_6 : decode cX10_comes 6 = .ok (.iconst 5, 1) := by decide +kernel
theorem dX10_comes_7 : decode cX10_comes 7 = .ok (.if_icmp .eq 13, 3) := by decide +kernel
theorem dX10_comes_10 : decode cX10_comes 10 = .ok (.aload_n 0, 1) := by decide +kernel
theorem dX10_comes_11 : decode cX10_comes 11 = .ok (.iload_n 1, 1) := by decide +kernel
theorem dX10_comes_12 : decode cX10_comes 12 = .ok (.iload_n 2, 1) := by decide +kernel
theorem dX10_comes_13 : decode cX10_comes 13 = .ok (.lload_n 3, 1) := by decide +kernel
theorem dX10_comes_14 : decode cX10_comes 14 = .ok (.lload 5, 2) := by decide +kernel
theorem dX10_comes_16 : decode cX10_comes 16 = .ok (.invokevirtual 303, 3) := by decide +kernel
theorem dX10_comes_19 : decode cX10_comes 19 = .ok (.return_, 1) := by decide +kernel
theorem dX10_comes_20 : decode cX10_comes 20 = .ok (.lload_n 3, 1) := by decide +kernel
theorem dX10_comes_21 : decode cX10_comes 21 = .ok (.lstore 7, 2) := by decide +kernel
theorem dX10_comes_23 : decode cX10_comes 23 = .ok (.aload_n 0, 1) := by decide +kernel
theorem dX10_comes_24 : decode cX10_comes 24 = .ok (.iload_n 1, 1) := by decide +kernel
theorem dX10_comes_25 : decode cX10_comes 25 = .ok (.lload_n 3, 1) := by decide +kernel
theorem dX10_comes_26 : decode cX10_comes 26 = .ok (.invokevirtual 307, 3) := by decide +kernel
theorem dX10_comes_29 : decode cX10_comes 29 = .ok (.istore 9, 2) := by decide +kernel
theorem dX10_comes_31 : decode cX10_comes 31 = .ok (.iload 9, 2) := by decide +kernel
theorem dX10_comes_33 : decode cX10_comes 33 = .ok (.aload_n 0, 1) := by decide +kernel
theorem dX10_comes_34 : decode cX10_comes 34 = .ok (.getfield 129, 3) := by decide +kernel
theorem dX10_comes_37 : decode cX10_comes 37 = .ok (.iload_n 1, 1) := by decide +kernel
theorem dX10_comes_38 : decode cX10_comes 38 = .ok (.iaload, 1) := by decide +kernel
theorem dX10_comes_39 : decode cX10_comes 39 = .ok (.if_icmp .ge 109, 3) := by decide +kernel
theorem dX10_comes_42 : decode cX10_comes 42 = .ok (.lload 7, 2) := by decide +kernel
theorem dX10_comes_44 : decode cX10_comes 44 = .ok (.lload 5, 2) := by decide +kernel
theorem dX10_comes_46 : decode cX10_comes 46 = .ok (.lcmp, 1) := by decide +kernel
theorem dX10_comes_47 : decode cX10_comes 47 = .ok (.ifCond .gt 101, 3) := by decide +kernel
theorem dX10_comes_50 : decode cX10_comes 50 = .ok (.iload 9, 2) := by decide +kernel
theorem dX10_comes_52 : decode cX10_comes 52 = .ok (.iconst 1, 1) := by decide +kernel
theorem dX10_comes_53 : decode cX10_comes 53 = .ok (.iadd, 1) := by decide +kernel
theorem dX10_comes_54 : decode cX10_comes 54 = .ok (.aload_n 0, 1) := by decide +kernel
theorem dX10_comes_55 : decode cX10_comes 55 = .ok (.getfield 129, 3) := by decide +kernel
theorem dX10_comes_58 : decode cX10_comes 58 = .ok (.iload_n 1, 1) := by decide +kernel
theorem dX10_comes_59 : decode cX10_comes 59 = .ok (.iaload, 1) := by decide +kernel
theorem dX10_comes_60 : decode cX10_comes 60 = .ok (.if_icmp .eq 24, 3) := by decide +kernel
theorem dX10_comes_63 : decode cX10_comes 63 = .ok (.aload_n 0, 1) := by decide +kernel
theorem dX10_comes_64 : decode cX10_comes 64 = .ok (.getfield 136, 3) := by decide +kernel
theorem dX10_comes_67 : decode cX10_comes 67 = .ok (.sipush 128, 3) := by decide +kernel
theorem dX10_comes_70 : decode cX10_comes 70 = .ok (.iload_n 1, 1) := by decide +kernel
theorem dX10_comes_71 : decode cX10_comes 71 = .ok (.imul, 1) := by decide +kernel
theorem dX10_comes_72 : decode cX10_comes 72 = .ok (.iload 9, 2) := by decide +kernel
theorem dX10_comes_74 : decode cX10_comes 74 = .ok (.iadd, 1) := by decide +kernel
theorem dX10_comes_75 : decode cX10_comes 75 = .ok (.iconst 1, 1) := by decide +kernel
theorem dX10_comes_76 : decode cX10_comes 76 = .ok (.iadd, 1) := by decide +kernel
theorem dX10_comes_77 : decode cX10_comes 77 = .ok (.laload, 1) := by decide +kernel
theorem dX10_comes_78 : decode cX10_comes 78 = .ok (.lload 5, 2) := by decide +kernel
theorem dX10_comes_80 : decode cX10_comes 80 = .ok (.lcmp, 1) := by decide +kernel
theorem dX10_comes_81 : decode cX10_comes 81 = .ok (.ifCond .le 7, 3) := by decide +kernel
theorem dX10_comes_84 : decode cX10_comes 84 = .ok (.iconst 1, 1) := by decide +kernel
theorem dX10_comes_85 : decode cX10_comes 85 = .ok (.goto 4, 3) := by decide +kernel
theorem dX10_comes_88 : decode cX10_comes 88 = .ok (.iconst 0, 1) := by decide +kernel
theorem dX10_comes_89 : decode cX10_comes 89 = .ok (.istore 10, 2) := by decide +kernel
theorem dX10_comes_91 : decode cX10_comes 91 = .ok (.iload 10, 2) := by decide +kernel
theorem dX10_comes_93 : decode cX10_comes 93 = .ok (.ifCond .eq 8, 3) := by decide +kernel
theorem dX10_comes_96 : decode cX10_comes 96 = .ok (.lload 5, 2) := by decide +kernel
theorem dX10_comes_98 : decode cX10_comes 98 = .ok (.goto 20, 3) := by decide +kernel
theorem dX10_comes_101 : decode cX10_comes 101 = .ok (.aload_n 0, 1) := by decide +kernel
theorem dX10_comes_102 : decode cX10_comes 102 = .ok (.getfield 136, 3) := by decide +kernel
theorem dX10_comes_105 : decode cX10_comes 105 = .ok (.sipush 128, 3) := by decide +kernel
theorem dX10_comes_108 : decode cX10_comes 108 = .ok (.iload_n 1, 1) := by decide +kernel
theorem dX10_comes_109 : decode cX10_comes 109 = .ok (.imul, 1) := by decide +kernel
theorem dX10_comes_110 : decode cX10_comes 110 = .ok (.iload 9, 2) := by decide +kernel
theorem dX10_comes_112 : decode cX10_comes 112 = .ok (.iadd, 1) := by decide +kernel
theorem dX10_comes_113 : decode cX10_comes 113 = .ok (.iconst 1, 1) := by decide +kernel
theorem dX10_comes_114 : decode cX10_comes 114 = .ok (.iadd, 1) := by decide +kernel
theorem dX10_comes_115 : decode cX10_comes 115 = .ok (.laload, 1) := by decide +kernel
theorem dX10_comes_116 : decode cX10_comes 116 = .ok (.lconst 1, 1) := by decide +kernel
theorem dX10_comes_117 : decode cX10_comes 117 = .ok (.lsub, 1) := by decide +kernel
theorem dX10_comes_118 : decode cX10_comes 118 = .ok (.lstore 11, 2) := by decide +kernel
theorem dX10_comes_120 : decode cX10_comes 120 = .ok (.aload_n 0, 1) := by decide +kernel
theorem dX10_comes_121 : decode cX10_comes 121 = .ok (.iload_n 1, 1) := by decide +kernel
theorem dX10_comes_122 : decode cX10_comes 122 = .ok (.iload_n 2, 1) := by decide +kernel
theorem dX10_comes_123 : decode cX10_comes 123 = .ok (.lload 7, 2) := by decide +kernel
theorem dX10_comes_125 : decode cX10_comes 125 = .ok (.lload 11, 2) := by decide +kernel
theorem dX10_comes_127 : decode cX10_comes 127 = .ok (.invokevirtual 303, 3) := by decide +kernel
theorem dX10_comes_130 : decode cX10_comes 130 = .ok (.iload 10, 2) := by decide +kernel
theorem dX10_comes_132 : decode cX10_comes 132 = .ok (.ifCond .eq 4, 3) := by decide +kernel
theorem dX10_comes_135 : decode cX10_comes 135 = .ok (.return_, 1) := by decide +kernel
theorem dX10_comes_136 : decode cX10_comes 136 = .ok (.lload 11, 2) := by decide +kernel
theorem dX10_comes_138 : decode cX10_comes 138 = .ok (.lconst 1, 1) := by decide +kernel
theorem dX10_comes_139 : decode cX10_comes 139 = .ok (.ladd, 1) := by decide +kernel
theorem dX10_comes_140 : decode cX10_comes 140 = .ok (.lstore 7, 2) := by decide +kernel
theorem dX10_comes_142 : decode cX10_comes 142 = .ok (.iinc 9 1, 3) := by decide +kernel
theorem dX10_comes_145 : decode cX10_comes 145 = .ok (.goto (-114), 3) := by decide +kernel
theorem dX10_comes_148 : decode cX10_comes 148 = .ok (.return_, 1) := by decide +kernel
theorem dX10_giveLetters_0 : decode cX10_giveLetters 0 = .ok (.iload_n 2, 1) := by decide +kernel
theorem dX10_giveLetters_1 : decode cX10_giveLetters 1 = .ok (.istore 4, 2) := by decide +kernel
theorem dX10_giveLetters_3 : decode cX10_giveLetters 3 = .ok (.iload 4, 2) := by decide +kernel
theorem dX10_giveLetters_5 : decode cX10_giveLetters 5 = .ok (.iload_n 3, 1) := by decide +kernel
theorem dX10_giveLetters_6 : decode cX10_giveLetters 6 = .ok (.if_icmp .ge 96, 3) := by decide +kernel
theorem dX10_giveLetters_9 : decode cX10_giveLetters 9 = .ok (.aload_n 0, 1) := by decide +kernel
theorem dX10_giveLetters_10 : decode cX10_giveLetters 10 = .ok (.getfield 179, 3) := by decide +kernel
theorem dX10_giveLetters_13 : decode cX10_giveLetters 13 = .ok (.iload 4, 2) := by decide +kernel
theorem dX10_giveLetters_15 : decode cX10_giveLetters 15 = .ok (.iaload, 1) := by decide +kernel
theorem dX10_giveLetters_16 : decode cX10_giveLetters 16 = .ok (.istore 5, 2) := by decide +kernel
theorem dX10_giveLetters_18 : decode cX10_giveLetters 18 = .ok (.aload_n 0, 1) := by decide +kernel
theorem dX10_giveLetters_19 : decode cX10_giveLetters 19 = .ok (.getfield 167, 3) := by decide +kernel
theorem dX10_giveLetters_22 : decode cX10_giveLetters 22 = .ok (.iload 5, 2) := by decide +kernel
theorem dX10_giveLetters_24 : decode cX10_giveLetters 24 = .ok (.iaload, 1) := by decide +kernel
theorem dX10_giveLetters_25 : decode cX10_giveLetters 25 = .ok (.istore 6, 2) := by decide +kernel
theorem dX10_giveLetters_27 : decode cX10_giveLetters 27 = .ok (.aload_n 0, 1) := by decide +kernel
theorem dX10_giveLetters_28 : decode cX10_giveLetters 28 = .ok (.getfield 170, 3) := by decide +kernel
theorem dX10_giveLetters_31 : decode cX10_giveLetters 31 = .ok (.iload 5, 2) := by decide +kernel
theorem dX10_giveLetters_33 : decode cX10_giveLetters 33 = .ok (.laload, 1) := by decide +kernel
theorem dX10_giveLetters_34 : decode cX10_giveLetters 34 = .ok (.lstore 7, 2) := by decide +kernel
theorem dX10_giveLetters_36 : decode cX10_giveLetters 36 = .ok (.aload_n 0, 1) := by decide +kernel
theorem dX10_giveLetters_37 : decode cX10_giveLetters 37 = .ok (.getfield 173, 3) := by decide +kernel
theorem dX10_giveLetters_40 : decode cX10_giveLetters 40 = .ok (.iload 5, 2) := by decide +kernel
theorem dX10_giveLetters_42 : decode cX10_giveLetters 42 = .ok (.laload, 1) := by decide +kernel
theorem dX10_giveLetters_43 : decode cX10_giveLetters 43 = .ok (.lstore 9, 2) := by decide +kernel
theorem dX10_giveLetters_45 : decode cX10_giveLetters 45 = .ok (.aload_n 0, 1) := by decide +kernel
theorem dX10_giveLetters_46 : decode cX10_giveLetters 46 = .ok (.getfield 176, 3) := by decide +kernel
theorem dX10_giveLetters_49 : decode cX10_giveLetters 49 = .ok (.iload 5, 2) := by decide +kernel
theorem dX10_giveLetters_51 : decode cX10_giveLetters 51 = .ok (.aload_n 0, 1) := by decide +kernel
theorem dX10_giveLetters_52 : decode cX10_giveLetters 52 = .ok (.getfield 286, 3) := by decide +kernel
theorem dX10_giveLetters_55 : decode cX10_giveLetters 55 = .ok (.iastore, 1) := by decide +kernel
theorem dX10_giveLetters_56 : decode cX10_giveLetters 56 = .ok (.aload_n 0, 1) := by decide +kernel
theorem dX10_giveLetters_57 : decode cX10_giveLetters 57 = .ok (.iload 5, 2) := by decide +kernel
theorem dX10_giveLetters_59 : decode cX10_giveLetters 59 = .ok (.putfield 286, 3) := by decide +kernel
theorem dX10_giveLetters_62 : decode cX10_giveLetters 62 = .ok (.aload_n 0, 1) := by decide +kernel
theorem dX10_giveLetters_63 : decode cX10_giveLetters 63 = .ok (.getfield 119, 3) := by decide +kernel
theorem dX10_giveLetters_66 : decode cX10_giveLetters 66 = .ok (.iload_n 1, 1) := by decide +kernel
theorem dX10_giveLetters_67 : decode cX10_giveLetters 67 = .ok (.baload, 1) := by decide +kernel
theorem dX10_giveLetters_68 : decode cX10_giveLetters 68 = .ok (.ifCond .eq 17, 3) := by decide +kernel
theorem dX10_giveLetters_71 : decode cX10_giveLetters 71 = .ok (.aload_n 0, 1) := by decide +kernel
theorem dX10_giveLetters_72 : decode cX10_giveLetters 72 = .ok (.iload_n 1, 1) := by decide +kernel
theorem dX10_giveLetters_73 : decode cX10_giveLetters 73 = .ok (.iload 6, 2) := by decide +kernel
theorem dX10_giveLetters_75 : decode cX10_giveLetters 75 = .ok (.lload 7, 2) := by decide +kernel
theorem dX10_giveLetters_77 : decode cX10_giveLetters 77 = .ok (.lload 9, 2) := by decide +kernel
theorem dX10_giveLetters_79 : decode cX10_giveLetters 79 = .ok (.invokevirtual 310, 3) := by decide +kernel
theorem dX10_giveLetters_82 : decode cX10_giveLetters 82 = .ok (.goto 14, 3) := by decide +kernel
theorem dX10_giveLetters_85 : decode cX10_giveLetters 85 = .ok (.aload_n 0, 1) := by decide +kernel
theorem dX10_giveLetters_86 : decode cX10_giveLetters 86 = .ok (.iload_n 1, 1) := by decide +kernel
theorem dX10_giveLetters_87 : decode cX10_giveLetters 87 = .ok (.iload 6, 2) := by decide +kernel
theorem dX10_giveLetters_89 : decode cX10_giveLetters 89 = .ok (.lload 7, 2) := by decide +kernel
theorem dX10_giveLetters_91 : decode cX10_giveLetters 91 = .ok (.lload 9, 2) := by decide +kernel
theorem dX10_giveLetters_93 : decode cX10_giveLetters 93 = .ok (.invokevirtual 313, 3) := by decide +kernel
theorem dX10_giveLetters_96 : decode cX10_giveLetters 96 = .ok (.iinc 4 1, 3) := by decide +kernel
theorem dX10_giveLetters_99 : decode cX10_giveLetters 99 = .ok (.goto (-96), 3) := by decide +kernel
theorem dX10_giveLetters_102 : decode cX10_giveLetters 102 = .ok (.aload_n 0, 1) := by decide +kernel
theorem dX10_giveLetters_103 : decode cX10_giveLetters 103 = .ok (.iload_n 1, 1) := by decide +kernel
theorem dX10_giveLetters_104 : decode cX10_giveLetters 104 = .ok (.invokevirtual 316, 3) := by decide +kernel
theorem dX10_giveLetters_107 : decode cX10_giveLetters 107 = .ok (.return_, 1) := by decide +kernel
theorem dX10_settlePage_0 : decode cX10_settlePage 0 = .ok (.aload_n 0, 1) := by decide +kernel
theorem dX10_settlePage_1 : decode cX10_settlePage 1 = .ok (.getfield 119, 3) := by decide +kernel
theorem dX10_settlePage_4 : decode cX10_settlePage 4 = .ok (.iload_n 1, 1) := by decide +kernel
theorem dX10_settlePage_5 : decode cX10_settlePage 5 = .ok (.baload, 1) := by decide +kernel
theorem dX10_settlePage_6 : decode cX10_settlePage 6 = .ok (.ifCond .ne 23, 3) := by decide +kernel
theorem dX10_settlePage_9 : decode cX10_settlePage 9 = .ok (.aload_n 0, 1) := by decide +kernel
theorem dX10_settlePage_10 : decode cX10_settlePage 10 = .ok (.getfield 145, 3) := by decide +kernel
theorem dX10_settlePage_13 : decode cX10_settlePage 13 = .ok (.iload_n 1, 1) := by decide +kernel
theorem dX10_settlePage_14 : decode cX10_settlePage 14 = .ok (.iaload, 1) := by decide +kernel
theorem dX10_settlePage_15 : decode cX10_settlePage 15 = .ok (.bipush 8, 2) := by decide +kernel
theorem dX10_settlePage_17 : decode cX10_settlePage 17 = .ok (.if_icmp .le 12, 3) := by decide +kernel
theorem dX10_settlePage_20 : decode cX10_settlePage 20 = .ok (.aload_n 0, 1) := by decide +kernel
theorem dX10_settlePage_21 : decode cX10_settlePage 21 = .ok (.iload_n 1, 1) := by decide +kernel
theorem dX10_settlePage_22 : decode cX10_settlePage 22 = .ok (.invokevirtual 320, 3) := by decide +kernel
theorem dX10_settlePage_25 : decode cX10_settlePage 25 = .ok (.istore_n 2, 1) := by decide +kernel
theorem dX10_settlePage_26 : decode cX10_settlePage 26 = .ok (.goto (-26), 3) := by decide +kernel
theorem dX10_settlePage_29 : decode cX10_settlePage 29 = .ok (.return_, 1) := by decide +kernel
theorem dX10_giveRoot_0 : decode cX10_giveRoot 0 = .ok (.aload_n 0, 1) := by decide +kernel
theorem dX10_giveRoot_1 : decode cX10_giveRoot 1 = .ok (.getfield 119, 3) := by decide +kernel
theorem dX10_giveRoot_4 : decode cX10_giveRoot 4 = .ok (.aload_n 0, 1) := by decide +kernel
theorem dX10_giveRoot_5 : decode cX10_giveRoot 5 = .ok (.getfield 277, 3) := by decide +kernel
theorem dX10_giveRoot_8 : decode cX10_giveRoot 8 = .ok (.baload, 1) := by decide +kernel
theorem dX10_giveRoot_9 : decode cX10_giveRoot 9 = .ok (.ifCond .eq 18, 3) := by decide +kernel
theorem dX10_giveRoot_12 : decode cX10_giveRoot 12 = .ok (.aload_n 0, 1) := by decide +kernel
theorem dX10_giveRoot_13 : decode cX10_giveRoot 13 = .ok (.aload_n 0, 1) := by decide +kernel
theorem dX10_giveRoot_14 : decode cX10_giveRoot 14 = .ok (.getfield 277, 3) := by decide +kernel
theorem dX10_giveRoot_17 : decode cX10_giveRoot 17 = .ok (.iload_n 1, 1) := by decide +kernel
theorem dX10_giveRoot_18 : decode cX10_giveRoot 18 = .ok (.lload_n 2, 1) := by decide +kernel
theorem dX10_giveRoot_19 : decode cX10_giveRoot 19 = .ok (.lload 4, 2) := by decide +kernel
theorem dX10_giveRoot_21 : decode cX10_giveRoot 21 = .ok (.invokevirtual 310, 3) := by decide +kernel
theorem dX10_giveRoot_24 : decode cX10_giveRoot 24 = .ok (.goto 23, 3) := by decide +kernel
theorem dX10_giveRoot_27 : decode cX10_giveRoot 27 = .ok (.aload_n 0, 1) := by decide +kernel
theorem dX10_giveRoot_28 : decode cX10_giveRoot 28 = .ok (.aload_n 0, 1) := by decide +kernel
theorem dX10_giveRoot_29 : decode cX10_giveRoot 29 = .ok (.getfield 277, 3) := by decide +kernel
theorem dX10_giveRoot_32 : decode cX10_giveRoot 32 = .ok (.iload_n 1, 1) := by decide +kernel
theorem dX10_giveRoot_33 : decode cX10_giveRoot 33 = .ok (.lload_n 2, 1) := by decide +kernel
theorem dX10_giveRoot_34 : decode cX10_giveRoot 34 = .ok (.lload 4, 2) := by decide +kernel
theorem dX10_giveRoot_36 : decode cX10_giveRoot 36 = .ok (.invokevirtual 313, 3) := by decide +kernel
theorem dX10_giveRoot_39 : decode cX10_giveRoot 39 = .ok (.aload_n 0, 1) := by decide +kernel
theorem dX10_giveRoot_40 : decode cX10_giveRoot 40 = .ok (.aload_n 0, 1) := by decide +kernel
theorem dX10_giveRoot_41 : decode cX10_giveRoot 41 = .ok (.getfield 277, 3) := by decide +kernel
theorem dX10_giveRoot_44 : decode cX10_giveRoot 44 = .ok (.invokevirtual 316, 3) := by decide +kernel
theorem dX10_giveRoot_47 : decode cX10_giveRoot 47 = .ok (.aload_n 0, 1) := by decide +kernel
theorem dX10_giveRoot_48 : decode cX10_giveRoot 48 = .ok (.invokevirtual 324, 3) := by decide +kernel
theorem dX10_giveRoot_51 : decode cX10_giveRoot 51 = .ok (.return_, 1) := by decide +kernel
theorem dX10_sinks_0 : decode cX10_sinks 0 = .ok (.iconst 0, 1) := by decide +kernel
theorem dX10_sinks_1 : decode cX10_sinks 1 = .ok (.istore_n 2, 1) := by decide +kernel
theorem dX10_sinks_2 : decode cX10_sinks 2 = .ok (.iload_n 2, 1) := by decide +kernel
theorem dX10_sinks_3 : decode cX10_sinks 3 = .ok (.aload_n 0, 1) := by decide +kernel
theorem dX10_sinks_4 : decode cX10_sinks 4 = .ok (.getfield 129, 3) := by decide +kernel
theorem dX10_sinks_7 : decode cX10_sinks 7 = .ok (.iload_n 1, 1) := by decide +kernel
theorem dX10_sinks_8 : decode cX10_sinks 8 = .ok (.iaload, 1) := by decide +kernel
theorem dX10_sinks_9 : decode cX10_sinks 9 = .ok (.if_icmp .ge 16, 3) := by decide +kernel
theorem dX10_sinks_12 : decode cX10_sinks 12 = .ok (.aload_n 0, 1) := by decide +kernel
theorem dX10_sinks_13 : decode cX10_sinks 13 = .ok (.getfield 182, 3) := by decide +kernel
theorem dX10_sinks_16 : decode cX10_sinks 16 = .ok (.iload_n 2, 1) := by decide +kernel
theorem dX10_sinks_17 : decode cX10_sinks 17 = .ok (.iconst 0, 1) := by decide +kernel
theorem dX10_sinks_18 : decode cX10_sinks 18 = .ok (.iastore, 1) := by decide +kernel
theorem dX10_sinks_19 : decode cX10_sinks 19 = .ok (.iinc 2 1, 3) := by decide +kernel
theorem dX10_sinks_22 : decode cX10_sinks 22 = .ok (.goto (-20), 3) := by decide +kernel
theorem dX10_sinks_25 : decode cX10_sinks 25 = .ok (.aload_n 0, 1) := by decide +kernel
theorem dX10_sinks_26 : decode cX10_sinks 26 = .ok (.getfield 139, 3) := by decide +kernel
theorem dX10_sinks_29 : decode cX10_sinks 29 = .ok (.iload_n 1, 1) := by decide +kernel
theorem dX10_sinks_30 : decode cX10_sinks 30 = .ok (.iaload, 1) := by decide +kernel
theorem dX10_sinks_31 : decode cX10_sinks 31 = .ok (.istore_n 2, 1) := by decide +kernel
theorem dX10_sinks_32 : decode cX10_sinks 32 = .ok (.iload_n 2, 1) := by decide +kernel
theorem dX10_sinks_33 : decode cX10_sinks 33 = .ok (.iconst (-1), 1) := by decide +kernel
theorem dX10_sinks_34 : decode cX10_sinks 34 = .ok (.if_icmp .eq 33, 3) := by decide +kernel
theorem dX10_sinks_37 : decode cX10_sinks 37 = .ok (.aload_n 0, 1) := by decide +kernel
theorem dX10_sinks_38 : decode cX10_sinks 38 = .ok (.getfield 182, 3) := by decide +kernel
theorem dX10_sinks_41 : decode cX10_sinks 41 = .ok (.aload_n 0, 1) := by decide +kernel
theorem dX10_sinks_42 : decode cX10_sinks 42 = .ok (.iload_n 1, 1) := by decide +kernel
theorem dX10_sinks_43 : decode cX10_sinks 43 = .ok (.aload_n 0, 1) := by decide +kernel
theorem dX10_sinks_44 : decode cX10_sinks 44 = .ok (.getfield 170, 3) := by decide +kernel
theorem dX10_sinks_47 : decode cX10_sinks 47 = .ok (.iload_n 2, 1) := by decide +kernel
theorem dX10_sinks_48 : decode cX10_sinks 48 = .ok (.laload, 1) := by decide +kernel
theorem dX10_sinks_49 : decode cX10_sinks 49 = .ok (.invokevirtual 307, 3) := by decide +kernel
theorem dX10_sinks_52 : decode cX10_sinks 52 = .ok (.dup2, 1) := by decide +kernel
theorem dX10_sinks_53 : decode cX10_sinks 53 = .ok (.iaload, 1) := by decide +kernel
theorem dX10_sinks_54 : decode cX10_sinks 54 = .ok (.iconst 1, 1) := by decide +kernel
theorem dX10_sinks_55 : decode cX10_sinks 55 = .ok (.iadd, 1) := by decide +kernel
theorem dX10_sinks_56 : decode cX10_sinks 56 = .ok (.iastore, 1) := by decide +kernel
theorem dX10_sinks_57 : decode cX10_sinks 57 = .ok (.aload_n 0, 1) := by decide +kernel
theorem dX10_sinks_58 : decode cX10_sinks 58 = .ok (.getfield 176, 3) := by decide +kernel
theorem dX10_sinks_61 : decode cX10_sinks 61 = .ok (.iload_n 2, 1) := by decide +kernel
theorem dX10_sinks_62 : decode cX10_sinks 62 = .ok (.iaload, 1) := by decide +kernel
theorem dX10_sinks_63 : decode cX10_sinks 63 = .ok (.istore_n 2, 1) := by decide +kernel
theorem dX10_sinks_64 : decode cX10_sinks 64 = .ok (.goto (-32), 3) := by decide +kernel
theorem dX10_sinks_67 : decode cX10_sinks 67 = .ok (.iconst 0, 1) := by decide +kernel
theorem dX10_sinks_68 : decode cX10_sinks 68 = .ok (.istore_n 2, 1) := by decide +kernel
theorem dX10_sinks_69 : decode cX10_sinks 69 = .ok (.iconst 1, 1) := by decide +kernel
theorem dX10_sinks_70 : decode cX10_sinks 70 = .ok (.istore_n 3, 1) := by decide +kernel
theorem dX10_sinks_71 : decode cX10_sinks 71 = .ok (.iload_n 3, 1) := by decide +kernel
theorem dX10_sinks_72 : decode cX10_sinks 72 = .ok (.aload_n 0, 1) := by decide +kernel
theorem dX10_sinks_73 : decode cX10_sinks 73 = .ok (.getfield 129, 3) := by decide +kernel
theorem dX10_sinks_76 : decode cX10_sinks 76 = .ok (.iload_n 1, 1) := by decide +kernel
theorem dX10_sinks_77 : decode cX10_sinks 77 = .ok (.iaload, 1) := by decide +kernel
theorem dX10_sinks_78 : decode cX10_sinks 78 = .ok (.if_icmp .ge 26, 3) := by decide +kernel
theorem dX10_sinks_81 : decode cX10_sinks 81 = .ok (.aload_n 0, 1) := by decide +kernel
theorem dX10_sinks_82 : decode cX10_sinks 82 = .ok (.getfield 182, 3) := by decide +kernel
theorem dX10_sinks_85 : decode cX10_sinks 85 = .ok (.iload_n 3, 1) := by decide +kernel
theorem dX10_sinks_86 : decode cX10_sinks 86 = .ok (.iaload, 1) := by decide +kernel
theorem dX10_sinks_87 : decode cX10_sinks 87 = .ok (.aload_n 0, 1) := by decide +kernel
theorem dX10_sinks_88 : decode cX10_sinks 88 = .ok (.getfield 182, 3) := by decide +kernel
theorem dX10_sinks_91 : decode cX10_sinks 91 = .ok (.iload_n 2, 1) := by decide +kernel
theorem dX10_sinks_92 : decode cX10_sinks 92 = .ok (.iaload, 1) := by decide +kernel
theorem dX10_sinks_93 : decode cX10_sinks 93 = .ok (.if_icmp .le 5, 3) := by decide +kernel
theorem dX10_sinks_96 : decode cX10_sinks 96 = .ok (.iload_n 3, 1) := by decide +kernel
theorem dX10_sinks_97 : decode cX10_sinks 97 = .ok (.istore_n 2, 1) := by decide +kernel
theorem dX10_sinks_98 : decode cX10_sinks 98 = .ok (.iinc 3 1, 3) := by decide +kernel
theorem dX10_sinks_101 : decode cX10_sinks 101 = .ok (.goto (-30), 3) := by decide +kernel
theorem dX10_sinks_104 : decode cX10_sinks 104 = .ok (.aload_n 0, 1) := by decide +kernel
theorem dX10_sinks_105 : decode cX10_sinks 105 = .ok (.getfield 182, 3) := by decide +kernel
theorem dX10_sinks_108 : decode cX10_sinks 108 = .ok (.iload_n 2, 1) := by decide +kernel
theorem dX10_sinks_109 : decode cX10_sinks 109 = .ok (.iaload, 1) := by decide +kernel
theorem dX10_sinks_110 : decode cX10_sinks 110 = .ok (.istore_n 3, 1) := by decide +kernel
theorem dX10_sinks_111 : decode cX10_sinks 111 = .ok (.aload_n 0, 1) := by decide +kernel
theorem dX10_sinks_112 : decode cX10_sinks 112 = .ok (.getfield 327, 3) := by decide +kernel
theorem dX10_sinks_115 : decode cX10_sinks 115 = .ok (.istore 4, 2) := by decide +kernel
theorem dX10_sinks_117 : decode cX10_sinks 117 = .ok (.aload_n 0, 1) := by decide +kernel
theorem dX10_sinks_118 : decode cX10_sinks 118 = .ok (.getfield 139, 3) := by decide +kernel
theorem dX10_sinks_121 : decode cX10_sinks 121 = .ok (.iload_n 1, 1) := by decide +kernel
theorem dX10_sinks_122 : decode cX10_sinks 122 = .ok (.iaload, 1) := by decide +kernel
theorem dX10_sinks_123 : decode cX10_sinks 123 = .ok (.istore 5, 2) := by decide +kernel
theorem dX10_sinks_125 : decode cX10_sinks 125 = .ok (.aload_n 0, 1) := by decide +kernel
theorem dX10_sinks_126 : decode cX10_sinks 126 = .ok (.getfield 139, 3) := by decide +kernel
theorem dX10_sinks_129 : decode cX10_sinks 129 = .ok (.iload_n 1, 1) := by decide +kernel
theorem dX10_sinks_130 : decode cX10_sinks 130 = .ok (.iconst (-1), 1) := by decide +kernel
theorem dX10_sinks_131 : decode cX10_sinks 131 = .ok (.iastore, 1) := by decide +kernel
theorem dX10_sinks_132 : decode cX10_sinks 132 = .ok (.aload_n 0, 1) := by decide +kernel
theorem dX10_sinks_133 : decode cX10_sinks 133 = .ok (.getfield 142, 3) := by decide +kernel
theorem dX10_sinks_136 : decode cX10_sinks 136 = .ok (.iload_n 1, 1) := by decide +kernel
theorem dX10_sinks_137 : decode cX10_sinks 137 = .ok (.iconst (-1), 1) := by decide +kernel
theorem dX10_sinks_138 : decode cX10_sinks 138 = .ok (.iastore, 1) := by decide +kernel
theorem dX10_sinks_139 : decode cX10_sinks 139 = .ok (.aload_n 0, 1) := by decide +kernel
theorem dX10_sinks_140 : decode cX10_sinks 140 = .ok (.getfield 145, 3) := by decide +kernel
theorem dX10_sinks_143 : decode cX10_sinks 143 = .ok (.iload_n 1, 1) := by decide +kernel
theorem dX10_sinks_144 : decode cX10_sinks 144 = .ok (.iconst 0, 1) := by decide +kernel
theorem dX10_sinks_145 : decode cX10_sinks 145 = .ok (.iastore, 1) := by decide +kernel
theorem dX10_sinks_146 : decode cX10_sinks 146 = .ok (.iload 5, 2) := by decide +kernel
theorem dX10_sinks_148 : decode cX10_sinks 148 = .ok (.iconst (-1), 1) := by decide +kernel
theorem dX10_sinks_149 : decode cX10_sinks 149 = .ok (.if_icmp .eq 66, 3) := by decide +kernel
theorem dX10_sinks_152 : decode cX10_sinks 152 = .ok (.aload_n 0, 1) := by decide +kernel
theorem dX10_sinks_153 : decode cX10_sinks 153 = .ok (.getfield 176, 3) := by decide +kernel
theorem dX10_sinks_156 : decode cX10_sinks 156 = .ok (.iload 5, 2) := by decide +kernel
theorem dX10_sinks_158 : decode cX10_sinks 158 = .ok (.iaload, 1) := by decide +kernel
theorem dX10_sinks_159 : decode cX10_sinks 159 = .ok (.istore 6, 2) := by decide +kernel
theorem dX10_sinks_161 : decode cX10_sinks 161 = .ok (.aload_n 0, 1) := by decide +kernel
theorem dX10_sinks_162 : decode cX10_sinks 162 = .ok (.iload_n 1, 1) := by decide +kernel
theorem dX10_sinks_163 : decode cX10_sinks 163 = .ok (.aload_n 0, 1) := by decide +kernel
theorem dX10_sinks_164 : decode cX10_sinks 164 = .ok (.getfield 170, 3) := by decide +kernel
theorem dX10_sinks_167 : decode cX10_sinks 167 = .ok (.iload 5, 2) := by decide +kernel
theorem dX10_sinks_169 : decode cX10_sinks 169 = .ok (.laload, 1) := by decide +kernel
theorem dX10_sinks_170 : decode cX10_sinks 170 = .ok (.invokevirtual 307, 3) := by decide +kernel
theorem dX10_sinks_173 : decode cX10_sinks 173 = .ok (.iload_n 2, 1) := by decide +kernel
theorem dX10_sinks_174 : decode cX10_sinks 174 = .ok (.if_icmp .ne 27, 3) := by decide +kernel
theorem dX10_sinks_177 : decode cX10_sinks 177 = .ok (.aload_n 0, 1) := by decide +kernel
theorem dX10_sinks_178 : decode cX10_sinks 178 = .ok (.getfield 179, 3) := by decide +kernel
theorem dX10_sinks_181 : decode cX10_sinks 181 = .ok (.aload_n 0, 1) := by decide +kernel
theorem dX10_sinks_182 : decode cX10_sinks 182 = .ok (.getfield 327, 3) := by decide +kernel
theorem dX10_sinks_185 : decode cX10_sinks 185 = .ok (.iload 5, 2) := by decide +kernel
theorem dX10_sinks_187 : decode cX10_sinks 187 = .ok (.iastore, 1) := by decide +kernel
theorem dX10_sinks_188 : decode cX10_sinks 188 = .ok (.aload_n 0, 1) := by decide +kernel
theorem dX10_sinks_189 : decode cX10_sinks 189 = .ok (.dup, 1) := by decide +kernel
theorem dX10_sinks_190 : decode cX10_sinks 190 = .ok (.getfield 327, 3) := by decide +kernel
theorem dX10_sinks_193 : decode cX10_sinks 193 = .ok (.iconst 1, 1) := by decide +kernel
theorem dX10_sinks_194 : decode cX10_sinks 194 = .ok (.iadd, 1) := by decide +kernel
theorem dX10_sinks_195 : decode cX10_sinks 195 = .ok (.putfield 327, 3) := by decide +kernel
theorem dX10_sinks_198 : decode cX10_sinks 198 = .ok (.goto 10, 3) := by decide +kernel
theorem dX10_sinks_201 : decode cX10_sinks 201 = .ok (.aload_n 0, 1) := by decide +kernel
theorem dX10_sinks_202 : decode cX10_sinks 202 = .ok (.iload_n 1, 1) := by decide +kernel
theorem dX10_sinks_203 : decode cX10_sinks 203 = .ok (.iload 5, 2) := by decide +kernel
theorem dX10_sinks_205 : decode cX10_sinks 205 = .ok (.invokevirtual 289, 3) := by decide +kernel
theorem dX10_sinks_208 : decode cX10_sinks 208 = .ok (.iload 6, 2) := by decide +kernel
theorem dX10_sinks_210 : decode cX10_sinks 210 = .ok (.istore 5, 2) := by decide +kernel
theorem dX10_sinks_212 : decode cX10_sinks 212 = .ok (.goto (-66), 3) := by decide +kernel
theorem dX10_sinks_215 : decode cX10_sinks 215 = .ok (.aload_n 0, 1) := by decide +kernel
theorem dX10_sinks_216 : decode cX10_sinks 216 = .ok (.getfield 148, 3) := by decide +kernel
theorem dX10_sinks_219 : decode cX10_sinks 219 = .ok (.iload_n 1, 1) := by decide +kernel
theorem dX10_sinks_220 : decode cX10_sinks 220 = .ok (.iconst (-1), 1) := by decide +kernel
theorem dX10_sinks_221 : decode cX10_sinks 221 = .ok (.iastore, 1) := by decide +kernel
theorem dX10_sinks_222 : decode cX10_sinks 222 = .ok (.aload_n 0, 1) := by decide +kernel
theorem dX10_sinks_223 : decode cX10_sinks 223 = .ok (.getfield 133, 3) := by decide +kernel
theorem dX10_sinks_226 : decode cX10_sinks 226 = .ok (.sipush 128, 3) := by decide +kernel
theorem dX10_sinks_229 : decode cX10_sinks 229 = .ok (.iload_n 1, 1) := by decide +kernel
theorem dX10_sinks_230 : decode cX10_sinks 230 = .ok (.imul, 1) := by decide +kernel
theorem dX10_sinks_231 : decode cX10_sinks 231 = .ok (.iload_n 2, 1) := by decide +kernel
theorem dX10_sinks_232 : decode cX10_sinks 232 = .ok (.iadd, 1) := by decide +kernel
theorem dX10_sinks_233 : decode cX10_sinks 233 = .ok (.iaload, 1) := by decide +kernel
theorem dX10_sinks_234 : decode cX10_sinks 234 = .ok (.istore 6, 2) := by decide +kernel
theorem dX10_sinks_236 : decode cX10_sinks 236 = .ok (.aload_n 0, 1) := by decide +kernel
theorem dX10_sinks_237 : decode cX10_sinks 237 = .ok (.iload 6, 2) := by decide +kernel
theorem dX10_sinks_239 : decode cX10_sinks 239 = .ok (.iload 4, 2) := by decide +kernel
theorem dX10_sinks_241 : decode cX10_sinks 241 = .ok (.aload_n 0, 1) := by decide +kernel
theorem dX10_sinks_242 : decode cX10_sinks 242 = .ok (.getfield 327, 3) := by decide +kernel
theorem dX10_sinks_245 : decode cX10_sinks 245 = .ok (.invokevirtual 330, 3) := by decide +kernel
theorem dX10_sinks_248 : decode cX10_sinks 248 = .ok (.aload_n 0, 1) := by decide +kernel
theorem dX10_sinks_249 : decode cX10_sinks 249 = .ok (.iload 4, 2) := by decide +kernel
theorem dX10_sinks_251 : decode cX10_sinks 251 = .ok (.putfield 327, 3) := by decide +kernel
theorem dX10_sinks_254 : decode cX10_sinks 254 = .ok (.aload_n 0, 1) := by decide +kernel
theorem dX10_sinks_255 : decode cX10_sinks 255 = .ok (.iload_n 1, 1) := by decide +kernel
theorem dX10_sinks_256 : decode cX10_sinks 256 = .ok (.iload_n 2, 1) := by decide +kernel
theorem dX10_sinks_257 : decode cX10_sinks 257 = .ok (.invokevirtual 334, 3) := by decide +kernel
theorem dX10_sinks_260 : decode cX10_sinks 260 = .ok (.iload_n 3, 1) := by decide +kernel
theorem dX10_sinks_261 : decode cX10_sinks 261 = .ok (.ireturn, 1) := by decide +kernel
theorem dX10_isTooBig_0 : decode cX10_isTooBig 0 = .ok (.aload_n 0, 1) := by decide +kernel
theorem dX10_isTooBig_1 : decode cX10_isTooBig 1 = .ok (.getfield 119, 3) := by decide +kernel
theorem dX10_isTooBig_4 : decode cX10_isTooBig 4 = .ok (.iload_n 1, 1) := by decide +kernel
theorem dX10_isTooBig_5 : decode cX10_isTooBig 5 = .ok (.baload, 1) := by decide +kernel
theorem dX10_isTooBig_6 : decode cX10_isTooBig 6 = .ok (.ifCond .eq 22, 3) := by decide +kernel
theorem dX10_isTooBig_9 : decode cX10_isTooBig 9 = .ok (.aload_n 0, 1) := by decide +kernel
theorem dX10_isTooBig_10 : decode cX10_isTooBig 10 = .ok (.getfield 126, 3) := by decide +kernel
theorem dX10_isTooBig_13 : decode cX10_isTooBig 13 = .ok (.iload_n 1, 1) := by decide +kernel
theorem dX10_isTooBig_14 : decode cX10_isTooBig 14 = .ok (.iaload, 1) := by decide +kernel
theorem dX10_isTooBig_15 : decode cX10_isTooBig 15 = .ok (.bipush 6, 2) := by decide +kernel
theorem dX10_isTooBig_17 : decode cX10_isTooBig 17 = .ok (.if_icmp .le 7, 3) := by decide +kernel
theorem dX10_isTooBig_20 : decode cX10_isTooBig 20 = .ok (.iconst 1, 1) := by decide +kernel
theorem dX10_isTooBig_21 : decode cX10_isTooBig 21 = .ok (.goto 22, 3) := by decide +kernel
theorem dX10_isTooBig_24 : decode cX10_isTooBig 24 = .ok (.iconst 0, 1) := by decide +kernel
theorem dX10_isTooBig_25 : decode cX10_isTooBig 25 = .ok (.goto 18, 3) := by decide +kernel
theorem dX10_isTooBig_28 : decode cX10_isTooBig 28 = .ok (.aload_n 0, 1) := by decide +kernel
theorem dX10_isTooBig_29 : decode cX10_isTooBig 29 = .ok (.getfield 129, 3) := by decide +kernel
theorem dX10_isTooBig_32 : decode cX10_isTooBig 32 = .ok (.iload_n 1, 1) := by decide +kernel
theorem dX10_isTooBig_33 : decode cX10_isTooBig 33 = .ok (.iaload, 1) := by decide +kernel
theorem dX10_isTooBig_34 : decode cX10_isTooBig 34 = .ok (.iconst 5, 1) := by decide +kernel
theorem dX10_isTooBig_35 : decode cX10_isTooBig 35 = .ok (.if_icmp .le 7, 3) := by decide +kernel
theorem dX10_isTooBig_38 : decode cX10_isTooBig 38 = .ok (.iconst 1, 1) := by decide +kernel
theorem dX10_isTooBig_39 : decode cX10_isTooBig 39 = .ok (.goto 4, 3) := by decide +kernel
theorem dX10_isTooBig_42 : decode cX10_isTooBig 42 = .ok (.iconst 0, 1) := by decide +kernel
theorem dX10_isTooBig_43 : decode cX10_isTooBig 43 = .ok (.ireturn, 1) := by decide +kernel
theorem dX10_partOf_0 : decode cX10_partOf 0 = .ok (.aload_n 0, 1) := by decide +kernel
theorem dX10_partOf_1 : decode cX10_partOf 1 = .ok (.getfield 119, 3) := by decide +kernel
theorem dX10_partOf_4 : decode cX10_partOf 4 = .ok (.iload_n 1, 1) := by decide +kernel
theorem dX10_partOf_5 : decode cX10_partOf 5 = .ok (.baload, 1) := by decide +kernel
theorem dX10_partOf_6 : decode cX10_partOf 6 = .ok (.ifCond .eq 12, 3) := by decide +kernel
theorem dX10_partOf_9 : decode cX10_partOf 9 = .ok (.aload_n 0, 1) := by decide +kernel
theorem dX10_partOf_10 : decode cX10_partOf 10 = .ok (.getfield 126, 3) := by decide +kernel
theorem dX10_partOf_13 : decode cX10_partOf 13 = .ok (.iload_n 1, 1) := by decide +kernel
theorem dX10_partOf_14 : decode cX10_partOf 14 = .ok (.iaload, 1) := by decide +kernel
theorem dX10_partOf_15 : decode cX10_partOf 15 = .ok (.goto 9, 3) := by decide +kernel
theorem dX10_partOf_18 : decode cX10_partOf 18 = .ok (.aload_n 0, 1) := by decide +kernel
theorem dX10_partOf_19 : decode cX10_partOf 19 = .ok (.getfield 129, 3) := by decide +kernel
theorem dX10_partOf_22 : decode cX10_partOf 22 = .ok (.iload_n 1, 1) := by decide +kernel
theorem dX10_partOf_23 : decode cX10_partOf 23 = .ok (.iaload, 1) := by decide +kernel
theorem dX10_partOf_24 : decode cX10_partOf 24 = .ok (.istore_n 2, 1) := by decide +kernel
theorem dX10_partOf_25 : decode cX10_partOf 25 = .ok (.aload_n 0, 1) := by decide +kernel
theorem dX10_partOf_26 : decode cX10_partOf 26 = .ok (.getfield 119, 3) := by decide +kernel
theorem dX10_partOf_29 : decode cX10_partOf 29 = .ok (.iload_n 1, 1) := by decide +kernel
theorem dX10_partOf_30 : decode cX10_partOf 30 = .ok (.baload, 1) := by decide +kernel
theorem dX10_partOf_31 : decode cX10_partOf 31 = .ok (.ifCond .eq 8, 3) := by decide +kernel
theorem dX10_partOf_34 : decode cX10_partOf 34 = .ok (.bipush 6, 2) := by decide +kernel
theorem dX10_partOf_36 : decode cX10_partOf 36 = .ok (.goto 4, 3) := by decide +kernel
theorem dX10_partOf_39 : decode cX10_partOf 39 = .ok (.iconst 5, 1) := by decide +kernel
theorem dX10_partOf_40 : decode cX10_partOf 40 = .ok (.istore_n 3, 1) := by decide +kernel
theorem dX10_partOf_41 : decode cX10_partOf 41 = .ok (.aload_n 0, 1) := by decide +kernel
theorem dX10_partOf_42 : decode cX10_partOf 42 = .ok (.iload_n 2, 1) := by decide +kernel
theorem dX10_partOf_43 : decode cX10_partOf 43 = .ok (.iload_n 3, 1) := by decide +kernel
theorem dX10_partOf_44 : decode cX10_partOf 44 = .ok (.iadd, 1) := by decide +kernel
theorem dX10_partOf_45 : decode cX10_partOf 45 = .ok (.iconst 1, 1) := by decide +kernel
theorem dX10_partOf_46 : decode cX10_partOf 46 = .ok (.isub, 1) := by decide +kernel
theorem dX10_partOf_47 : decode cX10_partOf 47 = .ok (.iload_n 3, 1) := by decide +kernel
theorem dX10_partOf_48 : decode cX10_partOf 48 = .ok (.idiv, 1) := by decide +kernel
theorem dX10_partOf_49 : decode cX10_partOf 49 = .ok (.putfield 337, 3) := by decide +kernel
theorem dX10_partOf_52 : decode cX10_partOf 52 = .ok (.iconst 0, 1) := by decide +kernel
theorem dX10_partOf_53 : decode cX10_partOf 53 = .ok (.istore 4, 2) := by decide +kernel
theorem dX10_partOf_55 : decode cX10_partOf 55 = .ok (.aload_n 0, 1) := by decide +kernel
theorem dX10_partOf_56 : decode cX10_partOf 56 = .ok (.getfield 123, 3) := by decide +kernel
theorem dX10_partOf_59 : decode cX10_partOf 59 = .ok (.iload_n 1, 1) := by decide +kernel
theorem dX10_partOf_60 : decode cX10_partOf 60 = .ok (.iaload, 1) := by decide +kernel
theorem dX10_partOf_61 : decode cX10_partOf 61 = .ok (.istore 5, 2) := by decide +kernel
theorem dX10_partOf_63 : decode cX10_partOf 63 = .ok (.iconst 0, 1) := by decide +kernel
theorem dX10_partOf_64 : decode cX10_partOf 64 = .ok (.istore 6, 2) := by decide +kernel
theorem dX10_partOf_66 : decode cX10_partOf 66 = .ok (.iload 6, 2) := by decide +kernel
theorem dX10_partOf_68 : decode cX10_partOf 68 = .ok (.aload_n 0, 1) := by decide +kernel
theorem dX10_partOf_69 : decode cX10_partOf 69 = .ok (.getfield 337, 3) := by decide +kernel
theorem dX10_partOf_72 : decode cX10_partOf 72 = .ok (.if_icmp .ge 257, 3) := by decide +kernel
theorem dX10_partOf_75 : decode cX10_partOf 75 = .ok (.iload_n 2, 1) := by decide +kernel
theorem dX10_partOf_76 : decode cX10_partOf 76 = .ok (.aload_n 0, 1) := by decide +kernel
theorem dX10_partOf_77 : decode cX10_partOf 77 = .ok (.getfield 337, 3) := by decide +kernel
theorem dX10_partOf_80 : decode cX10_partOf 80 = .ok (.idiv, 1) := by decide +kernel
theorem dX10_partOf_81 : decode cX10_partOf 81 = .ok (.iload 6, 2) := by decide +kernel
theorem dX10_partOf_83 : decode cX10_partOf 83 = .ok (.iload_n 2, 1) := by decide +kernel
theorem dX10_partOf_84 : decode cX10_partOf 84 = .ok (.aload_n 0, 1) := by decide +kernel
theorem dX10_partOf_85 : decode cX10_partOf 85 = .ok (.getfield 337, 3) := by decide +kernel
theorem dX10_partOf_88 : decode cX10_partOf 88 = .ok (.irem, 1) := by decide +kernel
theorem dX10_partOf_89 : decode cX10_partOf 89 = .ok (.if_icmp .ge 7, 3) := by decide +kernel
theorem dX10_partOf_92 : decode cX10_partOf 92 = .ok (.iconst 1, 1) := by decide +kernel
theorem dX10_partOf_93 : decode cX10_partOf 93 = .ok (.goto 4, 3) := by decide +kernel
theorem dX10_partOf_96 : decode cX10_partOf 96 = .ok (.iconst 0, 1) := by decide +kernel
theorem dX10_partOf_97 : decode cX10_partOf 97 = .ok (.iadd, 1) := by decide +kernel
theorem dX10_partOf_98 : decode cX10_partOf 98 = .ok (.istore 7, 2) := by decide +kernel
theorem dX10_partOf_100 : decode cX10_partOf 100 = .ok (.aload_n 0, 1) := by decide +kernel
theorem dX10_partOf_101 : decode cX10_partOf 101 = .ok (.aload_n 0, 1) := by decide +kernel
theorem dX10_partOf_102 : decode cX10_partOf 102 = .ok (.getfield 119, 3) := by decide +kernel
theorem dX10_partOf_105 : decode cX10_partOf 105 = .ok (.iload_n 1, 1) := by decide +kernel
theorem dX10_partOf_106 : decode cX10_partOf 106 = .ok (.baload, 1) := by decide +kernel
theorem dX10_partOf_107 : decode cX10_partOf 107 = .ok (.invokevirtual 273, 3) := by decide +kernel
theorem dX10_partOf_110 : decode cX10_partOf 110 = .ok (.istore 8, 2) := by decide +kernel
theorem dX10_partOf_112 : decode cX10_partOf 112 = .ok (.aload_n 0, 1) := by decide +kernel
theorem dX10_partOf_113 : decode cX10_partOf 113 = .ok (.getfield 185, 3) := by decide +kernel
theorem dX10_partOf_116 : decode cX10_partOf 116 = .ok (.iload 6, 2) := by decide +kernel
theorem dX10_partOf_118 : decode cX10_partOf 118 = .ok (.iload 8, 2) := by decide +kernel
theorem dX10_partOf_120 : decode cX10_partOf 120 = .ok (.iastore, 1) := by decide +kernel
theorem dX10_partOf_121 : decode cX10_partOf 121 = .ok (.aload_n 0, 1) := by decide +kernel
theorem dX10_partOf_122 : decode cX10_partOf 122 = .ok (.getfield 119, 3) := by decide +kernel
theorem dX10_partOf_125 : decode cX10_partOf 125 = .ok (.iload_n 1, 1) := by decide +kernel
theorem dX10_partOf_126 : decode cX10_partOf 126 = .ok (.baload, 1) := by decide +kernel
theorem dX10_partOf_127 : decode cX10_partOf 127 = .ok (.ifCond .eq 84, 3) := by decide +kernel
theorem dX10_partOf_130 : decode cX10_partOf 130 = .ok (.aload_n 0, 1) := by decide +kernel
theorem dX10_partOf_131 : decode cX10_partOf 131 = .ok (.getfield 188, 3) := by decide +kernel
theorem dX10_partOf_134 : decode cX10_partOf 134 = .ok (.iload 6, 2) := by decide +kernel
theorem dX10_partOf_136 : decode cX10_partOf 136 = .ok (.aload_n 0, 1) := by decide +kernel
theorem dX10_partOf_137 : decode cX10_partOf 137 = .ok (.getfield 154, 3) := by decide +kernel
theorem dX10_partOf_140 : decode cX10_partOf 140 = .ok (.iload 5, 2) := by decide +kernel
theorem dX10_partOf_142 : decode cX10_partOf 142 = .ok (.laload, 1) := by decide +kernel
theorem dX10_partOf_143 : decode cX10_partOf 143 = .ok (.lastore, 1) := by decide +kernel
theorem dX10_partOf_144 : decode cX10_partOf 144 = .ok (.aload_n 0, 1) := by decide +kernel
theorem dX10_partOf_145 : decode cX10_partOf 145 = .ok (.getfield 123, 3) := by decide +kernel
theorem dX10_partOf_148 : decode cX10_partOf 148 = .ok (.iload 8, 2) := by decide +kernel
theorem dX10_partOf_150 : decode cX10_partOf 150 = .ok (.iload 5, 2) := by decide +kernel
theorem dX10_partOf_152 : decode cX10_partOf 152 = .ok (.iastore, 1) := by decide +kernel
theorem dX10_partOf_153 : decode cX10_partOf 153 = .ok (.aload_n 0, 1) := by decide +kernel
theorem dX10_partOf_154 : decode cX10_partOf 154 = .ok (.getfield 126, 3) := by decide +kernel
theorem dX10_partOf_157 : decode cX10_partOf 157 = .ok (.iload 8, 2) := by decide +kernel
theorem dX10_partOf_159 : decode cX10_partOf 159 = .ok (.iload 7, 2) := by decide +kernel
theorem dX10_partOf_161 : decode cX10_partOf 161 = .ok (.iastore, 1) := by decide +kernel
theorem dX10_partOf_162 : decode cX10_partOf 162 = .ok (.iconst 1, 1) := by decide +kernel
theorem dX10_partOf_163 : decode cX10_partOf 163 = .ok (.istore 9, 2) := by decide +kernel
theorem dX10_partOf_165 : decode cX10_partOf 165 = .ok (.iload 9, 2) := by decide +kernel
theorem dX10_partOf_167 : decode cX10_partOf 167 = .ok (.iload 7, 2) := by decide +kernel
theorem dX10_partOf_169 : decode cX10_partOf 169 = .ok (.if_icmp .ge 18, 3) := by decide +kernel
theorem dX10_partOf_172 : decode cX10_partOf 172 = .ok (.aload_n 0, 1) := by decide +kernel
theorem dX10_partOf_173 : decode cX10_partOf 173 = .ok (.getfield 164, 3) := by decide +kernel
theorem dX10_partOf_176 : decode cX10_partOf 176 = .ok (.iload 5, 2) := by decide +kernel
theorem dX10_partOf_178 : decode cX10_partOf 178 = .ok (.iaload, 1) := by decide +kernel
theorem dX10_partOf_179 : decode cX10_partOf 179 = .ok (.istore 5, 2) := by decide +kernel
theorem dX10_partOf_181 : decode cX10_partOf 181 = .ok (.iinc 9 1, 3) := by decide +kernel
theorem dX10_partOf_184 : decode cX10_partOf 184 = .ok (.goto (-19), 3) := by decide +kernel
theorem dX10_partOf_187 : decode cX10_partOf 187 = .ok (.aload_n 0, 1) := by decide +kernel
theorem dX10_partOf_188 : decode cX10_partOf 188 = .ok (.getfield 164, 3) := by decide +kernel
theorem dX10_partOf_191 : decode cX10_partOf 191 = .ok (.iload 5, 2) := by decide +kernel
theorem dX10_partOf_193 : decode cX10_partOf 193 = .ok (.iaload, 1) := by decide +kernel
theorem dX10_partOf_194 : decode cX10_partOf 194 = .ok (.istore 9, 2) := by decide +kernel
theorem dX10_partOf_196 : decode cX10_partOf 196 = .ok (.aload_n 0, 1) := by decide +kernel
theorem dX10_partOf_197 : decode cX10_partOf 197 = .ok (.getfield 164, 3) := by decide +kernel
theorem dX10_partOf_200 : decode cX10_partOf 200 = .ok (.iload 5, 2) := by decide +kernel
theorem dX10_partOf_202 : decode cX10_partOf 202 = .ok (.iconst (-1), 1) := by decide +kernel
theorem dX10_partOf_203 : decode cX10_partOf 203 = .ok (.iastore, 1) := by decide +kernel
theorem dX10_partOf_204 : decode cX10_partOf 204 = .ok (.iload 9, 2) := by decide +kernel
theorem dX10_partOf_206 : decode cX10_partOf 206 = .ok (.istore 5, 2) := by decide +kernel
theorem dX10_partOf_208 : decode cX10_partOf 208 = .ok (.goto 108, 3) := by decide +kernel
theorem dX10_partOf_211 : decode cX10_partOf 211 = .ok (.aload_n 0, 1) := by decide +kernel
theorem dX10_partOf_212 : decode cX10_partOf 212 = .ok (.getfield 188, 3) := by decide +kernel
theorem dX10_partOf_215 : decode cX10_partOf 215 = .ok (.iload 6, 2) := by decide +kernel
theorem dX10_partOf_217 : decode cX10_partOf 217 = .ok (.aload_n 0, 1) := by decide +kernel
theorem dX10_partOf_218 : decode cX10_partOf 218 = .ok (.getfield 136, 3) := by decide +kernel
theorem dX10_partOf_221 : decode cX10_partOf 221 = .ok (.sipush 128, 3) := by decide +kernel
theorem dX10_partOf_224 : decode cX10_partOf 224 = .ok (.iload_n 1, 1) := by decide +kernel
theorem dX10_partOf_225 : decode cX10_partOf 225 = .ok (.imul, 1) := by decide +kernel
theorem dX10_partOf_226 : decode cX10_partOf 226 = .ok (.iload 4, 2) := by decide +kernel
theorem dX10_partOf_228 : decode cX10_partOf 228 = .ok (.iadd, 1) := by decide +kernel
theorem dX10_partOf_229 : decode cX10_partOf 229 = .ok (.laload, 1) := by decide +kernel
theorem dX10_partOf_230 : decode cX10_partOf 230 = .ok (.lastore, 1) := by decide +kernel
theorem dX10_partOf_231 : decode cX10_partOf 231 = .ok (.iconst 0, 1) := by decide +kernel
theorem dX10_partOf_232 : decode cX10_partOf 232 = .ok (.istore 9, 2) := by decide +kernel
theorem dX10_partOf_234 : decode cX10_partOf 234 = .ok (.iload 9, 2) := by decide +kernel
theorem dX10_partOf_236 : decode cX10_partOf 236 = .ok (.iload 7, 2) := by decide +kernel
theorem dX10_partOf_238 : decode cX10_partOf 238 = .ok (.if_icmp .ge 69, 3) := by decide +kernel
theorem dX10_partOf_241 : decode cX10_partOf 241 = .ok (.aload_n 0, 1) := by decide +kernel
theorem dX10_partOf_242 : decode cX10_partOf 242 = .ok (.getfield 133, 3) := by decide +kernel
theorem dX10_partOf_245 : decode cX10_partOf 245 = .ok (.sipush 128, 3) := by decide +kernel
theorem dX10_partOf_248 : decode cX10_partOf 248 = .ok (.iload 8, 2) := by decide +kernel
theorem dX10_partOf_250 : decode cX10_partOf 250 = .ok (.imul, 1) := by decide +kernel
theorem dX10_partOf_251 : decode cX10_partOf 251 = .ok (.iload 9, 2) := by decide +kernel
theorem dX10_partOf_253 : decode cX10_partOf 253 = .ok (.iadd, 1) := by decide +kernel
theorem dX10_partOf_254 : decode cX10_partOf 254 = .ok (.aload_n 0, 1) := by decide +kernel
theorem dX10_partOf_255 : decode cX10_partOf 255 = .ok (.getfield 133, 3) := by decide +kernel
theorem dX10_partOf_258 : decode cX10_partOf 258 = .ok (.sipush 128, 3) := by decide +kernel
theorem dX10_partOf_261 : decode cX10_partOf 261 = .ok (.iload_n 1, 1) := by decide +kernel
theorem dX10_partOf_262 : decode cX10_partOf 262 = .ok (.imul, 1) := by decide +kernel
theorem dX10_partOf_263 : decode cX10_partOf 263 = .ok (.iload 4, 2) := by decide +kernel
theorem dX10_partOf_265 : decode cX10_partOf 265 = .ok (.iadd, 1) := by decide +kernel
theorem dX10_partOf_266 : decode cX10_partOf 266 = .ok (.iload 9, 2) := by decide +kernel
theorem dX10_partOf_268 : decode cX10_partOf 268 = .ok (.iadd, 1) := by decide +kernel
theorem dX10_partOf_269 : decode cX10_partOf 269 = .ok (.iaload, 1) := by decide +kernel
theorem dX10_partOf_270 : decode cX10_partOf 270 = .ok (.iastore, 1) := by decide +kernel
theorem dX10_partOf_271 : decode cX10_partOf 271 = .ok (.aload_n 0, 1) := by decide +kernel
theorem dX10_partOf_272 : decode cX10_partOf 272 = .ok (.getfield 136, 3) := by decide +kernel
theorem dX10_partOf_275 : decode cX10_partOf 275 = .ok (.sipush 128, 3) := by decide +kernel
theorem dX10_partOf_278 : decode cX10_partOf 278 = .ok (.iload 8, 2) := by decide +kernel
theorem dX10_partOf_280 : decode cX10_partOf 280 = .ok (.imul, 1) := by decide +kernel
theorem dX10_partOf_281 : decode cX10_partOf 281 = .ok (.iload 9, 2) := by decide +kernel
theorem dX10_partOf_283 : decode cX10_partOf 283 = .ok (.iadd, 1) := by decide +kernel
theorem dX10_partOf_284 : decode cX10_partOf 284 = .ok (.aload_n 0, 1) := by decide +kernel
theorem dX10_partOf_285 : decode cX10_partOf 285 = .ok (.getfield 136, 3) := by decide +kernel
theorem dX10_partOf_288 : decode cX10_partOf 288 = .ok (.sipush 128, 3) := by decide +kernel
theorem dX10_partOf_291 : decode cX10_partOf 291 = .ok (.iload_n 1, 1) := by decide +kernel
theorem dX10_partOf_292 : decode cX10_partOf 292 = .ok (.imul, 1) := by decide +kernel
theorem dX10_partOf_293 : decode cX10_partOf 293 = .ok (.iload 4, 2) := by decide +kernel
theorem dX10_partOf_295 : decode cX10_partOf 295 = .ok (.iadd, 1) := by decide +kernel
theorem dX10_partOf_296 : decode cX10_partOf 296 = .ok (.iload 9, 2) := by decide +kernel
theorem dX10_partOf_298 : decode cX10_partOf 298 = .ok (.iadd, 1) := by decide +kernel
theorem dX10_partOf_299 : decode cX10_partOf 299 = .ok (.laload, 1) := by decide +kernel
theorem dX10_partOf_300 : decode cX10_partOf 300 = .ok (.lastore, 1) := by decide +kernel
theorem dX10_partOf_301 : decode cX10_partOf 301 = .ok (.iinc 9 1, 3) := by decide +kernel
theorem dX10_partOf_304 : decode cX10_partOf 304 = .ok (.goto (-70), 3) := by decide +kernel
theorem dX10_partOf_307 : decode cX10_partOf 307 = .ok (.aload_n 0, 1) := by decide +kernel
theorem dX10_partOf_308 : decode cX10_partOf 308 = .ok (.getfield 129, 3) := by decide +kernel
theorem dX10_partOf_311 : decode cX10_partOf 311 = .ok (.iload 8, 2) := by decide +kernel
theorem dX10_partOf_313 : decode cX10_partOf 313 = .ok (.iload 7, 2) := by decide +kernel
theorem dX10_partOf_315 : decode cX10_partOf 315 = .ok (.iastore, 1) := by decide +kernel
theorem dX10_partOf_316 : decode cX10_partOf 316 = .ok (.iload 4, 2) := by decide +kernel
theorem dX10_partOf_318 : decode cX10_partOf 318 = .ok (.iload 7, 2) := by decide +kernel
theorem dX10_partOf_320 : decode cX10_partOf 320 = .ok (.iadd, 1) := by decide +kernel
theorem dX10_partOf_321 : decode cX10_partOf 321 = .ok (.istore 4, 2) := by decide +kernel
theorem dX10_partOf_323 : decode cX10_partOf 323 = .ok (.iinc 6 1, 3) := by decide +kernel
theorem dX10_partOf_326 : decode cX10_partOf 326 = .ok (.goto (-260), 3) := by decide +kernel
theorem dX10_partOf_329 : decode cX10_partOf 329 = .ok (.aload_n 0, 1) := by decide +kernel
theorem dX10_partOf_330 : decode cX10_partOf 330 = .ok (.getfield 139, 3) := by decide +kernel
theorem dX10_partOf_333 : decode cX10_partOf 333 = .ok (.iload_n 1, 1) := by decide +kernel
theorem dX10_partOf_334 : decode cX10_partOf 334 = .ok (.iaload, 1) := by decide +kernel
theorem dX10_partOf_335 : decode cX10_partOf 335 = .ok (.istore 6, 2) := by decide +kernel
theorem dX10_partOf_337 : decode cX10_partOf 337 = .ok (.iload 6, 2) := by decide +kernel
theorem dX10_partOf_339 : decode cX10_partOf 339 = .ok (.iconst (-1), 1) := by decide +kernel
theorem dX10_partOf_340 : decode cX10_partOf 340 = .ok (.if_icmp .eq 72, 3) := by decide +kernel
theorem dX10_partOf_343 : decode cX10_partOf 343 = .ok (.aload_n 0, 1) := by decide +kernel
theorem dX10_partOf_344 : decode cX10_partOf 344 = .ok (.getfield 176, 3) := by decide +kernel
theorem dX10_partOf_347 : decode cX10_partOf 347 = .ok (.iload 6, 2) := by decide +kernel
theorem dX10_partOf_349 : decode cX10_partOf 349 = .ok (.iaload, 1) := by decide +kernel
theorem dX10_partOf_350 : decode cX10_partOf 350 = .ok (.istore 7, 2) := by decide +kernel
theorem dX10_partOf_352 : decode cX10_partOf 352 = .ok (.iconst 0, 1) := by decide +kernel
theorem dX10_partOf_353 : decode cX10_partOf 353 = .ok (.istore 8, 2) := by decide +kernel
theorem dX10_partOf_355 : decode cX10_partOf 355 = .ok (.iload 8, 2) := by decide +kernel
theorem dX10_partOf_357 : decode cX10_partOf 357 = .ok (.iconst 1, 1) := by decide +kernel
theorem dX10_partOf_358 : decode cX10_partOf 358 = .ok (.iadd, 1) := by decide +kernel
theorem dX10_partOf_359 : decode cX10_partOf 359 = .ok (.aload_n 0, 1) := by decide +kernel
theorem dX10_partOf_360 : decode cX10_partOf 360 = .ok (.getfield 337, 3) := by decide +kernel
theorem dX10_partOf_363 : decode cX10_partOf 363 = .ok (.if_icmp .ge 29, 3) := by decide +kernel
theorem dX10_partOf_366 : decode cX10_partOf 366 = .ok (.aload_n 0, 1) := by decide +kernel
theorem dX10_partOf_367 : decode cX10_partOf 367 = .ok (.getfield 188, 3) := by decide +kernel
theorem dX10_partOf_370 : decode cX10_partOf 370 = .ok (.iload 8, 2) := by decide +kernel
theorem dX10_partOf_372 : decode cX10_partOf 372 = .ok (.iconst 1, 1) := by decide +kernel
theorem dX10_partOf_373 : decode cX10_partOf 373 = .ok (.iadd, 1) := by decide +kernel
theorem dX10_partOf_374 : decode cX10_partOf 374 = .ok (.laload, 1) := by decide +kernel
theorem dX10_partOf_375 : decode cX10_partOf 375 = .ok (.aload_n 0, 1) := by decide +kernel
theorem dX10_partOf_376 : decode cX10_partOf 376 = .ok (.getfield 170, 3) := by decide +kernel
theorem dX10_partOf_379 : decode cX10_partOf 379 = .ok (.iload 6, 2) := by decide +kernel
theorem dX10_partOf_381 : decode cX10_partOf 381 = .ok (.laload, 1) := by decide +kernel
theorem dX10_partOf_382 : decode cX10_partOf 382 = .ok (.lcmp, 1) := by decide +kernel
theorem dX10_partOf_383 : decode cX10_partOf 383 = .ok (.ifCond .gt 9, 3) := by decide +kernel
theorem dX10_partOf_386 : decode cX10_partOf 386 = .ok (.iinc 8 1, 3) := by decide +kernel
theorem dX10_partOf_389 : decode cX10_partOf 389 = .ok (.goto (-34), 3) := by decide +kernel
theorem dX10_partOf_392 : decode cX10_partOf 392 = .ok (.aload_n 0, 1) := by decide +kernel
theorem dX10_partOf_393 : decode cX10_partOf 393 = .ok (.aload_n 0, 1) := by decide +kernel
theorem dX10_partOf_394 : decode cX10_partOf 394 = .ok (.getfield 185, 3) := by decide +kernel
theorem dX10_partOf_397 : decode cX10_partOf 397 = .ok (.iload 8, 2) := by decide +kernel
theorem dX10_partOf_399 : decode cX10_partOf 399 = .ok (.iaload, 1) := by decide +kernel
theorem dX10_partOf_400 : decode cX10_partOf 400 = .ok (.iload 6, 2) := by decide +kernel
theorem dX10_partOf_402 : decode cX10_partOf 402 = .ok (.invokevirtual 289, 3) := by decide +kernel
theorem dX10_partOf_405 : decode cX10_partOf 405 = .ok (.iload 7, 2) := by decide +kernel
theorem dX10_partOf_407 : decode cX10_partOf 407 = .ok (.istore 6, 2) := by decide +kernel
theorem dX10_partOf_409 : decode cX10_partOf 409 = .ok (.goto (-72), 3) := by decide +kernel
theorem dX10_partOf_412 : decode cX10_partOf 412 = .ok (.aload_n 0, 1) := by decide +kernel
theorem dX10_partOf_413 : decode cX10_partOf 413 = .ok (.iload_n 1, 1) := by decide +kernel
theorem dX10_partOf_414 : decode cX10_partOf 414 = .ok (.invokevirtual 340, 3) := by decide +kernel
theorem dX10_partOf_417 : decode cX10_partOf 417 = .ok (.return_, 1) := by decide +kernel
theorem dX10_partKid_0 : decode cX10_partKid 0 = .ok (.aload_n 0, 1) := by decide +kernel
theorem dX10_partKid_1 : decode cX10_partKid 1 = .ok (.getfield 133, 3) := by decide +kernel
theorem dX10_partKid_4 : decode cX10_partKid 4 = .ok (.sipush 128, 3) := by decide +kernel
theorem dX10_partKid_7 : decode cX10_partKid 7 = .ok (.iload_n 1, 1) := by decide +kernel
theorem dX10_partKid_8 : decode cX10_partKid 8 = .ok (.imul, 1) := by decide +kernel
theorem dX10_partKid_9 : decode cX10_partKid 9 = .ok (.iload_n 2, 1) := by decide +kernel
theorem dX10_partKid_10 : decode cX10_partKid 10 = .ok (.iadd, 1) := by decide +kernel
theorem dX10_partKid_11 : decode cX10_partKid 11 = .ok (.iaload, 1) := by decide +kernel
theorem dX10_partKid_12 : decode cX10_partKid 12 = .ok (.istore_n 3, 1) := by decide +kernel
theorem dX10_partKid_13 : decode cX10_partKid 13 = .ok (.aload_n 0, 1) := by decide +kernel
theorem dX10_partKid_14 : decode cX10_partKid 14 = .ok (.iload_n 3, 1) := by decide +kernel
theorem dX10_partKid_15 : decode cX10_partKid 15 = .ok (.invokevirtual 343, 3) := by decide +kernel
theorem dX10_partKid_18 : decode cX10_partKid 18 = .ok (.ifCond .ne 4, 3) := by decide +kernel
theorem dX10_partKid_21 : decode cX10_partKid 21 = .ok (.return_, 1) := by decide +kernel
theorem dX10_partKid_22 : decode cX10_partKid 22 = .ok (.aload_n 0, 1) := by decide +kernel
theorem dX10_partKid_23 : decode cX10_partKid 23 = .ok (.getfield 136, 3) := by decide +kernel
theorem dX10_partKid_26 : decode cX10_partKid 26 = .ok (.sipush 128, 3) := by decide +kernel
theorem dX10_partKid_29 : decode cX10_partKid 29 = .ok (.iload_n 1, 1) := by decide +kernel
theorem dX10_partKid_30 : decode cX10_partKid 30 = .ok (.imul, 1) := by decide +kernel
theorem dX10_partKid_31 : decode cX10_partKid 31 = .ok (.iload_n 2, 1) := by decide +kernel
theorem dX10_partKid_32 : decode cX10_partKid 32 = .ok (.iadd, 1) := by decide +kernel
theorem dX10_partKid_33 : decode cX10_partKid 33 = .ok (.laload, 1) := by decide +kernel
theorem dX10_partKid_34 : decode cX10_partKid 34 = .ok (.lstore 4, 2) := by decide +kernel
theorem dX10_partKid_36 : decode cX10_partKid 36 = .ok (.aload_n 0, 1) := by decide +kernel
theorem dX10_partKid_37 : decode cX10_partKid 37 = .ok (.iload_n 3, 1) := by decide +kernel
theorem dX10_partKid_38 : decode cX10_partKid 38 = .ok (.invokevirtual 346, 3) := by decide +kernel
theorem dX10_partKid_41 : decode cX10_partKid 41 = .ok (.aload_n 0, 1) := by decide +kernel
theorem dX10_partKid_42 : decode cX10_partKid 42 = .ok (.getfield 129, 3) := by decide +kernel
theorem dX10_partKid_45 : decode cX10_partKid 45 = .ok (.iload_n 1, 1) := by decide +kernel
theorem dX10_partKid_46 : decode cX10_partKid 46 = .ok (.iaload, 1) := by decide +kernel
theorem dX10_partKid_47 : decode cX10_partKid 47 = .ok (.iconst 1, 1) := by decide +kernel
theorem dX10_partKid_48 : decode cX10_partKid 48 = .ok (.isub, 1) := by decide +kernel
theorem dX10_partKid_49 : decode cX10_partKid 49 = .ok (.istore 6, 2) := by decide +kernel
theorem dX10_partKid_51 : decode cX10_partKid 51 = .ok (.iload 6, 2) := by decide +kernel
theorem dX10_partKid_53 : decode cX10_partKid 53 = .ok (.iload_n 2, 1) := by decide +kernel
theorem dX10_partKid_54 : decode cX10_partKid 54 = .ok (.if_icmp .le 75, 3) := by decide +kernel
theorem dX10_partKid_57 : decode cX10_partKid 57 = .ok (.aload_n 0, 1) := by decide +kernel
theorem dX10_partKid_58 : decode cX10_partKid 58 = .ok (.getfield 133, 3) := by decide +kernel
theorem dX10_partKid_61 : decode cX10_partKid 61 = .ok (.sipush 128, 3) := by decide +kernel
theorem dX10_partKid_64 : decode cX10_partKid 64 = .ok (.iload_n 1, 1) := by decide +kernel
theorem dX10_partKid_65 : decode cX10_partKid 65 = .ok (.imul, 1) := by decide +kernel
theorem dX10_partKid_66 : decode cX10_partKid 66 = .ok (.iload 6, 2) := by decide +kernel
theorem dX10_partKid_68 : decode cX10_partKid 68 = .ok (.iadd, 1) := by decide +kernel
theorem dX10_partKid_69 : decode cX10_partKid 69 = .ok (.aload_n 0, 1) := by decide +kernel
theorem dX10_partKid_70 : decode cX10_partKid 70 = .ok (.getfield 337, 3) := by decide +kernel
theorem dX10_partKid_73 : decode cX10_partKid 73 = .ok (.iadd, 1) := by decide +kernel
theorem dX10_partKid_74 : decode cX10_partKid 74 = .ok (.iconst 1, 1) := by decide +kernel
theorem dX10_partKid_75 : decode cX10_partKid 75 = .ok (.isub, 1) := by decide +kernel
theorem dX10_partKid_76 : decode cX10_partKid 76 = .ok (.aload_n 0, 1) := by decide +kernel
theorem dX10_partKid_77 : decode cX10_partKid 77 = .ok (.getfield 133, 3) := by decide +kernel
theorem dX10_partKid_80 : decode cX10_partKid 80 = .ok (.sipush 128, 3) := by decide +kernel
theorem dX10_partKid_83 : decode cX10_partKid 83 = .ok (.iload_n 1, 1) := by decide +kernel
theorem dX10_partKid_84 : decode cX10_partKid 84 = .ok (.imul, 1) := by decide +kernel
theorem dX10_partKid_85 : decode cX10_partKid 85 = .ok (.iload 6, 2) := by decide +kernel
theorem dX10_partKid_87 : decode cX10_partKid 87 = .ok (.iadd, 1) := by decide +kernel
theorem dX10_partKid_88 : decode cX10_partKid 88 = .ok (.iaload, 1) := by decide +kernel
theorem dX10_partKid_89 : decode cX10_partKid 89 = .ok (.iastore, 1) := by decide +kernel
theorem dX10_partKid_90 : decode cX10_partKid 90 = .ok (.aload_n 0, 1) := by decide +kernel
theorem dX10_partKid_91 : decode cX10_partKid 91 = .ok (.getfield 136, 3) := by decide +kernel
theorem dX10_partKid_94 : decode cX10_partKid 94 = .ok (.sipush 128, 3) := by decide +kernel
theorem dX10_partKid_97 : decode cX10_partKid 97 = .ok (.iload_n 1, 1) := by decide +kernel
theorem dX10_partKid_98 : decode cX10_partKid 98 = .ok (.imul, 1) := by decide +kernel
theorem dX10_partKid_99 : decode cX10_partKid 99 = .ok (.iload 6, 2) := by decide +kernel
theorem dX10_partKid_101 : decode cX10_partKid 101 = .ok (.iadd, 1) := by decide +kernel
theorem dX10_partKid_102 : decode cX10_partKid 102 = .ok (.aload_n 0, 1) := by decide +kernel
theorem dX10_partKid_103 : decode cX10_partKid 103 = .ok (.getfield 337, 3) := by decide +kernel
theorem dX10_partKid_106 : decode cX10_partKid 106 = .ok (.iadd, 1) := by decide +kernel
theorem dX10_partKid_107 : decode cX10_partKid 107 = .ok (.iconst 1, 1) := by decide +kernel
theorem dX10_partKid_108 : decode cX10_partKid 108 = .ok (.isub, 1) := by decide +kernel
theorem dX10_partKid_109 : decode cX10_partKid 109 = .ok (.aload_n 0, 1) := by decide +kernel
theorem dX10_partKid_110 : decode cX10_partKid 110 = .ok (.getfield 136, 3) := by decide +kernel
theorem dX10_partKid_113 : decode cX10_partKid 113 = .ok (.sipush 128, 3) := by decide +kernel
theorem dX10_partKid_116 : decode cX10_partKid 116 = .ok (.iload_n 1, 1) := by decide +kernel
theorem dX10_partKid_117 : decode cX10_partKid 117 = .ok (.imul, 1) := by decide +kernel
theorem dX10_partKid_118 : decode cX10_partKid 118 = .ok (.iload 6, 2) := by decide +kernel
theorem dX10_partKid_120 : decode cX10_partKid 120 = .ok (.iadd, 1) := by decide +kernel
theorem dX10_partKid_121 : decode cX10_partKid 121 = .ok (.laload, 1) := by decide +kernel
theorem dX10_partKid_122 : decode cX10_partKid 122 = .ok (.lastore, 1) := by decide +kernel
theorem dX10_partKid_123 : decode cX10_partKid 123 = .ok (.iinc 6 (-1), 3) := by decide +kernel
theorem dX10_partKid_126 : decode cX10_partKid 126 = .ok (.goto (-75), 3) := by decide +kernel
theorem dX10_partKid_129 : decode cX10_partKid 129 = .ok (.iconst 0, 1) := by decide +kernel
theorem dX10_partKid_130 : decode cX10_partKid 130 = .ok (.istore 6, 2) := by decide +kernel
theorem dX10_partKid_132 : decode cX10_partKid 132 = .ok (.iload 6, 2) := by decide +kernel
theorem dX10_partKid_134 : decode cX10_partKid 134 = .ok (.aload_n 0, 1) := by decide +kernel
theorem dX10_partKid_135 : decode cX10_partKid 135 = .ok (.getfield 337, 3) := by decide +kernel
theorem dX10_partKid_138 : decode cX10_partKid 138 = .ok (.if_icmp .ge 63, 3) := by decide +kernel
theorem dX10_partKid_141 : decode cX10_partKid 141 = .ok (.aload_n 0, 1) := by decide +kernel
theorem dX10_partKid_142 : decode cX10_partKid 142 = .ok (.getfield 133, 3) := by decide +kernel
theorem dX10_partKid_145 : decode cX10_partKid 145 = .ok (.sipush 128, 3) := by decide +kernel
theorem dX10_partKid_148 : decode cX10_partKid 148 = .ok (.iload_n 1, 1) := by decide +kernel
theorem dX10_partKid_149 : decode cX10_partKid 149 = .ok (.imul, 1) := by decide +kernel
theorem dX10_partKid_150 : decode cX10_partKid 150 = .ok (.iload_n 2, 1) := by decide +kernel
theorem dX10_partKid_151 : decode cX10_partKid 151 = .ok (.iadd, 1) := by decide +kernel
theorem dX10_partKid_152 : decode cX10_partKid 152 = .ok (.iload 6, 2) := by decide +kernel
theorem dX10_partKid_154 : decode cX10_partKid 154 = .ok (.iadd, 1) := by decide +kernel
theorem dX10_partKid_155 : decode cX10_partKid 155 = .ok (.aload_n 0, 1) := by decide +kernel
theorem dX10_partKid_156 : decode cX10_partKid 156 = .ok (.getfield 185, 3) := by decide +kernel
theorem dX10_partKid_159 : decode cX10_partKid 159 = .ok (.iload 6, 2) := by decide +kernel
theorem dX10_partKid_161 : decode cX10_partKid 161 = .ok (.iaload, 1) := by decide +kernel
theorem dX10_partKid_162 : decode cX10_partKid 162 = .ok (.iastore, 1) := by decide +kernel
theorem dX10_partKid_163 : decode cX10_partKid 163 = .ok (.aload_n 0, 1) := by decide +kernel
theorem dX10_partKid_164 : decode cX10_partKid 164 = .ok (.getfield 136, 3) := by decide +kernel
theorem dX10_partKid_167 : decode cX10_partKid 167 = .ok (.sipush 128, 3) := by decide +kernel
theorem dX10_partKid_170 : decode cX10_partKid 170 = .ok (.iload_n 1, 1) := by decide +kernel
theorem dX10_partKid_171 : decode cX10_partKid 171 = .ok (.imul, 1) := by decide +kernel
theorem dX10_partKid_172 : decode cX10_partKid 172 = .ok (.iload_n 2, 1) := by decide +kernel
theorem dX10_partKid_173 : decode cX10_partKid 173 = .ok (.iadd, 1) := by decide +kernel
theorem dX10_partKid_174 : decode cX10_partKid 174 = .ok (.iload 6, 2) := by decide +kernel
theorem dX10_partKid_176 : decode cX10_partKid 176 = .ok (.iadd, 1) := by decide +kernel
theorem dX10_partKid_177 : decode cX10_partKid 177 = .ok (.iload 6, 2) := by decide +kernel
theorem dX10_partKid_179 : decode cX10_partKid 179 = .ok (.ifCond .ne 8, 3) := by decide +kernel
theorem dX10_partKid_182 : decode cX10_partKid 182 = .ok (.lload 4, 2) := by decide +kernel
theorem dX10_partKid_184 : decode cX10_partKid 184 = .ok (.goto 10, 3) := by decide +kernel
theorem dX10_partKid_187 : decode cX10_partKid 187 = .ok (.aload_n 0, 1) := by decide +kernel
theorem dX10_partKid_188 : decode cX10_partKid 188 = .ok (.getfield 188, 3) := by decide +kernel
theorem dX10_partKid_191 : decode cX10_partKid 191 = .ok (.iload 6, 2) := by decide +kernel
theorem dX10_partKid_193 : decode cX10_partKid 193 = .ok (.laload, 1) := by decide +kernel
theorem dX10_partKid_194 : decode cX10_partKid 194 = .ok (.lastore, 1) := by decide +kernel
theorem dX10_partKid_195 : decode cX10_partKid 195 = .ok (.iinc 6 1, 3) := by decide +kernel
theorem dX10_partKid_198 : decode cX10_partKid 198 = .ok (.goto (-66), 3) := by decide +kernel
theorem dX10_partKid_201 : decode cX10_partKid 201 = .ok (.aload_n 0, 1) := by decide +kernel
theorem dX10_partKid_202 : decode cX10_partKid 202 = .ok (.getfield 129, 3) := by decide +kernel
theorem dX10_partKid_205 : decode cX10_partKid 205 = .ok (.iload_n 1, 1) := by decide +kernel
theorem dX10_partKid_206 : decode cX10_partKid 206 = .ok (.dup2, 1) := by decide +kernel
theorem dX10_partKid_207 : decode cX10_partKid 207 = .ok (.iaload, 1) := by decide +kernel
theorem dX10_partKid_208 : decode cX10_partKid 208 = .ok (.aload_n 0, 1) := by decide +kernel
theorem dX10_partKid_209 : decode cX10_partKid 209 = .ok (.getfield 337, 3) := by decide +kernel
theorem dX10_partKid_212 : decode cX10_partKid 212 = .ok (.iconst 1, 1) := by decide +kernel
theorem dX10_partKid_213 : decode cX10_partKid 213 = .ok (.isub, 1) := by decide +kernel
theorem dX10_partKid_214 : decode cX10_partKid 214 = .ok (.iadd, 1) := by decide +kernel
theorem dX10_partKid_215 : decode cX10_partKid 215 = .ok (.iastore, 1) := by decide +kernel
theorem dX10_partKid_216 : decode cX10_partKid 216 = .ok (.aload_n 0, 1) := by decide +kernel
theorem dX10_partKid_217 : decode cX10_partKid 217 = .ok (.getfield 148, 3) := by decide +kernel
theorem dX10_partKid_220 : decode cX10_partKid 220 = .ok (.iload_n 1, 1) := by decide +kernel
theorem dX10_partKid_221 : decode cX10_partKid 221 = .ok (.iconst (-1), 1) := by decide +kernel
theorem dX10_partKid_222 : decode cX10_partKid 222 = .ok (.iastore, 1) := by decide +kernel
theorem dX10_partKid_223 : decode cX10_partKid 223 = .ok (.return_, 1) := by decide +kernel
theorem dX10_grow_0 : decode cX10_grow 0 = .ok (.aload_n 0, 1) := by decide +kernel
theorem dX10_grow_1 : decode cX10_grow 1 = .ok (.aload_n 0, 1) := by decide +kernel
theorem dX10_grow_2 : decode cX10_grow 2 = .ok (.getfield 277, 3) := by decide +kernel
theorem dX10_grow_5 : decode cX10_grow 5 = .ok (.invokevirtual 343, 3) := by decide +kernel
theorem dX10_grow_8 : decode cX10_grow 8 = .ok (.ifCond .eq 94, 3) := by decide +kernel
theorem dX10_grow_11 : decode cX10_grow 11 = .ok (.aload_n 0, 1) := by decide +kernel
theorem dX10_grow_12 : decode cX10_grow 12 = .ok (.aload_n 0, 1) := by decide +kernel
theorem dX10_grow_13 : decode cX10_grow 13 = .ok (.getfield 277, 3) := by decide +kernel
theorem dX10_grow_16 : decode cX10_grow 16 = .ok (.invokevirtual 346, 3) := by decide +kernel
theorem dX10_grow_19 : decode cX10_grow 19 = .ok (.aload_n 0, 1) := by decide +kernel
theorem dX10_grow_20 : decode cX10_grow 20 = .ok (.aload_n 0, 1) := by decide +kernel
theorem dX10_grow_21 : decode cX10_grow 21 = .ok (.iconst 0, 1) := by decide +kernel
theorem dX10_grow_22 : decode cX10_grow 22 = .ok (.invokevirtual 273, 3) := by decide +kernel
theorem dX10_grow_25 : decode cX10_grow 25 = .ok (.putfield 277, 3) := by decide +kernel
theorem dX10_grow_28 : decode cX10_grow 28 = .ok (.aload_n 0, 1) := by decide +kernel
theorem dX10_grow_29 : decode cX10_grow 29 = .ok (.getfield 129, 3) := by decide +kernel
theorem dX10_grow_32 : decode cX10_grow 32 = .ok (.aload_n 0, 1) := by decide +kernel
theorem dX10_grow_33 : decode cX10_grow 33 = .ok (.getfield 277, 3) := by decide +kernel
theorem dX10_grow_36 : decode cX10_grow 36 = .ok (.aload_n 0, 1) := by decide +kernel
theorem dX10_grow_37 : decode cX10_grow 37 = .ok (.getfield 337, 3) := by decide +kernel
theorem dX10_grow_40 : decode cX10_grow 40 = .ok (.iastore, 1) := by decide +kernel
theorem dX10_grow_41 : decode cX10_grow 41 = .ok (.iconst 0, 1) := by decide +kernel
theorem dX10_grow_42 : decode cX10_grow 42 = .ok (.istore_n 1, 1) := by decide +kernel
theorem dX10_grow_43 : decode cX10_grow 43 = .ok (.iload_n 1, 1) := by decide +kernel
theorem dX10_grow_44 : decode cX10_grow 44 = .ok (.aload_n 0, 1) := by decide +kernel
theorem dX10_grow_45 : decode cX10_grow 45 = .ok (.getfield 337, 3) := by decide +kernel
theorem dX10_grow_48 : decode cX10_grow 48 = .ok (.if_icmp .ge 51, 3) := by decide +kernel
theorem dX10_grow_51 : decode cX10_grow 51 = .ok (.aload_n 0, 1) := by decide +kernel
theorem dX10_grow_52 : decode cX10_grow 52 = .ok (.getfield 133, 3) := by decide +kernel
theorem dX10_grow_55 : decode cX10_grow 55 = .ok (.sipush 128, 3) := by decide +kernel
theorem dX10_grow_58 : decode cX10_grow 58 = .ok (.aload_n 0, 1) := by decide +kernel
theorem dX10_grow_59 : decode cX10_grow 59 = .ok (.getfield 277, 3) := by decide +kernel
theorem dX10_grow_62 : decode cX10_grow 62 = .ok (.imul, 1) := by decide +kernel
theorem dX10_grow_63 : decode cX10_grow 63 = .ok (.iload_n 1, 1) := by decide +kernel
theorem dX10_grow_64 : decode cX10_grow 64 = .ok (.iadd, 1) := by decide +kernel
theorem dX10_grow_65 : decode cX10_grow 65 = .ok (.aload_n 0, 1) := by decide +kernel
theorem dX10_grow_66 : decode cX10_grow 66 = .ok (.getfield 185, 3) := by decide +kernel
theorem dX10_grow_69 : decode cX10_grow 69 = .ok (.iload_n 1, 1) := by decide +kernel
theorem dX10_grow_70 : decode cX10_grow 70 = .ok (.iaload, 1) := by decide +kernel
theorem dX10_grow_71 : decode cX10_grow 71 = .ok (.iastore, 1) := by decide +kernel
theorem dX10_grow_72 : decode cX10_grow 72 = .ok (.aload_n 0, 1) := by decide +kernel
theorem dX10_grow_73 : decode cX10_grow 73 = .ok (.getfield 136, 3) := by decide +kernel
theorem dX10_grow_76 : decode cX10_grow 76 = .ok (.sipush 128, 3) := by decide +kernel
theorem dX10_grow_79 : decode cX10_grow 79 = .ok (.aload_n 0, 1) := by decide +kernel
theorem dX10_grow_80 : decode cX10_grow 80 = .ok (.getfield 277, 3) := by decide +kernel
theorem dX10_grow_83 : decode cX10_grow 83 = .ok (.imul, 1) := by decide +kernel
theorem dX10_grow_84 : decode cX10_grow 84 = .ok (.iload_n 1, 1) := by decide +kernel
theorem dX10_grow_85 : decode cX10_grow 85 = .ok (.iadd, 1) := by decide +kernel
theorem dX10_grow_86 : decode cX10_grow 86 = .ok (.aload_n 0, 1) := by decide +kernel
theorem dX10_grow_87 : decode cX10_grow 87 = .ok (.getfield 188, 3) := by decide +kernel
theorem dX10_grow_90 : decode cX10_grow 90 = .ok (.iload_n 1, 1) := by decide +kernel
theorem dX10_grow_91 : decode cX10_grow 91 = .ok (.laload, 1) := by decide +kernel
theorem dX10_grow_92 : decode cX10_grow 92 = .ok (.lastore, 1) := by decide +kernel
theorem dX10_grow_93 : decode cX10_grow 93 = .ok (.iinc 1 1, 3) := by decide +kernel
theorem dX10_grow_96 : decode cX10_grow 96 = .ok (.goto (-53), 3) := by decide +kernel
theorem dX10_grow_99 : decode cX10_grow 99 = .ok (.goto (-99), 3) := by decide +kernel
theorem dX10_grow_102 : decode cX10_grow 102 = .ok (.return_, 1) := by decide +kernel
theorem dX10_number_0 : decode cX10_number 0 = .ok (.aload_n 0, 1) := by decide +kernel
theorem dX10_number_1 : decode cX10_number 1 = .ok (.iconst 0, 1) := by decide +kernel
theorem dX10_number_2 : decode cX10_number 2 = .ok (.putfield 349, 3) := by decide +kernel
theorem dX10_number_5 : decode cX10_number 5 = .ok (.aload_n 0, 1) := by decide +kernel
theorem dX10_number_6 : decode cX10_number 6 = .ok (.aload_n 0, 1) := by decide +kernel
theorem dX10_number_7 : decode cX10_number 7 = .ok (.getfield 277, 3) := by decide +kernel
theorem dX10_number_10 : decode cX10_number 10 = .ok (.iconst (-1), 1) := by decide +kernel
theorem dX10_number_11 : decode cX10_number 11 = .ok (.iconst 0, 1) := by decide +kernel
theorem dX10_number_12 : decode cX10_number 12 = .ok (.invokevirtual 352, 3) := by decide +kernel
theorem dX10_number_15 : decode cX10_number 15 = .ok (.return_, 1) := by decide +kernel
theorem dX10_visit_0 : decode cX10_visit 0 = .ok (.aload_n 0, 1) := by decide +kernel
theorem dX10_visit_1 : decode cX10_visit 1 = .ok (.getfield 191, 3) := by decide +kernel
theorem dX10_visit_4 : decode cX10_visit 4 = .ok (.aload_n 0, 1) := by decide +kernel
theorem dX10_visit_5 : decode cX10_visit 5 = .ok (.getfield 349, 3) := by decide +kernel
theorem dX10_visit_8 : decode cX10_visit 8 = .ok (.iload_n 1, 1) := by decide +kernel
theorem dX10_visit_9 : decode cX10_visit 9 = .ok (.iastore, 1) := by decide +kernel
theorem dX10_visit_10 : decode cX10_visit 10 = .ok (.aload_n 0, 1) := by decide +kernel
theorem dX10_visit_11 : decode cX10_visit 11 = .ok (.dup, 1) := by decide +kernel
theorem dX10_visit_12 : decode cX10_visit 12 = .ok (.getfield 349, 3) := by decide +kernel
theorem dX10_visit_15 : decode cX10_visit 15 = .ok (.iconst 1, 1) := by decide +kernel
theorem dX10_visit_16 : decode cX10_visit 16 = .ok (.iadd, 1) := by decide +kernel
theorem dX10_visit_17 : decode cX10_visit 17 = .ok (.putfield 349, 3) := by decide +kernel
theorem dX10_visit_20 : decode cX10_visit 20 = .ok (.aload_n 0, 1) := by decide +kernel
theorem dX10_visit_21 : decode cX10_visit 21 = .ok (.getfield 194, 3) := by decide +kernel
theorem dX10_visit_24 : decode cX10_visit 24 = .ok (.iload_n 1, 1) := by decide +kernel
theorem dX10_visit_25 : decode cX10_visit 25 = .ok (.iload_n 2, 1) := by decide +kernel
theorem dX10_visit_26 : decode cX10_visit 26 = .ok (.iastore, 1) := by decide +kernel
theorem dX10_visit_27 : decode cX10_visit 27 = .ok (.aload_n 0, 1) := by decide +kernel
theorem dX10_visit_28 : decode cX10_visit 28 = .ok (.getfield 197, 3) := by decide +kernel
theorem dX10_visit_31 : decode cX10_visit 31 = .ok (.iload_n 1, 1) := by decide +kernel
theorem dX10_visit_32 : decode cX10_visit 32 = .ok (.iload_n 3, 1) := by decide +kernel
theorem dX10_visit_33 : decode cX10_visit 33 = .ok (.iastore, 1) := by decide +kernel
theorem dX10_visit_34 : decode cX10_visit 34 = .ok (.aload_n 0, 1) := by decide +kernel
theorem dX10_visit_35 : decode cX10_visit 35 = .ok (.getfield 119, 3) := by decide +kernel
theorem dX10_visit_38 : decode cX10_visit 38 = .ok (.iload_n 1, 1) := by decide +kernel
theorem dX10_visit_39 : decode cX10_visit 39 = .ok (.baload, 1) := by decide +kernel
theorem dX10_visit_40 : decode cX10_visit 40 = .ok (.ifCond .eq 4, 3) := by decide +kernel
theorem dX10_visit_43 : decode cX10_visit 43 = .ok (.return_, 1) := by decide +kernel
theorem dX10_visit_44 : decode cX10_visit 44 = .ok (.iconst 0, 1) := by decide +kernel
theorem dX10_visit_45 : decode cX10_visit 45 = .ok (.istore 4, 2) := by decide +kernel
theorem dX10_visit_47 : decode cX10_visit 47 = .ok (.iload 4, 2) := by decide +kernel
theorem dX10_visit_49 : decode cX10_visit 49 = .ok (.aload_n 0, 1) := by decide +kernel
theorem dX10_visit_50 : decode cX10_visit 50 = .ok (.getfield 129, 3) := by decide +kernel
theorem dX10_visit_53 : decode cX10_visit 53 = .ok (.iload_n 1, 1) := by decide +kernel
theorem dX10_visit_54 : decode cX10_visit 54 = .ok (.iaload, 1) := by decide +kernel
theorem dX10_visit_55 : decode cX10_visit 55 = .ok (.if_icmp .ge 29, 3) := by decide +kernel
theorem dX10_visit_58 : decode cX10_visit 58 = .ok (.aload_n 0, 1) := by decide +kernel
theorem dX10_visit_59 : decode cX10_visit 59 = .ok (.aload_n 0, 1) := by decide +kernel
theorem dX10_visit_60 : decode cX10_visit 60 = .ok (.getfield 133, 3) := by decide +kernel
theorem dX10_visit_63 : decode cX10_visit 63 = .ok (.sipush 128, 3) := by decide +kernel
theorem dX10_visit_66 : decode cX10_visit 66 = .ok (.iload_n 1, 1) := by decide +kernel
theorem dX10_visit_67 : decode cX10_visit 67 = .ok (.imul, 1) := by decide +kernel
theorem dX10_visit_68 : decode cX10_visit 68 = .ok (.iload 4, 2) := by decide +kernel
theorem dX10_visit_70 : decode cX10_visit 70 = .ok (.iadd, 1) := by decide +kernel
theorem dX10_visit_71 : decode cX10_visit 71 = .ok (.iaload, 1) := by decide +kernel
theorem dX10_visit_72 : decode cX10_visit 72 = .ok (.iload_n 1, 1) := by decide +kernel
theorem dX10_visit_73 : decode cX10_visit 73 = .ok (.iload 4, 2) := by decide +kernel
theorem dX10_visit_75 : decode cX10_visit 75 = .ok (.invokevirtual 352, 3) := by decide +kernel
theorem dX10_visit_78 : decode cX10_visit 78 = .ok (.iinc 4 1, 3) := by decide +kernel
theorem dX10_visit_81 : decode cX10_visit 81 = .ok (.goto (-34), 3) := by decide +kernel
theorem dX10_visit_84 : decode cX10_visit 84 = .ok (.return_, 1) := by decide +kernel
theorem dX10_spreadChanges_0 : decode cX10_spreadChanges 0 = .ok (.aload_n 0, 1) := by decide +kernel
theorem dX10_spreadChanges_1 : decode cX10_spreadChanges 1 = .ok (.invokevirtual 355, 3) := by decide +kernel
theorem dX10_spreadChanges_4 : decode cX10_spreadChanges 4 = .ok (.aload_n 0, 1) := by decide +kernel
theorem dX10_spreadChanges_5 : decode cX10_spreadChanges 5 = .ok (.getfield 349, 3) := by decide +kernel
theorem dX10_spreadChanges_8 : decode cX10_spreadChanges 8 = .ok (.iconst 1, 1) := by decide +kernel
theorem dX10_spreadChanges_9 : decode cX10_spreadChanges 9 = .ok (.isub, 1) := by decide +kernel
theorem dX10_spreadChanges_10 : decode cX10_spreadChanges 10 = .ok (.istore_n 1, 1) := by decide +kernel
theorem dX10_spreadChanges_11 : decode cX10_spreadChanges 11 = .ok (.iload_n 1, 1) := by decide +kernel
theorem dX10_spreadChanges_12 : decode cX10_spreadChanges 12 = .ok (.ifCond .le 41, 3) := by decide +kernel
theorem dX10_spreadChanges_15 : decode cX10_spreadChanges 15 = .ok (.aload_n 0, 1) := by decide +kernel
theorem dX10_spreadChanges_16 : decode cX10_spreadChanges 16 = .ok (.getfield 148, 3) := by decide +kernel
theorem dX10_spreadChanges_19 : decode cX10_spreadChanges 19 = .ok (.aload_n 0, 1) := by decide +kernel
theorem dX10_spreadChanges_20 : decode cX10_spreadChanges 20 = .ok (.getfield 191, 3) := by decide +kernel
theorem dX10_spreadChanges_23 : decode cX10_spreadChanges 23 = .ok (.iload_n 1, 1) := by decide +kernel
theorem dX10_spreadChanges_24 : decode cX10_spreadChanges 24 = .ok (.iaload, 1) := by decide +kernel
theorem dX10_spreadChanges_25 : decode cX10_spreadChanges 25 = .ok (.iaload, 1) := by decide +kernel
theorem dX10_spreadChanges_26 : decode cX10_spreadChanges 26 = .ok (.iconst (-1), 1) := by decide +kernel
theorem dX10_spreadChanges_27 : decode cX10_spreadChanges 27 = .ok (.if_icmp .ne 20, 3) := by decide +kernel
theorem dX10_spreadChanges_30 : decode cX10_spreadChanges 30 = .ok (.aload_n 0, 1) := by decide +kernel
theorem dX10_spreadChanges_31 : decode cX10_spreadChanges 31 = .ok (.getfield 148, 3) := by decide +kernel
theorem dX10_spreadChanges_34 : decode cX10_spreadChanges 34 = .ok (.aload_n 0, 1) := by decide +kernel
theorem dX10_spreadChanges_35 : decode cX10_spreadChanges 35 = .ok (.getfield 194, 3) := by decide +kernel
theorem dX10_spreadChanges_38 : decode cX10_spreadChanges 38 = .ok (.aload_n 0, 1) := by decide +kernel
theorem dX10_spreadChanges_39 : decode cX10_spreadChanges 39 = .ok (.getfield 191, 3) := by decide +kernel
theorem dX10_spreadChanges_42 : decode cX10_spreadChanges 42 = .ok (.iload_n 1, 1) := by decide +kernel
theorem dX10_spreadChanges_43 : decode cX10_spreadChanges 43 = .ok (.iaload, 1) := by decide +kernel
theorem dX10_spreadChanges_44 : decode cX10_spreadChanges 44 = .ok (.iaload, 1) := by decide +kernel
theorem dX10_spreadChanges_45 : decode cX10_spreadChanges 45 = .ok (.iconst (-1), 1) := by decide +kernel
theorem dX10_spreadChanges_46 : decode cX10_spreadChanges 46 = .ok (.iastore, 1) := by decide +kernel
theorem dX10_spreadChanges_47 : decode cX10_spreadChanges 47 = .ok (.iinc 1 (-1), 3) := by decide +kernel
theorem dX10_spreadChanges_50 : decode cX10_spreadChanges 50 = .ok (.goto (-39), 3) := by decide +kernel
theorem dX10_spreadChanges_53 : decode cX10_spreadChanges 53 = .ok (.return_, 1) := by decide +kernel
theorem dX10_sink_0 : decode cX10_sink 0 = .ok (.aload_n 0, 1) := by decide +kernel
theorem dX10_sink_1 : decode cX10_sink 1 = .ok (.getfield 90, 3) := by decide +kernel
theorem dX10_sink_4 : decode cX10_sink 4 = .ok (.ifCond .eq 6, 3) := by decide +kernel
theorem dX10_sink_7 : decode cX10_sink 7 = .ok (.bipush (-4), 2) := by decide +kernel
theorem dX10_sink_9 : decode cX10_sink 9 = .ok (.ireturn, 1) := by decide +kernel
theorem dX10_sink_10 : decode cX10_sink 10 = .ok (.aload_n 0, 1) := by decide +kernel
theorem dX10_sink_11 : decode cX10_sink 11 = .ok (.getfield 119, 3) := by decide +kernel
theorem dX10_sink_14 : decode cX10_sink 14 = .ok (.aload_n 0, 1) := by decide +kernel
theorem dX10_sink_15 : decode cX10_sink 15 = .ok (.getfield 277, 3) := by decide +kernel
theorem dX10_sink_18 : decode cX10_sink 18 = .ok (.baload, 1) := by decide +kernel
theorem dX10_sink_19 : decode cX10_sink 19 = .ok (.ifCond .ne 15, 3) := by decide +kernel
theorem dX10_sink_22 : decode cX10_sink 22 = .ok (.aload_n 0, 1) := by decide +kernel
theorem dX10_sink_23 : decode cX10_sink 23 = .ok (.getfield 145, 3) := by decide +kernel
theorem dX10_sink_26 : decode cX10_sink 26 = .ok (.aload_n 0, 1) := by decide +kernel
theorem dX10_sink_27 : decode cX10_sink 27 = .ok (.getfield 277, 3) := by decide +kernel
theorem dX10_sink_30 : decode cX10_sink 30 = .ok (.iaload, 1) := by decide +kernel
theorem dX10_sink_31 : decode cX10_sink 31 = .ok (.ifCond .ne 5, 3) := by decide +kernel
theorem dX10_sink_34 : decode cX10_sink 34 = .ok (.iconst 0, 1) := by decide +kernel
theorem dX10_sink_35 : decode cX10_sink 35 = .ok (.ireturn, 1) := by decide +kernel
theorem dX10_sink_36 : decode cX10_sink 36 = .ok (.aload_n 0, 1) := by decide +kernel
theorem dX10_sink_37 : decode cX10_sink 37 = .ok (.aload_n 0, 1) := by decide +kernel
theorem dX10_sink_38 : decode cX10_sink 38 = .ok (.getfield 277, 3) := by decide +kernel
theorem dX10_sink_41 : decode cX10_sink 41 = .ok (.invokevirtual 320, 3) := by decide +kernel
theorem dX10_sink_44 : decode cX10_sink 44 = .ok (.istore_n 1, 1) := by decide +kernel
theorem dX10_sink_45 : decode cX10_sink 45 = .ok (.aload_n 0, 1) := by decide +kernel
theorem dX10_sink_46 : decode cX10_sink 46 = .ok (.invokevirtual 324, 3) := by decide +kernel
theorem dX10_sink_49 : decode cX10_sink 49 = .ok (.iload_n 1, 1) := by decide +kernel
theorem dX10_sink_50 : decode cX10_sink 50 = .ok (.ireturn, 1) := by decide +kernel
theorem dX10_settle_0 : decode cX10_settle 0 = .ok (.aload_n 0, 1) := by decide +kernel
theorem dX10_settle_1 : decode cX10_settle 1 = .ok (.getfield 90, 3) := by decide +kernel
theorem dX10_settle_4 : decode cX10_settle 4 = .ok (.ifCond .eq 6, 3) := by decide +kernel
theorem dX10_settle_7 : decode cX10_settle 7 = .ok (.bipush (-4), 2) := by decide +kernel
theorem dX10_settle_9 : decode cX10_settle 9 = .ok (.ireturn, 1) := by decide +kernel
theorem dX10_settle_10 : decode cX10_settle 10 = .ok (.iconst 0, 1) := by decide +kernel
theorem dX10_settle_11 : decode cX10_settle 11 = .ok (.istore_n 1, 1) := by decide +kernel
theorem dX10_settle_12 : decode cX10_settle 12 = .ok (.aload_n 0, 1) := by decide +kernel
theorem dX10_settle_13 : decode cX10_settle 13 = .ok (.invokevirtual 355, 3) := by decide +kernel
theorem dX10_settle_16 : decode cX10_settle 16 = .ok (.iconst 0, 1) := by decide +kernel
theorem dX10_settle_17 : decode cX10_settle 17 = .ok (.istore_n 2, 1) := by decide +kernel
theorem dX10_settle_18 : decode cX10_settle 18 = .ok (.iload_n 2, 1) := by decide +kernel
theorem dX10_settle_19 : decode cX10_settle 19 = .ok (.aload_n 0, 1) := by decide +kernel
theorem dX10_settle_20 : decode cX10_settle 20 = .ok (.getfield 349, 3) := by decide +kernel
theorem dX10_settle_23 : decode cX10_settle 23 = .ok (.if_icmp .ge 23, 3) := by decide +kernel
theorem dX10_settle_26 : decode cX10_settle 26 = .ok (.aload_n 0, 1) := by decide +kernel
theorem dX10_settle_27 : decode cX10_settle 27 = .ok (.getfield 145, 3) := by decide +kernel
theorem dX10_settle_30 : decode cX10_settle 30 = .ok (.aload_n 0, 1) := by decide +kernel
theorem dX10_settle_31 : decode cX10_settle 31 = .ok (.getfield 191, 3) := by decide +kernel
theorem dX10_settle_34 : decode cX10_settle 34 = .ok (.iload_n 2, 1) := by decide +kernel
theorem dX10_settle_35 : decode cX10_settle 35 = .ok (.iaload, 1) := by decide +kernel
theorem dX10_settle_36 : decode cX10_settle 36 = .ok (.iaload, 1) := by decide +kernel
theorem dX10_settle_37 : decode cX10_settle 37 = .ok (.ifCond .ne 9, 3) := by decide +kernel
theorem dX10_settle_40 : decode cX10_settle 40 = .ok (.iinc 2 1, 3) := by decide +kernel
theorem dX10_settle_43 : decode cX10_settle 43 = .ok (.goto (-25), 3) := by decide +kernel
theorem dX10_settle_46 : decode cX10_settle 46 = .ok (.iload_n 2, 1) := by decide +kernel
theorem dX10_settle_47 : decode cX10_settle 47 = .ok (.aload_n 0, 1) := by decide +kernel
theorem dX10_settle_48 : decode cX10_settle 48 = .ok (.getfield 349, 3) := by decide +kernel
theorem dX10_settle_51 : decode cX10_settle 51 = .ok (.if_icmp .ne 5, 3) := by decide +kernel
theorem dX10_settle_54 : decode cX10_settle 54 = .ok (.iload_n 1, 1) := by decide +kernel
theorem dX10_settle_55 : decode cX10_settle 55 = .ok (.ireturn, 1) := by decide +kernel
theorem dX10_settle_56 : decode cX10_settle 56 = .ok (.aload_n 0, 1) := by decide +kernel
theorem dX10_settle_57 : decode cX10_settle 57 = .ok (.getfield 191, 3) := by decide +kernel
theorem dX10_settle_60 : decode cX10_settle 60 = .ok (.iload_n 2, 1) := by decide +kernel
theorem dX10_settle_61 : decode cX10_settle 61 = .ok (.iaload, 1) := by decide +kernel
theorem dX10_settle_62 : decode cX10_settle 62 = .ok (.istore_n 3, 1) := by decide +kernel
theorem dX10_settle_63 : decode cX10_settle 63 = .ok (.aload_n 0, 1) := by decide +kernel
theorem dX10_settle_64 : decode cX10_settle 64 = .ok (.iload_n 3, 1) := by decide +kernel
theorem dX10_settle_65 : decode cX10_settle 65 = .ok (.invokevirtual 320, 3) := by decide +kernel
theorem dX10_settle_68 : decode cX10_settle 68 = .ok (.istore 4, 2) := by decide +kernel
theorem dX10_settle_70 : decode cX10_settle 70 = .ok (.iinc 1 1, 3) := by decide +kernel
theorem dX10_settle_73 : decode cX10_settle 73 = .ok (.iload_n 3, 1) := by decide +kernel
theorem dX10_settle_74 : decode cX10_settle 74 = .ok (.aload_n 0, 1) := by decide +kernel
theorem dX10_settle_75 : decode cX10_settle 75 = .ok (.getfield 277, 3) := by decide +kernel
theorem dX10_settle_78 : decode cX10_settle 78 = .ok (.if_icmp .eq 37, 3) := by decide +kernel
theorem dX10_settle_81 : decode cX10_settle 81 = .ok (.aload_n 0, 1) := by decide +kernel
theorem dX10_settle_82 : decode cX10_settle 82 = .ok (.iload_n 3, 1) := by decide +kernel
theorem dX10_settle_83 : decode cX10_settle 83 = .ok (.invokevirtual 343, 3) := by decide +kernel
theorem dX10_settle_86 : decode cX10_settle 86 = .ok (.ifCond .eq 29, 3) := by decide +kernel
theorem dX10_settle_89 : decode cX10_settle 89 = .ok (.aload_n 0, 1) := by decide +kernel
theorem dX10_settle_90 : decode cX10_settle 90 = .ok (.getfield 194, 3) := by decide +kernel
theorem dX10_settle_93 : decode cX10_settle 93 = .ok (.iload_n 3, 1) := by decide +kernel
theorem dX10_settle_94 : decode cX10_settle 94 = .ok (.iaload, 1) := by decide +kernel
theorem dX10_settle_95 : decode cX10_settle 95 = .ok (.istore 5, 2) := by decide +kernel
theorem dX10_settle_97 : decode cX10_settle 97 = .ok (.aload_n 0, 1) := by decide +kernel
theorem dX10_settle_98 : decode cX10_settle 98 = .ok (.iload 5, 2) := by decide +kernel
theorem dX10_settle_100 : decode cX10_settle 100 = .ok (.aload_n 0, 1) := by decide +kernel
theorem dX10_settle_101 : decode cX10_settle 101 = .ok (.getfield 197, 3) := by decide +kernel
theorem dX10_settle_104 : decode cX10_settle 104 = .ok (.iload_n 3, 1) := by decide +kernel
theorem dX10_settle_105 : decode cX10_settle 105 = .ok (.iaload, 1) := by decide +kernel
theorem dX10_settle_106 : decode cX10_settle 106 = .ok (.invokevirtual 334, 3) := by decide +kernel
theorem dX10_settle_109 : decode cX10_settle 109 = .ok (.iload 5, 2) := by decide +kernel
theorem dX10_settle_111 : decode cX10_settle 111 = .ok (.istore_n 3, 1) := by decide +kernel
theorem dX10_settle_112 : decode cX10_settle 112 = .ok (.goto (-39), 3) := by decide +kernel
theorem dX10_settle_115 : decode cX10_settle 115 = .ok (.aload_n 0, 1) := by decide +kernel
theorem dX10_settle_116 : decode cX10_settle 116 = .ok (.invokevirtual 324, 3) := by decide +kernel
theorem dX10_settle_119 : decode cX10_settle 119 = .ok (.goto (-107), 3) := by decide +kernel
theorem dX10_pages_0 : decode cX10_pages 0 = .ok (.aload_n 0, 1) := by decide +kernel
theorem dX10_pages_1 : decode cX10_pages 1 = .ok (.getfield 90, 3) := by decide +kernel
theorem dX10_pages_4 : decode cX10_pages 4 = .ok (.ifCond .eq 6, 3) := by decide +kernel
theorem dX10_pages_7 : decode cX10_pages 7 = .ok (.bipush (-4), 2) := by decide +kernel
theorem dX10_pages_9 : decode cX10_pages 9 = .ok (.ireturn, 1) := by decide +kernel
theorem dX10_pages_10 : decode cX10_pages 10 = .ok (.aload_n 0, 1) := by decide +kernel
theorem dX10_pages_11 : decode cX10_pages 11 = .ok (.invokevirtual 355, 3) := by decide +kernel
theorem dX10_pages_14 : decode cX10_pages 14 = .ok (.aload_n 0, 1) := by decide +kernel
theorem dX10_pages_15 : decode cX10_pages 15 = .ok (.getfield 349, 3) := by decide +kernel
theorem dX10_pages_18 : decode cX10_pages 18 = .ok (.ireturn, 1) := by decide +kernel
theorem dX10_height_0 : decode cX10_height 0 = .ok (.aload_n 0, 1) := by decide +kernel
theorem dX10_height_1 : decode cX10_height 1 = .ok (.getfield 90, 3) := by decide +kernel
theorem dX10_height_4 : decode cX10_height 4 = .ok (.ifCond .eq 6, 3) := by decide +kernel
theorem dX10_height_7 : decode cX10_height 7 = .ok (.bipush (-4), 2) := by decide +kernel
theorem dX10_height_9 : decode cX10_height 9 = .ok (.ireturn, 1) := by decide +kernel
theorem dX10_height_10 : decode cX10_height 10 = .ok (.iconst 1, 1) := by decide +kernel
theorem dX10_height_11 : decode cX10_height 11 = .ok (.istore_n 1, 1) := by decide +kernel
theorem dX10_height_12 : decode cX10_height 12 = .ok (.aload_n 0, 1) := by decide +kernel
theorem dX10_height_13 : decode cX10_height 13 = .ok (.getfield 277, 3) := by decide +kernel
theorem dX10_height_16 : decode cX10_height 16 = .ok (.istore_n 2, 1) := by decide +kernel
theorem dX10_height_17 : decode cX10_height 17 = .ok (.aload_n 0, 1) := by decide +kernel
theorem dX10_height_18 : decode cX10_height 18 = .ok (.getfield 119, 3) := by decide +kernel
theorem dX10_height_21 : decode cX10_height 21 = .ok (.iload_n 2, 1) := by decide +kernel
theorem dX10_height_22 : decode cX10_height 22 = .ok (.baload, 1) := by decide +kernel
theorem dX10_height_23 : decode cX10_height 23 = .ok (.ifCond .ne 20, 3) := by decide +kernel
theorem dX10_height_26 : decode cX10_height 26 = .ok (.iinc 1 1, 3) := by decide +kernel
theorem dX10_height_29 : decode cX10_height 29 = .ok (.aload_n 0, 1) := by decide +kernel
theorem dX10_height_30 : decode cX10_height 30 = .ok (.getfield 133, 3) := by decide +kernel
theorem dX10_height_33 : decode cX10_height 33 = .ok (.sipush 128, 3) := by decide +kernel
theorem dX10_height_36 : decode cX10_height 36 = .ok (.iload_n 2, 1) := by decide +kernel
theorem dX10_height_37 : decode cX10_height 37 = .ok (.imul, 1) := by decide +kernel
theorem dX10_height_38 : decode cX10_height 38 = .ok (.iaload, 1) := by decide +kernel
theorem dX10_height_39 : decode cX10_height 39 = .ok (.istore_n 2, 1) := by decide +kernel
theorem dX10_height_40 : decode cX10_height 40 = .ok (.goto (-23), 3) := by decide +kernel
theorem dX10_height_43 : decode cX10_height 43 = .ok (.iload_n 1, 1) := by decide +kernel
theorem dX10_height_44 : decode cX10_height 44 = .ok (.ireturn, 1) := by decide +kernel
theorem dX10_letters_0 : decode cX10_letters 0 = .ok (.aload_n 0, 1) := by decide +kernel
theorem dX10_letters_1 : decode cX10_letters 1 = .ok (.getfield 90, 3) := by decide +kernel
theorem dX10_letters_4 : decode cX10_letters 4 = .ok (.ifCond .eq 6, 3) := by decide +kernel
theorem dX10_letters_7 : decode cX10_letters 7 = .ok (.bipush (-4), 2) := by decide +kernel
theorem dX10_letters_9 : decode cX10_letters 9 = .ok (.ireturn, 1) := by decide +kernel
theorem dX10_letters_10 : decode cX10_letters 10 = .ok (.aload_n 0, 1) := by decide +kernel
theorem dX10_letters_11 : decode cX10_letters 11 = .ok (.invokevirtual 355, 3) := by decide +kernel
theorem dX10_letters_14 : decode cX10_letters 14 = .ok (.iconst 0, 1) := by decide +kernel
theorem dX10_letters_15 : decode cX10_letters 15 = .ok (.istore_n 1, 1) := by decide +kernel
theorem dX10_letters_16 : decode cX10_letters 16 = .ok (.iconst 0, 1) := by decide +kernel
theorem dX10_letters_17 : decode cX10_letters 17 = .ok (.istore_n 2, 1) := by decide +kernel
theorem dX10_letters_18 : decode cX10_letters 18 = .ok (.iload_n 2, 1) := by decide +kernel
theorem dX10_letters_19 : decode cX10_letters 19 = .ok (.aload_n 0, 1) := by decide +kernel
theorem dX10_letters_20 : decode cX10_letters 20 = .ok (.getfield 349, 3) := by decide +kernel
theorem dX10_letters_23 : decode cX10_letters 23 = .ok (.if_icmp .ge 23, 3) := by decide +kernel
theorem dX10_letters_26 : decode cX10_letters 26 = .ok (.iload_n 1, 1) := by decide +kernel
theorem dX10_letters_27 : decode cX10_letters 27 = .ok (.aload_n 0, 1) := by decide +kernel
theorem dX10_letters_28 : decode cX10_letters 28 = .ok (.getfield 145, 3) := by decide +kernel
theorem dX10_letters_31 : decode cX10_letters 31 = .ok (.aload_n 0, 1) := by decide +kernel
theorem dX10_letters_32 : decode cX10_letters 32 = .ok (.getfield 191, 3) := by decide +kernel
theorem dX10_letters_35 : decode cX10_letters 35 = .ok (.iload_n 2, 1) := by decide +kernel
theorem dX10_letters_36 : decode cX10_letters 36 = .ok (.iaload, 1) := by decide +kernel
theorem dX10_letters_37 : decode cX10_letters 37 = .ok (.iaload, 1) := by decide +kernel
theorem dX10_letters_38 : decode cX10_letters 38 = .ok (.iadd, 1) := by decide +kernel
theorem dX10_letters_39 : decode cX10_letters 39 = .ok (.istore_n 1, 1) := by decide +kernel
theorem dX10_letters_40 : decode cX10_letters 40 = .ok (.iinc 2 1, 3) := by decide +kernel
theorem dX10_letters_43 : decode cX10_letters 43 = .ok (.goto (-25), 3) := by decide +kernel
theorem dX10_letters_46 : decode cX10_letters 46 = .ok (.iload_n 1, 1) := by decide +kernel
theorem dX10_letters_47 : decode cX10_letters 47 = .ok (.ireturn, 1) := by decide +kernel
theorem dX10_page__0 : decode cX10_page_ 0 = .ok (.aload_n 0, 1) := by decide +kernel
theorem dX10_page__1 : decode cX10_page_ 1 = .ok (.getfield 90, 3) := by decide +kernel
theorem dX10_page__4 : decode cX10_page_ 4 = .ok (.ifCond .eq 6, 3) := by decide +kernel
theorem dX10_page__7 : decode cX10_page_ 7 = .ok (.bipush (-4), 2) := by decide +kernel
theorem dX10_page__9 : decode cX10_page_ 9 = .ok (.ireturn, 1) := by decide +kernel
theorem dX10_page__10 : decode cX10_page_ 10 = .ok (.aload_n 0, 1) := by decide +kernel
theorem dX10_page__11 : decode cX10_page_ 11 = .ok (.invokevirtual 357, 3) := by decide +kernel
theorem dX10_page__14 : decode cX10_page_ 14 = .ok (.iload_n 1, 1) := by decide +kernel
theorem dX10_page__15 : decode cX10_page_ 15 = .ok (.ifCond .lt 11, 3) := by decide +kernel
theorem dX10_page__18 : decode cX10_page_ 18 = .ok (.iload_n 1, 1) := by decide +kernel
theorem dX10_page__19 : decode cX10_page_ 19 = .ok (.aload_n 0, 1) := by decide +kernel
theorem dX10_page__20 : decode cX10_page_ 20 = .ok (.getfield 349, 3) := by decide +kernel
theorem dX10_page__23 : decode cX10_page_ 23 = .ok (.if_icmp .lt 5, 3) := by decide +kernel
theorem dX10_page__26 : decode cX10_page_ 26 = .ok (.iconst (-1), 1) := by decide +kernel
theorem dX10_page__27 : decode cX10_page_ 27 = .ok (.ireturn, 1) := by decide +kernel
theorem dX10_page__28 : decode cX10_page_ 28 = .ok (.aload_n 0, 1) := by decide +kernel
theorem dX10_page__29 : decode cX10_page_ 29 = .ok (.getfield 191, 3) := by decide +kernel
theorem dX10_page__32 : decode cX10_page_ 32 = .ok (.iload_n 1, 1) := by decide +kernel
theorem dX10_page__33 : decode cX10_page_ 33 = .ok (.iaload, 1) := by decide +kernel
theorem dX10_page__34 : decode cX10_page_ 34 = .ok (.istore_n 3, 1) := by decide +kernel
theorem dX10_page__35 : decode cX10_page_ 35 = .ok (.iload_n 2, 1) := by decide +kernel
theorem dX10_page__36 : decode cX10_page_ 36 = .ok (.tableswitch 86 0 3 #[32, 47, 72, 79], 32) := by decide +kernel
theorem dX10_page__68 : decode cX10_page_ 68 = .ok (.aload_n 0, 1) := by decide +kernel
theorem dX10_page__69 : decode cX10_page_ 69 = .ok (.getfield 119, 3) := by decide +kernel
theorem dX10_page__72 : decode cX10_page_ 72 = .ok (.iload_n 3, 1) := by decide +kernel
theorem dX10_page__73 : decode cX10_page_ 73 = .ok (.baload, 1) := by decide +kernel
theorem dX10_page__74 : decode cX10_page_ 74 = .ok (.ifCond .eq 7, 3) := by decide +kernel
theorem dX10_page__77 : decode cX10_page_ 77 = .ok (.iconst 0, 1) := by decide +kernel
theorem dX10_page__78 : decode cX10_page_ 78 = .ok (.goto 4, 3) := by decide +kernel
theorem dX10_page__81 : decode cX10_page_ 81 = .ok (.iconst 1, 1) := by decide +kernel
theorem dX10_page__82 : decode cX10_page_ 82 = .ok (.ireturn, 1) := by decide +kernel
theorem dX10_page__83 : decode cX10_page_ 83 = .ok (.aload_n 0, 1) := by decide +kernel
theorem dX10_page__84 : decode cX10_page_ 84 = .ok (.getfield 119, 3) := by decide +kernel
theorem dX10_page__87 : decode cX10_page_ 87 = .ok (.iload_n 3, 1) := by decide +kernel
theorem dX10_page__88 : decode cX10_page_ 88 = .ok (.baload, 1) := by decide +kernel
theorem dX10_page__89 : decode cX10_page_ 89 = .ok (.ifCond .eq 12, 3) := by decide +kernel
theorem dX10_page__92 : decode cX10_page_ 92 = .ok (.aload_n 0, 1) := by decide +kernel
theorem dX10_page__93 : decode cX10_page_ 93 = .ok (.getfield 126, 3) := by decide +kernel
theorem dX10_page__96 : decode cX10_page_ 96 = .ok (.iload_n 3, 1) := by decide +kernel
theorem dX10_page__97 : decode cX10_page_ 97 = .ok (.iaload, 1) := by decide +kernel
theorem dX10_page__98 : decode cX10_page_ 98 = .ok (.goto 9, 3) := by decide +kernel
theorem dX10_page__101 : decode cX10_page_ 101 = .ok (.aload_n 0, 1) := by decide +kernel
theorem dX10_page__102 : decode cX10_page_ 102 = .ok (.getfield 129, 3) := by decide +kernel
theorem dX10_page__105 : decode cX10_page_ 105 = .ok (.iload_n 3, 1) := by decide +kernel
theorem dX10_page__106 : decode cX10_page_ 106 = .ok (.iaload, 1) := by decide +kernel
theorem dX10_page__107 : decode cX10_page_ 107 = .ok (.ireturn, 1) := by decide +kernel
theorem dX10_page__108 : decode cX10_page_ 108 = .ok (.aload_n 0, 1) := by decide +kernel
theorem dX10_page__109 : decode cX10_page_ 109 = .ok (.getfield 145, 3) := by decide +kernel
theorem dX10_page__112 : decode cX10_page_ 112 = .ok (.iload_n 3, 1) := by decide +kernel
theorem dX10_page__113 : decode cX10_page_ 113 = .ok (.iaload, 1) := by decide +kernel
theorem dX10_page__114 : decode cX10_page_ 114 = .ok (.ireturn, 1) := by decide +kernel
theorem dX10_page__115 : decode cX10_page_ 115 = .ok (.aload_n 0, 1) := by decide +kernel
theorem dX10_page__116 : decode cX10_page_ 116 = .ok (.getfield 148, 3) := by decide +kernel
theorem dX10_page__119 : decode cX10_page_ 119 = .ok (.iload_n 3, 1) := by decide +kernel
theorem dX10_page__120 : decode cX10_page_ 120 = .ok (.iaload, 1) := by decide +kernel
theorem dX10_page__121 : decode cX10_page_ 121 = .ok (.ireturn, 1) := by decide +kernel
theorem dX10_page__122 : decode cX10_page_ 122 = .ok (.iconst (-1), 1) := by decide +kernel
theorem dX10_page__123 : decode cX10_page_ 123 = .ok (.ireturn, 1) := by decide +kernel
theorem dX10_border_0 : decode cX10_border 0 = .ok (.aload_n 0, 1) := by decide +kernel
theorem dX10_border_1 : decode cX10_border 1 = .ok (.getfield 90, 3) := by decide +kernel
theorem dX10_border_4 : decode cX10_border 4 = .ok (.ifCond .eq 6, 3) := by decide +kernel
theorem dX10_border_7 : decode cX10_border 7 = .ok (.bipush (-4), 2) := by decide +kernel
theorem dX10_border_9 : decode cX10_border 9 = .ok (.ireturn, 1) := by decide +kernel
theorem dX10_border_10 : decode cX10_border 10 = .ok (.aload_n 0, 1) := by decide +kernel
theorem dX10_border_11 : decode cX10_border 11 = .ok (.invokevirtual 355, 3) := by decide +kernel
theorem dX10_border_14 : decode cX10_border 14 = .ok (.iload_n 1, 1) := by decide +kernel
theorem dX10_border_15 : decode cX10_border 15 = .ok (.ifCond .lt 16, 3) := by decide +kernel
theorem dX10_border_18 : decode cX10_border 18 = .ok (.iload_n 1, 1) := by decide +kernel
theorem dX10_border_19 : decode cX10_border 19 = .ok (.aload_n 0, 1) := by decide +kernel
theorem dX10_border_20 : decode cX10_border 20 = .ok (.getfield 349, 3) := by decide +kernel
theorem dX10_border_23 : decode cX10_border 23 = .ok (.if_icmp .ge 8, 3) := by decide +kernel
theorem dX10_border_26 : decode cX10_border 26 = .ok (.iload_n 2, 1) := by decide +kernel
theorem dX10_border_27 : decode cX10_border 27 = .ok (.iconst 1, 1) := by decide +kernel
theorem dX10_border_28 : decode cX10_border 28 = .ok (.if_icmp .ge 5, 3) := by decide +kernel
theorem dX10_border_31 : decode cX10_border 31 = .ok (.iconst (-1), 1) := by decide +kernel
theorem dX10_border_32 : decode cX10_border 32 = .ok (.ireturn, 1) := by decide +kernel
theorem dX10_border_33 : decode cX10_border 33 = .ok (.aload_n 0, 1) := by decide +kernel
theorem dX10_border_34 : decode cX10_border 34 = .ok (.getfield 191, 3) := by decide +kernel
theorem dX10_border_37 : decode cX10_border 37 = .ok (.iload_n 1, 1) := by decide +kernel
theorem dX10_border_38 : decode cX10_border 38 = .ok (.iaload, 1) := by decide +kernel
theorem dX10_border_39 : decode cX10_border 39 = .ok (.istore_n 3, 1) := by decide +kernel
theorem dX10_border_40 : decode cX10_border 40 = .ok (.iload_n 2, 1) := by decide +kernel
theorem dX10_border_41 : decode cX10_border 41 = .ok (.aload_n 0, 1) := by decide +kernel
theorem dX10_border_42 : decode cX10_border 42 = .ok (.getfield 119, 3) := by decide +kernel
theorem dX10_border_45 : decode cX10_border 45 = .ok (.iload_n 3, 1) := by decide +kernel
theorem dX10_border_46 : decode cX10_border 46 = .ok (.baload, 1) := by decide +kernel
theorem dX10_border_47 : decode cX10_border 47 = .ok (.ifCond .eq 12, 3) := by decide +kernel
theorem dX10_border_50 : decode cX10_border 50 = .ok (.aload_n 0, 1) := by decide +kernel
theorem dX10_border_51 : decode cX10_border 51 = .ok (.getfield 126, 3) := by decide +kernel
theorem dX10_border_54 : decode cX10_border 54 = .ok (.iload_n 3, 1) := by decide +kernel
theorem dX10_border_55 : decode cX10_border 55 = .ok (.iaload, 1) := by decide +kernel
theorem dX10_border_56 : decode cX10_border 56 = .ok (.goto 11, 3) := by decide +kernel
theorem dX10_border_59 : decode cX10_border 59 = .ok (.aload_n 0, 1) := by decide +kernel
theorem dX10_border_60 : decode cX10_border 60 = .ok (.getfield 129, 3) := by decide +kernel
theorem dX10_border_63 : decode cX10_border 63 = .ok (.iload_n 3, 1) := by decide +kernel
theorem dX10_border_64 : decode cX10_border 64 = .ok (.iaload, 1) := by decide +kernel
theorem dX10_border_65 : decode cX10_border 65 = .ok (.iconst 1, 1) := by decide +kernel
theorem dX10_border_66 : decode cX10_border 66 = .ok (.isub, 1) := by decide +kernel
theorem dX10_border_67 : decode cX10_border 67 = .ok (.if_icmp .le 5, 3) := by decide +kernel
theorem dX10_border_70 : decode cX10_border 70 = .ok (.iconst (-1), 1) := by decide +kernel
theorem dX10_border_71 : decode cX10_border 71 = .ok (.ireturn, 1) := by decide +kernel
theorem dX10_border_72 : decode cX10_border 72 = .ok (.aload_n 0, 1) := by decide +kernel
theorem dX10_border_73 : decode cX10_border 73 = .ok (.getfield 123, 3) := by decide +kernel
theorem dX10_border_76 : decode cX10_border 76 = .ok (.iload_n 3, 1) := by decide +kernel
theorem dX10_border_77 : decode cX10_border 77 = .ok (.iaload, 1) := by decide +kernel
theorem dX10_border_78 : decode cX10_border 78 = .ok (.istore 4, 2) := by decide +kernel
theorem dX10_border_80 : decode cX10_border 80 = .ok (.iconst 1, 1) := by decide +kernel
theorem dX10_border_81 : decode cX10_border 81 = .ok (.istore 5, 2) := by decide +kernel
theorem dX10_border_83 : decode cX10_border 83 = .ok (.iload 5, 2) := by decide +kernel
theorem dX10_border_85 : decode cX10_border 85 = .ok (.iload_n 2, 1) := by decide +kernel
theorem dX10_border_86 : decode cX10_border 86 = .ok (.if_icmp .ge 27, 3) := by decide +kernel
theorem dX10_border_89 : decode cX10_border 89 = .ok (.aload_n 0, 1) := by decide +kernel
theorem dX10_border_90 : decode cX10_border 90 = .ok (.getfield 119, 3) := by decide +kernel
theorem dX10_border_93 : decode cX10_border 93 = .ok (.iload_n 3, 1) := by decide +kernel
theorem dX10_border_94 : decode cX10_border 94 = .ok (.baload, 1) := by decide +kernel
theorem dX10_border_95 : decode cX10_border 95 = .ok (.ifCond .eq 18, 3) := by decide +kernel
theorem dX10_border_98 : decode cX10_border 98 = .ok (.aload_n 0, 1) := by decide +kernel
theorem dX10_border_99 : decode cX10_border 99 = .ok (.getfield 164, 3) := by decide +kernel
theorem dX10_border_102 : decode cX10_border 102 = .ok (.iload 4, 2) := by decide +kernel
theorem dX10_border_104 : decode cX10_border 104 = .ok (.iaload, 1) := by decide +kernel
theorem dX10_border_105 : decode cX10_border 105 = .ok (.istore 4, 2) := by decide +kernel
theorem dX10_border_107 : decode cX10_border 107 = .ok (.iinc 5 1, 3) := by decide +kernel
theorem dX10_border_110 : decode cX10_border 110 = .ok (.goto (-27), 3) := by decide +kernel
theorem dX10_border_113 : decode cX10_border 113 = .ok (.aload_n 0, 1) := by decide +kernel
theorem dX10_border_114 : decode cX10_border 114 = .ok (.aload_n 0, 1) := by decide +kernel
theorem dX10_border_115 : decode cX10_border 115 = .ok (.getfield 119, 3) := by decide +kernel
theorem dX10_border_118 : decode cX10_border 118 = .ok (.iload_n 3, 1) := by decide +kernel
theorem dX10_border_119 : decode cX10_border 119 = .ok (.baload, 1) := by decide +kernel
theorem dX10_border_120 : decode cX10_border 120 = .ok (.ifCond .eq 13, 3) := by decide +kernel
theorem dX10_border_123 : decode cX10_border 123 = .ok (.aload_n 0, 1) := by decide +kernel
theorem dX10_border_124 : decode cX10_border 124 = .ok (.getfield 154, 3) := by decide +kernel
theorem dX10_border_127 : decode cX10_border 127 = .ok (.iload 4, 2) := by decide +kernel
theorem dX10_border_129 : decode cX10_border 129 = .ok (.laload, 1) := by decide +kernel
theorem dX10_border_130 : decode cX10_border 130 = .ok (.goto 15, 3) := by decide +kernel
theorem dX10_border_133 : decode cX10_border 133 = .ok (.aload_n 0, 1) := by decide +kernel
theorem dX10_border_134 : decode cX10_border 134 = .ok (.getfield 136, 3) := by decide +kernel
theorem dX10_border_137 : decode cX10_border 137 = .ok (.sipush 128, 3) := by decide +kernel
theorem dX10_border_140 : decode cX10_border 140 = .ok (.iload_n 3, 1) := by decide +kernel
theorem dX10_border_141 : decode cX10_border 141 = .ok (.imul, 1) := by decide +kernel
theorem dX10_border_142 : decode cX10_border 142 = .ok (.iload_n 2, 1) := by decide +kernel
theorem dX10_border_143 : decode cX10_border 143 = .ok (.iadd, 1) := by decide +kernel
theorem dX10_border_144 : decode cX10_border 144 = .ok (.laload, 1) := by decide +kernel
theorem dX10_border_145 : decode cX10_border 145 = .ok (.putfield 107, 3) := by decide +kernel
theorem dX10_border_148 : decode cX10_border 148 = .ok (.iconst 1, 1) := by decide +kernel
theorem dX10_border_149 : decode cX10_border 149 = .ok (.ireturn, 1) := by decide +kernel
theorem dX10_letter__0 : decode cX10_letter_ 0 = .ok (.aload_n 0, 1) := by decide +kernel
theorem dX10_letter__1 : decode cX10_letter_ 1 = .ok (.getfield 90, 3) := by decide +kernel
theorem dX10_letter__4 : decode cX10_letter_ 4 = .ok (.ifCond .eq 6, 3) := by decide +kernel
theorem dX10_letter__7 : decode cX10_letter_ 7 = .ok (.bipush (-4), 2) := by decide +kernel
theorem dX10_letter__9 : decode cX10_letter_ 9 = .ok (.ireturn, 1) := by decide +kernel
theorem dX10_letter__10 : decode cX10_letter_ 10 = .ok (.aload_n 0, 1) := by decide +kernel
theorem dX10_letter__11 : decode cX10_letter_ 11 = .ok (.invokevirtual 355, 3) := by decide +kernel
theorem dX10_letter__14 : decode cX10_letter_ 14 = .ok (.iload_n 1, 1) := by decide +kernel
theorem dX10_letter__15 : decode cX10_letter_ 15 = .ok (.ifCond .lt 39, 3) := by decide +kernel
theorem dX10_letter__18 : decode cX10_letter_ 18 = .ok (.iload_n 1, 1) := by decide +kernel
theorem dX10_letter__19 : decode cX10_letter_ 19 = .ok (.aload_n 0, 1) := by decide +kernel
theorem dX10_letter__20 : decode cX10_letter_ 20 = .ok (.getfield 349, 3) := by decide +kernel
theorem dX10_letter__23 : decode cX10_letter_ 23 = .ok (.if_icmp .ge 31, 3) := by decide +kernel
theorem dX10_letter__26 : decode cX10_letter_ 26 = .ok (.iload_n 2, 1) := by decide +kernel
theorem dX10_letter__27 : decode cX10_letter_ 27 = .ok (.ifCond .lt 27, 3) := by decide +kernel
theorem dX10_letter__30 : decode cX10_letter_ 30 = .ok (.iload_n 3, 1) := by decide +kernel
theorem dX10_letter__31 : decode cX10_letter_ 31 = .ok (.ifCond .lt 23, 3) := by decide +kernel
theorem dX10_letter__34 : decode cX10_letter_ 34 = .ok (.iload_n 3, 1) := by decide +kernel
theorem dX10_letter__35 : decode cX10_letter_ 35 = .ok (.iconst 1, 1) := by decide +kernel
theorem dX10_letter__36 : decode cX10_letter_ 36 = .ok (.if_icmp .gt 18, 3) := by decide +kernel
theorem dX10_letter__39 : decode cX10_letter_ 39 = .ok (.iload_n 2, 1) := by decide +kernel
theorem dX10_letter__40 : decode cX10_letter_ 40 = .ok (.aload_n 0, 1) := by decide +kernel
theorem dX10_letter__41 : decode cX10_letter_ 41 = .ok (.getfield 145, 3) := by decide +kernel
theorem dX10_letter__44 : decode cX10_letter_ 44 = .ok (.aload_n 0, 1) := by decide +kernel
theorem dX10_letter__45 : decode cX10_letter_ 45 = .ok (.getfield 191, 3) := by decide +kernel
theorem dX10_letter__48 : decode cX10_letter_ 48 = .ok (.iload_n 1, 1) := by decide +kernel
theorem dX10_letter__49 : decode cX10_letter_ 49 = .ok (.iaload, 1) := by decide +kernel
theorem dX10_letter__50 : decode cX10_letter_ 50 = .ok (.iaload, 1) := by decide +kernel
theorem dX10_letter__51 : decode cX10_letter_ 51 = .ok (.if_icmp .lt 5, 3) := by decide +kernel
theorem dX10_letter__54 : decode cX10_letter_ 54 = .ok (.iconst (-1), 1) := by decide +kernel
theorem dX10_letter__55 : decode cX10_letter_ 55 = .ok (.ireturn, 1) := by decide +kernel
theorem dX10_letter__56 : decode cX10_letter_ 56 = .ok (.aload_n 0, 1) := by decide +kernel
theorem dX10_letter__57 : decode cX10_letter_ 57 = .ok (.getfield 139, 3) := by decide +kernel
theorem dX10_letter__60 : decode cX10_letter_ 60 = .ok (.aload_n 0, 1) := by decide +kernel
theorem dX10_letter__61 : decode cX10_letter_ 61 = .ok (.getfield 191, 3) := by decide +kernel
theorem dX10_letter__64 : decode cX10_letter_ 64 = .ok (.iload_n 1, 1) := by decide +kernel
theorem dX10_letter__65 : decode cX10_letter_ 65 = .ok (.iaload, 1) := by decide +kernel
theorem dX10_letter__66 : decode cX10_letter_ 66 = .ok (.iaload, 1) := by decide +kernel
theorem dX10_letter__67 : decode cX10_letter_ 67 = .ok (.istore 4, 2) := by decide +kernel
theorem dX10_letter__69 : decode cX10_letter_ 69 = .ok (.iconst 0, 1) := by decide +kernel
theorem dX10_letter__70 : decode cX10_letter_ 70 = .ok (.istore 5, 2) := by decide +kernel
theorem dX10_letter__72 : decode cX10_letter_ 72 = .ok (.iload 5, 2) := by decide +kernel
theorem dX10_letter__74 : decode cX10_letter_ 74 = .ok (.iload_n 2, 1) := by decide +kernel
theorem dX10_letter__75 : decode cX10_letter_ 75 = .ok (.if_icmp .ge 18, 3) := by decide +kernel
theorem dX10_letter__78 : decode cX10_letter_ 78 = .ok (.aload_n 0, 1) := by decide +kernel
theorem dX10_letter__79 : decode cX10_letter_ 79 = .ok (.getfield 176, 3) := by decide +kernel
theorem dX10_letter__82 : decode cX10_letter_ 82 = .ok (.iload 4, 2) := by decide +kernel
theorem dX10_letter__84 : decode cX10_letter_ 84 = .ok (.iaload, 1) := by decide +kernel
theorem dX10_letter__85 : decode cX10_letter_ 85 = .ok (.istore 4, 2) := by decide +kernel
theorem dX10_letter__87 : decode cX10_letter_ 87 = .ok (.iinc 5 1, 3) := by decide +kernel
theorem dX10_letter__90 : decode cX10_letter_ 90 = .ok (.goto (-18), 3) := by decide +kernel
theorem dX10_letter__93 : decode cX10_letter_ 93 = .ok (.iload_n 3, 1) := by decide +kernel
theorem dX10_letter__94 : decode cX10_letter_ 94 = .ok (.ifCond .ne 18, 3) := by decide +kernel
theorem dX10_letter__97 : decode cX10_letter_ 97 = .ok (.aload_n 0, 1) := by decide +kernel
theorem dX10_letter__98 : decode cX10_letter_ 98 = .ok (.getfield 46, 3) := by decide +kernel
theorem dX10_letter__101 : decode cX10_letter_ 101 = .ok (.aload_n 0, 1) := by decide +kernel
theorem dX10_letter__102 : decode cX10_letter_ 102 = .ok (.getfield 167, 3) := by decide +kernel
theorem dX10_letter__105 : decode cX10_letter_ 105 = .ok (.iload 4, 2) := by decide +kernel
theorem dX10_letter__107 : decode cX10_letter_ 107 = .ok (.iaload, 1) := by decide +kernel
theorem dX10_letter__108 : decode cX10_letter_ 108 = .ok (.iaload, 1) := by decide +kernel
theorem dX10_letter__109 : decode cX10_letter_ 109 = .ok (.goto 15, 3) := by decide +kernel
theorem dX10_letter__112 : decode cX10_letter_ 112 = .ok (.aload_n 0, 1) := by decide +kernel
theorem dX10_letter__113 : decode cX10_letter_ 113 = .ok (.getfield 69, 3) := by decide +kernel
theorem dX10_letter__116 : decode cX10_letter_ 116 = .ok (.aload_n 0, 1) := by decide +kernel
theorem dX10_letter__117 : decode cX10_letter_ 117 = .ok (.getfield 167, 3) := by decide +kernel
theorem dX10_letter__120 : decode cX10_letter_ 120 = .ok (.iload 4, 2) := by decide +kernel
theorem dX10_letter__122 : decode cX10_letter_ 122 = .ok (.iaload, 1) := by decide +kernel
theorem dX10_letter__123 : decode cX10_letter_ 123 = .ok (.iaload, 1) := by decide +kernel
theorem dX10_letter__124 : decode cX10_letter_ 124 = .ok (.ireturn, 1) := by decide +kernel
theorem dX10_met_0 : decode cX10_met 0 = .ok (.aload_n 0, 1) := by decide +kernel
theorem dX10_met_1 : decode cX10_met 1 = .ok (.getfield 90, 3) := by decide +kernel
theorem dX10_met_4 : decode cX10_met 4 = .ok (.ifCond .eq 6, 3) := by decide +kernel
theorem dX10_met_7 : decode cX10_met 7 = .ok (.bipush (-4), 2) := by decide +kernel
theorem dX10_met_9 : decode cX10_met 9 = .ok (.ireturn, 1) := by decide +kernel
theorem dX10_met_10 : decode cX10_met 10 = .ok (.iconst 0, 1) := by decide +kernel
theorem dX10_met_11 : decode cX10_met 11 = .ok (.istore_n 3, 1) := by decide +kernel
theorem dX10_met_12 : decode cX10_met 12 = .ok (.aload_n 0, 1) := by decide +kernel
theorem dX10_met_13 : decode cX10_met 13 = .ok (.getfield 277, 3) := by decide +kernel
theorem dX10_met_16 : decode cX10_met 16 = .ok (.istore 4, 2) := by decide +kernel
theorem dX10_met_18 : decode cX10_met 18 = .ok (.aload_n 0, 1) := by decide +kernel
theorem dX10_met_19 : decode cX10_met 19 = .ok (.getfield 119, 3) := by decide +kernel
theorem dX10_met_22 : decode cX10_met 22 = .ok (.iload 4, 2) := by decide +kernel
theorem dX10_met_24 : decode cX10_met 24 = .ok (.baload, 1) := by decide +kernel
theorem dX10_met_25 : decode cX10_met 25 = .ok (.ifCond .ne 86, 3) := by decide +kernel
theorem dX10_met_28 : decode cX10_met 28 = .ok (.aload_n 0, 1) := by decide +kernel
theorem dX10_met_29 : decode cX10_met 29 = .ok (.getfield 139, 3) := by decide +kernel
theorem dX10_met_32 : decode cX10_met 32 = .ok (.iload 4, 2) := by decide +kernel
theorem dX10_met_34 : decode cX10_met 34 = .ok (.iaload, 1) := by decide +kernel
theorem dX10_met_35 : decode cX10_met 35 = .ok (.istore 5, 2) := by decide +kernel
theorem dX10_met_37 : decode cX10_met 37 = .ok (.iload 5, 2) := by decide +kernel
theorem dX10_met_39 : decode cX10_met 39 = .ok (.iconst (-1), 1) := by decide +kernel
theorem dX10_met_40 : decode cX10_met 40 = .ok (.if_icmp .eq 47, 3) := by decide +kernel
theorem dX10_met_43 : decode cX10_met 43 = .ok (.iload_n 3, 1) := by decide +kernel
theorem dX10_met_44 : decode cX10_met 44 = .ok (.aload_n 0, 1) := by decide +kernel
theorem dX10_met_45 : decode cX10_met 45 = .ok (.getfield 170, 3) := by decide +kernel
theorem dX10_met_48 : decode cX10_met 48 = .ok (.iload 5, 2) := by decide +kernel
theorem dX10_met_50 : decode cX10_met 50 = .ok (.laload, 1) := by decide +kernel
theorem dX10_met_51 : decode cX10_met 51 = .ok (.lload_n 1, 1) := by decide +kernel
theorem dX10_met_52 : decode cX10_met 52 = .ok (.lcmp, 1) := by decide +kernel
theorem dX10_met_53 : decode cX10_met 53 = .ok (.ifCond .gt 19, 3) := by decide +kernel
theorem dX10_met_56 : decode cX10_met 56 = .ok (.lload_n 1, 1) := by decide +kernel
theorem dX10_met_57 : decode cX10_met 57 = .ok (.aload_n 0, 1) := by decide +kernel
theorem dX10_met_58 : decode cX10_met 58 = .ok (.getfield 173, 3) := by decide +kernel
theorem dX10_met_61 : decode cX10_met 61 = .ok (.iload 5, 2) := by decide +kernel
theorem dX10_met_63 : decode cX10_met 63 = .ok (.laload, 1) := by decide +kernel
theorem dX10_met_64 : decode cX10_met 64 = .ok (.lcmp, 1) := by decide +kernel
theorem dX10_met_65 : decode cX10_met 65 = .ok (.ifCond .gt 7, 3) := by decide +kernel
theorem dX10_met_68 : decode cX10_met 68 = .ok (.iconst 1, 1) := by decide +kernel
theorem dX10_met_69 : decode cX10_met 69 = .ok (.goto 4, 3) := by decide +kernel
theorem dX10_met_72 : decode cX10_met 72 = .ok (.iconst 0, 1) := by decide +kernel
theorem dX10_met_73 : decode cX10_met 73 = .ok (.iadd, 1) := by decide +kernel
theorem dX10_met_74 : decode cX10_met 74 = .ok (.istore_n 3, 1) := by decide +kernel
theorem dX10_met_75 : decode cX10_met 75 = .ok (.aload_n 0, 1) := by decide +kernel
theorem dX10_met_76 : decode cX10_met 76 = .ok (.getfield 176, 3) := by decide +kernel
theorem dX10_met_79 : decode cX10_met 79 = .ok (.iload 5, 2) := by decide +kernel
theorem dX10_met_81 : decode cX10_met 81 = .ok (.iaload, 1) := by decide +kernel
theorem dX10_met_82 : decode cX10_met 82 = .ok (.istore 5, 2) := by decide +kernel
theorem dX10_met_84 : decode cX10_met 84 = .ok (.goto (-47), 3) := by decide +kernel
theorem dX10_met_87 : decode cX10_met 87 = .ok (.aload_n 0, 1) := by decide +kernel
theorem dX10_met_88 : decode cX10_met 88 = .ok (.getfield 133, 3) := by decide +kernel
theorem dX10_met_91 : decode cX10_met 91 = .ok (.sipush 128, 3) := by decide +kernel
theorem dX10_met_94 : decode cX10_met 94 = .ok (.iload 4, 2) := by decide +kernel
theorem dX10_met_96 : decode cX10_met 96 = .ok (.imul, 1) := by decide +kernel
theorem dX10_met_97 : decode cX10_met 97 = .ok (.aload_n 0, 1) := by decide +kernel
theorem dX10_met_98 : decode cX10_met 98 = .ok (.iload 4, 2) := by decide +kernel
theorem dX10_met_100 : decode cX10_met 100 = .ok (.lload_n 1, 1) := by decide +kernel
theorem dX10_met_101 : decode cX10_met 101 = .ok (.invokevirtual 307, 3) := by decide +kernel
theorem dX10_met_104 : decode cX10_met 104 = .ok (.iadd, 1) := by decide +kernel
theorem dX10_met_105 : decode cX10_met 105 = .ok (.iaload, 1) := by decide +kernel
theorem dX10_met_106 : decode cX10_met 106 = .ok (.istore 4, 2) := by decide +kernel
theorem dX10_met_108 : decode cX10_met 108 = .ok (.goto (-90), 3) := by decide +kernel
theorem dX10_met_111 : decode cX10_met 111 = .ok (.iload_n 3, 1) := by decide +kernel
theorem dX10_met_112 : decode cX10_met 112 = .ok (.ireturn, 1) := by decide +kernel
theorem dX10_take_0 : decode cX10_take 0 = .ok (.aload_n 0, 1) := by decide +kernel
theorem dX10_take_1 : decode cX10_take 1 = .ok (.getfield 264, 3) := by decide +kernel
theorem dX10_take_4 : decode cX10_take 4 = .ok (.iload_n 1, 1) := by decide +kernel
theorem dX10_take_5 : decode cX10_take 5 = .ok (.baload, 1) := by decide +kernel
theorem dX10_take_6 : decode cX10_take 6 = .ok (.ifCond .eq 4, 3) := by decide +kernel
theorem dX10_take_9 : decode cX10_take 9 = .ok (.return_, 1) := by decide +kernel
theorem dX10_take_10 : decode cX10_take 10 = .ok (.aload_n 0, 1) := by decide +kernel
theorem dX10_take_11 : decode cX10_take 11 = .ok (.getfield 264, 3) := by decide +kernel
theorem dX10_take_14 : decode cX10_take 14 = .ok (.iload_n 1, 1) := by decide +kernel
theorem dX10_take_15 : decode cX10_take 15 = .ok (.iconst 1, 1) := by decide +kernel
theorem dX10_take_16 : decode cX10_take 16 = .ok (.bastore, 1) := by decide +kernel
theorem dX10_take_17 : decode cX10_take 17 = .ok (.iconst 0, 1) := by decide +kernel
theorem dX10_take_18 : decode cX10_take 18 = .ok (.istore_n 2, 1) := by decide +kernel
theorem dX10_take_19 : decode cX10_take 19 = .ok (.iload_n 2, 1) := by decide +kernel
theorem dX10_take_20 : decode cX10_take 20 = .ok (.aload_n 0, 1) := by decide +kernel
theorem dX10_take_21 : decode cX10_take 21 = .ok (.getfield 203, 3) := by decide +kernel
theorem dX10_take_24 : decode cX10_take 24 = .ok (.iload_n 1, 1) := by decide +kernel
theorem dX10_take_25 : decode cX10_take 25 = .ok (.iaload, 1) := by decide +kernel
theorem dX10_take_26 : decode cX10_take 26 = .ok (.if_icmp .ge 33, 3) := by decide +kernel
theorem dX10_take_29 : decode cX10_take 29 = .ok (.aload_n 0, 1) := by decide +kernel
theorem dX10_take_30 : decode cX10_take 30 = .ok (.getfield 200, 3) := by decide +kernel
theorem dX10_take_33 : decode cX10_take 33 = .ok (.iload_n 1, 1) := by decide +kernel
theorem dX10_take_34 : decode cX10_take 34 = .ok (.baload, 1) := by decide +kernel
theorem dX10_take_35 : decode cX10_take 35 = .ok (.ifCond .ne 24, 3) := by decide +kernel
theorem dX10_take_38 : decode cX10_take 38 = .ok (.aload_n 0, 1) := by decide +kernel
theorem dX10_take_39 : decode cX10_take 39 = .ok (.aload_n 0, 1) := by decide +kernel
theorem dX10_take_40 : decode cX10_take 40 = .ok (.getfield 216, 3) := by decide +kernel
theorem dX10_take_43 : decode cX10_take 43 = .ok (.bipush 6, 2) := by decide +kernel
theorem dX10_take_45 : decode cX10_take 45 = .ok (.iload_n 1, 1) := by decide +kernel
theorem dX10_take_46 : decode cX10_take 46 = .ok (.imul, 1) := by decide +kernel
theorem dX10_take_47 : decode cX10_take 47 = .ok (.iload_n 2, 1) := by decide +kernel
theorem dX10_take_48 : decode cX10_take 48 = .ok (.iadd, 1) := by decide +kernel
theorem dX10_take_49 : decode cX10_take 49 = .ok (.iaload, 1) := by decide +kernel
theorem dX10_take_50 : decode cX10_take 50 = .ok (.invokevirtual 360, 3) := by decide +kernel
theorem dX10_take_53 : decode cX10_take 53 = .ok (.iinc 2 1, 3) := by decide +kernel
theorem dX10_take_56 : decode cX10_take 56 = .ok (.goto (-37), 3) := by decide +kernel
theorem dX10_take_59 : decode cX10_take 59 = .ok (.return_, 1) := by decide +kernel
theorem dX10_mark_0 : decode cX10_mark 0 = .ok (.iconst 0, 1) := by decide +kernel
theorem dX10_mark_1 : decode cX10_mark 1 = .ok (.istore_n 1, 1) := by decide +kernel
theorem dX10_mark_2 : decode cX10_mark 2 = .ok (.iload_n 1, 1) := by decide +kernel
theorem dX10_mark_3 : decode cX10_mark 3 = .ok (.sipush 1000, 3) := by decide +kernel
theorem dX10_mark_6 : decode cX10_mark 6 = .ok (.if_icmp .ge 16, 3) := by decide +kernel
theorem dX10_mark_9 : decode cX10_mark 9 = .ok (.aload_n 0, 1) := by decide +kernel
theorem dX10_mark_10 : decode cX10_mark 10 = .ok (.getfield 264, 3) := by decide +kernel
theorem dX10_mark_13 : decode cX10_mark 13 = .ok (.iload_n 1, 1) := by decide +kernel
theorem dX10_mark_14 : decode cX10_mark 14 = .ok (.iconst 0, 1) := by decide +kernel
theorem dX10_mark_15 : decode cX10_mark 15 = .ok (.bastore, 1) := by decide +kernel
theorem dX10_mark_16 : decode cX10_mark 16 = .ok (.iinc 1 1, 3) := by decide +kernel
theorem dX10_mark_19 : decode cX10_mark 19 = .ok (.goto (-17), 3) := by decide +kernel
theorem dX10_mark_22 : decode cX10_mark 22 = .ok (.aload_n 0, 1) := by decide +kernel
theorem dX10_mark_23 : decode cX10_mark 23 = .ok (.getfield 90, 3) := by decide +kernel
theorem dX10_mark_26 : decode cX10_mark 26 = .ok (.ifCond .ne 91, 3) := by decide +kernel
theorem dX10_mark_29 : decode cX10_mark 29 = .ok (.aload_n 0, 1) := by decide +kernel
theorem dX10_mark_30 : decode cX10_mark 30 = .ok (.invokevirtual 357, 3) := by decide +kernel
theorem dX10_mark_33 : decode cX10_mark 33 = .ok (.iconst 0, 1) := by decide +kernel
theorem dX10_mark_34 : decode cX10_mark 34 = .ok (.istore_n 1, 1) := by decide +kernel
theorem dX10_mark_35 : decode cX10_mark 35 = .ok (.iload_n 1, 1) := by decide +kernel
theorem dX10_mark_36 : decode cX10_mark 36 = .ok (.aload_n 0, 1) := by decide +kernel
theorem dX10_mark_37 : decode cX10_mark 37 = .ok (.getfield 349, 3) := by decide +kernel
theorem dX10_mark_40 : decode cX10_mark 40 = .ok (.if_icmp .ge 41, 3) := by decide +kernel
theorem dX10_mark_43 : decode cX10_mark 43 = .ok (.aload_n 0, 1) := by decide +kernel
theorem dX10_mark_44 : decode cX10_mark 44 = .ok (.getfield 148, 3) := by decide +kernel
theorem dX10_mark_47 : decode cX10_mark 47 = .ok (.aload_n 0, 1) := by decide +kernel
theorem dX10_mark_48 : decode cX10_mark 48 = .ok (.getfield 191, 3) := by decide +kernel
theorem dX10_mark_51 : decode cX10_mark 51 = .ok (.iload_n 1, 1) := by decide +kernel
theorem dX10_mark_52 : decode cX10_mark 52 = .ok (.iaload, 1) := by decide +kernel
theorem dX10_mark_53 : decode cX10_mark 53 = .ok (.iaload, 1) := by decide +kernel
theorem dX10_mark_54 : decode cX10_mark 54 = .ok (.iconst (-1), 1) := by decide +kernel
theorem dX10_mark_55 : decode cX10_mark 55 = .ok (.if_icmp .eq 20, 3) := by decide +kernel
theorem dX10_mark_58 : decode cX10_mark 58 = .ok (.aload_n 0, 1) := by decide +kernel
theorem dX10_mark_59 : decode cX10_mark 59 = .ok (.getfield 264, 3) := by decide +kernel
theorem dX10_mark_62 : decode cX10_mark 62 = .ok (.aload_n 0, 1) := by decide +kernel
theorem dX10_mark_63 : decode cX10_mark 63 = .ok (.getfield 148, 3) := by decide +kernel
theorem dX10_mark_66 : decode cX10_mark 66 = .ok (.aload_n 0, 1) := by decide +kernel
theorem dX10_mark_67 : decode cX10_mark 67 = .ok (.getfield 191, 3) := by decide +kernel
theorem dX10_mark_70 : decode cX10_mark 70 = .ok (.iload_n 1, 1) := by decide +kernel
theorem dX10_mark_71 : decode cX10_mark 71 = .ok (.iaload, 1) := by decide +kernel
theorem dX10_mark_72 : decode cX10_mark 72 = .ok (.iaload, 1) := by decide +kernel
theorem dX10_mark_73 : decode cX10_mark 73 = .ok (.iconst 1, 1) := by decide +kernel
theorem dX10_mark_74 : decode cX10_mark 74 = .ok (.bastore, 1) := by decide +kernel
theorem dX10_mark_75 : decode cX10_mark 75 = .ok (.iinc 1 1, 3) := by decide +kernel
theorem dX10_mark_78 : decode cX10_mark 78 = .ok (.goto (-43), 3) := by decide +kernel
theorem dX10_mark_81 : decode cX10_mark 81 = .ok (.iconst 0, 1) := by decide +kernel
theorem dX10_mark_82 : decode cX10_mark 82 = .ok (.istore_n 1, 1) := by decide +kernel
theorem dX10_mark_83 : decode cX10_mark 83 = .ok (.iload_n 1, 1) := by decide +kernel
theorem dX10_mark_84 : decode cX10_mark 84 = .ok (.aload_n 0, 1) := by decide +kernel
theorem dX10_mark_85 : decode cX10_mark 85 = .ok (.getfield 363, 3) := by decide +kernel
theorem dX10_mark_88 : decode cX10_mark 88 = .ok (.if_icmp .ge 29, 3) := by decide +kernel
theorem dX10_mark_91 : decode cX10_mark 91 = .ok (.aload_n 0, 1) := by decide +kernel
theorem dX10_mark_92 : decode cX10_mark 92 = .ok (.getfield 255, 3) := by decide +kernel
theorem dX10_mark_95 : decode cX10_mark 95 = .ok (.iload_n 1, 1) := by decide +kernel
theorem dX10_mark_96 : decode cX10_mark 96 = .ok (.iaload, 1) := by decide +kernel
theorem dX10_mark_97 : decode cX10_mark 97 = .ok (.iconst (-1), 1) := by decide +kernel
theorem dX10_mark_98 : decode cX10_mark 98 = .ok (.if_icmp .eq 13, 3) := by decide +kernel
theorem dX10_mark_101 : decode cX10_mark 101 = .ok (.aload_n 0, 1) := by decide +kernel
theorem dX10_mark_102 : decode cX10_mark 102 = .ok (.aload_n 0, 1) := by decide +kernel
theorem dX10_mark_103 : decode cX10_mark 103 = .ok (.getfield 255, 3) := by decide +kernel
theorem dX10_mark_106 : decode cX10_mark 106 = .ok (.iload_n 1, 1) := by decide +kernel
theorem dX10_mark_107 : decode cX10_mark 107 = .ok (.iaload, 1) := by decide +kernel
theorem dX10_mark_108 : decode cX10_mark 108 = .ok (.invokevirtual 360, 3) := by decide +kernel
theorem dX10_mark_111 : decode cX10_mark 111 = .ok (.iinc 1 1, 3) := by decide +kernel
theorem dX10_mark_114 : decode cX10_mark 114 = .ok (.goto (-31), 3) := by decide +kernel
theorem dX10_mark_117 : decode cX10_mark 117 = .ok (.iconst 0, 1) := by decide +kernel
theorem dX10_mark_118 : decode cX10_mark 118 = .ok (.istore_n 1, 1) := by decide +kernel
theorem dX10_mark_119 : decode cX10_mark 119 = .ok (.iload_n 1, 1) := by decide +kernel
theorem dX10_mark_120 : decode cX10_mark 120 = .ok (.iconst 2, 1) := by decide +kernel
theorem dX10_mark_121 : decode cX10_mark 121 = .ok (.if_icmp .ge 64, 3) := by decide +kernel
theorem dX10_mark_124 : decode cX10_mark 124 = .ok (.aload_n 0, 1) := by decide +kernel
theorem dX10_mark_125 : decode cX10_mark 125 = .ok (.getfield 231, 3) := by decide +kernel
theorem dX10_mark_128 : decode cX10_mark 128 = .ok (.iload_n 1, 1) := by decide +kernel
theorem dX10_mark_129 : decode cX10_mark 129 = .ok (.iaload, 1) := by decide +kernel
theorem dX10_mark_130 : decode cX10_mark 130 = .ok (.ifCond .ne 6, 3) := by decide +kernel
theorem dX10_mark_133 : decode cX10_mark 133 = .ok (.goto 46, 3) := by decide +kernel
theorem dX10_mark_136 : decode cX10_mark 136 = .ok (.aload_n 0, 1) := by decide +kernel
theorem dX10_mark_137 : decode cX10_mark 137 = .ok (.aload_n 0, 1) := by decide +kernel
theorem dX10_mark_138 : decode cX10_mark 138 = .ok (.getfield 234, 3) := by decide +kernel
theorem dX10_mark_141 : decode cX10_mark 141 = .ok (.iload_n 1, 1) := by decide +kernel
theorem dX10_mark_142 : decode cX10_mark 142 = .ok (.iaload, 1) := by decide +kernel
theorem dX10_mark_143 : decode cX10_mark 143 = .ok (.invokevirtual 360, 3) := by decide +kernel
theorem dX10_mark_146 : decode cX10_mark 146 = .ok (.iconst 0, 1) := by decide +kernel
theorem dX10_mark_147 : decode cX10_mark 147 = .ok (.istore_n 2, 1) := by decide +kernel
theorem dX10_mark_148 : decode cX10_mark 148 = .ok (.iload_n 2, 1) := by decide +kernel
theorem dX10_mark_149 : decode cX10_mark 149 = .ok (.aload_n 0, 1) := by decide +kernel
theorem dX10_mark_150 : decode cX10_mark 150 = .ok (.getfield 240, 3) := by decide +kernel
theorem dX10_mark_153 : decode cX10_mark 153 = .ok (.iload_n 1, 1) := by decide +kernel
theorem dX10_mark_154 : decode cX10_mark 154 = .ok (.iaload, 1) := by decide +kernel
theorem dX10_mark_155 : decode cX10_mark 155 = .ok (.if_icmp .ge 24, 3) := by decide +kernel
theorem dX10_mark_158 : decode cX10_mark 158 = .ok (.aload_n 0, 1) := by decide +kernel
theorem dX10_mark_159 : decode cX10_mark 159 = .ok (.aload_n 0, 1) := by decide +kernel
theorem dX10_mark_160 : decode cX10_mark 160 = .ok (.getfield 249, 3) := by decide +kernel
theorem dX10_mark_163 : decode cX10_mark 163 = .ok (.bipush 12, 2) := by decide +kernel
theorem dX10_mark_165 : decode cX10_mark 165 = .ok (.iload_n 1, 1) := by decide +kernel
theorem dX10_mark_166 : decode cX10_mark 166 = .ok (.imul, 1) := by decide +kernel
theorem dX10_mark_167 : decode cX10_mark 167 = .ok (.iload_n 2, 1) := by decide +kernel
theorem dX10_mark_168 : decode cX10_mark 168 = .ok (.iadd, 1) := by decide +kernel
theorem dX10_mark_169 : decode cX10_mark 169 = .ok (.iaload, 1) := by decide +kernel
theorem dX10_mark_170 : decode cX10_mark 170 = .ok (.invokevirtual 360, 3) := by decide +kernel
theorem dX10_mark_173 : decode cX10_mark 173 = .ok (.iinc 2 1, 3) := by decide +kernel
theorem dX10_mark_176 : decode cX10_mark 176 = .ok (.goto (-28), 3) := by decide +kernel
theorem dX10_mark_179 : decode cX10_mark 179 = .ok (.iinc 1 1, 3) := by decide +kernel
theorem dX10_mark_182 : decode cX10_mark 182 = .ok (.goto (-63), 3) := by decide +kernel
theorem dX10_mark_185 : decode cX10_mark 185 = .ok (.return_, 1) := by decide +kernel
theorem dX10_freePlaces_0 : decode cX10_freePlaces 0 = .ok (.aload_n 0, 1) := by decide +kernel
theorem dX10_freePlaces_1 : decode cX10_freePlaces 1 = .ok (.invokevirtual 366, 3) := by decide +kernel
theorem dX10_freePlaces_4 : decode cX10_freePlaces 4 = .ok (.iconst 0, 1) := by decide +kernel
theorem dX10_freePlaces_5 : decode cX10_freePlaces 5 = .ok (.istore_n 1, 1) := by decide +kernel
theorem dX10_freePlaces_6 : decode cX10_freePlaces 6 = .ok (.iconst 0, 1) := by decide +kernel
theorem dX10_freePlaces_7 : decode cX10_freePlaces 7 = .ok (.istore_n 2, 1) := by decide +kernel
theorem dX10_freePlaces_8 : decode cX10_freePlaces 8 = .ok (.iload_n 2, 1) := by decide +kernel
theorem dX10_freePlaces_9 : decode cX10_freePlaces 9 = .ok (.sipush 1000, 3) := by decide +kernel
theorem dX10_freePlaces_12 : decode cX10_freePlaces 12 = .ok (.if_icmp .ge 26, 3) := by decide +kernel
theorem dX10_freePlaces_15 : decode cX10_freePlaces 15 = .ok (.iload_n 1, 1) := by decide +kernel
theorem dX10_freePlaces_16 : decode cX10_freePlaces 16 = .ok (.aload_n 0, 1) := by decide +kernel
theorem dX10_freePlaces_17 : decode cX10_freePlaces 17 = .ok (.getfield 264, 3) := by decide +kernel
theorem dX10_freePlaces_20 : decode cX10_freePlaces 20 = .ok (.iload_n 2, 1) := by decide +kernel
theorem dX10_freePlaces_21 : decode cX10_freePlaces 21 = .ok (.baload, 1) := by decide +kernel
theorem dX10_freePlaces_22 : decode cX10_freePlaces 22 = .ok (.ifCond .eq 7, 3) := by decide +kernel
theorem dX10_freePlaces_25 : decode cX10_freePlaces 25 = .ok (.iconst 0, 1) := by decide +kernel
theorem dX10_freePlaces_26 : decode cX10_freePlaces 26 = .ok (.goto 4, 3) := by decide +kernel
theorem dX10_freePlaces_29 : decode cX10_freePlaces 29 = .ok (.iconst 1, 1) := by decide +kernel
theorem dX10_freePlaces_30 : decode cX10_freePlaces 30 = .ok (.iadd, 1) := by decide +kernel
theorem dX10_freePlaces_31 : decode cX10_freePlaces 31 = .ok (.istore_n 1, 1) := by decide +kernel
theorem dX10_freePlaces_32 : decode cX10_freePlaces 32 = .ok (.iinc 2 1, 3) := by decide +kernel
theorem dX10_freePlaces_35 : decode cX10_freePlaces 35 = .ok (.goto (-27), 3) := by decide +kernel
theorem dX10_freePlaces_38 : decode cX10_freePlaces 38 = .ok (.iload_n 1, 1) := by decide +kernel
theorem dX10_freePlaces_39 : decode cX10_freePlaces 39 = .ok (.ireturn, 1) := by decide +kernel
theorem dX10_leastFree_0 : decode cX10_leastFree 0 = .ok (.iconst 0, 1) := by decide +kernel
theorem dX10_leastFree_1 : decode cX10_leastFree 1 = .ok (.istore_n 1, 1) := by decide +kernel
theorem dX10_leastFree_2 : decode cX10_leastFree 2 = .ok (.aload_n 0, 1) := by decide +kernel
theorem dX10_leastFree_3 : decode cX10_leastFree 3 = .ok (.getfield 264, 3) := by decide +kernel
theorem dX10_leastFree_6 : decode cX10_leastFree 6 = .ok (.iload_n 1, 1) := by decide +kernel
theorem dX10_leastFree_7 : decode cX10_leastFree 7 = .ok (.baload, 1) := by decide +kernel
theorem dX10_leastFree_8 : decode cX10_leastFree 8 = .ok (.ifCond .eq 9, 3) := by decide +kernel
theorem dX10_leastFree_11 : decode cX10_leastFree 11 = .ok (.iinc 1 1, 3) := by decide +kernel
theorem dX10_leastFree_14 : decode cX10_leastFree 14 = .ok (.goto (-12), 3) := by decide +kernel
theorem dX10_leastFree_17 : decode cX10_leastFree 17 = .ok (.iload_n 1, 1) := by decide +kernel
theorem dX10_leastFree_18 : decode cX10_leastFree 18 = .ok (.ireturn, 1) := by decide +kernel
theorem dX10_falls_0 : decode cX10_falls 0 = .ok (.aload_n 0, 1) := by decide +kernel
theorem dX10_falls_1 : decode cX10_falls 1 = .ok (.getfield 261, 3) := by decide +kernel
theorem dX10_falls_4 : decode cX10_falls 4 = .ok (.iload_n 1, 1) := by decide +kernel
theorem dX10_falls_5 : decode cX10_falls 5 = .ok (.dup2, 1) := by decide +kernel
theorem dX10_falls_6 : decode cX10_falls 6 = .ok (.iaload, 1) := by decide +kernel
theorem dX10_falls_7 : decode cX10_falls 7 = .ok (.iconst 1, 1) := by decide +kernel
theorem dX10_falls_8 : decode cX10_falls 8 = .ok (.iadd, 1) := by decide +kernel
theorem dX10_falls_9 : decode cX10_falls 9 = .ok (.iastore, 1) := by decide +kernel
theorem dX10_falls_10 : decode cX10_falls 10 = .ok (.aload_n 0, 1) := by decide +kernel
theorem dX10_falls_11 : decode cX10_falls 11 = .ok (.getfield 369, 3) := by decide +kernel
theorem dX10_falls_14 : decode cX10_falls 14 = .ok (.ifCond .ne 5, 3) := by decide +kernel
theorem dX10_falls_17 : decode cX10_falls 17 = .ok (.iconst 0, 1) := by decide +kernel
theorem dX10_falls_18 : decode cX10_falls 18 = .ok (.ireturn, 1) := by decide +kernel
theorem dX10_falls_19 : decode cX10_falls 19 = .ok (.aload_n 0, 1) := by decide +kernel
theorem dX10_falls_20 : decode cX10_falls 20 = .ok (.dup, 1) := by decide +kernel
theorem dX10_falls_21 : decode cX10_falls 21 = .ok (.getfield 369, 3) := by decide +kernel
theorem dX10_falls_24 : decode cX10_falls 24 = .ok (.iconst 1, 1) := by decide +kernel
theorem dX10_falls_25 : decode cX10_falls 25 = .ok (.isub, 1) := by decide +kernel
theorem dX10_falls_26 : decode cX10_falls 26 = .ok (.putfield 369, 3) := by decide +kernel
theorem dX10_falls_29 : decode cX10_falls 29 = .ok (.aload_n 0, 1) := by decide +kernel
theorem dX10_falls_30 : decode cX10_falls 30 = .ok (.getfield 369, 3) := by decide +kernel
theorem dX10_falls_33 : decode cX10_falls 33 = .ok (.ifCond .le 5, 3) := by decide +kernel
theorem dX10_falls_36 : decode cX10_falls 36 = .ok (.iconst 0, 1) := by decide +kernel
theorem dX10_falls_37 : decode cX10_falls 37 = .ok (.ireturn, 1) := by decide +kernel
theorem dX10_falls_38 : decode cX10_falls 38 = .ok (.aload_n 0, 1) := by decide +kernel
theorem dX10_falls_39 : decode cX10_falls 39 = .ok (.getfield 261, 3) := by decide +kernel
theorem dX10_falls_42 : decode cX10_falls 42 = .ok (.iconst 3, 1) := by decide +kernel
theorem dX10_falls_43 : decode cX10_falls 43 = .ok (.dup2, 1) := by decide +kernel
theorem dX10_falls_44 : decode cX10_falls 44 = .ok (.iaload, 1) := by decide +kernel
theorem dX10_falls_45 : decode cX10_falls 45 = .ok (.iconst 1, 1) := by decide +kernel
theorem dX10_falls_46 : decode cX10_falls 46 = .ok (.iadd, 1) := by decide +kernel
theorem dX10_falls_47 : decode cX10_falls 47 = .ok (.iastore, 1) := by decide +kernel
theorem dX10_falls_48 : decode cX10_falls 48 = .ok (.aload_n 0, 1) := by decide +kernel
theorem dX10_falls_49 : decode cX10_falls 49 = .ok (.iconst 1, 1) := by decide +kernel
theorem dX10_falls_50 : decode cX10_falls 50 = .ok (.putfield 90, 3) := by decide +kernel
theorem dX10_falls_53 : decode cX10_falls 53 = .ok (.iconst 1, 1) := by decide +kernel
theorem dX10_falls_54 : decode cX10_falls 54 = .ok (.ireturn, 1) := by decide +kernel
theorem dX10_lay_0 : decode cX10_lay 0 = .ok (.aload_n 0, 1) := by decide +kernel
theorem dX10_lay_1 : decode cX10_lay 1 = .ok (.getfield 200, 3) := by decide +kernel
theorem dX10_lay_4 : decode cX10_lay 4 = .ok (.iload_n 2, 1) := by decide +kernel
theorem dX10_lay_5 : decode cX10_lay 5 = .ok (.aload_n 0, 1) := by decide +kernel
theorem dX10_lay_6 : decode cX10_lay 6 = .ok (.getfield 119, 3) := by decide +kernel
theorem dX10_lay_9 : decode cX10_lay 9 = .ok (.iload_n 1, 1) := by decide +kernel
theorem dX10_lay_10 : decode cX10_lay 10 = .ok (.baload, 1) := by decide +kernel
theorem dX10_lay_11 : decode cX10_lay 11 = .ok (.bastore, 1) := by decide +kernel
theorem dX10_lay_12 : decode cX10_lay 12 = .ok (.aload_n 0, 1) := by decide +kernel
theorem dX10_lay_13 : decode cX10_lay 13 = .ok (.getfield 219, 3) := by decide +kernel
theorem dX10_lay_16 : decode cX10_lay 16 = .ok (.iload_n 2, 1) := by decide +kernel
theorem dX10_lay_17 : decode cX10_lay 17 = .ok (.iconst 0, 1) := by decide +kernel
theorem dX10_lay_18 : decode cX10_lay 18 = .ok (.iastore, 1) := by decide +kernel
theorem dX10_lay_19 : decode cX10_lay 19 = .ok (.iconst 0, 1) := by decide +kernel
theorem dX10_lay_20 : decode cX10_lay 20 = .ok (.istore_n 3, 1) := by decide +kernel
theorem dX10_lay_21 : decode cX10_lay 21 = .ok (.aload_n 0, 1) := by decide +kernel
theorem dX10_lay_22 : decode cX10_lay 22 = .ok (.getfield 119, 3) := by decide +kernel
theorem dX10_lay_25 : decode cX10_lay 25 = .ok (.iload_n 1, 1) := by decide +kernel
theorem dX10_lay_26 : decode cX10_lay 26 = .ok (.baload, 1) := by decide +kernel
theorem dX10_lay_27 : decode cX10_lay 27 = .ok (.ifCond .eq 122, 3) := by decide +kernel
theorem dX10_lay_30 : decode cX10_lay 30 = .ok (.aload_n 0, 1) := by decide +kernel
theorem dX10_lay_31 : decode cX10_lay 31 = .ok (.getfield 123, 3) := by decide +kernel
theorem dX10_lay_34 : decode cX10_lay 34 = .ok (.iload_n 1, 1) := by decide +kernel
theorem dX10_lay_35 : decode cX10_lay 35 = .ok (.iaload, 1) := by decide +kernel
theorem dX10_lay_36 : decode cX10_lay 36 = .ok (.istore 4, 2) := by decide +kernel
theorem dX10_lay_38 : decode cX10_lay 38 = .ok (.iload 4, 2) := by decide +kernel
theorem dX10_lay_40 : decode cX10_lay 40 = .ok (.iconst (-1), 1) := by decide +kernel
theorem dX10_lay_41 : decode cX10_lay 41 = .ok (.if_icmp .eq 100, 3) := by decide +kernel
theorem dX10_lay_44 : decode cX10_lay 44 = .ok (.aload_n 0, 1) := by decide +kernel
theorem dX10_lay_45 : decode cX10_lay 45 = .ok (.getfield 206, 3) := by decide +kernel
theorem dX10_lay_48 : decode cX10_lay 48 = .ok (.bipush 6, 2) := by decide +kernel
theorem dX10_lay_50 : decode cX10_lay 50 = .ok (.iload_n 2, 1) := by decide +kernel
theorem dX10_lay_51 : decode cX10_lay 51 = .ok (.imul, 1) := by decide +kernel
theorem dX10_lay_52 : decode cX10_lay 52 = .ok (.iload_n 3, 1) := by decide +kernel
theorem dX10_lay_53 : decode cX10_lay 53 = .ok (.iadd, 1) := by decide +kernel
theorem dX10_lay_54 : decode cX10_lay 54 = .ok (.aload_n 0, 1) := by decide +kernel
theorem dX10_lay_55 : decode cX10_lay 55 = .ok (.getfield 154, 3) := by decide +kernel
theorem dX10_lay_58 : decode cX10_lay 58 = .ok (.iload 4, 2) := by decide +kernel
theorem dX10_lay_60 : decode cX10_lay 60 = .ok (.laload, 1) := by decide +kernel
theorem dX10_lay_61 : decode cX10_lay 61 = .ok (.lastore, 1) := by decide +kernel
theorem dX10_lay_62 : decode cX10_lay 62 = .ok (.aload_n 0, 1) := by decide +kernel
theorem dX10_lay_63 : decode cX10_lay 63 = .ok (.getfield 209, 3) := by decide +kernel
theorem dX10_lay_66 : decode cX10_lay 66 = .ok (.bipush 6, 2) := by decide +kernel
theorem dX10_lay_68 : decode cX10_lay 68 = .ok (.iload_n 2, 1) := by decide +kernel
theorem dX10_lay_69 : decode cX10_lay 69 = .ok (.imul, 1) := by decide +kernel
theorem dX10_lay_70 : decode cX10_lay 70 = .ok (.iload_n 3, 1) := by decide +kernel
theorem dX10_lay_71 : decode cX10_lay 71 = .ok (.iadd, 1) := by decide +kernel
theorem dX10_lay_72 : decode cX10_lay 72 = .ok (.aload_n 0, 1) := by decide +kernel
theorem dX10_lay_73 : decode cX10_lay 73 = .ok (.getfield 157, 3) := by decide +kernel
theorem dX10_lay_76 : decode cX10_lay 76 = .ok (.iload 4, 2) := by decide +kernel
theorem dX10_lay_78 : decode cX10_lay 78 = .ok (.iaload, 1) := by decide +kernel
theorem dX10_lay_79 : decode cX10_lay 79 = .ok (.iastore, 1) := by decide +kernel
theorem dX10_lay_80 : decode cX10_lay 80 = .ok (.iconst 0, 1) := by decide +kernel
theorem dX10_lay_81 : decode cX10_lay 81 = .ok (.istore 5, 2) := by decide +kernel
theorem dX10_lay_83 : decode cX10_lay 83 = .ok (.iload 5, 2) := by decide +kernel
theorem dX10_lay_85 : decode cX10_lay 85 = .ok (.bipush 20, 2) := by decide +kernel
theorem dX10_lay_87 : decode cX10_lay 87 = .ok (.if_icmp .ge 39, 3) := by decide +kernel
theorem dX10_lay_90 : decode cX10_lay 90 = .ok (.aload_n 0, 1) := by decide +kernel
theorem dX10_lay_91 : decode cX10_lay 91 = .ok (.getfield 213, 3) := by decide +kernel
theorem dX10_lay_94 : decode cX10_lay 94 = .ok (.bipush 20, 2) := by decide +kernel
theorem dX10_lay_96 : decode cX10_lay 96 = .ok (.bipush 6, 2) := by decide +kernel
theorem dX10_lay_98 : decode cX10_lay 98 = .ok (.iload_n 2, 1) := by decide +kernel
theorem dX10_lay_99 : decode cX10_lay 99 = .ok (.imul, 1) := by decide +kernel
theorem dX10_lay_100 : decode cX10_lay 100 = .ok (.iload_n 3, 1) := by decide +kernel
theorem dX10_lay_101 : decode cX10_lay 101 = .ok (.iadd, 1) := by decide +kernel
theorem dX10_lay_102 : decode cX10_lay 102 = .ok (.imul, 1) := by decide +kernel
theorem dX10_lay_103 : decode cX10_lay 103 = .ok (.iload 5, 2) := by decide +kernel
theorem dX10_lay_105 : decode cX10_lay 105 = .ok (.iadd, 1) := by decide +kernel
theorem dX10_lay_106 : decode cX10_lay 106 = .ok (.aload_n 0, 1) := by decide +kernel
theorem dX10_lay_107 : decode cX10_lay 107 = .ok (.getfield 161, 3) := by decide +kernel
theorem dX10_lay_110 : decode cX10_lay 110 = .ok (.bipush 20, 2) := by decide +kernel
theorem dX10_lay_112 : decode cX10_lay 112 = .ok (.iload 4, 2) := by decide +kernel
theorem dX10_lay_114 : decode cX10_lay 114 = .ok (.imul, 1) := by decide +kernel
theorem dX10_lay_115 : decode cX10_lay 115 = .ok (.iload 5, 2) := by decide +kernel
theorem dX10_lay_117 : decode cX10_lay 117 = .ok (.iadd, 1) := by decide +kernel
theorem dX10_lay_118 : decode cX10_lay 118 = .ok (.baload, 1) := by decide +kernel
theorem dX10_lay_119 : decode cX10_lay 119 = .ok (.bastore, 1) := by decide +kernel
theorem dX10_lay_120 : decode cX10_lay 120 = .ok (.iinc 5 1, 3) := by decide +kernel
theorem dX10_lay_123 : decode cX10_lay 123 = .ok (.goto (-40), 3) := by decide +kernel
theorem dX10_lay_126 : decode cX10_lay 126 = .ok (.iinc 3 1, 3) := by decide +kernel
theorem dX10_lay_129 : decode cX10_lay 129 = .ok (.aload_n 0, 1) := by decide +kernel
theorem dX10_lay_130 : decode cX10_lay 130 = .ok (.getfield 164, 3) := by decide +kernel
theorem dX10_lay_133 : decode cX10_lay 133 = .ok (.iload 4, 2) := by decide +kernel
theorem dX10_lay_135 : decode cX10_lay 135 = .ok (.iaload, 1) := by decide +kernel
theorem dX10_lay_136 : decode cX10_lay 136 = .ok (.istore 4, 2) := by decide +kernel
theorem dX10_lay_138 : decode cX10_lay 138 = .ok (.goto (-100), 3) := by decide +kernel
theorem dX10_lay_141 : decode cX10_lay 141 = .ok (.aload_n 0, 1) := by decide +kernel
theorem dX10_lay_142 : decode cX10_lay 142 = .ok (.getfield 203, 3) := by decide +kernel
theorem dX10_lay_145 : decode cX10_lay 145 = .ok (.iload_n 2, 1) := by decide +kernel
theorem dX10_lay_146 : decode cX10_lay 146 = .ok (.iload_n 3, 1) := by decide +kernel
theorem dX10_lay_147 : decode cX10_lay 147 = .ok (.iastore, 1) := by decide +kernel
theorem dX10_lay_148 : decode cX10_lay 148 = .ok (.return_, 1) := by decide +kernel
theorem dX10_lay_149 : decode cX10_lay 149 = .ok (.iconst 0, 1) := by decide +kernel
theorem dX10_lay_150 : decode cX10_lay 150 = .ok (.istore 4, 2) := by decide +kernel
theorem dX10_lay_152 : decode cX10_lay 152 = .ok (.iload 4, 2) := by decide +kernel
theorem dX10_lay_154 : decode cX10_lay 154 = .ok (.aload_n 0, 1) := by decide +kernel
theorem dX10_lay_155 : decode cX10_lay 155 = .ok (.getfield 129, 3) := by decide +kernel
theorem dX10_lay_158 : decode cX10_lay 158 = .ok (.iload_n 1, 1) := by decide +kernel
theorem dX10_lay_159 : decode cX10_lay 159 = .ok (.iaload, 1) := by decide +kernel
theorem dX10_lay_160 : decode cX10_lay 160 = .ok (.if_icmp .ge 64, 3) := by decide +kernel
theorem dX10_lay_163 : decode cX10_lay 163 = .ok (.aload_n 0, 1) := by decide +kernel
theorem dX10_lay_164 : decode cX10_lay 164 = .ok (.getfield 216, 3) := by decide +kernel
theorem dX10_lay_167 : decode cX10_lay 167 = .ok (.bipush 6, 2) := by decide +kernel
theorem dX10_lay_169 : decode cX10_lay 169 = .ok (.iload_n 2, 1) := by decide +kernel
theorem dX10_lay_170 : decode cX10_lay 170 = .ok (.imul, 1) := by decide +kernel
theorem dX10_lay_171 : decode cX10_lay 171 = .ok (.iload 4, 2) := by decide +kernel
theorem dX10_lay_173 : decode cX10_lay 173 = .ok (.iadd, 1) := by decide +kernel
theorem dX10_lay_174 : decode cX10_lay 174 = .ok (.aload_n 0, 1) := by decide +kernel
theorem dX10_lay_175 : decode cX10_lay 175 = .ok (.getfield 148, 3) := by decide +kernel
theorem dX10_lay_178 : decode cX10_lay 178 = .ok (.aload_n 0, 1) := by decide +kernel
theorem dX10_lay_179 : decode cX10_lay 179 = .ok (.getfield 133, 3) := by decide +kernel
theorem dX10_lay_182 : decode cX10_lay 182 = .ok (.sipush 128, 3) := by decide +kernel
theorem dX10_lay_185 : decode cX10_lay 185 = .ok (.iload_n 1, 1) := by decide +kernel
theorem dX10_lay_186 : decode cX10_lay 186 = .ok (.imul, 1) := by decide +kernel
theorem dX10_lay_187 : decode cX10_lay 187 = .ok (.iload 4, 2) := by decide +kernel
theorem dX10_lay_189 : decode cX10_lay 189 = .ok (.iadd, 1) := by decide +kernel
theorem dX10_lay_190 : decode cX10_lay 190 = .ok (.iaload, 1) := by decide +kernel
theorem dX10_lay_191 : decode cX10_lay 191 = .ok (.iaload, 1) := by decide +kernel
theorem dX10_lay_192 : decode cX10_lay 192 = .ok (.iastore, 1) := by decide +kernel
theorem dX10_lay_193 : decode cX10_lay 193 = .ok (.aload_n 0, 1) := by decide +kernel
theorem dX10_lay_194 : decode cX10_lay 194 = .ok (.getfield 206, 3) := by decide +kernel
theorem dX10_lay_197 : decode cX10_lay 197 = .ok (.bipush 6, 2) := by decide +kernel
theorem dX10_lay_199 : decode cX10_lay 199 = .ok (.iload_n 2, 1) := by decide +kernel
theorem dX10_lay_200 : decode cX10_lay 200 = .ok (.imul, 1) := by decide +kernel
theorem dX10_lay_201 : decode cX10_lay 201 = .ok (.iload 4, 2) := by decide +kernel
theorem dX10_lay_203 : decode cX10_lay 203 = .ok (.iadd, 1) := by decide +kernel
theorem dX10_lay_204 : decode cX10_lay 204 = .ok (.aload_n 0, 1) := by decide +kernel
theorem dX10_lay_205 : decode cX10_lay 205 = .ok (.getfield 136, 3) := by decide +kernel
theorem dX10_lay_208 : decode cX10_lay 208 = .ok (.sipush 128, 3) := by decide +kernel
theorem dX10_lay_211 : decode cX10_lay 211 = .ok (.iload_n 1, 1) := by decide +kernel
theorem dX10_lay_212 : decode cX10_lay 212 = .ok (.imul, 1) := by decide +kernel
theorem dX10_lay_213 : decode cX10_lay 213 = .ok (.iload 4, 2) := by decide +kernel
theorem dX10_lay_215 : decode cX10_lay 215 = .ok (.iadd, 1) := by decide +kernel
theorem dX10_lay_216 : decode cX10_lay 216 = .ok (.laload, 1) := by decide +kernel
theorem dX10_lay_217 : decode cX10_lay 217 = .ok (.lastore, 1) := by decide +kernel
theorem dX10_lay_218 : decode cX10_lay 218 = .ok (.iinc 4 1, 3) := by decide +kernel
theorem dX10_lay_221 : decode cX10_lay 221 = .ok (.goto (-69), 3) := by decide +kernel
theorem dX10_lay_224 : decode cX10_lay 224 = .ok (.aload_n 0, 1) := by decide +kernel
theorem dX10_lay_225 : decode cX10_lay 225 = .ok (.getfield 203, 3) := by decide +kernel
theorem dX10_lay_228 : decode cX10_lay 228 = .ok (.iload_n 2, 1) := by decide +kernel
theorem dX10_lay_229 : decode cX10_lay 229 = .ok (.aload_n 0, 1) := by decide +kernel
theorem dX10_lay_230 : decode cX10_lay 230 = .ok (.getfield 129, 3) := by decide +kernel
theorem dX10_lay_233 : decode cX10_lay 233 = .ok (.iload_n 1, 1) := by decide +kernel
theorem dX10_lay_234 : decode cX10_lay 234 = .ok (.iaload, 1) := by decide +kernel
theorem dX10_lay_235 : decode cX10_lay 235 = .ok (.iastore, 1) := by decide +kernel
theorem dX10_lay_236 : decode cX10_lay 236 = .ok (.aload_n 0, 1) := by decide +kernel
theorem dX10_lay_237 : decode cX10_lay 237 = .ok (.getfield 139, 3) := by decide +kernel
theorem dX10_lay_240 : decode cX10_lay 240 = .ok (.iload_n 1, 1) := by decide +kernel
theorem dX10_lay_241 : decode cX10_lay 241 = .ok (.iaload, 1) := by decide +kernel
theorem dX10_lay_242 : decode cX10_lay 242 = .ok (.istore 4, 2) := by decide +kernel
theorem dX10_lay_244 : decode cX10_lay 244 = .ok (.iload 4, 2) := by decide +kernel
theorem dX10_lay_246 : decode cX10_lay 246 = .ok (.iconst (-1), 1) := by decide +kernel
theorem dX10_lay_247 : decode cX10_lay 247 = .ok (.if_icmp .eq 72, 3) := by decide +kernel
theorem dX10_lay_250 : decode cX10_lay 250 = .ok (.aload_n 0, 1) := by decide +kernel
theorem dX10_lay_251 : decode cX10_lay 251 = .ok (.getfield 222, 3) := by decide +kernel
theorem dX10_lay_254 : decode cX10_lay 254 = .ok (.bipush 8, 2) := by decide +kernel
theorem dX10_lay_256 : decode cX10_lay 256 = .ok (.iload_n 2, 1) := by decide +kernel
theorem dX10_lay_257 : decode cX10_lay 257 = .ok (.imul, 1) := by decide +kernel
theorem dX10_lay_258 : decode cX10_lay 258 = .ok (.iload_n 3, 1) := by decide +kernel
theorem dX10_lay_259 : decode cX10_lay 259 = .ok (.iadd, 1) := by decide +kernel
theorem dX10_lay_260 : decode cX10_lay 260 = .ok (.aload_n 0, 1) := by decide +kernel
theorem dX10_lay_261 : decode cX10_lay 261 = .ok (.getfield 167, 3) := by decide +kernel
theorem dX10_lay_264 : decode cX10_lay 264 = .ok (.iload 4, 2) := by decide +kernel
theorem dX10_lay_266 : decode cX10_lay 266 = .ok (.iaload, 1) := by decide +kernel
theorem dX10_lay_267 : decode cX10_lay 267 = .ok (.iastore, 1) := by decide +kernel
theorem dX10_lay_268 : decode cX10_lay 268 = .ok (.aload_n 0, 1) := by decide +kernel
theorem dX10_lay_269 : decode cX10_lay 269 = .ok (.getfield 225, 3) := by decide +kernel
theorem dX10_lay_272 : decode cX10_lay 272 = .ok (.bipush 8, 2) := by decide +kernel
theorem dX10_lay_274 : decode cX10_lay 274 = .ok (.iload_n 2, 1) := by decide +kernel
theorem dX10_lay_275 : decode cX10_lay 275 = .ok (.imul, 1) := by decide +kernel
theorem dX10_lay_276 : decode cX10_lay 276 = .ok (.iload_n 3, 1) := by decide +kernel
theorem dX10_lay_277 : decode cX10_lay 277 = .ok (.iadd, 1) := by decide +kernel
theorem dX10_lay_278 : decode cX10_lay 278 = .ok (.aload_n 0, 1) := by decide +kernel
theorem dX10_lay_279 : decode cX10_lay 279 = .ok (.getfield 170, 3) := by decide +kernel
theorem dX10_lay_282 : decode cX10_lay 282 = .ok (.iload 4, 2) := by decide +kernel
theorem dX10_lay_284 : decode cX10_lay 284 = .ok (.laload, 1) := by decide +kernel
theorem dX10_lay_285 : decode cX10_lay 285 = .ok (.lastore, 1) := by decide +kernel
theorem dX10_lay_286 : decode cX10_lay 286 = .ok (.aload_n 0, 1) := by decide +kernel
theorem dX10_lay_287 : decode cX10_lay 287 = .ok (.getfield 228, 3) := by decide +kernel
theorem dX10_lay_290 : decode cX10_lay 290 = .ok (.bipush 8, 2) := by decide +kernel
theorem dX10_lay_292 : decode cX10_lay 292 = .ok (.iload_n 2, 1) := by decide +kernel
theorem dX10_lay_293 : decode cX10_lay 293 = .ok (.imul, 1) := by decide +kernel
theorem dX10_lay_294 : decode cX10_lay 294 = .ok (.iload_n 3, 1) := by decide +kernel
theorem dX10_lay_295 : decode cX10_lay 295 = .ok (.iadd, 1) := by decide +kernel
theorem dX10_lay_296 : decode cX10_lay 296 = .ok (.aload_n 0, 1) := by decide +kernel
theorem dX10_lay_297 : decode cX10_lay 297 = .ok (.getfield 173, 3) := by decide +kernel
theorem dX10_lay_300 : decode cX10_lay 300 = .ok (.iload 4, 2) := by decide +kernel
theorem dX10_lay_302 : decode cX10_lay 302 = .ok (.laload, 1) := by decide +kernel
theorem dX10_lay_303 : decode cX10_lay 303 = .ok (.lastore, 1) := by decide +kernel
theorem dX10_lay_304 : decode cX10_lay 304 = .ok (.iinc 3 1, 3) := by decide +kernel
theorem dX10_lay_307 : decode cX10_lay 307 = .ok (.aload_n 0, 1) := by decide +kernel
theorem dX10_lay_308 : decode cX10_lay 308 = .ok (.getfield 176, 3) := by decide +kernel
theorem dX10_lay_311 : decode cX10_lay 311 = .ok (.iload 4, 2) := by decide +kernel
theorem dX10_lay_313 : decode cX10_lay 313 = .ok (.iaload, 1) := by decide +kernel
theorem dX10_lay_314 : decode cX10_lay 314 = .ok (.istore 4, 2) := by decide +kernel
theorem dX10_lay_316 : decode cX10_lay 316 = .ok (.goto (-72), 3) := by decide +kernel
theorem dX10_lay_319 : decode cX10_lay 319 = .ok (.aload_n 0, 1) := by decide +kernel
theorem dX10_lay_320 : decode cX10_lay 320 = .ok (.getfield 219, 3) := by decide +kernel
theorem dX10_lay_323 : decode cX10_lay 323 = .ok (.iload_n 2, 1) := by decide +kernel
theorem dX10_lay_324 : decode cX10_lay 324 = .ok (.iload_n 3, 1) := by decide +kernel
theorem dX10_lay_325 : decode cX10_lay 325 = .ok (.iastore, 1) := by decide +kernel
theorem dX10_lay_326 : decode cX10_lay 326 = .ok (.return_, 1) := by decide +kernel
theorem dX10_laysAll_0 : decode cX10_laysAll 0 = .ok (.aload_n 0, 1) := by decide +kernel
theorem dX10_laysAll_1 : decode cX10_laysAll 1 = .ok (.getfield 148, 3) := by decide +kernel
theorem dX10_laysAll_4 : decode cX10_laysAll 4 = .ok (.iload_n 1, 1) := by decide +kernel
theorem dX10_laysAll_5 : decode cX10_laysAll 5 = .ok (.iaload, 1) := by decide +kernel
theorem dX10_laysAll_6 : decode cX10_laysAll 6 = .ok (.iconst (-1), 1) := by decide +kernel
theorem dX10_laysAll_7 : decode cX10_laysAll 7 = .ok (.if_icmp .eq 5, 3) := by decide +kernel
theorem dX10_laysAll_10 : decode cX10_laysAll 10 = .ok (.iconst 1, 1) := by decide +kernel
theorem dX10_laysAll_11 : decode cX10_laysAll 11 = .ok (.ireturn, 1) := by decide +kernel
theorem dX10_laysAll_12 : decode cX10_laysAll 12 = .ok (.iconst 0, 1) := by decide +kernel
theorem dX10_laysAll_13 : decode cX10_laysAll 13 = .ok (.istore_n 2, 1) := by decide +kernel
theorem dX10_laysAll_14 : decode cX10_laysAll 14 = .ok (.iload_n 2, 1) := by decide +kernel
theorem dX10_laysAll_15 : decode cX10_laysAll 15 = .ok (.aload_n 0, 1) := by decide +kernel
theorem dX10_laysAll_16 : decode cX10_laysAll 16 = .ok (.getfield 129, 3) := by decide +kernel
theorem dX10_laysAll_19 : decode cX10_laysAll 19 = .ok (.iload_n 1, 1) := by decide +kernel
theorem dX10_laysAll_20 : decode cX10_laysAll 20 = .ok (.iaload, 1) := by decide +kernel
theorem dX10_laysAll_21 : decode cX10_laysAll 21 = .ok (.if_icmp .ge 39, 3) := by decide +kernel
theorem dX10_laysAll_24 : decode cX10_laysAll 24 = .ok (.aload_n 0, 1) := by decide +kernel
theorem dX10_laysAll_25 : decode cX10_laysAll 25 = .ok (.getfield 119, 3) := by decide +kernel
theorem dX10_laysAll_28 : decode cX10_laysAll 28 = .ok (.iload_n 1, 1) := by decide +kernel
theorem dX10_laysAll_29 : decode cX10_laysAll 29 = .ok (.baload, 1) := by decide +kernel
theorem dX10_laysAll_30 : decode cX10_laysAll 30 = .ok (.ifCond .ne 30, 3) := by decide +kernel
theorem dX10_laysAll_33 : decode cX10_laysAll 33 = .ok (.aload_n 0, 1) := by decide +kernel
theorem dX10_laysAll_34 : decode cX10_laysAll 34 = .ok (.aload_n 0, 1) := by decide +kernel
theorem dX10_laysAll_35 : decode cX10_laysAll 35 = .ok (.getfield 133, 3) := by decide +kernel
theorem dX10_laysAll_38 : decode cX10_laysAll 38 = .ok (.sipush 128, 3) := by decide +kernel
theorem dX10_laysAll_41 : decode cX10_laysAll 41 = .ok (.iload_n 1, 1) := by decide +kernel
theorem dX10_laysAll_42 : decode cX10_laysAll 42 = .ok (.imul, 1) := by decide +kernel
theorem dX10_laysAll_43 : decode cX10_laysAll 43 = .ok (.iload_n 2, 1) := by decide +kernel
theorem dX10_laysAll_44 : decode cX10_laysAll 44 = .ok (.iadd, 1) := by decide +kernel
theorem dX10_laysAll_45 : decode cX10_laysAll 45 = .ok (.iaload, 1) := by decide +kernel
theorem dX10_laysAll_46 : decode cX10_laysAll 46 = .ok (.invokevirtual 372, 3) := by decide +kernel
theorem dX10_laysAll_49 : decode cX10_laysAll 49 = .ok (.ifCond .ne 5, 3) := by decide +kernel
theorem dX10_laysAll_52 : decode cX10_laysAll 52 = .ok (.iconst 0, 1) := by decide +kernel
theorem dX10_laysAll_53 : decode cX10_laysAll 53 = .ok (.ireturn, 1) := by decide +kernel
theorem dX10_laysAll_54 : decode cX10_laysAll 54 = .ok (.iinc 2 1, 3) := by decide +kernel
theorem dX10_laysAll_57 : decode cX10_laysAll 57 = .ok (.goto (-43), 3) := by decide +kernel
theorem dX10_laysAll_60 : decode cX10_laysAll 60 = .ok (.aload_n 0, 1) := by decide +kernel
theorem dX10_laysAll_61 : decode cX10_laysAll 61 = .ok (.aload_n 0, 1) := by decide +kernel
theorem dX10_laysAll_62 : decode cX10_laysAll 62 = .ok (.getfield 119, 3) := by decide +kernel
theorem dX10_laysAll_65 : decode cX10_laysAll 65 = .ok (.iload_n 1, 1) := by decide +kernel
theorem dX10_laysAll_66 : decode cX10_laysAll 66 = .ok (.baload, 1) := by decide +kernel
theorem dX10_laysAll_67 : decode cX10_laysAll 67 = .ok (.ifCond .eq 7, 3) := by decide +kernel
theorem dX10_laysAll_70 : decode cX10_laysAll 70 = .ok (.iconst 0, 1) := by decide +kernel
theorem dX10_laysAll_71 : decode cX10_laysAll 71 = .ok (.goto 4, 3) := by decide +kernel
theorem dX10_laysAll_74 : decode cX10_laysAll 74 = .ok (.iconst 1, 1) := by decide +kernel
theorem dX10_laysAll_75 : decode cX10_laysAll 75 = .ok (.invokevirtual 375, 3) := by decide +kernel
theorem dX10_laysAll_78 : decode cX10_laysAll 78 = .ok (.ifCond .eq 5, 3) := by decide +kernel
theorem dX10_laysAll_81 : decode cX10_laysAll 81 = .ok (.iconst 0, 1) := by decide +kernel
theorem dX10_laysAll_82 : decode cX10_laysAll 82 = .ok (.ireturn, 1) := by decide +kernel
theorem dX10_laysAll_83 : decode cX10_laysAll 83 = .ok (.aload_n 0, 1) := by decide +kernel
theorem dX10_laysAll_84 : decode cX10_laysAll 84 = .ok (.invokevirtual 378, 3) := by decide +kernel
theorem dX10_laysAll_87 : decode cX10_laysAll 87 = .ok (.istore_n 2, 1) := by decide +kernel
theorem dX10_laysAll_88 : decode cX10_laysAll 88 = .ok (.aload_n 0, 1) := by decide +kernel
theorem dX10_laysAll_89 : decode cX10_laysAll 89 = .ok (.iload_n 1, 1) := by decide +kernel
theorem dX10_laysAll_90 : decode cX10_laysAll 90 = .ok (.iload_n 2, 1) := by decide +kernel
theorem dX10_laysAll_91 : decode cX10_laysAll 91 = .ok (.invokevirtual 382, 3) := by decide +kernel
theorem dX10_laysAll_94 : decode cX10_laysAll 94 = .ok (.aload_n 0, 1) := by decide +kernel
theorem dX10_laysAll_95 : decode cX10_laysAll 95 = .ok (.getfield 264, 3) := by decide +kernel
theorem dX10_laysAll_98 : decode cX10_laysAll 98 = .ok (.iload_n 2, 1) := by decide +kernel
theorem dX10_laysAll_99 : decode cX10_laysAll 99 = .ok (.iconst 1, 1) := by decide +kernel
theorem dX10_laysAll_100 : decode cX10_laysAll 100 = .ok (.bastore, 1) := by decide +kernel
theorem dX10_laysAll_101 : decode cX10_laysAll 101 = .ok (.aload_n 0, 1) := by decide +kernel
theorem dX10_laysAll_102 : decode cX10_laysAll 102 = .ok (.getfield 148, 3) := by decide +kernel
theorem dX10_laysAll_105 : decode cX10_laysAll 105 = .ok (.iload_n 1, 1) := by decide +kernel
theorem dX10_laysAll_106 : decode cX10_laysAll 106 = .ok (.iload_n 2, 1) := by decide +kernel
theorem dX10_laysAll_107 : decode cX10_laysAll 107 = .ok (.iastore, 1) := by decide +kernel
theorem dX10_laysAll_108 : decode cX10_laysAll 108 = .ok (.iconst 1, 1) := by decide +kernel
theorem dX10_laysAll_109 : decode cX10_laysAll 109 = .ok (.ireturn, 1) := by decide +kernel
theorem dX10_changedPages_0 : decode cX10_changedPages 0 = .ok (.iconst 0, 1) := by decide +kernel
theorem dX10_changedPages_1 : decode cX10_changedPages 1 = .ok (.istore_n 1, 1) := by decide +kernel
theorem dX10_changedPages_2 : decode cX10_changedPages 2 = .ok (.iconst 0, 1) := by decide +kernel
theorem dX10_changedPages_3 : decode cX10_changedPages 3 = .ok (.istore_n 2, 1) := by decide +kernel
theorem dX10_changedPages_4 : decode cX10_changedPages 4 = .ok (.iload_n 2, 1) := by decide +kernel
theorem dX10_changedPages_5 : decode cX10_changedPages 5 = .ok (.aload_n 0, 1) := by decide +kernel
theorem dX10_changedPages_6 : decode cX10_changedPages 6 = .ok (.getfield 349, 3) := by decide +kernel
theorem dX10_changedPages_9 : decode cX10_changedPages 9 = .ok (.if_icmp .ge 32, 3) := by decide +kernel
theorem dX10_changedPages_12 : decode cX10_changedPages 12 = .ok (.iload_n 1, 1) := by decide +kernel
theorem dX10_changedPages_13 : decode cX10_changedPages 13 = .ok (.aload_n 0, 1) := by decide +kernel
theorem dX10_changedPages_14 : decode cX10_changedPages 14 = .ok (.getfield 148, 3) := by decide +kernel
theorem dX10_changedPages_17 : decode cX10_changedPages 17 = .ok (.aload_n 0, 1) := by decide +kernel
theorem dX10_changedPages_18 : decode cX10_changedPages 18 = .ok (.getfield 191, 3) := by decide +kernel
theorem dX10_changedPages_21 : decode cX10_changedPages 21 = .ok (.iload_n 2, 1) := by decide +kernel
theorem dX10_changedPages_22 : decode cX10_changedPages 22 = .ok (.iaload, 1) := by decide +kernel
theorem dX10_changedPages_23 : decode cX10_changedPages 23 = .ok (.iaload, 1) := by decide +kernel
theorem dX10_changedPages_24 : decode cX10_changedPages 24 = .ok (.iconst (-1), 1) := by decide +kernel
theorem dX10_changedPages_25 : decode cX10_changedPages 25 = .ok (.if_icmp .ne 7, 3) := by decide +kernel
theorem dX10_changedPages_28 : decode cX10_changedPages 28 = .ok (.iconst 1, 1) := by decide +kernel
theorem dX10_changedPages_29 : decode cX10_changedPages 29 = .ok (.goto 4, 3) := by decide +kernel
theorem dX10_changedPages_32 : decode cX10_changedPages 32 = .ok (.iconst 0, 1) := by decide +kernel
theorem dX10_changedPages_33 : decode cX10_changedPages 33 = .ok (.iadd, 1) := by decide +kernel
theorem dX10_changedPages_34 : decode cX10_changedPages 34 = .ok (.istore_n 1, 1) := by decide +kernel
theorem dX10_changedPages_35 : decode cX10_changedPages 35 = .ok (.iinc 2 1, 3) := by decide +kernel
theorem dX10_changedPages_38 : decode cX10_changedPages 38 = .ok (.goto (-34), 3) := by decide +kernel
theorem dX10_changedPages_41 : decode cX10_changedPages 41 = .ok (.iload_n 1, 1) := by decide +kernel
theorem dX10_changedPages_42 : decode cX10_changedPages 42 = .ok (.ireturn, 1) := by decide +kernel
theorem dX10_writeAll_0 : decode cX10_writeAll 0 = .ok (.aload_n 0, 1) := by decide +kernel
theorem dX10_writeAll_1 : decode cX10_writeAll 1 = .ok (.invokevirtual 385, 3) := by decide +kernel
theorem dX10_writeAll_4 : decode cX10_writeAll 4 = .ok (.istore_n 1, 1) := by decide +kernel
theorem dX10_writeAll_5 : decode cX10_writeAll 5 = .ok (.aload_n 0, 1) := by decide +kernel
theorem dX10_writeAll_6 : decode cX10_writeAll 6 = .ok (.aload_n 0, 1) := by decide +kernel
theorem dX10_writeAll_7 : decode cX10_writeAll 7 = .ok (.getfield 277, 3) := by decide +kernel
theorem dX10_writeAll_10 : decode cX10_writeAll 10 = .ok (.invokevirtual 372, 3) := by decide +kernel
theorem dX10_writeAll_13 : decode cX10_writeAll 13 = .ok (.ifCond .ne 6, 3) := by decide +kernel
theorem dX10_writeAll_16 : decode cX10_writeAll 16 = .ok (.bipush (-5), 2) := by decide +kernel
theorem dX10_writeAll_18 : decode cX10_writeAll 18 = .ok (.ireturn, 1) := by decide +kernel
theorem dX10_writeAll_19 : decode cX10_writeAll 19 = .ok (.aload_n 0, 1) := by decide +kernel
theorem dX10_writeAll_20 : decode cX10_writeAll 20 = .ok (.getfield 363, 3) := by decide +kernel
theorem dX10_writeAll_23 : decode cX10_writeAll 23 = .ok (.ifCond .le 38, 3) := by decide +kernel
theorem dX10_writeAll_26 : decode cX10_writeAll 26 = .ok (.aload_n 0, 1) := by decide +kernel
theorem dX10_writeAll_27 : decode cX10_writeAll 27 = .ok (.getfield 255, 3) := by decide +kernel
theorem dX10_writeAll_30 : decode cX10_writeAll 30 = .ok (.aload_n 0, 1) := by decide +kernel
theorem dX10_writeAll_31 : decode cX10_writeAll 31 = .ok (.getfield 363, 3) := by decide +kernel
theorem dX10_writeAll_34 : decode cX10_writeAll 34 = .ok (.iconst 1, 1) := by decide +kernel
theorem dX10_writeAll_35 : decode cX10_writeAll 35 = .ok (.isub, 1) := by decide +kernel
theorem dX10_writeAll_36 : decode cX10_writeAll 36 = .ok (.iaload, 1) := by decide +kernel
theorem dX10_writeAll_37 : decode cX10_writeAll 37 = .ok (.iconst (-1), 1) := by decide +kernel
theorem dX10_writeAll_38 : decode cX10_writeAll 38 = .ok (.if_icmp .ne 23, 3) := by decide +kernel
theorem dX10_writeAll_41 : decode cX10_writeAll 41 = .ok (.aload_n 0, 1) := by decide +kernel
theorem dX10_writeAll_42 : decode cX10_writeAll 42 = .ok (.getfield 255, 3) := by decide +kernel
theorem dX10_writeAll_45 : decode cX10_writeAll 45 = .ok (.aload_n 0, 1) := by decide +kernel
theorem dX10_writeAll_46 : decode cX10_writeAll 46 = .ok (.getfield 363, 3) := by decide +kernel
theorem dX10_writeAll_49 : decode cX10_writeAll 49 = .ok (.iconst 1, 1) := by decide +kernel
theorem dX10_writeAll_50 : decode cX10_writeAll 50 = .ok (.isub, 1) := by decide +kernel
theorem dX10_writeAll_51 : decode cX10_writeAll 51 = .ok (.aload_n 0, 1) := by decide +kernel
theorem dX10_writeAll_52 : decode cX10_writeAll 52 = .ok (.getfield 148, 3) := by decide +kernel
theorem dX10_writeAll_55 : decode cX10_writeAll 55 = .ok (.aload_n 0, 1) := by decide +kernel
theorem dX10_writeAll_56 : decode cX10_writeAll 56 = .ok (.getfield 277, 3) := by decide +kernel
theorem dX10_writeAll_59 : decode cX10_writeAll 59 = .ok (.iaload, 1) := by decide +kernel
theorem dX10_writeAll_60 : decode cX10_writeAll 60 = .ok (.iastore, 1) := by decide +kernel
theorem dX10_writeAll_61 : decode cX10_writeAll 61 = .ok (.aload_n 0, 1) := by decide +kernel
theorem dX10_writeAll_62 : decode cX10_writeAll 62 = .ok (.dup, 1) := by decide +kernel
theorem dX10_writeAll_63 : decode cX10_writeAll 63 = .ok (.getfield 388, 3) := by decide +kernel
theorem dX10_writeAll_66 : decode cX10_writeAll 66 = .ok (.iconst 1, 1) := by decide +kernel
theorem dX10_writeAll_67 : decode cX10_writeAll 67 = .ok (.iadd, 1) := by decide +kernel
theorem dX10_writeAll_68 : decode cX10_writeAll 68 = .ok (.putfield 388, 3) := by decide +kernel
theorem dX10_writeAll_71 : decode cX10_writeAll 71 = .ok (.aload_n 0, 1) := by decide +kernel
theorem dX10_writeAll_72 : decode cX10_writeAll 72 = .ok (.getfield 388, 3) := by decide +kernel
theorem dX10_writeAll_75 : decode cX10_writeAll 75 = .ok (.iconst 2, 1) := by decide +kernel
theorem dX10_writeAll_76 : decode cX10_writeAll 76 = .ok (.irem, 1) := by decide +kernel
theorem dX10_writeAll_77 : decode cX10_writeAll 77 = .ok (.istore_n 2, 1) := by decide +kernel
theorem dX10_writeAll_78 : decode cX10_writeAll 78 = .ok (.aload_n 0, 1) := by decide +kernel
theorem dX10_writeAll_79 : decode cX10_writeAll 79 = .ok (.iconst 2, 1) := by decide +kernel
theorem dX10_writeAll_80 : decode cX10_writeAll 80 = .ok (.invokevirtual 375, 3) := by decide +kernel
theorem dX10_writeAll_83 : decode cX10_writeAll 83 = .ok (.ifCond .eq 13, 3) := by decide +kernel
theorem dX10_writeAll_86 : decode cX10_writeAll 86 = .ok (.aload_n 0, 1) := by decide +kernel
theorem dX10_writeAll_87 : decode cX10_writeAll 87 = .ok (.getfield 231, 3) := by decide +kernel
theorem dX10_writeAll_90 : decode cX10_writeAll 90 = .ok (.iload_n 2, 1) := by decide +kernel
theorem dX10_writeAll_91 : decode cX10_writeAll 91 = .ok (.iconst 0, 1) := by decide +kernel
theorem dX10_writeAll_92 : decode cX10_writeAll 92 = .ok (.iastore, 1) := by decide +kernel
theorem dX10_writeAll_93 : decode cX10_writeAll 93 = .ok (.bipush (-5), 2) := by decide +kernel
theorem dX10_writeAll_95 : decode cX10_writeAll 95 = .ok (.ireturn, 1) := by decide +kernel
theorem dX10_writeAll_96 : decode cX10_writeAll 96 = .ok (.aload_n 0, 1) := by decide +kernel
theorem dX10_writeAll_97 : decode cX10_writeAll 97 = .ok (.getfield 231, 3) := by decide +kernel
theorem dX10_writeAll_100 : decode cX10_writeAll 100 = .ok (.iload_n 2, 1) := by decide +kernel
theorem dX10_writeAll_101 : decode cX10_writeAll 101 = .ok (.aload_n 0, 1) := by decide +kernel
theorem dX10_writeAll_102 : decode cX10_writeAll 102 = .ok (.getfield 388, 3) := by decide +kernel
theorem dX10_writeAll_105 : decode cX10_writeAll 105 = .ok (.iastore, 1) := by decide +kernel
theorem dX10_writeAll_106 : decode cX10_writeAll 106 = .ok (.aload_n 0, 1) := by decide +kernel
theorem dX10_writeAll_107 : decode cX10_writeAll 107 = .ok (.getfield 234, 3) := by decide +kernel
theorem dX10_writeAll_110 : decode cX10_writeAll 110 = .ok (.iload_n 2, 1) := by decide +kernel
theorem dX10_writeAll_111 : decode cX10_writeAll 111 = .ok (.aload_n 0, 1) := by decide +kernel
theorem dX10_writeAll_112 : decode cX10_writeAll 112 = .ok (.getfield 148, 3) := by decide +kernel
theorem dX10_writeAll_115 : decode cX10_writeAll 115 = .ok (.aload_n 0, 1) := by decide +kernel
theorem dX10_writeAll_116 : decode cX10_writeAll 116 = .ok (.getfield 277, 3) := by decide +kernel
theorem dX10_writeAll_119 : decode cX10_writeAll 119 = .ok (.iaload, 1) := by decide +kernel
theorem dX10_writeAll_120 : decode cX10_writeAll 120 = .ok (.iastore, 1) := by decide +kernel
theorem dX10_writeAll_121 : decode cX10_writeAll 121 = .ok (.aload_n 0, 1) := by decide +kernel
theorem dX10_writeAll_122 : decode cX10_writeAll 122 = .ok (.getfield 237, 3) := by decide +kernel
theorem dX10_writeAll_125 : decode cX10_writeAll 125 = .ok (.iload_n 2, 1) := by decide +kernel
theorem dX10_writeAll_126 : decode cX10_writeAll 126 = .ok (.aload_n 0, 1) := by decide +kernel
theorem dX10_writeAll_127 : decode cX10_writeAll 127 = .ok (.getfield 63, 3) := by decide +kernel
theorem dX10_writeAll_130 : decode cX10_writeAll 130 = .ok (.iastore, 1) := by decide +kernel
theorem dX10_writeAll_131 : decode cX10_writeAll 131 = .ok (.aload_n 0, 1) := by decide +kernel
theorem dX10_writeAll_132 : decode cX10_writeAll 132 = .ok (.getfield 243, 3) := by decide +kernel
theorem dX10_writeAll_135 : decode cX10_writeAll 135 = .ok (.iload_n 2, 1) := by decide +kernel
theorem dX10_writeAll_136 : decode cX10_writeAll 136 = .ok (.aload_n 0, 1) := by decide +kernel
theorem dX10_writeAll_137 : decode cX10_writeAll 137 = .ok (.getfield 258, 3) := by decide +kernel
theorem dX10_writeAll_140 : decode cX10_writeAll 140 = .ok (.iconst 1, 1) := by decide +kernel
theorem dX10_writeAll_141 : decode cX10_writeAll 141 = .ok (.isub, 1) := by decide +kernel
theorem dX10_writeAll_142 : decode cX10_writeAll 142 = .ok (.iastore, 1) := by decide +kernel
theorem dX10_writeAll_143 : decode cX10_writeAll 143 = .ok (.aload_n 0, 1) := by decide +kernel
theorem dX10_writeAll_144 : decode cX10_writeAll 144 = .ok (.getfield 240, 3) := by decide +kernel
theorem dX10_writeAll_147 : decode cX10_writeAll 147 = .ok (.iload_n 2, 1) := by decide +kernel
theorem dX10_writeAll_148 : decode cX10_writeAll 148 = .ok (.aload_n 0, 1) := by decide +kernel
theorem dX10_writeAll_149 : decode cX10_writeAll 149 = .ok (.getfield 363, 3) := by decide +kernel
theorem dX10_writeAll_152 : decode cX10_writeAll 152 = .ok (.iastore, 1) := by decide +kernel
theorem dX10_writeAll_153 : decode cX10_writeAll 153 = .ok (.iconst 0, 1) := by decide +kernel
theorem dX10_writeAll_154 : decode cX10_writeAll 154 = .ok (.istore_n 3, 1) := by decide +kernel
theorem dX10_writeAll_155 : decode cX10_writeAll 155 = .ok (.iload_n 3, 1) := by decide +kernel
theorem dX10_writeAll_156 : decode cX10_writeAll 156 = .ok (.aload_n 0, 1) := by decide +kernel
theorem dX10_writeAll_157 : decode cX10_writeAll 157 = .ok (.getfield 363, 3) := by decide +kernel
theorem dX10_writeAll_160 : decode cX10_writeAll 160 = .ok (.if_icmp .ge 43, 3) := by decide +kernel
theorem dX10_writeAll_163 : decode cX10_writeAll 163 = .ok (.aload_n 0, 1) := by decide +kernel
theorem dX10_writeAll_164 : decode cX10_writeAll 164 = .ok (.getfield 246, 3) := by decide +kernel
theorem dX10_writeAll_167 : decode cX10_writeAll 167 = .ok (.bipush 12, 2) := by decide +kernel
theorem dX10_writeAll_169 : decode cX10_writeAll 169 = .ok (.iload_n 2, 1) := by decide +kernel
theorem dX10_writeAll_170 : decode cX10_writeAll 170 = .ok (.imul, 1) := by decide +kernel
theorem dX10_writeAll_171 : decode cX10_writeAll 171 = .ok (.iload_n 3, 1) := by decide +kernel
theorem dX10_writeAll_172 : decode cX10_writeAll 172 = .ok (.iadd, 1) := by decide +kernel
theorem dX10_writeAll_173 : decode cX10_writeAll 173 = .ok (.aload_n 0, 1) := by decide +kernel
theorem dX10_writeAll_174 : decode cX10_writeAll 174 = .ok (.getfield 252, 3) := by decide +kernel
theorem dX10_writeAll_177 : decode cX10_writeAll 177 = .ok (.iload_n 3, 1) := by decide +kernel
theorem dX10_writeAll_178 : decode cX10_writeAll 178 = .ok (.iaload, 1) := by decide +kernel
theorem dX10_writeAll_179 : decode cX10_writeAll 179 = .ok (.iastore, 1) := by decide +kernel
theorem dX10_writeAll_180 : decode cX10_writeAll 180 = .ok (.aload_n 0, 1) := by decide +kernel
theorem dX10_writeAll_181 : decode cX10_writeAll 181 = .ok (.getfield 249, 3) := by decide +kernel
theorem dX10_writeAll_184 : decode cX10_writeAll 184 = .ok (.bipush 12, 2) := by decide +kernel
theorem dX10_writeAll_186 : decode cX10_writeAll 186 = .ok (.iload_n 2, 1) := by decide +kernel
theorem dX10_writeAll_187 : decode cX10_writeAll 187 = .ok (.imul, 1) := by decide +kernel
theorem dX10_writeAll_188 : decode cX10_writeAll 188 = .ok (.iload_n 3, 1) := by decide +kernel
theorem dX10_writeAll_189 : decode cX10_writeAll 189 = .ok (.iadd, 1) := by decide +kernel
theorem dX10_writeAll_190 : decode cX10_writeAll 190 = .ok (.aload_n 0, 1) := by decide +kernel
theorem dX10_writeAll_191 : decode cX10_writeAll 191 = .ok (.getfield 255, 3) := by decide +kernel
theorem dX10_writeAll_194 : decode cX10_writeAll 194 = .ok (.iload_n 3, 1) := by decide +kernel
theorem dX10_writeAll_195 : decode cX10_writeAll 195 = .ok (.iaload, 1) := by decide +kernel
theorem dX10_writeAll_196 : decode cX10_writeAll 196 = .ok (.iastore, 1) := by decide +kernel
theorem dX10_writeAll_197 : decode cX10_writeAll 197 = .ok (.iinc 3 1, 3) := by decide +kernel
theorem dX10_writeAll_200 : decode cX10_writeAll 200 = .ok (.goto (-45), 3) := by decide +kernel
theorem dX10_writeAll_203 : decode cX10_writeAll 203 = .ok (.iload_n 1, 1) := by decide +kernel
theorem dX10_writeAll_204 : decode cX10_writeAll 204 = .ok (.iconst 1, 1) := by decide +kernel
theorem dX10_writeAll_205 : decode cX10_writeAll 205 = .ok (.iadd, 1) := by decide +kernel
theorem dX10_writeAll_206 : decode cX10_writeAll 206 = .ok (.ireturn, 1) := by decide +kernel
theorem dX10_sync_0 : decode cX10_sync 0 = .ok (.aload_n 0, 1) := by decide +kernel
theorem dX10_sync_1 : decode cX10_sync 1 = .ok (.getfield 90, 3) := by decide +kernel
theorem dX10_sync_4 : decode cX10_sync 4 = .ok (.ifCond .eq 6, 3) := by decide +kernel
theorem dX10_sync_7 : decode cX10_sync 7 = .ok (.bipush (-4), 2) := by decide +kernel
theorem dX10_sync_9 : decode cX10_sync 9 = .ok (.ireturn, 1) := by decide +kernel
theorem dX10_sync_10 : decode cX10_sync 10 = .ok (.aload_n 0, 1) := by decide +kernel
theorem dX10_sync_11 : decode cX10_sync 11 = .ok (.invokevirtual 391, 3) := by decide +kernel
theorem dX10_sync_14 : decode cX10_sync 14 = .ok (.istore_n 1, 1) := by decide +kernel
theorem dX10_sync_15 : decode cX10_sync 15 = .ok (.iload_n 1, 1) := by decide +kernel
theorem dX10_sync_16 : decode cX10_sync 16 = .ok (.aload_n 0, 1) := by decide +kernel
theorem dX10_sync_17 : decode cX10_sync 17 = .ok (.invokevirtual 385, 3) := by decide +kernel
theorem dX10_sync_20 : decode cX10_sync 20 = .ok (.if_icmp .ge 8, 3) := by decide +kernel
theorem dX10_sync_23 : decode cX10_sync 23 = .ok (.bipush (-3), 2) := by decide +kernel
theorem dX10_sync_25 : decode cX10_sync 25 = .ok (.goto 7, 3) := by decide +kernel
theorem dX10_sync_28 : decode cX10_sync 28 = .ok (.aload_n 0, 1) := by decide +kernel
theorem dX10_sync_29 : decode cX10_sync 29 = .ok (.invokevirtual 394, 3) := by decide +kernel
theorem dX10_sync_32 : decode cX10_sync 32 = .ok (.ireturn, 1) := by decide +kernel
theorem dX10_picture_0 : decode cX10_picture 0 = .ok (.aload_n 0, 1) := by decide +kernel
theorem dX10_picture_1 : decode cX10_picture 1 = .ok (.getfield 90, 3) := by decide +kernel
theorem dX10_picture_4 : decode cX10_picture 4 = .ok (.ifCond .eq 6, 3) := by decide +kernel
theorem dX10_picture_7 : decode cX10_picture 7 = .ok (.bipush (-4), 2) := by decide +kernel
theorem dX10_picture_9 : decode cX10_picture 9 = .ok (.ireturn, 1) := by decide +kernel
theorem dX10_picture_10 : decode cX10_picture 10 = .ok (.aload_n 0, 1) := by decide +kernel
theorem dX10_picture_11 : decode cX10_picture 11 = .ok (.invokevirtual 391, 3) := by decide +kernel
theorem dX10_picture_14 : decode cX10_picture 14 = .ok (.istore_n 1, 1) := by decide +kernel
theorem dX10_picture_15 : decode cX10_picture 15 = .ok (.aload_n 0, 1) := by decide +kernel
theorem dX10_picture_16 : decode cX10_picture 16 = .ok (.getfield 363, 3) := by decide +kernel
theorem dX10_picture_19 : decode cX10_picture 19 = .ok (.bipush 12, 2) := by decide +kernel
theorem dX10_picture_21 : decode cX10_picture 21 = .ok (.if_icmp .eq 11, 3) := by decide +kernel
theorem dX10_picture_24 : decode cX10_picture 24 = .ok (.iload_n 1, 1) := by decide +kernel
theorem dX10_picture_25 : decode cX10_picture 25 = .ok (.aload_n 0, 1) := by decide +kernel
theorem dX10_picture_26 : decode cX10_picture 26 = .ok (.invokevirtual 385, 3) := by decide +kernel
theorem dX10_picture_29 : decode cX10_picture 29 = .ok (.if_icmp .ge 6, 3) := by decide +kernel
theorem dX10_picture_32 : decode cX10_picture 32 = .ok (.bipush (-3), 2) := by decide +kernel
theorem dX10_picture_34 : decode cX10_picture 34 = .ok (.ireturn, 1) := by decide +kernel
theorem dX10_picture_35 : decode cX10_picture 35 = .ok (.aload_n 0, 1) := by decide +kernel
theorem dX10_picture_36 : decode cX10_picture 36 = .ok (.getfield 252, 3) := by decide +kernel
theorem dX10_picture_39 : decode cX10_picture 39 = .ok (.aload_n 0, 1) := by decide +kernel
theorem dX10_picture_40 : decode cX10_picture 40 = .ok (.getfield 363, 3) := by decide +kernel
theorem dX10_picture_43 : decode cX10_picture 43 = .ok (.aload_n 0, 1) := by decide +kernel
theorem dX10_picture_44 : decode cX10_picture 44 = .ok (.getfield 258, 3) := by decide +kernel
theorem dX10_picture_47 : decode cX10_picture 47 = .ok (.iastore, 1) := by decide +kernel
theorem dX10_picture_48 : decode cX10_picture 48 = .ok (.aload_n 0, 1) := by decide +kernel
theorem dX10_picture_49 : decode cX10_picture 49 = .ok (.getfield 255, 3) := by decide +kernel
theorem dX10_picture_52 : decode cX10_picture 52 = .ok (.aload_n 0, 1) := by decide +kernel
theorem dX10_picture_53 : decode cX10_picture 53 = .ok (.getfield 363, 3) := by decide +kernel
theorem dX10_picture_56 : decode cX10_picture 56 = .ok (.iconst (-1), 1) := by decide +kernel
theorem dX10_picture_57 : decode cX10_picture 57 = .ok (.iastore, 1) := by decide +kernel
theorem dX10_picture_58 : decode cX10_picture 58 = .ok (.aload_n 0, 1) := by decide +kernel
theorem dX10_picture_59 : decode cX10_picture 59 = .ok (.dup, 1) := by decide +kernel
theorem dX10_picture_60 : decode cX10_picture 60 = .ok (.getfield 363, 3) := by decide +kernel
theorem dX10_picture_63 : decode cX10_picture 63 = .ok (.iconst 1, 1) := by decide +kernel
theorem dX10_picture_64 : decode cX10_picture 64 = .ok (.iadd, 1) := by decide +kernel
theorem dX10_picture_65 : decode cX10_picture 65 = .ok (.putfield 363, 3) := by decide +kernel
theorem dX10_picture_68 : decode cX10_picture 68 = .ok (.aload_n 0, 1) := by decide +kernel
theorem dX10_picture_69 : decode cX10_picture 69 = .ok (.dup, 1) := by decide +kernel
theorem dX10_picture_70 : decode cX10_picture 70 = .ok (.getfield 258, 3) := by decide +kernel
theorem dX10_picture_73 : decode cX10_picture 73 = .ok (.iconst 1, 1) := by decide +kernel
theorem dX10_picture_74 : decode cX10_picture 74 = .ok (.iadd, 1) := by decide +kernel
theorem dX10_picture_75 : decode cX10_picture 75 = .ok (.putfield 258, 3) := by decide +kernel
theorem dX10_picture_78 : decode cX10_picture 78 = .ok (.aload_n 0, 1) := by decide +kernel
theorem dX10_picture_79 : decode cX10_picture 79 = .ok (.invokevirtual 394, 3) := by decide +kernel
theorem dX10_picture_82 : decode cX10_picture 82 = .ok (.istore_n 2, 1) := by decide +kernel
theorem dX10_picture_83 : decode cX10_picture 83 = .ok (.iload_n 2, 1) := by decide +kernel
theorem dX10_picture_84 : decode cX10_picture 84 = .ok (.bipush (-5), 2) := by decide +kernel
theorem dX10_picture_86 : decode cX10_picture 86 = .ok (.if_icmp .ne 8, 3) := by decide +kernel
theorem dX10_picture_89 : decode cX10_picture 89 = .ok (.bipush (-5), 2) := by decide +kernel
theorem dX10_picture_91 : decode cX10_picture 91 = .ok (.goto 9, 3) := by decide +kernel
theorem dX10_picture_94 : decode cX10_picture 94 = .ok (.aload_n 0, 1) := by decide +kernel
theorem dX10_picture_95 : decode cX10_picture 95 = .ok (.getfield 258, 3) := by decide +kernel
theorem dX10_picture_98 : decode cX10_picture 98 = .ok (.iconst 1, 1) := by decide +kernel
theorem dX10_picture_99 : decode cX10_picture 99 = .ok (.isub, 1) := by decide +kernel
theorem dX10_picture_100 : decode cX10_picture 100 = .ok (.ireturn, 1) := by decide +kernel
theorem dX10_pictureAt_0 : decode cX10_pictureAt 0 = .ok (.iconst 0, 1) := by decide +kernel
theorem dX10_pictureAt_1 : decode cX10_pictureAt 1 = .ok (.istore_n 2, 1) := by decide +kernel
theorem dX10_pictureAt_2 : decode cX10_pictureAt 2 = .ok (.iload_n 2, 1) := by decide +kernel
theorem dX10_pictureAt_3 : decode cX10_pictureAt 3 = .ok (.aload_n 0, 1) := by decide +kernel
theorem dX10_pictureAt_4 : decode cX10_pictureAt 4 = .ok (.getfield 363, 3) := by decide +kernel
theorem dX10_pictureAt_7 : decode cX10_pictureAt 7 = .ok (.if_icmp .ge 21, 3) := by decide +kernel
theorem dX10_pictureAt_10 : decode cX10_pictureAt 10 = .ok (.aload_n 0, 1) := by decide +kernel
theorem dX10_pictureAt_11 : decode cX10_pictureAt 11 = .ok (.getfield 252, 3) := by decide +kernel
theorem dX10_pictureAt_14 : decode cX10_pictureAt 14 = .ok (.iload_n 2, 1) := by decide +kernel
theorem dX10_pictureAt_15 : decode cX10_pictureAt 15 = .ok (.iaload, 1) := by decide +kernel
theorem dX10_pictureAt_16 : decode cX10_pictureAt 16 = .ok (.iload_n 1, 1) := by decide +kernel
theorem dX10_pictureAt_17 : decode cX10_pictureAt 17 = .ok (.if_icmp .ne 5, 3) := by decide +kernel
theorem dX10_pictureAt_20 : decode cX10_pictureAt 20 = .ok (.iload_n 2, 1) := by decide +kernel
theorem dX10_pictureAt_21 : decode cX10_pictureAt 21 = .ok (.ireturn, 1) := by decide +kernel
theorem dX10_pictureAt_22 : decode cX10_pictureAt 22 = .ok (.iinc 2 1, 3) := by decide +kernel
theorem dX10_pictureAt_25 : decode cX10_pictureAt 25 = .ok (.goto (-23), 3) := by decide +kernel
theorem dX10_pictureAt_28 : decode cX10_pictureAt 28 = .ok (.iconst (-1), 1) := by decide +kernel
theorem dX10_pictureAt_29 : decode cX10_pictureAt 29 = .ok (.ireturn, 1) := by decide +kernel
theorem dX10_look_0 : decode cX10_look 0 = .ok (.aload_n 0, 1) := by decide +kernel
theorem dX10_look_1 : decode cX10_look 1 = .ok (.getfield 90, 3) := by decide +kernel
theorem dX10_look_4 : decode cX10_look 4 = .ok (.ifCond .eq 6, 3) := by decide +kernel
theorem dX10_look_7 : decode cX10_look 7 = .ok (.bipush (-4), 2) := by decide +kernel
theorem dX10_look_9 : decode cX10_look 9 = .ok (.ireturn, 1) := by decide +kernel
theorem dX10_look_10 : decode cX10_look 10 = .ok (.aload_n 0, 1) := by decide +kernel
theorem dX10_look_11 : decode cX10_look 11 = .ok (.iload_n 1, 1) := by decide +kernel
theorem dX10_look_12 : decode cX10_look 12 = .ok (.invokevirtual 397, 3) := by decide +kernel
theorem dX10_look_15 : decode cX10_look 15 = .ok (.istore 4, 2) := by decide +kernel
theorem dX10_look_17 : decode cX10_look 17 = .ok (.iload 4, 2) := by decide +kernel
theorem dX10_look_19 : decode cX10_look 19 = .ok (.iconst (-1), 1) := by decide +kernel
theorem dX10_look_20 : decode cX10_look 20 = .ok (.if_icmp .ne 6, 3) := by decide +kernel
theorem dX10_look_23 : decode cX10_look 23 = .ok (.bipush (-2), 2) := by decide +kernel
theorem dX10_look_25 : decode cX10_look 25 = .ok (.ireturn, 1) := by decide +kernel
theorem dX10_look_26 : decode cX10_look 26 = .ok (.iconst 0, 1) := by decide +kernel
theorem dX10_look_27 : decode cX10_look 27 = .ok (.istore 5, 2) := by decide +kernel
theorem dX10_look_29 : decode cX10_look 29 = .ok (.aload_n 0, 1) := by decide +kernel
theorem dX10_look_30 : decode cX10_look 30 = .ok (.getfield 255, 3) := by decide +kernel
theorem dX10_look_33 : decode cX10_look 33 = .ok (.iload 4, 2) := by decide +kernel
theorem dX10_look_35 : decode cX10_look 35 = .ok (.iaload, 1) := by decide +kernel
theorem dX10_look_36 : decode cX10_look 36 = .ok (.istore 6, 2) := by decide +kernel
theorem dX10_look_38 : decode cX10_look 38 = .ok (.aload_n 0, 1) := by decide +kernel
theorem dX10_look_39 : decode cX10_look 39 = .ok (.getfield 200, 3) := by decide +kernel
theorem dX10_look_42 : decode cX10_look 42 = .ok (.iload 6, 2) := by decide +kernel
theorem dX10_look_44 : decode cX10_look 44 = .ok (.baload, 1) := by decide +kernel
theorem dX10_look_45 : decode cX10_look 45 = .ok (.ifCond .ne 76, 3) := by decide +kernel
theorem dX10_look_48 : decode cX10_look 48 = .ok (.aload_n 0, 1) := by decide +kernel
theorem dX10_look_49 : decode cX10_look 49 = .ok (.getfield 267, 3) := by decide +kernel
theorem dX10_look_52 : decode cX10_look 52 = .ok (.iload 5, 2) := by decide +kernel
theorem dX10_look_54 : decode cX10_look 54 = .ok (.iload 6, 2) := by decide +kernel
theorem dX10_look_56 : decode cX10_look 56 = .ok (.iastore, 1) := by decide +kernel
theorem dX10_look_57 : decode cX10_look 57 = .ok (.iinc 5 1, 3) := by decide +kernel
theorem dX10_look_60 : decode cX10_look 60 = .ok (.iconst 0, 1) := by decide +kernel
theorem dX10_look_61 : decode cX10_look 61 = .ok (.istore 7, 2) := by decide +kernel
theorem dX10_look_63 : decode cX10_look 63 = .ok (.iload 7, 2) := by decide +kernel
theorem dX10_look_65 : decode cX10_look 65 = .ok (.iconst 1, 1) := by decide +kernel
theorem dX10_look_66 : decode cX10_look 66 = .ok (.iadd, 1) := by decide +kernel
end
section
theorem dX10_look_67 : decode cX10_look 67 = .ok (.aload_n 0, 1) := by decide +kernel
theorem dX10_look_68 : decode cX10_look 68 = .ok (.getfield 203, 3) := by decide +kernel
theorem dX10_look_71 : decode cX10_look 71 = .ok (.iload 6, 2) := by decide +kernel
theorem dX10_look_73 : decode cX10_look 73 = .ok (.iaload, 1) := by decide +kernel
theorem dX10_look_74 : decode cX10_look 74 = .ok (.if_icmp .ge 29, 3) := by decide +kernel
theorem dX10_look_77 : decode cX10_look 77 = .ok (.aload_n 0, 1) := by decide +kernel
theorem dX10_look_78 : decode cX10_look 78 = .ok (.getfield 206, 3) := by decide +kernel
theorem dX10_look_81 : decode cX10_look 81 = .ok (.bipush 6, 2) := by decide +kernel
theorem dX10_look_83 : decode cX10_look 83 = .ok (.iload 6, 2) := by decide +kernel
theorem dX10_look_85 : decode cX10_look 85 = .ok (.imul, 1) := by decide +kernel
theorem dX10_look_86 : decode cX10_look 86 = .ok (.iload 7, 2) := by decide +kernel
theorem dX10_look_88 : decode cX10_look 88 = .ok (.iadd, 1) := by decide +kernel
theorem dX10_look_89 : decode cX10_look 89 = .ok (.iconst 1, 1) := by decide +kernel
theorem dX10_look_90 : decode cX10_look 90 = .ok (.iadd, 1) := by decide +kernel
theorem dX10_look_91 : decode cX10_look 91 = .ok (.laload, 1) := by decide +kernel
theorem dX10_look_92 : decode cX10_look 92 = .ok (.lload_n 2, 1) := by decide +kernel
theorem dX10_look_93 : decode cX10_look 93 = .ok (.lcmp, 1) := by decide +kernel
theorem dX10_look_94 : decode cX10_look 94 = .ok (.ifCond .gt 9, 3) := by decide +kernel
theorem dX10_look_97 : decode cX10_look 97 = .ok (.iinc 7 1, 3) := by decide +kernel
theorem dX10_look_100 : decode cX10_look 100 = .ok (.goto (-37), 3) := by decide +kernel
theorem dX10_look_103 : decode cX10_look 103 = .ok (.aload_n 0, 1) := by decide +kernel
theorem dX10_look_104 : decode cX10_look 104 = .ok (.getfield 216, 3) := by decide +kernel
theorem dX10_look_107 : decode cX10_look 107 = .ok (.bipush 6, 2) := by decide +kernel
theorem dX10_look_109 : decode cX10_look 109 = .ok (.iload 6, 2) := by decide +kernel
theorem dX10_look_111 : decode cX10_look 111 = .ok (.imul, 1) := by decide +kernel
theorem dX10_look_112 : decode cX10_look 112 = .ok (.iload 7, 2) := by decide +kernel
theorem dX10_look_114 : decode cX10_look 114 = .ok (.iadd, 1) := by decide +kernel
theorem dX10_look_115 : decode cX10_look 115 = .ok (.iaload, 1) := by decide +kernel
theorem dX10_look_116 : decode cX10_look 116 = .ok (.istore 6, 2) := by decide +kernel
theorem dX10_look_118 : decode cX10_look 118 = .ok (.goto (-80), 3) := by decide +kernel
theorem dX10_look_121 : decode cX10_look 121 = .ok (.aload_n 0, 1) := by decide +kernel
theorem dX10_look_122 : decode cX10_look 122 = .ok (.iconst (-1), 1) := by decide +kernel
theorem dX10_look_123 : decode cX10_look 123 = .ok (.putfield 34, 3) := by decide +kernel
theorem dX10_look_126 : decode cX10_look 126 = .ok (.bipush 6, 2) := by decide +kernel
theorem dX10_look_128 : decode cX10_look 128 = .ok (.iload 6, 2) := by decide +kernel
theorem dX10_look_130 : decode cX10_look 130 = .ok (.imul, 1) := by decide +kernel
theorem dX10_look_131 : decode cX10_look 131 = .ok (.istore 7, 2) := by decide +kernel
theorem dX10_look_133 : decode cX10_look 133 = .ok (.iload 7, 2) := by decide +kernel
theorem dX10_look_135 : decode cX10_look 135 = .ok (.bipush 6, 2) := by decide +kernel
theorem dX10_look_137 : decode cX10_look 137 = .ok (.iload 6, 2) := by decide +kernel
theorem dX10_look_139 : decode cX10_look 139 = .ok (.imul, 1) := by decide +kernel
theorem dX10_look_140 : decode cX10_look 140 = .ok (.aload_n 0, 1) := by decide +kernel
theorem dX10_look_141 : decode cX10_look 141 = .ok (.getfield 203, 3) := by decide +kernel
theorem dX10_look_144 : decode cX10_look 144 = .ok (.iload 6, 2) := by decide +kernel
theorem dX10_look_146 : decode cX10_look 146 = .ok (.iaload, 1) := by decide +kernel
theorem dX10_look_147 : decode cX10_look 147 = .ok (.iadd, 1) := by decide +kernel
theorem dX10_look_148 : decode cX10_look 148 = .ok (.if_icmp .ge 71, 3) := by decide +kernel
theorem dX10_look_151 : decode cX10_look 151 = .ok (.aload_n 0, 1) := by decide +kernel
theorem dX10_look_152 : decode cX10_look 152 = .ok (.getfield 206, 3) := by decide +kernel
theorem dX10_look_155 : decode cX10_look 155 = .ok (.iload 7, 2) := by decide +kernel
theorem dX10_look_157 : decode cX10_look 157 = .ok (.laload, 1) := by decide +kernel
theorem dX10_look_158 : decode cX10_look 158 = .ok (.lload_n 2, 1) := by decide +kernel
theorem dX10_look_159 : decode cX10_look 159 = .ok (.lcmp, 1) := by decide +kernel
theorem dX10_look_160 : decode cX10_look 160 = .ok (.ifCond .eq 6, 3) := by decide +kernel
theorem dX10_look_163 : decode cX10_look 163 = .ok (.goto 50, 3) := by decide +kernel
theorem dX10_look_166 : decode cX10_look 166 = .ok (.aload_n 0, 1) := by decide +kernel
theorem dX10_look_167 : decode cX10_look 167 = .ok (.aload_n 0, 1) := by decide +kernel
theorem dX10_look_168 : decode cX10_look 168 = .ok (.getfield 209, 3) := by decide +kernel
theorem dX10_look_171 : decode cX10_look 171 = .ok (.iload 7, 2) := by decide +kernel
theorem dX10_look_173 : decode cX10_look 173 = .ok (.iaload, 1) := by decide +kernel
theorem dX10_look_174 : decode cX10_look 174 = .ok (.putfield 34, 3) := by decide +kernel
theorem dX10_look_177 : decode cX10_look 177 = .ok (.iconst 0, 1) := by decide +kernel
theorem dX10_look_178 : decode cX10_look 178 = .ok (.istore 8, 2) := by decide +kernel
theorem dX10_look_180 : decode cX10_look 180 = .ok (.iload 8, 2) := by decide +kernel
theorem dX10_look_182 : decode cX10_look 182 = .ok (.bipush 20, 2) := by decide +kernel
theorem dX10_look_184 : decode cX10_look 184 = .ok (.if_icmp .ge 29, 3) := by decide +kernel
theorem dX10_look_187 : decode cX10_look 187 = .ok (.aload_n 0, 1) := by decide +kernel
theorem dX10_look_188 : decode cX10_look 188 = .ok (.getfield 40, 3) := by decide +kernel
theorem dX10_look_191 : decode cX10_look 191 = .ok (.iload 8, 2) := by decide +kernel
theorem dX10_look_193 : decode cX10_look 193 = .ok (.aload_n 0, 1) := by decide +kernel
theorem dX10_look_194 : decode cX10_look 194 = .ok (.getfield 213, 3) := by decide +kernel
theorem dX10_look_197 : decode cX10_look 197 = .ok (.bipush 20, 2) := by decide +kernel
theorem dX10_look_199 : decode cX10_look 199 = .ok (.iload 7, 2) := by decide +kernel
theorem dX10_look_201 : decode cX10_look 201 = .ok (.imul, 1) := by decide +kernel
theorem dX10_look_202 : decode cX10_look 202 = .ok (.iload 8, 2) := by decide +kernel
theorem dX10_look_204 : decode cX10_look 204 = .ok (.iadd, 1) := by decide +kernel
theorem dX10_look_205 : decode cX10_look 205 = .ok (.baload, 1) := by decide +kernel
theorem dX10_look_206 : decode cX10_look 206 = .ok (.bastore, 1) := by decide +kernel
theorem dX10_look_207 : decode cX10_look 207 = .ok (.iinc 8 1, 3) := by decide +kernel
theorem dX10_look_210 : decode cX10_look 210 = .ok (.goto (-30), 3) := by decide +kernel
theorem dX10_look_213 : decode cX10_look 213 = .ok (.iinc 7 1, 3) := by decide +kernel
theorem dX10_look_216 : decode cX10_look 216 = .ok (.goto (-83), 3) := by decide +kernel
theorem dX10_look_219 : decode cX10_look 219 = .ok (.iload 5, 2) := by decide +kernel
theorem dX10_look_221 : decode cX10_look 221 = .ok (.iconst 1, 1) := by decide +kernel
theorem dX10_look_222 : decode cX10_look 222 = .ok (.isub, 1) := by decide +kernel
theorem dX10_look_223 : decode cX10_look 223 = .ok (.istore 7, 2) := by decide +kernel
theorem dX10_look_225 : decode cX10_look 225 = .ok (.iload 7, 2) := by decide +kernel
theorem dX10_look_227 : decode cX10_look 227 = .ok (.ifCond .lt 100, 3) := by decide +kernel
theorem dX10_look_230 : decode cX10_look 230 = .ok (.bipush 8, 2) := by decide +kernel
theorem dX10_look_232 : decode cX10_look 232 = .ok (.aload_n 0, 1) := by decide +kernel
theorem dX10_look_233 : decode cX10_look 233 = .ok (.getfield 267, 3) := by decide +kernel
theorem dX10_look_236 : decode cX10_look 236 = .ok (.iload 7, 2) := by decide +kernel
theorem dX10_look_238 : decode cX10_look 238 = .ok (.iaload, 1) := by decide +kernel
theorem dX10_look_239 : decode cX10_look 239 = .ok (.imul, 1) := by decide +kernel
theorem dX10_look_240 : decode cX10_look 240 = .ok (.istore 8, 2) := by decide +kernel
theorem dX10_look_242 : decode cX10_look 242 = .ok (.iload 8, 2) := by decide +kernel
theorem dX10_look_244 : decode cX10_look 244 = .ok (.bipush 8, 2) := by decide +kernel
theorem dX10_look_246 : decode cX10_look 246 = .ok (.aload_n 0, 1) := by decide +kernel
theorem dX10_look_247 : decode cX10_look 247 = .ok (.getfield 267, 3) := by decide +kernel
theorem dX10_look_250 : decode cX10_look 250 = .ok (.iload 7, 2) := by decide +kernel
theorem dX10_look_252 : decode cX10_look 252 = .ok (.iaload, 1) := by decide +kernel
theorem dX10_look_253 : decode cX10_look 253 = .ok (.imul, 1) := by decide +kernel
theorem dX10_look_254 : decode cX10_look 254 = .ok (.aload_n 0, 1) := by decide +kernel
theorem dX10_look_255 : decode cX10_look 255 = .ok (.getfield 219, 3) := by decide +kernel
theorem dX10_look_258 : decode cX10_look 258 = .ok (.aload_n 0, 1) := by decide +kernel
theorem dX10_look_259 : decode cX10_look 259 = .ok (.getfield 267, 3) := by decide +kernel
theorem dX10_look_262 : decode cX10_look 262 = .ok (.iload 7, 2) := by decide +kernel
theorem dX10_look_264 : decode cX10_look 264 = .ok (.iaload, 1) := by decide +kernel
theorem dX10_look_265 : decode cX10_look 265 = .ok (.iaload, 1) := by decide +kernel
theorem dX10_look_266 : decode cX10_look 266 = .ok (.iadd, 1) := by decide +kernel
theorem dX10_look_267 : decode cX10_look 267 = .ok (.if_icmp .ge 54, 3) := by decide +kernel
theorem dX10_look_270 : decode cX10_look 270 = .ok (.aload_n 0, 1) := by decide +kernel
theorem dX10_look_271 : decode cX10_look 271 = .ok (.getfield 225, 3) := by decide +kernel
theorem dX10_look_274 : decode cX10_look 274 = .ok (.iload 8, 2) := by decide +kernel
theorem dX10_look_276 : decode cX10_look 276 = .ok (.laload, 1) := by decide +kernel
theorem dX10_look_277 : decode cX10_look 277 = .ok (.lload_n 2, 1) := by decide +kernel
theorem dX10_look_278 : decode cX10_look 278 = .ok (.lcmp, 1) := by decide +kernel
theorem dX10_look_279 : decode cX10_look 279 = .ok (.ifCond .gt 33, 3) := by decide +kernel
theorem dX10_look_282 : decode cX10_look 282 = .ok (.lload_n 2, 1) := by decide +kernel
theorem dX10_look_283 : decode cX10_look 283 = .ok (.aload_n 0, 1) := by decide +kernel
theorem dX10_look_284 : decode cX10_look 284 = .ok (.getfield 228, 3) := by decide +kernel
theorem dX10_look_287 : decode cX10_look 287 = .ok (.iload 8, 2) := by decide +kernel
theorem dX10_look_289 : decode cX10_look 289 = .ok (.laload, 1) := by decide +kernel
theorem dX10_look_290 : decode cX10_look 290 = .ok (.lcmp, 1) := by decide +kernel
theorem dX10_look_291 : decode cX10_look 291 = .ok (.ifCond .gt 21, 3) := by decide +kernel
theorem dX10_look_294 : decode cX10_look 294 = .ok (.aload_n 0, 1) := by decide +kernel
theorem dX10_look_295 : decode cX10_look 295 = .ok (.aload_n 0, 1) := by decide +kernel
theorem dX10_look_296 : decode cX10_look 296 = .ok (.getfield 222, 3) := by decide +kernel
theorem dX10_look_299 : decode cX10_look 299 = .ok (.iload 8, 2) := by decide +kernel
theorem dX10_look_301 : decode cX10_look 301 = .ok (.iaload, 1) := by decide +kernel
theorem dX10_look_302 : decode cX10_look 302 = .ok (.invokevirtual 80, 3) := by decide +kernel
theorem dX10_look_305 : decode cX10_look 305 = .ok (.ifCond .eq 7, 3) := by decide +kernel
theorem dX10_look_308 : decode cX10_look 308 = .ok (.iconst 1, 1) := by decide +kernel
theorem dX10_look_309 : decode cX10_look 309 = .ok (.goto 4, 3) := by decide +kernel
theorem dX10_look_312 : decode cX10_look 312 = .ok (.iconst 0, 1) := by decide +kernel
theorem dX10_look_313 : decode cX10_look 313 = .ok (.istore 9, 2) := by decide +kernel
theorem dX10_look_315 : decode cX10_look 315 = .ok (.iinc 8 1, 3) := by decide +kernel
theorem dX10_look_318 : decode cX10_look 318 = .ok (.goto (-76), 3) := by decide +kernel
theorem dX10_look_321 : decode cX10_look 321 = .ok (.iinc 7 (-1), 3) := by decide +kernel
theorem dX10_look_324 : decode cX10_look 324 = .ok (.goto (-99), 3) := by decide +kernel
theorem dX10_look_327 : decode cX10_look 327 = .ok (.aload_n 0, 1) := by decide +kernel
theorem dX10_look_328 : decode cX10_look 328 = .ok (.getfield 34, 3) := by decide +kernel
theorem dX10_look_331 : decode cX10_look 331 = .ok (.iconst (-1), 1) := by decide +kernel
theorem dX10_look_332 : decode cX10_look 332 = .ok (.if_icmp .ne 5, 3) := by decide +kernel
theorem dX10_look_335 : decode cX10_look 335 = .ok (.iconst (-1), 1) := by decide +kernel
theorem dX10_look_336 : decode cX10_look 336 = .ok (.ireturn, 1) := by decide +kernel
theorem dX10_look_337 : decode cX10_look 337 = .ok (.aload_n 0, 1) := by decide +kernel
theorem dX10_look_338 : decode cX10_look 338 = .ok (.aload_n 0, 1) := by decide +kernel
theorem dX10_look_339 : decode cX10_look 339 = .ok (.getfield 34, 3) := by decide +kernel
theorem dX10_look_342 : decode cX10_look 342 = .ok (.putfield 9, 3) := by decide +kernel
theorem dX10_look_345 : decode cX10_look 345 = .ok (.iconst 0, 1) := by decide +kernel
theorem dX10_look_346 : decode cX10_look 346 = .ok (.istore 7, 2) := by decide +kernel
theorem dX10_look_348 : decode cX10_look 348 = .ok (.iload 7, 2) := by decide +kernel
theorem dX10_look_350 : decode cX10_look 350 = .ok (.aload_n 0, 1) := by decide +kernel
theorem dX10_look_351 : decode cX10_look 351 = .ok (.getfield 34, 3) := by decide +kernel
theorem dX10_look_354 : decode cX10_look 354 = .ok (.if_icmp .ge 23, 3) := by decide +kernel
theorem dX10_look_357 : decode cX10_look 357 = .ok (.aload_n 0, 1) := by decide +kernel
theorem dX10_look_358 : decode cX10_look 358 = .ok (.getfield 12, 3) := by decide +kernel
theorem dX10_look_361 : decode cX10_look 361 = .ok (.iload 7, 2) := by decide +kernel
theorem dX10_look_363 : decode cX10_look 363 = .ok (.aload_n 0, 1) := by decide +kernel
theorem dX10_look_364 : decode cX10_look 364 = .ok (.getfield 40, 3) := by decide +kernel
theorem dX10_look_367 : decode cX10_look 367 = .ok (.iload 7, 2) := by decide +kernel
theorem dX10_look_369 : decode cX10_look 369 = .ok (.baload, 1) := by decide +kernel
theorem dX10_look_370 : decode cX10_look 370 = .ok (.bastore, 1) := by decide +kernel
theorem dX10_look_371 : decode cX10_look 371 = .ok (.iinc 7 1, 3) := by decide +kernel
theorem dX10_look_374 : decode cX10_look 374 = .ok (.goto (-26), 3) := by decide +kernel
theorem dX10_look_377 : decode cX10_look 377 = .ok (.aload_n 0, 1) := by decide +kernel
theorem dX10_look_378 : decode cX10_look 378 = .ok (.getfield 34, 3) := by decide +kernel
theorem dX10_look_381 : decode cX10_look 381 = .ok (.ireturn, 1) := by decide +kernel
theorem dX10_release_0 : decode cX10_release 0 = .ok (.aload_n 0, 1) := by decide +kernel
theorem dX10_release_1 : decode cX10_release 1 = .ok (.getfield 90, 3) := by decide +kernel
theorem dX10_release_4 : decode cX10_release 4 = .ok (.ifCond .eq 6, 3) := by decide +kernel
theorem dX10_release_7 : decode cX10_release 7 = .ok (.bipush (-4), 2) := by decide +kernel
theorem dX10_release_9 : decode cX10_release 9 = .ok (.ireturn, 1) := by decide +kernel
theorem dX10_release_10 : decode cX10_release 10 = .ok (.aload_n 0, 1) := by decide +kernel
theorem dX10_release_11 : decode cX10_release 11 = .ok (.iload_n 1, 1) := by decide +kernel
theorem dX10_release_12 : decode cX10_release 12 = .ok (.invokevirtual 397, 3) := by decide +kernel
theorem dX10_release_15 : decode cX10_release 15 = .ok (.istore_n 2, 1) := by decide +kernel
theorem dX10_release_16 : decode cX10_release 16 = .ok (.iload_n 2, 1) := by decide +kernel
theorem dX10_release_17 : decode cX10_release 17 = .ok (.iconst (-1), 1) := by decide +kernel
theorem dX10_release_18 : decode cX10_release 18 = .ok (.if_icmp .ne 5, 3) := by decide +kernel
theorem dX10_release_21 : decode cX10_release 21 = .ok (.iconst (-1), 1) := by decide +kernel
theorem dX10_release_22 : decode cX10_release 22 = .ok (.ireturn, 1) := by decide +kernel
theorem dX10_release_23 : decode cX10_release 23 = .ok (.iload_n 2, 1) := by decide +kernel
theorem dX10_release_24 : decode cX10_release 24 = .ok (.istore_n 3, 1) := by decide +kernel
theorem dX10_release_25 : decode cX10_release 25 = .ok (.iload_n 3, 1) := by decide +kernel
theorem dX10_release_26 : decode cX10_release 26 = .ok (.iconst 1, 1) := by decide +kernel
theorem dX10_release_27 : decode cX10_release 27 = .ok (.iadd, 1) := by decide +kernel
theorem dX10_release_28 : decode cX10_release 28 = .ok (.aload_n 0, 1) := by decide +kernel
theorem dX10_release_29 : decode cX10_release 29 = .ok (.getfield 363, 3) := by decide +kernel
theorem dX10_release_32 : decode cX10_release 32 = .ok (.if_icmp .ge 37, 3) := by decide +kernel
theorem dX10_release_35 : decode cX10_release 35 = .ok (.aload_n 0, 1) := by decide +kernel
theorem dX10_release_36 : decode cX10_release 36 = .ok (.getfield 252, 3) := by decide +kernel
theorem dX10_release_39 : decode cX10_release 39 = .ok (.iload_n 3, 1) := by decide +kernel
theorem dX10_release_40 : decode cX10_release 40 = .ok (.aload_n 0, 1) := by decide +kernel
theorem dX10_release_41 : decode cX10_release 41 = .ok (.getfield 252, 3) := by decide +kernel
theorem dX10_release_44 : decode cX10_release 44 = .ok (.iload_n 3, 1) := by decide +kernel
theorem dX10_release_45 : decode cX10_release 45 = .ok (.iconst 1, 1) := by decide +kernel
theorem dX10_release_46 : decode cX10_release 46 = .ok (.iadd, 1) := by decide +kernel
theorem dX10_release_47 : decode cX10_release 47 = .ok (.iaload, 1) := by decide +kernel
theorem dX10_release_48 : decode cX10_release 48 = .ok (.iastore, 1) := by decide +kernel
theorem dX10_release_49 : decode cX10_release 49 = .ok (.aload_n 0, 1) := by decide +kernel
theorem dX10_release_50 : decode cX10_release 50 = .ok (.getfield 255, 3) := by decide +kernel
theorem dX10_release_53 : decode cX10_release 53 = .ok (.iload_n 3, 1) := by decide +kernel
theorem dX10_release_54 : decode cX10_release 54 = .ok (.aload_n 0, 1) := by decide +kernel
theorem dX10_release_55 : decode cX10_release 55 = .ok (.getfield 255, 3) := by decide +kernel
theorem dX10_release_58 : decode cX10_release 58 = .ok (.iload_n 3, 1) := by decide +kernel
theorem dX10_release_59 : decode cX10_release 59 = .ok (.iconst 1, 1) := by decide +kernel
theorem dX10_release_60 : decode cX10_release 60 = .ok (.iadd, 1) := by decide +kernel
theorem dX10_release_61 : decode cX10_release 61 = .ok (.iaload, 1) := by decide +kernel
theorem dX10_release_62 : decode cX10_release 62 = .ok (.iastore, 1) := by decide +kernel
theorem dX10_release_63 : decode cX10_release 63 = .ok (.iinc 3 1, 3) := by decide +kernel
theorem dX10_release_66 : decode cX10_release 66 = .ok (.goto (-41), 3) := by decide +kernel
theorem dX10_release_69 : decode cX10_release 69 = .ok (.aload_n 0, 1) := by decide +kernel
theorem dX10_release_70 : decode cX10_release 70 = .ok (.dup, 1) := by decide +kernel
theorem dX10_release_71 : decode cX10_release 71 = .ok (.getfield 363, 3) := by decide +kernel
theorem dX10_release_74 : decode cX10_release 74 = .ok (.iconst 1, 1) := by decide +kernel
theorem dX10_release_75 : decode cX10_release 75 = .ok (.isub, 1) := by decide +kernel
theorem dX10_release_76 : decode cX10_release 76 = .ok (.putfield 363, 3) := by decide +kernel
theorem dX10_release_79 : decode cX10_release 79 = .ok (.aload_n 0, 1) := by decide +kernel
theorem dX10_release_80 : decode cX10_release 80 = .ok (.getfield 363, 3) := by decide +kernel
theorem dX10_release_83 : decode cX10_release 83 = .ok (.ireturn, 1) := by decide +kernel
theorem dX10_pictured_0 : decode cX10_pictured 0 = .ok (.aload_n 0, 1) := by decide +kernel
theorem dX10_pictured_1 : decode cX10_pictured 1 = .ok (.getfield 90, 3) := by decide +kernel
theorem dX10_pictured_4 : decode cX10_pictured 4 = .ok (.ifCond .eq 6, 3) := by decide +kernel
theorem dX10_pictured_7 : decode cX10_pictured 7 = .ok (.bipush (-4), 2) := by decide +kernel
theorem dX10_pictured_9 : decode cX10_pictured 9 = .ok (.ireturn, 1) := by decide +kernel
theorem dX10_pictured_10 : decode cX10_pictured 10 = .ok (.iload_n 1, 1) := by decide +kernel
theorem dX10_pictured_11 : decode cX10_pictured 11 = .ok (.ifCond .lt 20, 3) := by decide +kernel
theorem dX10_pictured_14 : decode cX10_pictured 14 = .ok (.iload_n 1, 1) := by decide +kernel
theorem dX10_pictured_15 : decode cX10_pictured 15 = .ok (.aload_n 0, 1) := by decide +kernel
theorem dX10_pictured_16 : decode cX10_pictured 16 = .ok (.getfield 363, 3) := by decide +kernel
theorem dX10_pictured_19 : decode cX10_pictured 19 = .ok (.if_icmp .ge 12, 3) := by decide +kernel
theorem dX10_pictured_22 : decode cX10_pictured 22 = .ok (.aload_n 0, 1) := by decide +kernel
theorem dX10_pictured_23 : decode cX10_pictured 23 = .ok (.getfield 252, 3) := by decide +kernel
theorem dX10_pictured_26 : decode cX10_pictured 26 = .ok (.iload_n 1, 1) := by decide +kernel
theorem dX10_pictured_27 : decode cX10_pictured 27 = .ok (.iaload, 1) := by decide +kernel
theorem dX10_pictured_28 : decode cX10_pictured 28 = .ok (.goto 4, 3) := by decide +kernel
theorem dX10_pictured_31 : decode cX10_pictured 31 = .ok (.iconst (-1), 1) := by decide +kernel
theorem dX10_pictured_32 : decode cX10_pictured 32 = .ok (.ireturn, 1) := by decide +kernel
theorem dX10_free_0 : decode cX10_free 0 = .ok (.aload_n 0, 1) := by decide +kernel
theorem dX10_free_1 : decode cX10_free 1 = .ok (.getfield 90, 3) := by decide +kernel
theorem dX10_free_4 : decode cX10_free 4 = .ok (.ifCond .eq 8, 3) := by decide +kernel
theorem dX10_free_7 : decode cX10_free 7 = .ok (.bipush (-4), 2) := by decide +kernel
theorem dX10_free_9 : decode cX10_free 9 = .ok (.goto 7, 3) := by decide +kernel
theorem dX10_free_12 : decode cX10_free 12 = .ok (.aload_n 0, 1) := by decide +kernel
theorem dX10_free_13 : decode cX10_free 13 = .ok (.invokevirtual 391, 3) := by decide +kernel
theorem dX10_free_16 : decode cX10_free 16 = .ok (.ireturn, 1) := by decide +kernel
theorem dX10_fall_0 : decode cX10_fall 0 = .ok (.iload_n 1, 1) := by decide +kernel
theorem dX10_fall_1 : decode cX10_fall 1 = .ok (.ifCond .lt 10, 3) := by decide +kernel
theorem dX10_fall_4 : decode cX10_fall 4 = .ok (.iload_n 1, 1) := by decide +kernel
theorem dX10_fall_5 : decode cX10_fall 5 = .ok (.sipush 10000, 3) := by decide +kernel
theorem dX10_fall_8 : decode cX10_fall 8 = .ok (.if_icmp .le 6, 3) := by decide +kernel
theorem dX10_fall_11 : decode cX10_fall 11 = .ok (.bipush (-2), 2) := by decide +kernel
theorem dX10_fall_13 : decode cX10_fall 13 = .ok (.ireturn, 1) := by decide +kernel
theorem dX10_fall_14 : decode cX10_fall 14 = .ok (.aload_n 0, 1) := by decide +kernel
theorem dX10_fall_15 : decode cX10_fall 15 = .ok (.iload_n 1, 1) := by decide +kernel
theorem dX10_fall_16 : decode cX10_fall 16 = .ok (.putfield 369, 3) := by decide +kernel
theorem dX10_fall_19 : decode cX10_fall 19 = .ok (.iload_n 1, 1) := by decide +kernel
theorem dX10_fall_20 : decode cX10_fall 20 = .ok (.ireturn, 1) := by decide +kernel
theorem dX10_crash_0 : decode cX10_crash 0 = .ok (.aload_n 0, 1) := by decide +kernel
theorem dX10_crash_1 : decode cX10_crash 1 = .ok (.getfield 90, 3) := by decide +kernel
theorem dX10_crash_4 : decode cX10_crash 4 = .ok (.ifCond .eq 6, 3) := by decide +kernel
theorem dX10_crash_7 : decode cX10_crash 7 = .ok (.bipush (-4), 2) := by decide +kernel
theorem dX10_crash_9 : decode cX10_crash 9 = .ok (.ireturn, 1) := by decide +kernel
theorem dX10_crash_10 : decode cX10_crash 10 = .ok (.aload_n 0, 1) := by decide +kernel
theorem dX10_crash_11 : decode cX10_crash 11 = .ok (.iconst 1, 1) := by decide +kernel
theorem dX10_crash_12 : decode cX10_crash 12 = .ok (.putfield 90, 3) := by decide +kernel
theorem dX10_crash_15 : decode cX10_crash 15 = .ok (.iconst 0, 1) := by decide +kernel
theorem dX10_crash_16 : decode cX10_crash 16 = .ok (.ireturn, 1) := by decide +kernel
theorem dX10_load_0 : decode cX10_load 0 = .ok (.aload_n 0, 1) := by decide +kernel
theorem dX10_load_1 : decode cX10_load 1 = .ok (.aload_n 0, 1) := by decide +kernel
theorem dX10_load_2 : decode cX10_load 2 = .ok (.getfield 200, 3) := by decide +kernel
theorem dX10_load_5 : decode cX10_load 5 = .ok (.iload_n 1, 1) := by decide +kernel
theorem dX10_load_6 : decode cX10_load 6 = .ok (.baload, 1) := by decide +kernel
theorem dX10_load_7 : decode cX10_load 7 = .ok (.invokevirtual 273, 3) := by decide +kernel
theorem dX10_load_10 : decode cX10_load 10 = .ok (.istore_n 2, 1) := by decide +kernel
theorem dX10_load_11 : decode cX10_load 11 = .ok (.aload_n 0, 1) := by decide +kernel
theorem dX10_load_12 : decode cX10_load 12 = .ok (.getfield 148, 3) := by decide +kernel
theorem dX10_load_15 : decode cX10_load 15 = .ok (.iload_n 2, 1) := by decide +kernel
theorem dX10_load_16 : decode cX10_load 16 = .ok (.iload_n 1, 1) := by decide +kernel
theorem dX10_load_17 : decode cX10_load 17 = .ok (.iastore, 1) := by decide +kernel
theorem dX10_load_18 : decode cX10_load 18 = .ok (.aload_n 0, 1) := by decide +kernel
theorem dX10_load_19 : decode cX10_load 19 = .ok (.getfield 200, 3) := by decide +kernel
theorem dX10_load_22 : decode cX10_load 22 = .ok (.iload_n 1, 1) := by decide +kernel
theorem dX10_load_23 : decode cX10_load 23 = .ok (.baload, 1) := by decide +kernel
theorem dX10_load_24 : decode cX10_load 24 = .ok (.ifCond .eq 103, 3) := by decide +kernel
theorem dX10_load_27 : decode cX10_load 27 = .ok (.iconst (-1), 1) := by decide +kernel
theorem dX10_load_28 : decode cX10_load 28 = .ok (.istore_n 3, 1) := by decide +kernel
theorem dX10_load_29 : decode cX10_load 29 = .ok (.bipush 6, 2) := by decide +kernel
theorem dX10_load_31 : decode cX10_load 31 = .ok (.iload_n 1, 1) := by decide +kernel
theorem dX10_load_32 : decode cX10_load 32 = .ok (.imul, 1) := by decide +kernel
theorem dX10_load_33 : decode cX10_load 33 = .ok (.istore 4, 2) := by decide +kernel
theorem dX10_load_35 : decode cX10_load 35 = .ok (.iload 4, 2) := by decide +kernel
theorem dX10_load_37 : decode cX10_load 37 = .ok (.bipush 6, 2) := by decide +kernel
theorem dX10_load_39 : decode cX10_load 39 = .ok (.iload_n 1, 1) := by decide +kernel
theorem dX10_load_40 : decode cX10_load 40 = .ok (.imul, 1) := by decide +kernel
theorem dX10_load_41 : decode cX10_load 41 = .ok (.aload_n 0, 1) := by decide +kernel
theorem dX10_load_42 : decode cX10_load 42 = .ok (.getfield 203, 3) := by decide +kernel
theorem dX10_load_45 : decode cX10_load 45 = .ok (.iload_n 1, 1) := by decide +kernel
theorem dX10_load_46 : decode cX10_load 46 = .ok (.iaload, 1) := by decide +kernel
theorem dX10_load_47 : decode cX10_load 47 = .ok (.iadd, 1) := by decide +kernel
theorem dX10_load_48 : decode cX10_load 48 = .ok (.if_icmp .ge 77, 3) := by decide +kernel
theorem dX10_load_51 : decode cX10_load 51 = .ok (.aload_n 0, 1) := by decide +kernel
theorem dX10_load_52 : decode cX10_load 52 = .ok (.iload_n 2, 1) := by decide +kernel
theorem dX10_load_53 : decode cX10_load 53 = .ok (.iload_n 3, 1) := by decide +kernel
theorem dX10_load_54 : decode cX10_load 54 = .ok (.aload_n 0, 1) := by decide +kernel
theorem dX10_load_55 : decode cX10_load 55 = .ok (.getfield 206, 3) := by decide +kernel
theorem dX10_load_58 : decode cX10_load 58 = .ok (.iload 4, 2) := by decide +kernel
theorem dX10_load_60 : decode cX10_load 60 = .ok (.laload, 1) := by decide +kernel
theorem dX10_load_61 : decode cX10_load 61 = .ok (.invokevirtual 299, 3) := by decide +kernel
theorem dX10_load_64 : decode cX10_load 64 = .ok (.istore_n 3, 1) := by decide +kernel
theorem dX10_load_65 : decode cX10_load 65 = .ok (.aload_n 0, 1) := by decide +kernel
theorem dX10_load_66 : decode cX10_load 66 = .ok (.getfield 157, 3) := by decide +kernel
theorem dX10_load_69 : decode cX10_load 69 = .ok (.iload_n 3, 1) := by decide +kernel
theorem dX10_load_70 : decode cX10_load 70 = .ok (.aload_n 0, 1) := by decide +kernel
theorem dX10_load_71 : decode cX10_load 71 = .ok (.getfield 209, 3) := by decide +kernel
theorem dX10_load_74 : decode cX10_load 74 = .ok (.iload 4, 2) := by decide +kernel
theorem dX10_load_76 : decode cX10_load 76 = .ok (.iaload, 1) := by decide +kernel
theorem dX10_load_77 : decode cX10_load 77 = .ok (.iastore, 1) := by decide +kernel
theorem dX10_load_78 : decode cX10_load 78 = .ok (.iconst 0, 1) := by decide +kernel
theorem dX10_load_79 : decode cX10_load 79 = .ok (.istore 5, 2) := by decide +kernel
theorem dX10_load_81 : decode cX10_load 81 = .ok (.iload 5, 2) := by decide +kernel
theorem dX10_load_83 : decode cX10_load 83 = .ok (.bipush 20, 2) := by decide +kernel
theorem dX10_load_85 : decode cX10_load 85 = .ok (.if_icmp .ge 34, 3) := by decide +kernel
theorem dX10_load_88 : decode cX10_load 88 = .ok (.aload_n 0, 1) := by decide +kernel
theorem dX10_load_89 : decode cX10_load 89 = .ok (.getfield 161, 3) := by decide +kernel
theorem dX10_load_92 : decode cX10_load 92 = .ok (.bipush 20, 2) := by decide +kernel
theorem dX10_load_94 : decode cX10_load 94 = .ok (.iload_n 3, 1) := by decide +kernel
theorem dX10_load_95 : decode cX10_load 95 = .ok (.imul, 1) := by decide +kernel
theorem dX10_load_96 : decode cX10_load 96 = .ok (.iload 5, 2) := by decide +kernel
theorem dX10_load_98 : decode cX10_load 98 = .ok (.iadd, 1) := by decide +kernel
theorem dX10_load_99 : decode cX10_load 99 = .ok (.aload_n 0, 1) := by decide +kernel
theorem dX10_load_100 : decode cX10_load 100 = .ok (.getfield 213, 3) := by decide +kernel
theorem dX10_load_103 : decode cX10_load 103 = .ok (.bipush 20, 2) := by decide +kernel
theorem dX10_load_105 : decode cX10_load 105 = .ok (.iload 4, 2) := by decide +kernel
theorem dX10_load_107 : decode cX10_load 107 = .ok (.imul, 1) := by decide +kernel
theorem dX10_load_108 : decode cX10_load 108 = .ok (.iload 5, 2) := by decide +kernel
theorem dX10_load_110 : decode cX10_load 110 = .ok (.iadd, 1) := by decide +kernel
theorem dX10_load_111 : decode cX10_load 111 = .ok (.baload, 1) := by decide +kernel
theorem dX10_load_112 : decode cX10_load 112 = .ok (.bastore, 1) := by decide +kernel
theorem dX10_load_113 : decode cX10_load 113 = .ok (.iinc 5 1, 3) := by decide +kernel
theorem dX10_load_116 : decode cX10_load 116 = .ok (.goto (-35), 3) := by decide +kernel
theorem dX10_load_119 : decode cX10_load 119 = .ok (.iinc 4 1, 3) := by decide +kernel
theorem dX10_load_122 : decode cX10_load 122 = .ok (.goto (-87), 3) := by decide +kernel
theorem dX10_load_125 : decode cX10_load 125 = .ok (.iload_n 2, 1) := by decide +kernel
theorem dX10_load_126 : decode cX10_load 126 = .ok (.ireturn, 1) := by decide +kernel
theorem dX10_load_127 : decode cX10_load 127 = .ok (.bipush 8, 2) := by decide +kernel
theorem dX10_load_129 : decode cX10_load 129 = .ok (.iload_n 1, 1) := by decide +kernel
theorem dX10_load_130 : decode cX10_load 130 = .ok (.imul, 1) := by decide +kernel
theorem dX10_load_131 : decode cX10_load 131 = .ok (.istore_n 3, 1) := by decide +kernel
theorem dX10_load_132 : decode cX10_load 132 = .ok (.iload_n 3, 1) := by decide +kernel
theorem dX10_load_133 : decode cX10_load 133 = .ok (.bipush 8, 2) := by decide +kernel
theorem dX10_load_135 : decode cX10_load 135 = .ok (.iload_n 1, 1) := by decide +kernel
theorem dX10_load_136 : decode cX10_load 136 = .ok (.imul, 1) := by decide +kernel
theorem dX10_load_137 : decode cX10_load 137 = .ok (.aload_n 0, 1) := by decide +kernel
theorem dX10_load_138 : decode cX10_load 138 = .ok (.getfield 219, 3) := by decide +kernel
theorem dX10_load_141 : decode cX10_load 141 = .ok (.iload_n 1, 1) := by decide +kernel
theorem dX10_load_142 : decode cX10_load 142 = .ok (.iaload, 1) := by decide +kernel
theorem dX10_load_143 : decode cX10_load 143 = .ok (.iadd, 1) := by decide +kernel
theorem dX10_load_144 : decode cX10_load 144 = .ok (.if_icmp .ge 32, 3) := by decide +kernel
theorem dX10_load_147 : decode cX10_load 147 = .ok (.aload_n 0, 1) := by decide +kernel
theorem dX10_load_148 : decode cX10_load 148 = .ok (.iload_n 2, 1) := by decide +kernel
theorem dX10_load_149 : decode cX10_load 149 = .ok (.aload_n 0, 1) := by decide +kernel
theorem dX10_load_150 : decode cX10_load 150 = .ok (.getfield 222, 3) := by decide +kernel
theorem dX10_load_153 : decode cX10_load 153 = .ok (.iload_n 3, 1) := by decide +kernel
theorem dX10_load_154 : decode cX10_load 154 = .ok (.iaload, 1) := by decide +kernel
theorem dX10_load_155 : decode cX10_load 155 = .ok (.aload_n 0, 1) := by decide +kernel
theorem dX10_load_156 : decode cX10_load 156 = .ok (.getfield 225, 3) := by decide +kernel
theorem dX10_load_159 : decode cX10_load 159 = .ok (.iload_n 3, 1) := by decide +kernel
theorem dX10_load_160 : decode cX10_load 160 = .ok (.laload, 1) := by decide +kernel
theorem dX10_load_161 : decode cX10_load 161 = .ok (.aload_n 0, 1) := by decide +kernel
theorem dX10_load_162 : decode cX10_load 162 = .ok (.getfield 228, 3) := by decide +kernel
theorem dX10_load_165 : decode cX10_load 165 = .ok (.iload_n 3, 1) := by decide +kernel
theorem dX10_load_166 : decode cX10_load 166 = .ok (.laload, 1) := by decide +kernel
theorem dX10_load_167 : decode cX10_load 167 = .ok (.invokevirtual 303, 3) := by decide +kernel
theorem dX10_load_170 : decode cX10_load 170 = .ok (.iinc 3 1, 3) := by decide +kernel
theorem dX10_load_173 : decode cX10_load 173 = .ok (.goto (-41), 3) := by decide +kernel
theorem dX10_load_176 : decode cX10_load 176 = .ok (.aload_n 0, 1) := by decide +kernel
theorem dX10_load_177 : decode cX10_load 177 = .ok (.getfield 148, 3) := by decide +kernel
theorem dX10_load_180 : decode cX10_load 180 = .ok (.iload_n 2, 1) := by decide +kernel
theorem dX10_load_181 : decode cX10_load 181 = .ok (.iload_n 1, 1) := by decide +kernel
theorem dX10_load_182 : decode cX10_load 182 = .ok (.iastore, 1) := by decide +kernel
theorem dX10_load_183 : decode cX10_load 183 = .ok (.aload_n 0, 1) := by decide +kernel
theorem dX10_load_184 : decode cX10_load 184 = .ok (.getfield 129, 3) := by decide +kernel
theorem dX10_load_187 : decode cX10_load 187 = .ok (.iload_n 2, 1) := by decide +kernel
theorem dX10_load_188 : decode cX10_load 188 = .ok (.aload_n 0, 1) := by decide +kernel
theorem dX10_load_189 : decode cX10_load 189 = .ok (.getfield 203, 3) := by decide +kernel
theorem dX10_load_192 : decode cX10_load 192 = .ok (.iload_n 1, 1) := by decide +kernel
theorem dX10_load_193 : decode cX10_load 193 = .ok (.iaload, 1) := by decide +kernel
theorem dX10_load_194 : decode cX10_load 194 = .ok (.iastore, 1) := by decide +kernel
theorem dX10_load_195 : decode cX10_load 195 = .ok (.iconst 0, 1) := by decide +kernel
theorem dX10_load_196 : decode cX10_load 196 = .ok (.istore_n 3, 1) := by decide +kernel
theorem dX10_load_197 : decode cX10_load 197 = .ok (.iload_n 3, 1) := by decide +kernel
theorem dX10_load_198 : decode cX10_load 198 = .ok (.aload_n 0, 1) := by decide +kernel
theorem dX10_load_199 : decode cX10_load 199 = .ok (.getfield 203, 3) := by decide +kernel
theorem dX10_load_202 : decode cX10_load 202 = .ok (.iload_n 1, 1) := by decide +kernel
theorem dX10_load_203 : decode cX10_load 203 = .ok (.iaload, 1) := by decide +kernel
theorem dX10_load_204 : decode cX10_load 204 = .ok (.if_icmp .ge 59, 3) := by decide +kernel
theorem dX10_load_207 : decode cX10_load 207 = .ok (.aload_n 0, 1) := by decide +kernel
theorem dX10_load_208 : decode cX10_load 208 = .ok (.getfield 136, 3) := by decide +kernel
theorem dX10_load_211 : decode cX10_load 211 = .ok (.sipush 128, 3) := by decide +kernel
theorem dX10_load_214 : decode cX10_load 214 = .ok (.iload_n 2, 1) := by decide +kernel
theorem dX10_load_215 : decode cX10_load 215 = .ok (.imul, 1) := by decide +kernel
theorem dX10_load_216 : decode cX10_load 216 = .ok (.iload_n 3, 1) := by decide +kernel
theorem dX10_load_217 : decode cX10_load 217 = .ok (.iadd, 1) := by decide +kernel
theorem dX10_load_218 : decode cX10_load 218 = .ok (.aload_n 0, 1) := by decide +kernel
theorem dX10_load_219 : decode cX10_load 219 = .ok (.getfield 206, 3) := by decide +kernel
theorem dX10_load_222 : decode cX10_load 222 = .ok (.bipush 6, 2) := by decide +kernel
theorem dX10_load_224 : decode cX10_load 224 = .ok (.iload_n 1, 1) := by decide +kernel
theorem dX10_load_225 : decode cX10_load 225 = .ok (.imul, 1) := by decide +kernel
theorem dX10_load_226 : decode cX10_load 226 = .ok (.iload_n 3, 1) := by decide +kernel
theorem dX10_load_227 : decode cX10_load 227 = .ok (.iadd, 1) := by decide +kernel
theorem dX10_load_228 : decode cX10_load 228 = .ok (.laload, 1) := by decide +kernel
theorem dX10_load_229 : decode cX10_load 229 = .ok (.lastore, 1) := by decide +kernel
theorem dX10_load_230 : decode cX10_load 230 = .ok (.aload_n 0, 1) := by decide +kernel
theorem dX10_load_231 : decode cX10_load 231 = .ok (.getfield 133, 3) := by decide +kernel
theorem dX10_load_234 : decode cX10_load 234 = .ok (.sipush 128, 3) := by decide +kernel
theorem dX10_load_237 : decode cX10_load 237 = .ok (.iload_n 2, 1) := by decide +kernel
theorem dX10_load_238 : decode cX10_load 238 = .ok (.imul, 1) := by decide +kernel
theorem dX10_load_239 : decode cX10_load 239 = .ok (.iload_n 3, 1) := by decide +kernel
theorem dX10_load_240 : decode cX10_load 240 = .ok (.iadd, 1) := by decide +kernel
theorem dX10_load_241 : decode cX10_load 241 = .ok (.aload_n 0, 1) := by decide +kernel
theorem dX10_load_242 : decode cX10_load 242 = .ok (.aload_n 0, 1) := by decide +kernel
theorem dX10_load_243 : decode cX10_load 243 = .ok (.getfield 216, 3) := by decide +kernel
theorem dX10_load_246 : decode cX10_load 246 = .ok (.bipush 6, 2) := by decide +kernel
theorem dX10_load_248 : decode cX10_load 248 = .ok (.iload_n 1, 1) := by decide +kernel
theorem dX10_load_249 : decode cX10_load 249 = .ok (.imul, 1) := by decide +kernel
theorem dX10_load_250 : decode cX10_load 250 = .ok (.iload_n 3, 1) := by decide +kernel
theorem dX10_load_251 : decode cX10_load 251 = .ok (.iadd, 1) := by decide +kernel
theorem dX10_load_252 : decode cX10_load 252 = .ok (.iaload, 1) := by decide +kernel
theorem dX10_load_253 : decode cX10_load 253 = .ok (.invokevirtual 400, 3) := by decide +kernel
theorem dX10_load_256 : decode cX10_load 256 = .ok (.iastore, 1) := by decide +kernel
theorem dX10_load_257 : decode cX10_load 257 = .ok (.iinc 3 1, 3) := by decide +kernel
theorem dX10_load_260 : decode cX10_load 260 = .ok (.goto (-63), 3) := by decide +kernel
theorem dX10_load_263 : decode cX10_load 263 = .ok (.iload_n 2, 1) := by decide +kernel
theorem dX10_load_264 : decode cX10_load 264 = .ok (.ireturn, 1) := by decide +kernel
theorem dX10_read_0 : decode cX10_read 0 = .ok (.aload_n 0, 1) := by decide +kernel
theorem dX10_read_1 : decode cX10_read 1 = .ok (.getfield 119, 3) := by decide +kernel
theorem dX10_read_4 : decode cX10_read 4 = .ok (.iload_n 1, 1) := by decide +kernel
theorem dX10_read_5 : decode cX10_read 5 = .ok (.baload, 1) := by decide +kernel
theorem dX10_read_6 : decode cX10_read 6 = .ok (.ifCond .eq 105, 3) := by decide +kernel
theorem dX10_read_9 : decode cX10_read 9 = .ok (.aload_n 0, 1) := by decide +kernel
theorem dX10_read_10 : decode cX10_read 10 = .ok (.getfield 123, 3) := by decide +kernel
theorem dX10_read_13 : decode cX10_read 13 = .ok (.iload_n 1, 1) := by decide +kernel
theorem dX10_read_14 : decode cX10_read 14 = .ok (.iaload, 1) := by decide +kernel
theorem dX10_read_15 : decode cX10_read 15 = .ok (.istore_n 2, 1) := by decide +kernel
theorem dX10_read_16 : decode cX10_read 16 = .ok (.iload_n 2, 1) := by decide +kernel
theorem dX10_read_17 : decode cX10_read 17 = .ok (.iconst (-1), 1) := by decide +kernel
theorem dX10_read_18 : decode cX10_read 18 = .ok (.if_icmp .eq 92, 3) := by decide +kernel
theorem dX10_read_21 : decode cX10_read 21 = .ok (.aload_n 0, 1) := by decide +kernel
theorem dX10_read_22 : decode cX10_read 22 = .ok (.getfield 19, 3) := by decide +kernel
theorem dX10_read_25 : decode cX10_read 25 = .ok (.aload_n 0, 1) := by decide +kernel
theorem dX10_read_26 : decode cX10_read 26 = .ok (.getfield 16, 3) := by decide +kernel
theorem dX10_read_29 : decode cX10_read 29 = .ok (.aload_n 0, 1) := by decide +kernel
theorem dX10_read_30 : decode cX10_read 30 = .ok (.getfield 154, 3) := by decide +kernel
theorem dX10_read_33 : decode cX10_read 33 = .ok (.iload_n 2, 1) := by decide +kernel
theorem dX10_read_34 : decode cX10_read 34 = .ok (.laload, 1) := by decide +kernel
theorem dX10_read_35 : decode cX10_read 35 = .ok (.lastore, 1) := by decide +kernel
theorem dX10_read_36 : decode cX10_read 36 = .ok (.aload_n 0, 1) := by decide +kernel
theorem dX10_read_37 : decode cX10_read 37 = .ok (.getfield 27, 3) := by decide +kernel
theorem dX10_read_40 : decode cX10_read 40 = .ok (.aload_n 0, 1) := by decide +kernel
theorem dX10_read_41 : decode cX10_read 41 = .ok (.getfield 16, 3) := by decide +kernel
theorem dX10_read_44 : decode cX10_read 44 = .ok (.aload_n 0, 1) := by decide +kernel
theorem dX10_read_45 : decode cX10_read 45 = .ok (.getfield 157, 3) := by decide +kernel
theorem dX10_read_48 : decode cX10_read 48 = .ok (.iload_n 2, 1) := by decide +kernel
theorem dX10_read_49 : decode cX10_read 49 = .ok (.iaload, 1) := by decide +kernel
theorem dX10_read_50 : decode cX10_read 50 = .ok (.iastore, 1) := by decide +kernel
theorem dX10_read_51 : decode cX10_read 51 = .ok (.iconst 0, 1) := by decide +kernel
theorem dX10_read_52 : decode cX10_read 52 = .ok (.istore_n 3, 1) := by decide +kernel
theorem dX10_read_53 : decode cX10_read 53 = .ok (.iload_n 3, 1) := by decide +kernel
theorem dX10_read_54 : decode cX10_read 54 = .ok (.bipush 20, 2) := by decide +kernel
theorem dX10_read_56 : decode cX10_read 56 = .ok (.if_icmp .ge 34, 3) := by decide +kernel
theorem dX10_read_59 : decode cX10_read 59 = .ok (.aload_n 0, 1) := by decide +kernel
theorem dX10_read_60 : decode cX10_read 60 = .ok (.getfield 31, 3) := by decide +kernel
theorem dX10_read_63 : decode cX10_read 63 = .ok (.bipush 20, 2) := by decide +kernel
theorem dX10_read_65 : decode cX10_read 65 = .ok (.aload_n 0, 1) := by decide +kernel
theorem dX10_read_66 : decode cX10_read 66 = .ok (.getfield 16, 3) := by decide +kernel
theorem dX10_read_69 : decode cX10_read 69 = .ok (.imul, 1) := by decide +kernel
theorem dX10_read_70 : decode cX10_read 70 = .ok (.iload_n 3, 1) := by decide +kernel
theorem dX10_read_71 : decode cX10_read 71 = .ok (.iadd, 1) := by decide +kernel
theorem dX10_read_72 : decode cX10_read 72 = .ok (.aload_n 0, 1) := by decide +kernel
theorem dX10_read_73 : decode cX10_read 73 = .ok (.getfield 161, 3) := by decide +kernel
theorem dX10_read_76 : decode cX10_read 76 = .ok (.bipush 20, 2) := by decide +kernel
theorem dX10_read_78 : decode cX10_read 78 = .ok (.iload_n 2, 1) := by decide +kernel
theorem dX10_read_79 : decode cX10_read 79 = .ok (.imul, 1) := by decide +kernel
theorem dX10_read_80 : decode cX10_read 80 = .ok (.iload_n 3, 1) := by decide +kernel
theorem dX10_read_81 : decode cX10_read 81 = .ok (.iadd, 1) := by decide +kernel
theorem dX10_read_82 : decode cX10_read 82 = .ok (.baload, 1) := by decide +kernel
theorem dX10_read_83 : decode cX10_read 83 = .ok (.bastore, 1) := by decide +kernel
theorem dX10_read_84 : decode cX10_read 84 = .ok (.iinc 3 1, 3) := by decide +kernel
theorem dX10_read_87 : decode cX10_read 87 = .ok (.goto (-34), 3) := by decide +kernel
theorem dX10_read_90 : decode cX10_read 90 = .ok (.aload_n 0, 1) := by decide +kernel
theorem dX10_read_91 : decode cX10_read 91 = .ok (.dup, 1) := by decide +kernel
theorem dX10_read_92 : decode cX10_read 92 = .ok (.getfield 16, 3) := by decide +kernel
theorem dX10_read_95 : decode cX10_read 95 = .ok (.iconst 1, 1) := by decide +kernel
theorem dX10_read_96 : decode cX10_read 96 = .ok (.iadd, 1) := by decide +kernel
theorem dX10_read_97 : decode cX10_read 97 = .ok (.putfield 16, 3) := by decide +kernel
theorem dX10_read_100 : decode cX10_read 100 = .ok (.aload_n 0, 1) := by decide +kernel
theorem dX10_read_101 : decode cX10_read 101 = .ok (.getfield 164, 3) := by decide +kernel
theorem dX10_read_104 : decode cX10_read 104 = .ok (.iload_n 2, 1) := by decide +kernel
theorem dX10_read_105 : decode cX10_read 105 = .ok (.iaload, 1) := by decide +kernel
theorem dX10_read_106 : decode cX10_read 106 = .ok (.istore_n 2, 1) := by decide +kernel
theorem dX10_read_107 : decode cX10_read 107 = .ok (.goto (-91), 3) := by decide +kernel
theorem dX10_read_110 : decode cX10_read 110 = .ok (.return_, 1) := by decide +kernel
theorem dX10_read_111 : decode cX10_read 111 = .ok (.iconst 0, 1) := by decide +kernel
theorem dX10_read_112 : decode cX10_read 112 = .ok (.istore_n 2, 1) := by decide +kernel
theorem dX10_read_113 : decode cX10_read 113 = .ok (.iload_n 2, 1) := by decide +kernel
theorem dX10_read_114 : decode cX10_read 114 = .ok (.aload_n 0, 1) := by decide +kernel
theorem dX10_read_115 : decode cX10_read 115 = .ok (.getfield 129, 3) := by decide +kernel
theorem dX10_read_118 : decode cX10_read 118 = .ok (.iload_n 1, 1) := by decide +kernel
theorem dX10_read_119 : decode cX10_read 119 = .ok (.iaload, 1) := by decide +kernel
theorem dX10_read_120 : decode cX10_read 120 = .ok (.if_icmp .ge 25, 3) := by decide +kernel
theorem dX10_read_123 : decode cX10_read 123 = .ok (.aload_n 0, 1) := by decide +kernel
theorem dX10_read_124 : decode cX10_read 124 = .ok (.aload_n 0, 1) := by decide +kernel
theorem dX10_read_125 : decode cX10_read 125 = .ok (.getfield 133, 3) := by decide +kernel
theorem dX10_read_128 : decode cX10_read 128 = .ok (.sipush 128, 3) := by decide +kernel
theorem dX10_read_131 : decode cX10_read 131 = .ok (.iload_n 1, 1) := by decide +kernel
theorem dX10_read_132 : decode cX10_read 132 = .ok (.imul, 1) := by decide +kernel
theorem dX10_read_133 : decode cX10_read 133 = .ok (.iload_n 2, 1) := by decide +kernel
theorem dX10_read_134 : decode cX10_read 134 = .ok (.iadd, 1) := by decide +kernel
theorem dX10_read_135 : decode cX10_read 135 = .ok (.iaload, 1) := by decide +kernel
theorem dX10_read_136 : decode cX10_read 136 = .ok (.invokevirtual 403, 3) := by decide +kernel
theorem dX10_read_139 : decode cX10_read 139 = .ok (.iinc 2 1, 3) := by decide +kernel
theorem dX10_read_142 : decode cX10_read 142 = .ok (.goto (-29), 3) := by decide +kernel
theorem dX10_read_145 : decode cX10_read 145 = .ok (.aload_n 0, 1) := by decide +kernel
theorem dX10_read_146 : decode cX10_read 146 = .ok (.getfield 139, 3) := by decide +kernel
theorem dX10_read_149 : decode cX10_read 149 = .ok (.iload_n 1, 1) := by decide +kernel
theorem dX10_read_150 : decode cX10_read 150 = .ok (.iaload, 1) := by decide +kernel
theorem dX10_read_151 : decode cX10_read 151 = .ok (.istore_n 2, 1) := by decide +kernel
theorem dX10_read_152 : decode cX10_read 152 = .ok (.iload_n 2, 1) := by decide +kernel
theorem dX10_read_153 : decode cX10_read 153 = .ok (.iconst (-1), 1) := by decide +kernel
theorem dX10_read_154 : decode cX10_read 154 = .ok (.if_icmp .eq 90, 3) := by decide +kernel
theorem dX10_read_157 : decode cX10_read 157 = .ok (.aload_n 0, 1) := by decide +kernel
theorem dX10_read_158 : decode cX10_read 158 = .ok (.getfield 167, 3) := by decide +kernel
theorem dX10_read_161 : decode cX10_read 161 = .ok (.iload_n 2, 1) := by decide +kernel
theorem dX10_read_162 : decode cX10_read 162 = .ok (.iaload, 1) := by decide +kernel
theorem dX10_read_163 : decode cX10_read 163 = .ok (.istore_n 3, 1) := by decide +kernel
theorem dX10_read_164 : decode cX10_read 164 = .ok (.aload_n 0, 1) := by decide +kernel
theorem dX10_read_165 : decode cX10_read 165 = .ok (.getfield 46, 3) := by decide +kernel
theorem dX10_read_168 : decode cX10_read 168 = .ok (.iload_n 3, 1) := by decide +kernel
theorem dX10_read_169 : decode cX10_read 169 = .ok (.iaload, 1) := by decide +kernel
theorem dX10_read_170 : decode cX10_read 170 = .ok (.iconst 5, 1) := by decide +kernel
theorem dX10_read_171 : decode cX10_read 171 = .ok (.if_icmp .ne 56, 3) := by decide +kernel
theorem dX10_read_174 : decode cX10_read 174 = .ok (.aload_n 0, 1) := by decide +kernel
theorem dX10_read_175 : decode cX10_read 175 = .ok (.getfield 173, 3) := by decide +kernel
theorem dX10_read_178 : decode cX10_read 178 = .ok (.iload_n 2, 1) := by decide +kernel
theorem dX10_read_179 : decode cX10_read 179 = .ok (.laload, 1) := by decide +kernel
theorem dX10_read_180 : decode cX10_read 180 = .ok (.ldc2_w 105, 3) := by decide +kernel
theorem dX10_read_183 : decode cX10_read 183 = .ok (.lcmp, 1) := by decide +kernel
theorem dX10_read_184 : decode cX10_read 184 = .ok (.ifCond .ne 10, 3) := by decide +kernel
theorem dX10_read_187 : decode cX10_read 187 = .ok (.aload_n 0, 1) := by decide +kernel
theorem dX10_read_188 : decode cX10_read 188 = .ok (.getfield 16, 3) := by decide +kernel
theorem dX10_read_191 : decode cX10_read 191 = .ok (.goto 15, 3) := by decide +kernel
theorem dX10_read_194 : decode cX10_read 194 = .ok (.aload_n 0, 1) := by decide +kernel
theorem dX10_read_195 : decode cX10_read 195 = .ok (.aload_n 0, 1) := by decide +kernel
theorem dX10_read_196 : decode cX10_read 196 = .ok (.getfield 173, 3) := by decide +kernel
theorem dX10_read_199 : decode cX10_read 199 = .ok (.iload_n 2, 1) := by decide +kernel
theorem dX10_read_200 : decode cX10_read 200 = .ok (.laload, 1) := by decide +kernel
theorem dX10_read_201 : decode cX10_read 201 = .ok (.lconst 1, 1) := by decide +kernel
theorem dX10_read_202 : decode cX10_read 202 = .ok (.ladd, 1) := by decide +kernel
theorem dX10_read_203 : decode cX10_read 203 = .ok (.invokevirtual 72, 3) := by decide +kernel
theorem dX10_read_206 : decode cX10_read 206 = .ok (.istore 4, 2) := by decide +kernel
theorem dX10_read_208 : decode cX10_read 208 = .ok (.aload_n 0, 1) := by decide +kernel
theorem dX10_read_209 : decode cX10_read 209 = .ok (.aload_n 0, 1) := by decide +kernel
theorem dX10_read_210 : decode cX10_read 210 = .ok (.aload_n 0, 1) := by decide +kernel
theorem dX10_read_211 : decode cX10_read 211 = .ok (.getfield 170, 3) := by decide +kernel
theorem dX10_read_214 : decode cX10_read 214 = .ok (.iload_n 2, 1) := by decide +kernel
theorem dX10_read_215 : decode cX10_read 215 = .ok (.laload, 1) := by decide +kernel
theorem dX10_read_216 : decode cX10_read 216 = .ok (.invokevirtual 72, 3) := by decide +kernel
theorem dX10_read_219 : decode cX10_read 219 = .ok (.iload 4, 2) := by decide +kernel
theorem dX10_read_221 : decode cX10_read 221 = .ok (.invokevirtual 83, 3) := by decide +kernel
theorem dX10_read_224 : decode cX10_read 224 = .ok (.goto 10, 3) := by decide +kernel
theorem dX10_read_227 : decode cX10_read 227 = .ok (.aload_n 0, 1) := by decide +kernel
theorem dX10_read_228 : decode cX10_read 228 = .ok (.iload_n 3, 1) := by decide +kernel
theorem dX10_read_229 : decode cX10_read 229 = .ok (.invokevirtual 98, 3) := by decide +kernel
theorem dX10_read_232 : decode cX10_read 232 = .ok (.istore 4, 2) := by decide +kernel
theorem dX10_read_234 : decode cX10_read 234 = .ok (.aload_n 0, 1) := by decide +kernel
theorem dX10_read_235 : decode cX10_read 235 = .ok (.getfield 176, 3) := by decide +kernel
theorem dX10_read_238 : decode cX10_read 238 = .ok (.iload_n 2, 1) := by decide +kernel
theorem dX10_read_239 : decode cX10_read 239 = .ok (.iaload, 1) := by decide +kernel
theorem dX10_read_240 : decode cX10_read 240 = .ok (.istore_n 2, 1) := by decide +kernel
theorem dX10_read_241 : decode cX10_read 241 = .ok (.goto (-89), 3) := by decide +kernel
theorem dX10_read_244 : decode cX10_read 244 = .ok (.return_, 1) := by decide +kernel
theorem dX10_rise_0 : decode cX10_rise 0 = .ok (.aload_n 0, 1) := by decide +kernel
theorem dX10_rise_1 : decode cX10_rise 1 = .ok (.getfield 90, 3) := by decide +kernel
theorem dX10_rise_4 : decode cX10_rise 4 = .ok (.ifCond .ne 6, 3) := by decide +kernel
theorem dX10_rise_7 : decode cX10_rise 7 = .ok (.bipush (-2), 2) := by decide +kernel
theorem dX10_rise_9 : decode cX10_rise 9 = .ok (.ireturn, 1) := by decide +kernel
theorem dX10_rise_10 : decode cX10_rise 10 = .ok (.aload_n 0, 1) := by decide +kernel
theorem dX10_rise_11 : decode cX10_rise 11 = .ok (.iconst 0, 1) := by decide +kernel
theorem dX10_rise_12 : decode cX10_rise 12 = .ok (.putfield 90, 3) := by decide +kernel
theorem dX10_rise_15 : decode cX10_rise 15 = .ok (.aload_n 0, 1) := by decide +kernel
theorem dX10_rise_16 : decode cX10_rise 16 = .ok (.invokevirtual 270, 3) := by decide +kernel
theorem dX10_rise_19 : decode cX10_rise 19 = .ok (.aload_n 0, 1) := by decide +kernel
theorem dX10_rise_20 : decode cX10_rise 20 = .ok (.iconst 0, 1) := by decide +kernel
theorem dX10_rise_21 : decode cX10_rise 21 = .ok (.putfield 16, 3) := by decide +kernel
theorem dX10_rise_24 : decode cX10_rise 24 = .ok (.aload_n 0, 1) := by decide +kernel
theorem dX10_rise_25 : decode cX10_rise 25 = .ok (.iconst 0, 1) := by decide +kernel
theorem dX10_rise_26 : decode cX10_rise 26 = .ok (.putfield 363, 3) := by decide +kernel
theorem dX10_rise_29 : decode cX10_rise 29 = .ok (.aload_n 0, 1) := by decide +kernel
theorem dX10_rise_30 : decode cX10_rise 30 = .ok (.getfield 231, 3) := by decide +kernel
theorem dX10_rise_33 : decode cX10_rise 33 = .ok (.iconst 1, 1) := by decide +kernel
theorem dX10_rise_34 : decode cX10_rise 34 = .ok (.iaload, 1) := by decide +kernel
theorem dX10_rise_35 : decode cX10_rise 35 = .ok (.aload_n 0, 1) := by decide +kernel
theorem dX10_rise_36 : decode cX10_rise 36 = .ok (.getfield 231, 3) := by decide +kernel
theorem dX10_rise_39 : decode cX10_rise 39 = .ok (.iconst 0, 1) := by decide +kernel
theorem dX10_rise_40 : decode cX10_rise 40 = .ok (.iaload, 1) := by decide +kernel
theorem dX10_rise_41 : decode cX10_rise 41 = .ok (.if_icmp .le 7, 3) := by decide +kernel
theorem dX10_rise_44 : decode cX10_rise 44 = .ok (.iconst 1, 1) := by decide +kernel
theorem dX10_rise_45 : decode cX10_rise 45 = .ok (.goto 4, 3) := by decide +kernel
theorem dX10_rise_48 : decode cX10_rise 48 = .ok (.iconst 0, 1) := by decide +kernel
theorem dX10_rise_49 : decode cX10_rise 49 = .ok (.istore_n 1, 1) := by decide +kernel
theorem dX10_rise_50 : decode cX10_rise 50 = .ok (.aload_n 0, 1) := by decide +kernel
theorem dX10_rise_51 : decode cX10_rise 51 = .ok (.aload_n 0, 1) := by decide +kernel
theorem dX10_rise_52 : decode cX10_rise 52 = .ok (.getfield 231, 3) := by decide +kernel
theorem dX10_rise_55 : decode cX10_rise 55 = .ok (.iload_n 1, 1) := by decide +kernel
theorem dX10_rise_56 : decode cX10_rise 56 = .ok (.iaload, 1) := by decide +kernel
theorem dX10_rise_57 : decode cX10_rise 57 = .ok (.putfield 388, 3) := by decide +kernel
theorem dX10_rise_60 : decode cX10_rise 60 = .ok (.aload_n 0, 1) := by decide +kernel
theorem dX10_rise_61 : decode cX10_rise 61 = .ok (.iconst 1, 1) := by decide +kernel
theorem dX10_rise_62 : decode cX10_rise 62 = .ok (.putfield 258, 3) := by decide +kernel
theorem dX10_rise_65 : decode cX10_rise 65 = .ok (.iconst 0, 1) := by decide +kernel
theorem dX10_rise_66 : decode cX10_rise 66 = .ok (.istore_n 2, 1) := by decide +kernel
theorem dX10_rise_67 : decode cX10_rise 67 = .ok (.iload_n 2, 1) := by decide +kernel
theorem dX10_rise_68 : decode cX10_rise 68 = .ok (.iconst 2, 1) := by decide +kernel
theorem dX10_rise_69 : decode cX10_rise 69 = .ok (.if_icmp .ge 43, 3) := by decide +kernel
theorem dX10_rise_72 : decode cX10_rise 72 = .ok (.aload_n 0, 1) := by decide +kernel
theorem dX10_rise_73 : decode cX10_rise 73 = .ok (.getfield 231, 3) := by decide +kernel
theorem dX10_rise_76 : decode cX10_rise 76 = .ok (.iload_n 2, 1) := by decide +kernel
theorem dX10_rise_77 : decode cX10_rise 77 = .ok (.iaload, 1) := by decide +kernel
theorem dX10_rise_78 : decode cX10_rise 78 = .ok (.ifCond .le 28, 3) := by decide +kernel
theorem dX10_rise_81 : decode cX10_rise 81 = .ok (.aload_n 0, 1) := by decide +kernel
theorem dX10_rise_82 : decode cX10_rise 82 = .ok (.getfield 243, 3) := by decide +kernel
theorem dX10_rise_85 : decode cX10_rise 85 = .ok (.iload_n 2, 1) := by decide +kernel
theorem dX10_rise_86 : decode cX10_rise 86 = .ok (.iaload, 1) := by decide +kernel
theorem dX10_rise_87 : decode cX10_rise 87 = .ok (.aload_n 0, 1) := by decide +kernel
theorem dX10_rise_88 : decode cX10_rise 88 = .ok (.getfield 258, 3) := by decide +kernel
theorem dX10_rise_91 : decode cX10_rise 91 = .ok (.if_icmp .lt 15, 3) := by decide +kernel
theorem dX10_rise_94 : decode cX10_rise 94 = .ok (.aload_n 0, 1) := by decide +kernel
theorem dX10_rise_95 : decode cX10_rise 95 = .ok (.aload_n 0, 1) := by decide +kernel
theorem dX10_rise_96 : decode cX10_rise 96 = .ok (.getfield 243, 3) := by decide +kernel
theorem dX10_rise_99 : decode cX10_rise 99 = .ok (.iload_n 2, 1) := by decide +kernel
theorem dX10_rise_100 : decode cX10_rise 100 = .ok (.iaload, 1) := by decide +kernel
theorem dX10_rise_101 : decode cX10_rise 101 = .ok (.iconst 1, 1) := by decide +kernel
theorem dX10_rise_102 : decode cX10_rise 102 = .ok (.iadd, 1) := by decide +kernel
theorem dX10_rise_103 : decode cX10_rise 103 = .ok (.putfield 258, 3) := by decide +kernel
theorem dX10_rise_106 : decode cX10_rise 106 = .ok (.iinc 2 1, 3) := by decide +kernel
theorem dX10_rise_109 : decode cX10_rise 109 = .ok (.goto (-42), 3) := by decide +kernel
theorem dX10_rise_112 : decode cX10_rise 112 = .ok (.aload_n 0, 1) := by decide +kernel
theorem dX10_rise_113 : decode cX10_rise 113 = .ok (.getfield 388, 3) := by decide +kernel
theorem dX10_rise_116 : decode cX10_rise 116 = .ok (.ifCond .ne 19, 3) := by decide +kernel
theorem dX10_rise_119 : decode cX10_rise 119 = .ok (.aload_n 0, 1) := by decide +kernel
theorem dX10_rise_120 : decode cX10_rise 120 = .ok (.iconst 0, 1) := by decide +kernel
theorem dX10_rise_121 : decode cX10_rise 121 = .ok (.putfield 63, 3) := by decide +kernel
theorem dX10_rise_124 : decode cX10_rise 124 = .ok (.aload_n 0, 1) := by decide +kernel
theorem dX10_rise_125 : decode cX10_rise 125 = .ok (.aload_n 0, 1) := by decide +kernel
theorem dX10_rise_126 : decode cX10_rise 126 = .ok (.iconst 1, 1) := by decide +kernel
theorem dX10_rise_127 : decode cX10_rise 127 = .ok (.invokevirtual 273, 3) := by decide +kernel
theorem dX10_rise_130 : decode cX10_rise 130 = .ok (.putfield 277, 3) := by decide +kernel
theorem dX10_rise_133 : decode cX10_rise 133 = .ok (.iconst 0, 1) := by decide +kernel
theorem dX10_rise_134 : decode cX10_rise 134 = .ok (.ireturn, 1) := by decide +kernel
theorem dX10_rise_135 : decode cX10_rise 135 = .ok (.aload_n 0, 1) := by decide +kernel
theorem dX10_rise_136 : decode cX10_rise 136 = .ok (.aload_n 0, 1) := by decide +kernel
theorem dX10_rise_137 : decode cX10_rise 137 = .ok (.getfield 237, 3) := by decide +kernel
theorem dX10_rise_140 : decode cX10_rise 140 = .ok (.iload_n 1, 1) := by decide +kernel
theorem dX10_rise_141 : decode cX10_rise 141 = .ok (.iaload, 1) := by decide +kernel
theorem dX10_rise_142 : decode cX10_rise 142 = .ok (.putfield 63, 3) := by decide +kernel
theorem dX10_rise_145 : decode cX10_rise 145 = .ok (.aload_n 0, 1) := by decide +kernel
theorem dX10_rise_146 : decode cX10_rise 146 = .ok (.aload_n 0, 1) := by decide +kernel
theorem dX10_rise_147 : decode cX10_rise 147 = .ok (.getfield 240, 3) := by decide +kernel
theorem dX10_rise_150 : decode cX10_rise 150 = .ok (.iload_n 1, 1) := by decide +kernel
theorem dX10_rise_151 : decode cX10_rise 151 = .ok (.iaload, 1) := by decide +kernel
theorem dX10_rise_152 : decode cX10_rise 152 = .ok (.putfield 363, 3) := by decide +kernel
theorem dX10_rise_155 : decode cX10_rise 155 = .ok (.iconst 0, 1) := by decide +kernel
theorem dX10_rise_156 : decode cX10_rise 156 = .ok (.istore_n 2, 1) := by decide +kernel
theorem dX10_rise_157 : decode cX10_rise 157 = .ok (.iload_n 2, 1) := by decide +kernel
theorem dX10_rise_158 : decode cX10_rise 158 = .ok (.aload_n 0, 1) := by decide +kernel
theorem dX10_rise_159 : decode cX10_rise 159 = .ok (.getfield 363, 3) := by decide +kernel
theorem dX10_rise_162 : decode cX10_rise 162 = .ok (.if_icmp .ge 43, 3) := by decide +kernel
theorem dX10_rise_165 : decode cX10_rise 165 = .ok (.aload_n 0, 1) := by decide +kernel
theorem dX10_rise_166 : decode cX10_rise 166 = .ok (.getfield 252, 3) := by decide +kernel
theorem dX10_rise_169 : decode cX10_rise 169 = .ok (.iload_n 2, 1) := by decide +kernel
theorem dX10_rise_170 : decode cX10_rise 170 = .ok (.aload_n 0, 1) := by decide +kernel
theorem dX10_rise_171 : decode cX10_rise 171 = .ok (.getfield 246, 3) := by decide +kernel
theorem dX10_rise_174 : decode cX10_rise 174 = .ok (.bipush 12, 2) := by decide +kernel
theorem dX10_rise_176 : decode cX10_rise 176 = .ok (.iload_n 1, 1) := by decide +kernel
theorem dX10_rise_177 : decode cX10_rise 177 = .ok (.imul, 1) := by decide +kernel
theorem dX10_rise_178 : decode cX10_rise 178 = .ok (.iload_n 2, 1) := by decide +kernel
theorem dX10_rise_179 : decode cX10_rise 179 = .ok (.iadd, 1) := by decide +kernel
theorem dX10_rise_180 : decode cX10_rise 180 = .ok (.iaload, 1) := by decide +kernel
theorem dX10_rise_181 : decode cX10_rise 181 = .ok (.iastore, 1) := by decide +kernel
theorem dX10_rise_182 : decode cX10_rise 182 = .ok (.aload_n 0, 1) := by decide +kernel
theorem dX10_rise_183 : decode cX10_rise 183 = .ok (.getfield 255, 3) := by decide +kernel
theorem dX10_rise_186 : decode cX10_rise 186 = .ok (.iload_n 2, 1) := by decide +kernel
theorem dX10_rise_187 : decode cX10_rise 187 = .ok (.aload_n 0, 1) := by decide +kernel
theorem dX10_rise_188 : decode cX10_rise 188 = .ok (.getfield 249, 3) := by decide +kernel
theorem dX10_rise_191 : decode cX10_rise 191 = .ok (.bipush 12, 2) := by decide +kernel
theorem dX10_rise_193 : decode cX10_rise 193 = .ok (.iload_n 1, 1) := by decide +kernel
theorem dX10_rise_194 : decode cX10_rise 194 = .ok (.imul, 1) := by decide +kernel
theorem dX10_rise_195 : decode cX10_rise 195 = .ok (.iload_n 2, 1) := by decide +kernel
theorem dX10_rise_196 : decode cX10_rise 196 = .ok (.iadd, 1) := by decide +kernel
theorem dX10_rise_197 : decode cX10_rise 197 = .ok (.iaload, 1) := by decide +kernel
theorem dX10_rise_198 : decode cX10_rise 198 = .ok (.iastore, 1) := by decide +kernel
theorem dX10_rise_199 : decode cX10_rise 199 = .ok (.iinc 2 1, 3) := by decide +kernel
theorem dX10_rise_202 : decode cX10_rise 202 = .ok (.goto (-45), 3) := by decide +kernel
theorem dX10_rise_205 : decode cX10_rise 205 = .ok (.aload_n 0, 1) := by decide +kernel
theorem dX10_rise_206 : decode cX10_rise 206 = .ok (.aload_n 0, 1) := by decide +kernel
theorem dX10_rise_207 : decode cX10_rise 207 = .ok (.aload_n 0, 1) := by decide +kernel
theorem dX10_rise_208 : decode cX10_rise 208 = .ok (.getfield 234, 3) := by decide +kernel
theorem dX10_rise_211 : decode cX10_rise 211 = .ok (.iload_n 1, 1) := by decide +kernel
theorem dX10_rise_212 : decode cX10_rise 212 = .ok (.iaload, 1) := by decide +kernel
theorem dX10_rise_213 : decode cX10_rise 213 = .ok (.invokevirtual 400, 3) := by decide +kernel
theorem dX10_rise_216 : decode cX10_rise 216 = .ok (.putfield 277, 3) := by decide +kernel
theorem dX10_rise_219 : decode cX10_rise 219 = .ok (.aload_n 0, 1) := by decide +kernel
theorem dX10_rise_220 : decode cX10_rise 220 = .ok (.aload_n 0, 1) := by decide +kernel
theorem dX10_rise_221 : decode cX10_rise 221 = .ok (.getfield 277, 3) := by decide +kernel
theorem dX10_rise_224 : decode cX10_rise 224 = .ok (.invokevirtual 403, 3) := by decide +kernel
theorem dX10_rise_227 : decode cX10_rise 227 = .ok (.aload_n 0, 1) := by decide +kernel
theorem dX10_rise_228 : decode cX10_rise 228 = .ok (.getfield 388, 3) := by decide +kernel
theorem dX10_rise_231 : decode cX10_rise 231 = .ok (.ireturn, 1) := by decide +kernel
theorem dX10_pagesOf_0 : decode cX10_pagesOf 0 = .ok (.iconst 1, 1) := by decide +kernel
theorem dX10_pagesOf_1 : decode cX10_pagesOf 1 = .ok (.istore_n 2, 1) := by decide +kernel
theorem dX10_pagesOf_2 : decode cX10_pagesOf 2 = .ok (.iconst 0, 1) := by decide +kernel
theorem dX10_pagesOf_3 : decode cX10_pagesOf 3 = .ok (.istore_n 3, 1) := by decide +kernel
theorem dX10_pagesOf_4 : decode cX10_pagesOf 4 = .ok (.iload_n 3, 1) := by decide +kernel
theorem dX10_pagesOf_5 : decode cX10_pagesOf 5 = .ok (.aload_n 0, 1) := by decide +kernel
theorem dX10_pagesOf_6 : decode cX10_pagesOf 6 = .ok (.getfield 203, 3) := by decide +kernel
theorem dX10_pagesOf_9 : decode cX10_pagesOf 9 = .ok (.iload_n 1, 1) := by decide +kernel
theorem dX10_pagesOf_10 : decode cX10_pagesOf 10 = .ok (.iaload, 1) := by decide +kernel
theorem dX10_pagesOf_11 : decode cX10_pagesOf 11 = .ok (.if_icmp .ge 36, 3) := by decide +kernel
theorem dX10_pagesOf_14 : decode cX10_pagesOf 14 = .ok (.aload_n 0, 1) := by decide +kernel
theorem dX10_pagesOf_15 : decode cX10_pagesOf 15 = .ok (.getfield 200, 3) := by decide +kernel
theorem dX10_pagesOf_18 : decode cX10_pagesOf 18 = .ok (.iload_n 1, 1) := by decide +kernel
theorem dX10_pagesOf_19 : decode cX10_pagesOf 19 = .ok (.baload, 1) := by decide +kernel
theorem dX10_pagesOf_20 : decode cX10_pagesOf 20 = .ok (.ifCond .ne 27, 3) := by decide +kernel
theorem dX10_pagesOf_23 : decode cX10_pagesOf 23 = .ok (.iload_n 2, 1) := by decide +kernel
theorem dX10_pagesOf_24 : decode cX10_pagesOf 24 = .ok (.aload_n 0, 1) := by decide +kernel
theorem dX10_pagesOf_25 : decode cX10_pagesOf 25 = .ok (.aload_n 0, 1) := by decide +kernel
theorem dX10_pagesOf_26 : decode cX10_pagesOf 26 = .ok (.getfield 216, 3) := by decide +kernel
theorem dX10_pagesOf_29 : decode cX10_pagesOf 29 = .ok (.bipush 6, 2) := by decide +kernel
theorem dX10_pagesOf_31 : decode cX10_pagesOf 31 = .ok (.iload_n 1, 1) := by decide +kernel
theorem dX10_pagesOf_32 : decode cX10_pagesOf 32 = .ok (.imul, 1) := by decide +kernel
theorem dX10_pagesOf_33 : decode cX10_pagesOf 33 = .ok (.iload_n 3, 1) := by decide +kernel
theorem dX10_pagesOf_34 : decode cX10_pagesOf 34 = .ok (.iadd, 1) := by decide +kernel
theorem dX10_pagesOf_35 : decode cX10_pagesOf 35 = .ok (.iaload, 1) := by decide +kernel
theorem dX10_pagesOf_36 : decode cX10_pagesOf 36 = .ok (.invokevirtual 406, 3) := by decide +kernel
theorem dX10_pagesOf_39 : decode cX10_pagesOf 39 = .ok (.iadd, 1) := by decide +kernel
theorem dX10_pagesOf_40 : decode cX10_pagesOf 40 = .ok (.istore_n 2, 1) := by decide +kernel
theorem dX10_pagesOf_41 : decode cX10_pagesOf 41 = .ok (.iinc 3 1, 3) := by decide +kernel
theorem dX10_pagesOf_44 : decode cX10_pagesOf 44 = .ok (.goto (-40), 3) := by decide +kernel
theorem dX10_pagesOf_47 : decode cX10_pagesOf 47 = .ok (.iload_n 2, 1) := by decide +kernel
theorem dX10_pagesOf_48 : decode cX10_pagesOf 48 = .ok (.ireturn, 1) := by decide +kernel
theorem dX10_disk_0 : decode cX10_disk 0 = .ok (.iload_n 1, 1) := by decide +kernel
theorem dX10_disk_1 : decode cX10_disk 1 = .ok (.ifCond .lt 17, 3) := by decide +kernel
theorem dX10_disk_4 : decode cX10_disk 4 = .ok (.iload_n 1, 1) := by decide +kernel
theorem dX10_disk_5 : decode cX10_disk 5 = .ok (.iconst 1, 1) := by decide +kernel
theorem dX10_disk_6 : decode cX10_disk 6 = .ok (.if_icmp .gt 12, 3) := by decide +kernel
theorem dX10_disk_9 : decode cX10_disk 9 = .ok (.iload_n 2, 1) := by decide +kernel
theorem dX10_disk_10 : decode cX10_disk 10 = .ok (.ifCond .lt 8, 3) := by decide +kernel
theorem dX10_disk_13 : decode cX10_disk 13 = .ok (.iload_n 2, 1) := by decide +kernel
theorem dX10_disk_14 : decode cX10_disk 14 = .ok (.iconst 3, 1) := by decide +kernel
theorem dX10_disk_15 : decode cX10_disk 15 = .ok (.if_icmp .le 5, 3) := by decide +kernel
theorem dX10_disk_18 : decode cX10_disk 18 = .ok (.iconst (-1), 1) := by decide +kernel
theorem dX10_disk_19 : decode cX10_disk 19 = .ok (.ireturn, 1) := by decide +kernel
theorem dX10_disk_20 : decode cX10_disk 20 = .ok (.aload_n 0, 1) := by decide +kernel
theorem dX10_disk_21 : decode cX10_disk 21 = .ok (.getfield 231, 3) := by decide +kernel
theorem dX10_disk_24 : decode cX10_disk 24 = .ok (.iload_n 1, 1) := by decide +kernel
theorem dX10_disk_25 : decode cX10_disk 25 = .ok (.iaload, 1) := by decide +kernel
theorem dX10_disk_26 : decode cX10_disk 26 = .ok (.ifCond .ne 5, 3) := by decide +kernel
theorem dX10_disk_29 : decode cX10_disk 29 = .ok (.iconst 0, 1) := by decide +kernel
theorem dX10_disk_30 : decode cX10_disk 30 = .ok (.ireturn, 1) := by decide +kernel
theorem dX10_disk_31 : decode cX10_disk 31 = .ok (.iload_n 2, 1) := by decide +kernel
theorem dX10_disk_32 : decode cX10_disk 32 = .ok (.tableswitch 49 0 2 #[28, 35, 42], 28) := by decide +kernel
theorem dX10_disk_60 : decode cX10_disk 60 = .ok (.aload_n 0, 1) := by decide +kernel
theorem dX10_disk_61 : decode cX10_disk 61 = .ok (.getfield 231, 3) := by decide +kernel
theorem dX10_disk_64 : decode cX10_disk 64 = .ok (.iload_n 1, 1) := by decide +kernel
theorem dX10_disk_65 : decode cX10_disk 65 = .ok (.iaload, 1) := by decide +kernel
theorem dX10_disk_66 : decode cX10_disk 66 = .ok (.ireturn, 1) := by decide +kernel
theorem dX10_disk_67 : decode cX10_disk 67 = .ok (.aload_n 0, 1) := by decide +kernel
theorem dX10_disk_68 : decode cX10_disk 68 = .ok (.getfield 237, 3) := by decide +kernel
theorem dX10_disk_71 : decode cX10_disk 71 = .ok (.iload_n 1, 1) := by decide +kernel
theorem dX10_disk_72 : decode cX10_disk 72 = .ok (.iaload, 1) := by decide +kernel
theorem dX10_disk_73 : decode cX10_disk 73 = .ok (.ireturn, 1) := by decide +kernel
theorem dX10_disk_74 : decode cX10_disk 74 = .ok (.aload_n 0, 1) := by decide +kernel
theorem dX10_disk_75 : decode cX10_disk 75 = .ok (.getfield 240, 3) := by decide +kernel
theorem dX10_disk_78 : decode cX10_disk 78 = .ok (.iload_n 1, 1) := by decide +kernel
theorem dX10_disk_79 : decode cX10_disk 79 = .ok (.iaload, 1) := by decide +kernel
theorem dX10_disk_80 : decode cX10_disk 80 = .ok (.ireturn, 1) := by decide +kernel
theorem dX10_disk_81 : decode cX10_disk 81 = .ok (.aload_n 0, 1) := by decide +kernel
theorem dX10_disk_82 : decode cX10_disk 82 = .ok (.aload_n 0, 1) := by decide +kernel
theorem dX10_disk_83 : decode cX10_disk 83 = .ok (.getfield 234, 3) := by decide +kernel
theorem dX10_disk_86 : decode cX10_disk 86 = .ok (.iload_n 1, 1) := by decide +kernel
theorem dX10_disk_87 : decode cX10_disk 87 = .ok (.iaload, 1) := by decide +kernel
theorem dX10_disk_88 : decode cX10_disk 88 = .ok (.invokevirtual 406, 3) := by decide +kernel
theorem dX10_disk_91 : decode cX10_disk 91 = .ok (.ireturn, 1) := by decide +kernel
theorem dX10_bend_0 : decode cX10_bend 0 = .ok (.iload_n 1, 1) := by decide +kernel
theorem dX10_bend_1 : decode cX10_bend 1 = .ok (.ifCond .lt 8, 3) := by decide +kernel
theorem dX10_bend_4 : decode cX10_bend 4 = .ok (.iload_n 1, 1) := by decide +kernel
theorem dX10_bend_5 : decode cX10_bend 5 = .ok (.iconst 1, 1) := by decide +kernel
theorem dX10_bend_6 : decode cX10_bend 6 = .ok (.if_icmp .le 5, 3) := by decide +kernel
theorem dX10_bend_9 : decode cX10_bend 9 = .ok (.iconst (-1), 1) := by decide +kernel
theorem dX10_bend_10 : decode cX10_bend 10 = .ok (.ireturn, 1) := by decide +kernel
theorem dX10_bend_11 : decode cX10_bend 11 = .ok (.aload_n 0, 1) := by decide +kernel
theorem dX10_bend_12 : decode cX10_bend 12 = .ok (.getfield 231, 3) := by decide +kernel
theorem dX10_bend_15 : decode cX10_bend 15 = .ok (.iload_n 1, 1) := by decide +kernel
theorem dX10_bend_16 : decode cX10_bend 16 = .ok (.iaload, 1) := by decide +kernel
theorem dX10_bend_17 : decode cX10_bend 17 = .ok (.ifCond .le 7, 3) := by decide +kernel
theorem dX10_bend_20 : decode cX10_bend 20 = .ok (.iconst 1, 1) := by decide +kernel
theorem dX10_bend_21 : decode cX10_bend 21 = .ok (.goto 4, 3) := by decide +kernel
theorem dX10_bend_24 : decode cX10_bend 24 = .ok (.iconst 0, 1) := by decide +kernel
theorem dX10_bend_25 : decode cX10_bend 25 = .ok (.istore_n 2, 1) := by decide +kernel
theorem dX10_bend_26 : decode cX10_bend 26 = .ok (.aload_n 0, 1) := by decide +kernel
theorem dX10_bend_27 : decode cX10_bend 27 = .ok (.getfield 231, 3) := by decide +kernel
theorem dX10_bend_30 : decode cX10_bend 30 = .ok (.iload_n 1, 1) := by decide +kernel
theorem dX10_bend_31 : decode cX10_bend 31 = .ok (.iconst 0, 1) := by decide +kernel
theorem dX10_bend_32 : decode cX10_bend 32 = .ok (.iastore, 1) := by decide +kernel
theorem dX10_bend_33 : decode cX10_bend 33 = .ok (.iload_n 2, 1) := by decide +kernel
theorem dX10_bend_34 : decode cX10_bend 34 = .ok (.ireturn, 1) := by decide +kernel
theorem dX10_writes_0 : decode cX10_writes 0 = .ok (.iload_n 1, 1) := by decide +kernel
theorem dX10_writes_1 : decode cX10_writes 1 = .ok (.ifCond .lt 17, 3) := by decide +kernel
theorem dX10_writes_4 : decode cX10_writes 4 = .ok (.iload_n 1, 1) := by decide +kernel
theorem dX10_writes_5 : decode cX10_writes 5 = .ok (.iconst 3, 1) := by decide +kernel
theorem dX10_writes_6 : decode cX10_writes 6 = .ok (.if_icmp .gt 12, 3) := by decide +kernel
theorem dX10_writes_9 : decode cX10_writes 9 = .ok (.aload_n 0, 1) := by decide +kernel
theorem dX10_writes_10 : decode cX10_writes 10 = .ok (.getfield 261, 3) := by decide +kernel
theorem dX10_writes_13 : decode cX10_writes 13 = .ok (.iload_n 1, 1) := by decide +kernel
theorem dX10_writes_14 : decode cX10_writes 14 = .ok (.iaload, 1) := by decide +kernel
theorem dX10_writes_15 : decode cX10_writes 15 = .ok (.goto 4, 3) := by decide +kernel
theorem dX10_writes_18 : decode cX10_writes 18 = .ok (.iconst (-1), 1) := by decide +kernel
theorem dX10_writes_19 : decode cX10_writes 19 = .ok (.ireturn, 1) := by decide +kernel
theorem dX10_number__0 : decode cX10_number_ 0 = .ok (.aload_n 0, 1) := by decide +kernel
theorem dX10_number__1 : decode cX10_number_ 1 = .ok (.getfield 90, 3) := by decide +kernel
theorem dX10_number__4 : decode cX10_number_ 4 = .ok (.ifCond .eq 6, 3) := by decide +kernel
theorem dX10_number__7 : decode cX10_number_ 7 = .ok (.bipush (-4), 2) := by decide +kernel
theorem dX10_number__9 : decode cX10_number_ 9 = .ok (.ireturn, 1) := by decide +kernel
theorem dX10_number__10 : decode cX10_number_ 10 = .ok (.iload_n 1, 1) := by decide +kernel
theorem dX10_number__11 : decode cX10_number_ 11 = .ok (.ifCond .ne 10, 3) := by decide +kernel
theorem dX10_number__14 : decode cX10_number_ 14 = .ok (.aload_n 0, 1) := by decide +kernel
theorem dX10_number__15 : decode cX10_number_ 15 = .ok (.getfield 63, 3) := by decide +kernel
theorem dX10_number__18 : decode cX10_number_ 18 = .ok (.goto 16, 3) := by decide +kernel
theorem dX10_number__21 : decode cX10_number_ 21 = .ok (.iload_n 1, 1) := by decide +kernel
theorem dX10_number__22 : decode cX10_number_ 22 = .ok (.iconst 1, 1) := by decide +kernel
theorem dX10_number__23 : decode cX10_number_ 23 = .ok (.if_icmp .ne 10, 3) := by decide +kernel
theorem dX10_number__26 : decode cX10_number_ 26 = .ok (.aload_n 0, 1) := by decide +kernel
theorem dX10_number__27 : decode cX10_number_ 27 = .ok (.getfield 388, 3) := by decide +kernel
theorem dX10_number__30 : decode cX10_number_ 30 = .ok (.goto 4, 3) := by decide +kernel
theorem dX10_number__33 : decode cX10_number_ 33 = .ok (.iconst (-1), 1) := by decide +kernel
theorem dX10_number__34 : decode cX10_number_ 34 = .ok (.ireturn, 1) := by decide +kernel
theorem dJ9_max_7cf53_0 : decode cJ9_max_7cf53 0 = .ok (.iload_n 0, 1) := by decide +kernel
theorem dJ9_max_7cf53_1 : decode cJ9_max_7cf53 1 = .ok (.iload_n 1, 1) := by decide +kernel
theorem dJ9_max_7cf53_2 : decode cJ9_max_7cf53 2 = .ok (.if_icmp .lt 7, 3) := by decide +kernel
theorem dJ9_max_7cf53_5 : decode cJ9_max_7cf53 5 = .ok (.iload_n 0, 1) := by decide +kernel
theorem dJ9_max_7cf53_6 : decode cJ9_max_7cf53 6 = .ok (.goto 4, 3) := by decide +kernel
theorem dJ9_max_7cf53_9 : decode cJ9_max_7cf53 9 = .ok (.iload_n 1, 1) := by decide +kernel
theorem dJ9_max_7cf53_10 : decode cJ9_max_7cf53 10 = .ok (.ireturn, 1) := by decide +kernel
theorem dJ9_max_f86c9_0 : decode cJ9_max_f86c9 0 = .ok (.lload_n 0, 1) := by decide +kernel
theorem dJ9_max_f86c9_1 : decode cJ9_max_f86c9 1 = .ok (.lload_n 2, 1) := by decide +kernel
theorem dJ9_max_f86c9_2 : decode cJ9_max_f86c9 2 = .ok (.lcmp, 1) := by decide +kernel
theorem dJ9_max_f86c9_3 : decode cJ9_max_f86c9 3 = .ok (.ifCond .lt 7, 3) := by decide +kernel
theorem dJ9_max_f86c9_6 : decode cJ9_max_f86c9 6 = .ok (.lload_n 0, 1) := by decide +kernel
theorem dJ9_max_f86c9_7 : decode cJ9_max_f86c9 7 = .ok (.goto 4, 3) := by decide +kernel
theorem dJ9_max_f86c9_10 : decode cJ9_max_f86c9 10 = .ok (.lload_n 2, 1) := by decide +kernel
theorem dJ9_max_f86c9_11 : decode cJ9_max_f86c9 11 = .ok (.lreturn, 1) := by decide +kernel
theorem dJ9_min_7cf53_0 : decode cJ9_min_7cf53 0 = .ok (.iload_n 0, 1) := by decide +kernel
theorem dJ9_min_7cf53_1 : decode cJ9_min_7cf53 1 = .ok (.iload_n 1, 1) := by decide +kernel
theorem dJ9_min_7cf53_2 : decode cJ9_min_7cf53 2 = .ok (.if_icmp .gt 7, 3) := by decide +kernel
theorem dJ9_min_7cf53_5 : decode cJ9_min_7cf53 5 = .ok (.iload_n 0, 1) := by decide +kernel
theorem dJ9_min_7cf53_6 : decode cJ9_min_7cf53 6 = .ok (.goto 4, 3) := by decide +kernel
theorem dJ9_min_7cf53_9 : decode cJ9_min_7cf53 9 = .ok (.iload_n 1, 1) := by decide +kernel
theorem dJ9_min_7cf53_10 : decode cJ9_min_7cf53 10 = .ok (.ireturn, 1) := by decide +kernel
theorem dJ9_min_f86c9_0 : decode cJ9_min_f86c9 0 = .ok (.lload_n 0, 1) := by decide +kernel
theorem dJ9_min_f86c9_1 : decode cJ9_min_f86c9 1 = .ok (.lload_n 2, 1) := by decide +kernel
theorem dJ9_min_f86c9_2 : decode cJ9_min_f86c9 2 = .ok (.lcmp, 1) := by decide +kernel
theorem dJ9_min_f86c9_3 : decode cJ9_min_f86c9 3 = .ok (.ifCond .gt 7, 3) := by decide +kernel
theorem dJ9_min_f86c9_6 : decode cJ9_min_f86c9 6 = .ok (.lload_n 0, 1) := by decide +kernel
theorem dJ9_min_f86c9_7 : decode cJ9_min_f86c9 7 = .ok (.goto 4, 3) := by decide +kernel
theorem dJ9_min_f86c9_10 : decode cJ9_min_f86c9 10 = .ok (.lload_n 2, 1) := by decide +kernel
theorem dJ9_min_f86c9_11 : decode cJ9_min_f86c9 11 = .ok (.lreturn, 1) := by decide +kernel
theorem dJxa1e45_init_da8c8_0 : decode cJxa1e45_init_da8c8 0 = .ok (.aload_n 0, 1) := by decide +kernel
theorem dJxa1e45_init_da8c8_1 : decode cJxa1e45_init_da8c8 1 = .ok (.invokespecial 1, 3) := by decide +kernel
theorem dJxa1e45_init_da8c8_4 : decode cJxa1e45_init_da8c8 4 = .ok (.return_, 1) := by decide +kernel
theorem dJxc12de_init_da8c8_0 : decode cJxc12de_init_da8c8 0 = .ok (.aload_n 0, 1) := by decide +kernel
theorem dJxc12de_init_da8c8_1 : decode cJxc12de_init_da8c8 1 = .ok (.invokespecial 1, 3) := by decide +kernel
theorem dJxc12de_init_da8c8_4 : decode cJxc12de_init_da8c8 4 = .ok (.aload_n 0, 1) := by decide +kernel
theorem dJxc12de_init_da8c8_5 : decode cJxc12de_init_da8c8 5 = .ok (.iconst 0, 1) := by decide +kernel
theorem dJxc12de_init_da8c8_6 : decode cJxc12de_init_da8c8 6 = .ok (.putfield 7, 3) := by decide +kernel
theorem dJxc12de_init_da8c8_9 : decode cJxc12de_init_da8c8 9 = .ok (.return_, 1) := by decide +kernel
theorem dJx4a65c_init_da8c8_0 : decode cJx4a65c_init_da8c8 0 = .ok (.aload_n 0, 1) := by decide +kernel
theorem dJx4a65c_init_da8c8_1 : decode cJx4a65c_init_da8c8 1 = .ok (.invokespecial 1, 3) := by decide +kernel
theorem dJx4a65c_init_da8c8_4 : decode cJx4a65c_init_da8c8 4 = .ok (.aload_n 0, 1) := by decide +kernel
theorem dJx4a65c_init_da8c8_5 : decode cJx4a65c_init_da8c8 5 = .ok (.getstatic 39, 3) := by decide +kernel
theorem dJx4a65c_init_da8c8_8 : decode cJx4a65c_init_da8c8 8 = .ok (.putfield 9, 3) := by decide +kernel
theorem dJx4a65c_init_da8c8_11 : decode cJx4a65c_init_da8c8 11 = .ok (.return_, 1) := by decide +kernel
theorem dJx4a65c_grow_92f84_0 : decode cJx4a65c_grow_92f84 0 = .ok (.aload_n 0, 1) := by decide +kernel
theorem dJx4a65c_grow_92f84_1 : decode cJx4a65c_grow_92f84 1 = .ok (.getfield 9, 3) := by decide +kernel
theorem dJx4a65c_grow_92f84_4 : decode cJx4a65c_grow_92f84 4 = .ok (.arraylength, 1) := by decide +kernel
theorem dJx4a65c_grow_92f84_5 : decode cJx4a65c_grow_92f84 5 = .ok (.istore_n 2, 1) := by decide +kernel
theorem dJx4a65c_grow_92f84_6 : decode cJx4a65c_grow_92f84 6 = .ok (.iload_n 2, 1) := by decide +kernel
theorem dJx4a65c_grow_92f84_7 : decode cJx4a65c_grow_92f84 7 = .ok (.ifCond .gt 13, 3) := by decide +kernel
theorem dJx4a65c_grow_92f84_10 : decode cJx4a65c_grow_92f84 10 = .ok (.aload_n 0, 1) := by decide +kernel
theorem dJx4a65c_grow_92f84_11 : decode cJx4a65c_grow_92f84 11 = .ok (.getfield 9, 3) := by decide +kernel
theorem dJx4a65c_grow_92f84_14 : decode cJx4a65c_grow_92f84 14 = .ok (.getstatic 39, 3) := by decide +kernel
theorem dJx4a65c_grow_92f84_17 : decode cJx4a65c_grow_92f84 17 = .ok (.if_acmp .eq 28, 3) := by decide +kernel
theorem dJx4a65c_grow_92f84_20 : decode cJx4a65c_grow_92f84 20 = .ok (.iload_n 2, 1) := by decide +kernel
theorem dJx4a65c_grow_92f84_21 : decode cJx4a65c_grow_92f84 21 = .ok (.iload_n 1, 1) := by decide +kernel
theorem dJx4a65c_grow_92f84_22 : decode cJx4a65c_grow_92f84 22 = .ok (.iload_n 2, 1) := by decide +kernel
theorem dJx4a65c_grow_92f84_23 : decode cJx4a65c_grow_92f84 23 = .ok (.isub, 1) := by decide +kernel
theorem dJx4a65c_grow_92f84_24 : decode cJx4a65c_grow_92f84 24 = .ok (.iload_n 2, 1) := by decide +kernel
theorem dJx4a65c_grow_92f84_25 : decode cJx4a65c_grow_92f84 25 = .ok (.iconst 1, 1) := by decide +kernel
theorem dJx4a65c_grow_92f84_26 : decode cJx4a65c_grow_92f84 26 = .ok (.ishr, 1) := by decide +kernel
theorem dJx4a65c_grow_92f84_27 : decode cJx4a65c_grow_92f84 27 = .ok (.invokestatic 73, 3) := by decide +kernel
theorem dJx4a65c_grow_92f84_30 : decode cJx4a65c_grow_92f84 30 = .ok (.istore_n 3, 1) := by decide +kernel
theorem dJx4a65c_grow_92f84_31 : decode cJx4a65c_grow_92f84 31 = .ok (.aload_n 0, 1) := by decide +kernel
theorem dJx4a65c_grow_92f84_32 : decode cJx4a65c_grow_92f84 32 = .ok (.aload_n 0, 1) := by decide +kernel
theorem dJx4a65c_grow_92f84_33 : decode cJx4a65c_grow_92f84 33 = .ok (.getfield 9, 3) := by decide +kernel
theorem dJx4a65c_grow_92f84_36 : decode cJx4a65c_grow_92f84 36 = .ok (.iload_n 3, 1) := by decide +kernel
theorem dJx4a65c_grow_92f84_37 : decode cJx4a65c_grow_92f84 37 = .ok (.invokestatic 66, 3) := by decide +kernel
theorem dJx4a65c_grow_92f84_40 : decode cJx4a65c_grow_92f84 40 = .ok (.dup_x1, 1) := by decide +kernel
theorem dJx4a65c_grow_92f84_41 : decode cJx4a65c_grow_92f84 41 = .ok (.putfield 9, 3) := by decide +kernel
theorem dJx4a65c_grow_92f84_44 : decode cJx4a65c_grow_92f84 44 = .ok (.areturn, 1) := by decide +kernel
theorem dJx4a65c_grow_92f84_45 : decode cJx4a65c_grow_92f84 45 = .ok (.aload_n 0, 1) := by decide +kernel
theorem dJx4a65c_grow_92f84_46 : decode cJx4a65c_grow_92f84 46 = .ok (.bipush 10, 2) := by decide +kernel
theorem dJx4a65c_grow_92f84_48 : decode cJx4a65c_grow_92f84 48 = .ok (.iload_n 1, 1) := by decide +kernel
theorem dJx4a65c_grow_92f84_49 : decode cJx4a65c_grow_92f84 49 = .ok (.invokestatic 79, 3) := by decide +kernel
theorem dJx4a65c_grow_92f84_52 : decode cJx4a65c_grow_92f84 52 = .ok (.anewarray 7, 3) := by decide +kernel
theorem dJx4a65c_grow_92f84_55 : decode cJx4a65c_grow_92f84 55 = .ok (.dup_x1, 1) := by decide +kernel
theorem dJx4a65c_grow_92f84_56 : decode cJx4a65c_grow_92f84 56 = .ok (.putfield 9, 3) := by decide +kernel
theorem dJx4a65c_grow_92f84_59 : decode cJx4a65c_grow_92f84 59 = .ok (.areturn, 1) := by decide +kernel
theorem dJx4a65c_grow_d5877_0 : decode cJx4a65c_grow_d5877 0 = .ok (.aload_n 0, 1) := by decide +kernel
theorem dJx4a65c_grow_d5877_1 : decode cJx4a65c_grow_d5877 1 = .ok (.aload_n 0, 1) := by decide +kernel
theorem dJx4a65c_grow_d5877_2 : decode cJx4a65c_grow_d5877 2 = .ok (.getfield 48, 3) := by decide +kernel
theorem dJx4a65c_grow_d5877_5 : decode cJx4a65c_grow_d5877 5 = .ok (.iconst 1, 1) := by decide +kernel
theorem dJx4a65c_grow_d5877_6 : decode cJx4a65c_grow_d5877 6 = .ok (.iadd, 1) := by decide +kernel
theorem dJx4a65c_grow_d5877_7 : decode cJx4a65c_grow_d5877 7 = .ok (.invokevirtual 69, 3) := by decide +kernel
theorem dJx4a65c_grow_d5877_10 : decode cJx4a65c_grow_d5877 10 = .ok (.areturn, 1) := by decide +kernel
theorem dJx4a65c_size_8abf5_0 : decode cJx4a65c_size_8abf5 0 = .ok (.aload_n 0, 1) := by decide +kernel
theorem dJx4a65c_size_8abf5_1 : decode cJx4a65c_size_8abf5 1 = .ok (.getfield 48, 3) := by decide +kernel
theorem dJx4a65c_size_8abf5_4 : decode cJx4a65c_size_8abf5 4 = .ok (.ireturn, 1) := by decide +kernel
theorem dJx4a65c_isEmpty_aae02_0 : decode cJx4a65c_isEmpty_aae02 0 = .ok (.aload_n 0, 1) := by decide +kernel
theorem dJx4a65c_isEmpty_aae02_1 : decode cJx4a65c_isEmpty_aae02 1 = .ok (.getfield 48, 3) := by decide +kernel
theorem dJx4a65c_isEmpty_aae02_4 : decode cJx4a65c_isEmpty_aae02 4 = .ok (.ifCond .ne 7, 3) := by decide +kernel
theorem dJx4a65c_isEmpty_aae02_7 : decode cJx4a65c_isEmpty_aae02 7 = .ok (.iconst 1, 1) := by decide +kernel
theorem dJx4a65c_isEmpty_aae02_8 : decode cJx4a65c_isEmpty_aae02 8 = .ok (.goto 4, 3) := by decide +kernel
theorem dJx4a65c_isEmpty_aae02_11 : decode cJx4a65c_isEmpty_aae02 11 = .ok (.iconst 0, 1) := by decide +kernel
theorem dJx4a65c_isEmpty_aae02_12 : decode cJx4a65c_isEmpty_aae02 12 = .ok (.ireturn, 1) := by decide +kernel
theorem dJx4a65c_elementData_915e3_0 : decode cJx4a65c_elementData_915e3 0 = .ok (.aload_n 0, 1) := by decide +kernel
theorem dJx4a65c_elementData_915e3_1 : decode cJx4a65c_elementData_915e3 1 = .ok (.getfield 9, 3) := by decide +kernel
theorem dJx4a65c_elementData_915e3_4 : decode cJx4a65c_elementData_915e3 4 = .ok (.iload_n 1, 1) := by decide +kernel
theorem dJx4a65c_elementData_915e3_5 : decode cJx4a65c_elementData_915e3 5 = .ok (.aaload, 1) := by decide +kernel
theorem dJx4a65c_elementData_915e3_6 : decode cJx4a65c_elementData_915e3 6 = .ok (.areturn, 1) := by decide +kernel
theorem dJx4a65c_get_915e3_0 : decode cJx4a65c_get_915e3 0 = .ok (.iload_n 1, 1) := by decide +kernel
theorem dJx4a65c_get_915e3_1 : decode cJx4a65c_get_915e3 1 = .ok (.aload_n 0, 1) := by decide +kernel
theorem dJx4a65c_get_915e3_2 : decode cJx4a65c_get_915e3 2 = .ok (.getfield 48, 3) := by decide +kernel
theorem dJx4a65c_get_915e3_5 : decode cJx4a65c_get_915e3 5 = .ok (.invokestatic 118, 3) := by decide +kernel
theorem dJx4a65c_get_915e3_8 : decode cJx4a65c_get_915e3 8 = .ok (.pop, 1) := by decide +kernel
theorem dJx4a65c_get_915e3_9 : decode cJx4a65c_get_915e3 9 = .ok (.aload_n 0, 1) := by decide +kernel
theorem dJx4a65c_get_915e3_10 : decode cJx4a65c_get_915e3 10 = .ok (.iload_n 1, 1) := by decide +kernel
theorem dJx4a65c_get_915e3_11 : decode cJx4a65c_get_915e3 11 = .ok (.invokevirtual 123, 3) := by decide +kernel
theorem dJx4a65c_get_915e3_14 : decode cJx4a65c_get_915e3 14 = .ok (.areturn, 1) := by decide +kernel
theorem dJx4a65c_set_bcc79_0 : decode cJx4a65c_set_bcc79 0 = .ok (.iload_n 1, 1) := by decide +kernel
theorem dJx4a65c_set_bcc79_1 : decode cJx4a65c_set_bcc79 1 = .ok (.aload_n 0, 1) := by decide +kernel
theorem dJx4a65c_set_bcc79_2 : decode cJx4a65c_set_bcc79 2 = .ok (.getfield 48, 3) := by decide +kernel
theorem dJx4a65c_set_bcc79_5 : decode cJx4a65c_set_bcc79 5 = .ok (.invokestatic 118, 3) := by decide +kernel
theorem dJx4a65c_set_bcc79_8 : decode cJx4a65c_set_bcc79 8 = .ok (.pop, 1) := by decide +kernel
theorem dJx4a65c_set_bcc79_9 : decode cJx4a65c_set_bcc79 9 = .ok (.aload_n 0, 1) := by decide +kernel
theorem dJx4a65c_set_bcc79_10 : decode cJx4a65c_set_bcc79 10 = .ok (.iload_n 1, 1) := by decide +kernel
theorem dJx4a65c_set_bcc79_11 : decode cJx4a65c_set_bcc79 11 = .ok (.invokevirtual 123, 3) := by decide +kernel
theorem dJx4a65c_set_bcc79_14 : decode cJx4a65c_set_bcc79 14 = .ok (.astore_n 3, 1) := by decide +kernel
theorem dJx4a65c_set_bcc79_15 : decode cJx4a65c_set_bcc79 15 = .ok (.aload_n 0, 1) := by decide +kernel
theorem dJx4a65c_set_bcc79_16 : decode cJx4a65c_set_bcc79 16 = .ok (.getfield 9, 3) := by decide +kernel
theorem dJx4a65c_set_bcc79_19 : decode cJx4a65c_set_bcc79 19 = .ok (.iload_n 1, 1) := by decide +kernel
theorem dJx4a65c_set_bcc79_20 : decode cJx4a65c_set_bcc79 20 = .ok (.aload_n 2, 1) := by decide +kernel
theorem dJx4a65c_set_bcc79_21 : decode cJx4a65c_set_bcc79 21 = .ok (.aastore, 1) := by decide +kernel
theorem dJx4a65c_set_bcc79_22 : decode cJx4a65c_set_bcc79 22 = .ok (.aload_n 3, 1) := by decide +kernel
theorem dJx4a65c_set_bcc79_23 : decode cJx4a65c_set_bcc79 23 = .ok (.areturn, 1) := by decide +kernel
theorem dJx4a65c_add_72be8_0 : decode cJx4a65c_add_72be8 0 = .ok (.iload_n 3, 1) := by decide +kernel
theorem dJx4a65c_add_72be8_1 : decode cJx4a65c_add_72be8 1 = .ok (.aload_n 2, 1) := by decide +kernel
theorem dJx4a65c_add_72be8_2 : decode cJx4a65c_add_72be8 2 = .ok (.arraylength, 1) := by decide +kernel
theorem dJx4a65c_add_72be8_3 : decode cJx4a65c_add_72be8 3 = .ok (.if_icmp .ne 8, 3) := by decide +kernel
theorem dJx4a65c_add_72be8_6 : decode cJx4a65c_add_72be8 6 = .ok (.aload_n 0, 1) := by decide +kernel
theorem dJx4a65c_add_72be8_7 : decode cJx4a65c_add_72be8 7 = .ok (.invokevirtual 129, 3) := by decide +kernel
theorem dJx4a65c_add_72be8_10 : decode cJx4a65c_add_72be8 10 = .ok (.astore_n 2, 1) := by decide +kernel
theorem dJx4a65c_add_72be8_11 : decode cJx4a65c_add_72be8 11 = .ok (.aload_n 2, 1) := by decide +kernel
theorem dJx4a65c_add_72be8_12 : decode cJx4a65c_add_72be8 12 = .ok (.iload_n 3, 1) := by decide +kernel
theorem dJx4a65c_add_72be8_13 : decode cJx4a65c_add_72be8 13 = .ok (.aload_n 1, 1) := by decide +kernel
theorem dJx4a65c_add_72be8_14 : decode cJx4a65c_add_72be8 14 = .ok (.aastore, 1) := by decide +kernel
theorem dJx4a65c_add_72be8_15 : decode cJx4a65c_add_72be8 15 = .ok (.aload_n 0, 1) := by decide +kernel
theorem dJx4a65c_add_72be8_16 : decode cJx4a65c_add_72be8 16 = .ok (.iload_n 3, 1) := by decide +kernel
theorem dJx4a65c_add_72be8_17 : decode cJx4a65c_add_72be8 17 = .ok (.iconst 1, 1) := by decide +kernel
theorem dJx4a65c_add_72be8_18 : decode cJx4a65c_add_72be8 18 = .ok (.iadd, 1) := by decide +kernel
theorem dJx4a65c_add_72be8_19 : decode cJx4a65c_add_72be8 19 = .ok (.putfield 48, 3) := by decide +kernel
theorem dJx4a65c_add_72be8_22 : decode cJx4a65c_add_72be8 22 = .ok (.return_, 1) := by decide +kernel
theorem dJx4a65c_add_9ea2d_0 : decode cJx4a65c_add_9ea2d 0 = .ok (.aload_n 0, 1) := by decide +kernel
theorem dJx4a65c_add_9ea2d_1 : decode cJx4a65c_add_9ea2d 1 = .ok (.dup, 1) := by decide +kernel
theorem dJx4a65c_add_9ea2d_2 : decode cJx4a65c_add_9ea2d 2 = .ok (.getfield 63, 3) := by decide +kernel
theorem dJx4a65c_add_9ea2d_5 : decode cJx4a65c_add_9ea2d 5 = .ok (.iconst 1, 1) := by decide +kernel
theorem dJx4a65c_add_9ea2d_6 : decode cJx4a65c_add_9ea2d 6 = .ok (.iadd, 1) := by decide +kernel
theorem dJx4a65c_add_9ea2d_7 : decode cJx4a65c_add_9ea2d 7 = .ok (.putfield 63, 3) := by decide +kernel
theorem dJx4a65c_add_9ea2d_10 : decode cJx4a65c_add_9ea2d 10 = .ok (.aload_n 0, 1) := by decide +kernel
theorem dJx4a65c_add_9ea2d_11 : decode cJx4a65c_add_9ea2d 11 = .ok (.aload_n 1, 1) := by decide +kernel
theorem dJx4a65c_add_9ea2d_12 : decode cJx4a65c_add_9ea2d 12 = .ok (.aload_n 0, 1) := by decide +kernel
theorem dJx4a65c_add_9ea2d_13 : decode cJx4a65c_add_9ea2d 13 = .ok (.getfield 9, 3) := by decide +kernel
theorem dJx4a65c_add_9ea2d_16 : decode cJx4a65c_add_9ea2d 16 = .ok (.aload_n 0, 1) := by decide +kernel
theorem dJx4a65c_add_9ea2d_17 : decode cJx4a65c_add_9ea2d 17 = .ok (.getfield 48, 3) := by decide +kernel
theorem dJx4a65c_add_9ea2d_20 : decode cJx4a65c_add_9ea2d 20 = .ok (.invokevirtual 131, 3) := by decide +kernel
theorem dJx4a65c_add_9ea2d_23 : decode cJx4a65c_add_9ea2d 23 = .ok (.iconst 1, 1) := by decide +kernel
theorem dJx4a65c_add_9ea2d_24 : decode cJx4a65c_add_9ea2d 24 = .ok (.ireturn, 1) := by decide +kernel
theorem dJx4a65c_add_7a177_0 : decode cJx4a65c_add_7a177 0 = .ok (.aload_n 0, 1) := by decide +kernel
theorem dJx4a65c_add_7a177_1 : decode cJx4a65c_add_7a177 1 = .ok (.iload_n 1, 1) := by decide +kernel
theorem dJx4a65c_add_7a177_2 : decode cJx4a65c_add_7a177 2 = .ok (.invokevirtual 135, 3) := by decide +kernel
theorem dJx4a65c_add_7a177_5 : decode cJx4a65c_add_7a177 5 = .ok (.aload_n 0, 1) := by decide +kernel
theorem dJx4a65c_add_7a177_6 : decode cJx4a65c_add_7a177 6 = .ok (.dup, 1) := by decide +kernel
theorem dJx4a65c_add_7a177_7 : decode cJx4a65c_add_7a177 7 = .ok (.getfield 63, 3) := by decide +kernel
theorem dJx4a65c_add_7a177_10 : decode cJx4a65c_add_7a177 10 = .ok (.iconst 1, 1) := by decide +kernel
theorem dJx4a65c_add_7a177_11 : decode cJx4a65c_add_7a177 11 = .ok (.iadd, 1) := by decide +kernel
theorem dJx4a65c_add_7a177_12 : decode cJx4a65c_add_7a177 12 = .ok (.putfield 63, 3) := by decide +kernel
theorem dJx4a65c_add_7a177_15 : decode cJx4a65c_add_7a177 15 = .ok (.aload_n 0, 1) := by decide +kernel
theorem dJx4a65c_add_7a177_16 : decode cJx4a65c_add_7a177 16 = .ok (.getfield 48, 3) := by decide +kernel
theorem dJx4a65c_add_7a177_19 : decode cJx4a65c_add_7a177 19 = .ok (.dup, 1) := by decide +kernel
theorem dJx4a65c_add_7a177_20 : decode cJx4a65c_add_7a177 20 = .ok (.istore_n 3, 1) := by decide +kernel
theorem dJx4a65c_add_7a177_21 : decode cJx4a65c_add_7a177 21 = .ok (.aload_n 0, 1) := by decide +kernel
theorem dJx4a65c_add_7a177_22 : decode cJx4a65c_add_7a177 22 = .ok (.getfield 9, 3) := by decide +kernel
theorem dJx4a65c_add_7a177_25 : decode cJx4a65c_add_7a177 25 = .ok (.dup, 1) := by decide +kernel
theorem dJx4a65c_add_7a177_26 : decode cJx4a65c_add_7a177 26 = .ok (.astore 4, 2) := by decide +kernel
theorem dJx4a65c_add_7a177_28 : decode cJx4a65c_add_7a177 28 = .ok (.arraylength, 1) := by decide +kernel
theorem dJx4a65c_add_7a177_29 : decode cJx4a65c_add_7a177 29 = .ok (.if_icmp .ne 9, 3) := by decide +kernel
theorem dJx4a65c_add_7a177_32 : decode cJx4a65c_add_7a177 32 = .ok (.aload_n 0, 1) := by decide +kernel
theorem dJx4a65c_add_7a177_33 : decode cJx4a65c_add_7a177 33 = .ok (.invokevirtual 129, 3) := by decide +kernel
theorem dJx4a65c_add_7a177_36 : decode cJx4a65c_add_7a177 36 = .ok (.astore 4, 2) := by decide +kernel
theorem dJx4a65c_add_7a177_38 : decode cJx4a65c_add_7a177 38 = .ok (.aload 4, 2) := by decide +kernel
theorem dJx4a65c_add_7a177_40 : decode cJx4a65c_add_7a177 40 = .ok (.iload_n 1, 1) := by decide +kernel
theorem dJx4a65c_add_7a177_41 : decode cJx4a65c_add_7a177 41 = .ok (.aload 4, 2) := by decide +kernel
theorem dJx4a65c_add_7a177_43 : decode cJx4a65c_add_7a177 43 = .ok (.iload_n 1, 1) := by decide +kernel
theorem dJx4a65c_add_7a177_44 : decode cJx4a65c_add_7a177 44 = .ok (.iconst 1, 1) := by decide +kernel
theorem dJx4a65c_add_7a177_45 : decode cJx4a65c_add_7a177 45 = .ok (.iadd, 1) := by decide +kernel
theorem dJx4a65c_add_7a177_46 : decode cJx4a65c_add_7a177 46 = .ok (.iload_n 3, 1) := by decide +kernel
theorem dJx4a65c_add_7a177_47 : decode cJx4a65c_add_7a177 47 = .ok (.iload_n 1, 1) := by decide +kernel
theorem dJx4a65c_add_7a177_48 : decode cJx4a65c_add_7a177 48 = .ok (.isub, 1) := by decide +kernel
theorem dJx4a65c_add_7a177_49 : decode cJx4a65c_add_7a177 49 = .ok (.invokestatic 112, 3) := by decide +kernel
theorem dJx4a65c_add_7a177_52 : decode cJx4a65c_add_7a177 52 = .ok (.aload 4, 2) := by decide +kernel
theorem dJx4a65c_add_7a177_54 : decode cJx4a65c_add_7a177 54 = .ok (.iload_n 1, 1) := by decide +kernel
theorem dJx4a65c_add_7a177_55 : decode cJx4a65c_add_7a177 55 = .ok (.aload_n 2, 1) := by decide +kernel
theorem dJx4a65c_add_7a177_56 : decode cJx4a65c_add_7a177 56 = .ok (.aastore, 1) := by decide +kernel
theorem dJx4a65c_add_7a177_57 : decode cJx4a65c_add_7a177 57 = .ok (.aload_n 0, 1) := by decide +kernel
theorem dJx4a65c_add_7a177_58 : decode cJx4a65c_add_7a177 58 = .ok (.iload_n 3, 1) := by decide +kernel
theorem dJx4a65c_add_7a177_59 : decode cJx4a65c_add_7a177 59 = .ok (.iconst 1, 1) := by decide +kernel
theorem dJx4a65c_add_7a177_60 : decode cJx4a65c_add_7a177 60 = .ok (.iadd, 1) := by decide +kernel
theorem dJx4a65c_add_7a177_61 : decode cJx4a65c_add_7a177 61 = .ok (.putfield 48, 3) := by decide +kernel
theorem dJx4a65c_add_7a177_64 : decode cJx4a65c_add_7a177 64 = .ok (.return_, 1) := by decide +kernel
theorem dJx4a65c_remove_915e3_0 : decode cJx4a65c_remove_915e3 0 = .ok (.iload_n 1, 1) := by decide +kernel
theorem dJx4a65c_remove_915e3_1 : decode cJx4a65c_remove_915e3 1 = .ok (.aload_n 0, 1) := by decide +kernel
theorem dJx4a65c_remove_915e3_2 : decode cJx4a65c_remove_915e3 2 = .ok (.getfield 48, 3) := by decide +kernel
theorem dJx4a65c_remove_915e3_5 : decode cJx4a65c_remove_915e3 5 = .ok (.invokestatic 118, 3) := by decide +kernel
theorem dJx4a65c_remove_915e3_8 : decode cJx4a65c_remove_915e3 8 = .ok (.pop, 1) := by decide +kernel
theorem dJx4a65c_remove_915e3_9 : decode cJx4a65c_remove_915e3 9 = .ok (.aload_n 0, 1) := by decide +kernel
theorem dJx4a65c_remove_915e3_10 : decode cJx4a65c_remove_915e3 10 = .ok (.getfield 9, 3) := by decide +kernel
theorem dJx4a65c_remove_915e3_13 : decode cJx4a65c_remove_915e3 13 = .ok (.astore_n 2, 1) := by decide +kernel
theorem dJx4a65c_remove_915e3_14 : decode cJx4a65c_remove_915e3 14 = .ok (.aload_n 2, 1) := by decide +kernel
theorem dJx4a65c_remove_915e3_15 : decode cJx4a65c_remove_915e3 15 = .ok (.iload_n 1, 1) := by decide +kernel
theorem dJx4a65c_remove_915e3_16 : decode cJx4a65c_remove_915e3 16 = .ok (.aaload, 1) := by decide +kernel
theorem dJx4a65c_remove_915e3_17 : decode cJx4a65c_remove_915e3 17 = .ok (.astore_n 3, 1) := by decide +kernel
theorem dJx4a65c_remove_915e3_18 : decode cJx4a65c_remove_915e3 18 = .ok (.aload_n 0, 1) := by decide +kernel
theorem dJx4a65c_remove_915e3_19 : decode cJx4a65c_remove_915e3 19 = .ok (.aload_n 2, 1) := by decide +kernel
theorem dJx4a65c_remove_915e3_20 : decode cJx4a65c_remove_915e3 20 = .ok (.iload_n 1, 1) := by decide +kernel
theorem dJx4a65c_remove_915e3_21 : decode cJx4a65c_remove_915e3 21 = .ok (.invokevirtual 144, 3) := by decide +kernel
theorem dJx4a65c_remove_915e3_24 : decode cJx4a65c_remove_915e3 24 = .ok (.aload_n 3, 1) := by decide +kernel
theorem dJx4a65c_remove_915e3_25 : decode cJx4a65c_remove_915e3 25 = .ok (.areturn, 1) := by decide +kernel
theorem dJx4a65c_fastRemove_b59b0_0 : decode cJx4a65c_fastRemove_b59b0 0 = .ok (.aload_n 0, 1) := by decide +kernel
theorem dJx4a65c_fastRemove_b59b0_1 : decode cJx4a65c_fastRemove_b59b0 1 = .ok (.dup, 1) := by decide +kernel
theorem dJx4a65c_fastRemove_b59b0_2 : decode cJx4a65c_fastRemove_b59b0 2 = .ok (.getfield 63, 3) := by decide +kernel
theorem dJx4a65c_fastRemove_b59b0_5 : decode cJx4a65c_fastRemove_b59b0 5 = .ok (.iconst 1, 1) := by decide +kernel
theorem dJx4a65c_fastRemove_b59b0_6 : decode cJx4a65c_fastRemove_b59b0 6 = .ok (.iadd, 1) := by decide +kernel
theorem dJx4a65c_fastRemove_b59b0_7 : decode cJx4a65c_fastRemove_b59b0 7 = .ok (.putfield 63, 3) := by decide +kernel
theorem dJx4a65c_fastRemove_b59b0_10 : decode cJx4a65c_fastRemove_b59b0 10 = .ok (.aload_n 0, 1) := by decide +kernel
theorem dJx4a65c_fastRemove_b59b0_11 : decode cJx4a65c_fastRemove_b59b0 11 = .ok (.getfield 48, 3) := by decide +kernel
theorem dJx4a65c_fastRemove_b59b0_14 : decode cJx4a65c_fastRemove_b59b0 14 = .ok (.iconst 1, 1) := by decide +kernel
theorem dJx4a65c_fastRemove_b59b0_15 : decode cJx4a65c_fastRemove_b59b0 15 = .ok (.isub, 1) := by decide +kernel
theorem dJx4a65c_fastRemove_b59b0_16 : decode cJx4a65c_fastRemove_b59b0 16 = .ok (.dup, 1) := by decide +kernel
theorem dJx4a65c_fastRemove_b59b0_17 : decode cJx4a65c_fastRemove_b59b0 17 = .ok (.istore_n 3, 1) := by decide +kernel
theorem dJx4a65c_fastRemove_b59b0_18 : decode cJx4a65c_fastRemove_b59b0 18 = .ok (.iload_n 2, 1) := by decide +kernel
theorem dJx4a65c_fastRemove_b59b0_19 : decode cJx4a65c_fastRemove_b59b0 19 = .ok (.if_icmp .le 15, 3) := by decide +kernel
theorem dJx4a65c_fastRemove_b59b0_22 : decode cJx4a65c_fastRemove_b59b0 22 = .ok (.aload_n 1, 1) := by decide +kernel
theorem dJx4a65c_fastRemove_b59b0_23 : decode cJx4a65c_fastRemove_b59b0 23 = .ok (.iload_n 2, 1) := by decide +kernel
theorem dJx4a65c_fastRemove_b59b0_24 : decode cJx4a65c_fastRemove_b59b0 24 = .ok (.iconst 1, 1) := by decide +kernel
theorem dJx4a65c_fastRemove_b59b0_25 : decode cJx4a65c_fastRemove_b59b0 25 = .ok (.iadd, 1) := by decide +kernel
theorem dJx4a65c_fastRemove_b59b0_26 : decode cJx4a65c_fastRemove_b59b0 26 = .ok (.aload_n 1, 1) := by decide +kernel
theorem dJx4a65c_fastRemove_b59b0_27 : decode cJx4a65c_fastRemove_b59b0 27 = .ok (.iload_n 2, 1) := by decide +kernel
theorem dJx4a65c_fastRemove_b59b0_28 : decode cJx4a65c_fastRemove_b59b0 28 = .ok (.iload_n 3, 1) := by decide +kernel
theorem dJx4a65c_fastRemove_b59b0_29 : decode cJx4a65c_fastRemove_b59b0 29 = .ok (.iload_n 2, 1) := by decide +kernel
theorem dJx4a65c_fastRemove_b59b0_30 : decode cJx4a65c_fastRemove_b59b0 30 = .ok (.isub, 1) := by decide +kernel
theorem dJx4a65c_fastRemove_b59b0_31 : decode cJx4a65c_fastRemove_b59b0 31 = .ok (.invokestatic 112, 3) := by decide +kernel
theorem dJx4a65c_fastRemove_b59b0_34 : decode cJx4a65c_fastRemove_b59b0 34 = .ok (.aload_n 1, 1) := by decide +kernel
theorem dJx4a65c_fastRemove_b59b0_35 : decode cJx4a65c_fastRemove_b59b0 35 = .ok (.aload_n 0, 1) := by decide +kernel
theorem dJx4a65c_fastRemove_b59b0_36 : decode cJx4a65c_fastRemove_b59b0 36 = .ok (.iload_n 3, 1) := by decide +kernel
theorem dJx4a65c_fastRemove_b59b0_37 : decode cJx4a65c_fastRemove_b59b0 37 = .ok (.dup_x1, 1) := by decide +kernel
theorem dJx4a65c_fastRemove_b59b0_38 : decode cJx4a65c_fastRemove_b59b0 38 = .ok (.putfield 48, 3) := by decide +kernel
theorem dJx4a65c_fastRemove_b59b0_41 : decode cJx4a65c_fastRemove_b59b0 41 = .ok (.aconst_null, 1) := by decide +kernel
theorem dJx4a65c_fastRemove_b59b0_42 : decode cJx4a65c_fastRemove_b59b0 42 = .ok (.aastore, 1) := by decide +kernel
theorem dJx4a65c_fastRemove_b59b0_43 : decode cJx4a65c_fastRemove_b59b0 43 = .ok (.return_, 1) := by decide +kernel
theorem dJx4a65c_clear_da8c8_0 : decode cJx4a65c_clear_da8c8 0 = .ok (.aload_n 0, 1) := by decide +kernel
theorem dJx4a65c_clear_da8c8_1 : decode cJx4a65c_clear_da8c8 1 = .ok (.dup, 1) := by decide +kernel
theorem dJx4a65c_clear_da8c8_2 : decode cJx4a65c_clear_da8c8 2 = .ok (.getfield 63, 3) := by decide +kernel
theorem dJx4a65c_clear_da8c8_5 : decode cJx4a65c_clear_da8c8 5 = .ok (.iconst 1, 1) := by decide +kernel
theorem dJx4a65c_clear_da8c8_6 : decode cJx4a65c_clear_da8c8 6 = .ok (.iadd, 1) := by decide +kernel
theorem dJx4a65c_clear_da8c8_7 : decode cJx4a65c_clear_da8c8 7 = .ok (.putfield 63, 3) := by decide +kernel
theorem dJx4a65c_clear_da8c8_10 : decode cJx4a65c_clear_da8c8 10 = .ok (.aload_n 0, 1) := by decide +kernel
theorem dJx4a65c_clear_da8c8_11 : decode cJx4a65c_clear_da8c8 11 = .ok (.getfield 9, 3) := by decide +kernel
theorem dJx4a65c_clear_da8c8_14 : decode cJx4a65c_clear_da8c8 14 = .ok (.astore_n 1, 1) := by decide +kernel
theorem dJx4a65c_clear_da8c8_15 : decode cJx4a65c_clear_da8c8 15 = .ok (.aload_n 0, 1) := by decide +kernel
theorem dJx4a65c_clear_da8c8_16 : decode cJx4a65c_clear_da8c8 16 = .ok (.getfield 48, 3) := by decide +kernel
theorem dJx4a65c_clear_da8c8_19 : decode cJx4a65c_clear_da8c8 19 = .ok (.istore_n 2, 1) := by decide +kernel
theorem dJx4a65c_clear_da8c8_20 : decode cJx4a65c_clear_da8c8 20 = .ok (.aload_n 0, 1) := by decide +kernel
theorem dJx4a65c_clear_da8c8_21 : decode cJx4a65c_clear_da8c8 21 = .ok (.iconst 0, 1) := by decide +kernel
theorem dJx4a65c_clear_da8c8_22 : decode cJx4a65c_clear_da8c8 22 = .ok (.dup_x1, 1) := by decide +kernel
theorem dJx4a65c_clear_da8c8_23 : decode cJx4a65c_clear_da8c8 23 = .ok (.putfield 48, 3) := by decide +kernel
theorem dJx4a65c_clear_da8c8_26 : decode cJx4a65c_clear_da8c8 26 = .ok (.istore_n 3, 1) := by decide +kernel
theorem dJx4a65c_clear_da8c8_27 : decode cJx4a65c_clear_da8c8 27 = .ok (.iload_n 3, 1) := by decide +kernel
theorem dJx4a65c_clear_da8c8_28 : decode cJx4a65c_clear_da8c8 28 = .ok (.iload_n 2, 1) := by decide +kernel
theorem dJx4a65c_clear_da8c8_29 : decode cJx4a65c_clear_da8c8 29 = .ok (.if_icmp .ge 13, 3) := by decide +kernel
theorem dJx4a65c_clear_da8c8_32 : decode cJx4a65c_clear_da8c8 32 = .ok (.aload_n 1, 1) := by decide +kernel
theorem dJx4a65c_clear_da8c8_33 : decode cJx4a65c_clear_da8c8 33 = .ok (.iload_n 3, 1) := by decide +kernel
theorem dJx4a65c_clear_da8c8_34 : decode cJx4a65c_clear_da8c8 34 = .ok (.aconst_null, 1) := by decide +kernel
theorem dJx4a65c_clear_da8c8_35 : decode cJx4a65c_clear_da8c8 35 = .ok (.aastore, 1) := by decide +kernel
theorem dJx4a65c_clear_da8c8_36 : decode cJx4a65c_clear_da8c8 36 = .ok (.iinc 3 1, 3) := by decide +kernel
theorem dJx4a65c_clear_da8c8_39 : decode cJx4a65c_clear_da8c8 39 = .ok (.goto (-12), 3) := by decide +kernel
theorem dJx4a65c_clear_da8c8_42 : decode cJx4a65c_clear_da8c8 42 = .ok (.return_, 1) := by decide +kernel
theorem dJx4a65c_rangeCheckForAdd_d00df_0 : decode cJx4a65c_rangeCheckForAdd_d00df 0 = .ok (.iload_n 1, 1) := by decide +kernel
theorem dJx4a65c_rangeCheckForAdd_d00df_1 : decode cJx4a65c_rangeCheckForAdd_d00df 1 = .ok (.aload_n 0, 1) := by decide +kernel
theorem dJx4a65c_rangeCheckForAdd_d00df_2 : decode cJx4a65c_rangeCheckForAdd_d00df 2 = .ok (.getfield 48, 3) := by decide +kernel
theorem dJx4a65c_rangeCheckForAdd_d00df_5 : decode cJx4a65c_rangeCheckForAdd_d00df 5 = .ok (.if_icmp .gt 7, 3) := by decide +kernel
theorem dJx4a65c_rangeCheckForAdd_d00df_8 : decode cJx4a65c_rangeCheckForAdd_d00df 8 = .ok (.iload_n 1, 1) := by decide +kernel
theorem dJx4a65c_rangeCheckForAdd_d00df_9 : decode cJx4a65c_rangeCheckForAdd_d00df 9 = .ok (.ifCond .ge 16, 3) := by decide +kernel
theorem dJx4a65c_rangeCheckForAdd_d00df_12 : decode cJx4a65c_rangeCheckForAdd_d00df 12 = .ok (.new 187, 3) := by decide +kernel
theorem dJx4a65c_rangeCheckForAdd_d00df_15 : decode cJx4a65c_rangeCheckForAdd_d00df 15 = .ok (.dup, 1) := by decide +kernel
theorem dJx4a65c_rangeCheckForAdd_d00df_16 : decode cJx4a65c_rangeCheckForAdd_d00df 16 = .ok (.aload_n 0, 1) := by decide +kernel
theorem dJx4a65c_rangeCheckForAdd_d00df_17 : decode cJx4a65c_rangeCheckForAdd_d00df 17 = .ok (.iload_n 1, 1) := by decide +kernel
theorem dJx4a65c_rangeCheckForAdd_d00df_18 : decode cJx4a65c_rangeCheckForAdd_d00df 18 = .ok (.invokevirtual 198, 3) := by decide +kernel
theorem dJx4a65c_rangeCheckForAdd_d00df_21 : decode cJx4a65c_rangeCheckForAdd_d00df 21 = .ok (.invokespecial 193, 3) := by decide +kernel
theorem dJx4a65c_rangeCheckForAdd_d00df_24 : decode cJx4a65c_rangeCheckForAdd_d00df 24 = .ok (.athrow, 1) := by decide +kernel
theorem dJx4a65c_rangeCheckForAdd_d00df_25 : decode cJx4a65c_rangeCheckForAdd_d00df 25 = .ok (.return_, 1) := by decide +kernel
theorem dJ7_fill_031fb_0 : decode cJ7_fill_031fb 0 = .ok (.iconst 0, 1) := by decide +kernel
theorem dJ7_fill_031fb_1 : decode cJ7_fill_031fb 1 = .ok (.istore_n 2, 1) := by decide +kernel
theorem dJ7_fill_031fb_2 : decode cJ7_fill_031fb 2 = .ok (.aload_n 0, 1) := by decide +kernel
theorem dJ7_fill_031fb_3 : decode cJ7_fill_031fb 3 = .ok (.arraylength, 1) := by decide +kernel
theorem dJ7_fill_031fb_4 : decode cJ7_fill_031fb 4 = .ok (.istore_n 3, 1) := by decide +kernel
theorem dJ7_fill_031fb_5 : decode cJ7_fill_031fb 5 = .ok (.iload_n 2, 1) := by decide +kernel
theorem dJ7_fill_031fb_6 : decode cJ7_fill_031fb 6 = .ok (.iload_n 3, 1) := by decide +kernel
theorem dJ7_fill_031fb_7 : decode cJ7_fill_031fb 7 = .ok (.if_icmp .ge 13, 3) := by decide +kernel
theorem dJ7_fill_031fb_10 : decode cJ7_fill_031fb 10 = .ok (.aload_n 0, 1) := by decide +kernel
theorem dJ7_fill_031fb_11 : decode cJ7_fill_031fb 11 = .ok (.iload_n 2, 1) := by decide +kernel
theorem dJ7_fill_031fb_12 : decode cJ7_fill_031fb 12 = .ok (.iload_n 1, 1) := by decide +kernel
theorem dJ7_fill_031fb_13 : decode cJ7_fill_031fb 13 = .ok (.bastore, 1) := by decide +kernel
theorem dJ7_fill_031fb_14 : decode cJ7_fill_031fb 14 = .ok (.iinc 2 1, 3) := by decide +kernel
theorem dJ7_fill_031fb_17 : decode cJ7_fill_031fb 17 = .ok (.goto (-12), 3) := by decide +kernel
theorem dJ7_fill_031fb_20 : decode cJ7_fill_031fb 20 = .ok (.return_, 1) := by decide +kernel
theorem dJ7_copyOf_1904c_0 : decode cJ7_copyOf_1904c 0 = .ok (.aload_n 0, 1) := by decide +kernel
theorem dJ7_copyOf_1904c_1 : decode cJ7_copyOf_1904c 1 = .ok (.iload_n 1, 1) := by decide +kernel
theorem dJ7_copyOf_1904c_2 : decode cJ7_copyOf_1904c 2 = .ok (.aload_n 0, 1) := by decide +kernel
theorem dJ7_copyOf_1904c_3 : decode cJ7_copyOf_1904c 3 = .ok (.invokevirtual 86, 3) := by decide +kernel
theorem dJ7_copyOf_1904c_6 : decode cJ7_copyOf_1904c 6 = .ok (.invokestatic 300, 3) := by decide +kernel
theorem dJ7_copyOf_1904c_9 : decode cJ7_copyOf_1904c 9 = .ok (.areturn, 1) := by decide +kernel
theorem dJ7_copyOf_6403c_0 : decode cJ7_copyOf_6403c 0 = .ok (.aload_n 2, 1) := by decide +kernel
theorem dJ7_copyOf_6403c_1 : decode cJ7_copyOf_6403c 1 = .ok (.ldc 110, 2) := by decide +kernel
theorem dJ7_copyOf_6403c_3 : decode cJ7_copyOf_6403c 3 = .ok (.if_acmp .ne 10, 3) := by decide +kernel
theorem dJ7_copyOf_6403c_6 : decode cJ7_copyOf_6403c 6 = .ok (.iload_n 1, 1) := by decide +kernel
theorem dJ7_copyOf_6403c_7 : decode cJ7_copyOf_6403c 7 = .ok (.anewarray 2, 3) := by decide +kernel
theorem dJ7_copyOf_6403c_10 : decode cJ7_copyOf_6403c 10 = .ok (.goto 14, 3) := by decide +kernel
theorem dJ7_copyOf_6403c_13 : decode cJ7_copyOf_6403c 13 = .ok (.aload_n 2, 1) := by decide +kernel
theorem dJ7_copyOf_6403c_14 : decode cJ7_copyOf_6403c 14 = .ok (.invokevirtual 90, 3) := by decide +kernel
theorem dJ7_copyOf_6403c_17 : decode cJ7_copyOf_6403c 17 = .ok (.iload_n 1, 1) := by decide +kernel
theorem dJ7_copyOf_6403c_18 : decode cJ7_copyOf_6403c 18 = .ok (.invokestatic 95, 3) := by decide +kernel
theorem dJ7_copyOf_6403c_21 : decode cJ7_copyOf_6403c 21 = .ok (.checkcast 110, 3) := by decide +kernel
theorem dJ7_copyOf_6403c_24 : decode cJ7_copyOf_6403c 24 = .ok (.astore_n 3, 1) := by decide +kernel
theorem dJ7_copyOf_6403c_25 : decode cJ7_copyOf_6403c 25 = .ok (.aload_n 0, 1) := by decide +kernel
theorem dJ7_copyOf_6403c_26 : decode cJ7_copyOf_6403c 26 = .ok (.iconst 0, 1) := by decide +kernel
theorem dJ7_copyOf_6403c_27 : decode cJ7_copyOf_6403c 27 = .ok (.aload_n 3, 1) := by decide +kernel
theorem dJ7_copyOf_6403c_28 : decode cJ7_copyOf_6403c 28 = .ok (.iconst 0, 1) := by decide +kernel
theorem dJ7_copyOf_6403c_29 : decode cJ7_copyOf_6403c 29 = .ok (.aload_n 0, 1) := by decide +kernel
theorem dJ7_copyOf_6403c_30 : decode cJ7_copyOf_6403c 30 = .ok (.arraylength, 1) := by decide +kernel
theorem dJ7_copyOf_6403c_31 : decode cJ7_copyOf_6403c 31 = .ok (.iload_n 1, 1) := by decide +kernel
theorem dJ7_copyOf_6403c_32 : decode cJ7_copyOf_6403c 32 = .ok (.invokestatic 304, 3) := by decide +kernel
theorem dJ7_copyOf_6403c_35 : decode cJ7_copyOf_6403c 35 = .ok (.invokestatic 150, 3) := by decide +kernel
theorem dJ7_copyOf_6403c_38 : decode cJ7_copyOf_6403c 38 = .ok (.aload_n 3, 1) := by decide +kernel
theorem dJ7_copyOf_6403c_39 : decode cJ7_copyOf_6403c 39 = .ok (.areturn, 1) := by decide +kernel
theorem dJ7_copyOf_9075b_0 : decode cJ7_copyOf_9075b 0 = .ok (.iload_n 1, 1) := by decide +kernel
theorem dJ7_copyOf_9075b_1 : decode cJ7_copyOf_9075b 1 = .ok (.aload_n 0, 1) := by decide +kernel
theorem dJ7_copyOf_9075b_2 : decode cJ7_copyOf_9075b 2 = .ok (.arraylength, 1) := by decide +kernel
theorem dJ7_copyOf_9075b_3 : decode cJ7_copyOf_9075b 3 = .ok (.if_icmp .ne 11, 3) := by decide +kernel
theorem dJ7_copyOf_9075b_6 : decode cJ7_copyOf_9075b 6 = .ok (.aload_n 0, 1) := by decide +kernel
theorem dJ7_copyOf_9075b_7 : decode cJ7_copyOf_9075b 7 = .ok (.invokevirtual 310, 3) := by decide +kernel
theorem dJ7_copyOf_9075b_10 : decode cJ7_copyOf_9075b 10 = .ok (.checkcast 311, 3) := by decide +kernel
theorem dJ7_copyOf_9075b_13 : decode cJ7_copyOf_9075b 13 = .ok (.areturn, 1) := by decide +kernel
theorem dJ7_copyOf_9075b_14 : decode cJ7_copyOf_9075b 14 = .ok (.iload_n 1, 1) := by decide +kernel
theorem dJ7_copyOf_9075b_15 : decode cJ7_copyOf_9075b 15 = .ok (.newarray .byte, 2) := by decide +kernel
theorem dJ7_copyOf_9075b_17 : decode cJ7_copyOf_9075b 17 = .ok (.astore_n 2, 1) := by decide +kernel
theorem dJ7_copyOf_9075b_18 : decode cJ7_copyOf_9075b 18 = .ok (.aload_n 0, 1) := by decide +kernel
theorem dJ7_copyOf_9075b_19 : decode cJ7_copyOf_9075b 19 = .ok (.iconst 0, 1) := by decide +kernel
theorem dJ7_copyOf_9075b_20 : decode cJ7_copyOf_9075b 20 = .ok (.aload_n 2, 1) := by decide +kernel
theorem dJ7_copyOf_9075b_21 : decode cJ7_copyOf_9075b 21 = .ok (.iconst 0, 1) := by decide +kernel
theorem dJ7_copyOf_9075b_22 : decode cJ7_copyOf_9075b 22 = .ok (.aload_n 0, 1) := by decide +kernel
theorem dJ7_copyOf_9075b_23 : decode cJ7_copyOf_9075b 23 = .ok (.arraylength, 1) := by decide +kernel
theorem dJ7_copyOf_9075b_24 : decode cJ7_copyOf_9075b 24 = .ok (.iload_n 1, 1) := by decide +kernel
theorem dJ7_copyOf_9075b_25 : decode cJ7_copyOf_9075b 25 = .ok (.invokestatic 304, 3) := by decide +kernel
theorem dJ7_copyOf_9075b_28 : decode cJ7_copyOf_9075b 28 = .ok (.invokestatic 150, 3) := by decide +kernel
theorem dJ7_copyOf_9075b_31 : decode cJ7_copyOf_9075b 31 = .ok (.aload_n 2, 1) := by decide +kernel
theorem dJ7_copyOf_9075b_32 : decode cJ7_copyOf_9075b 32 = .ok (.areturn, 1) := by decide +kernel
theorem dJ7_checkLength_df160_0 : decode cJ7_checkLength_df160 0 = .ok (.iload_n 1, 1) := by decide +kernel
theorem dJ7_checkLength_df160_1 : decode cJ7_checkLength_df160 1 = .ok (.iload_n 0, 1) := by decide +kernel
theorem dJ7_checkLength_df160_2 : decode cJ7_checkLength_df160 2 = .ok (.if_icmp .ge 35, 3) := by decide +kernel
theorem dJ7_checkLength_df160_5 : decode cJ7_checkLength_df160 5 = .ok (.new 43, 3) := by decide +kernel
theorem dJ7_checkLength_df160_8 : decode cJ7_checkLength_df160 8 = .ok (.dup, 1) := by decide +kernel
theorem dJ7_checkLength_df160_9 : decode cJ7_checkLength_df160 9 = .ok (.new 45, 3) := by decide +kernel
theorem dJ7_checkLength_df160_12 : decode cJ7_checkLength_df160 12 = .ok (.dup, 1) := by decide +kernel
theorem dJ7_checkLength_df160_13 : decode cJ7_checkLength_df160 13 = .ok (.invokespecial 47, 3) := by decide +kernel
theorem dJ7_checkLength_df160_16 : decode cJ7_checkLength_df160 16 = .ok (.iload_n 0, 1) := by decide +kernel
theorem dJ7_checkLength_df160_17 : decode cJ7_checkLength_df160 17 = .ok (.invokevirtual 54, 3) := by decide +kernel
theorem dJ7_checkLength_df160_20 : decode cJ7_checkLength_df160 20 = .ok (.ldc_w 337, 3) := by decide +kernel
theorem dJ7_checkLength_df160_23 : decode cJ7_checkLength_df160 23 = .ok (.invokevirtual 50, 3) := by decide +kernel
theorem dJ7_checkLength_df160_26 : decode cJ7_checkLength_df160 26 = .ok (.iload_n 1, 1) := by decide +kernel
theorem dJ7_checkLength_df160_27 : decode cJ7_checkLength_df160 27 = .ok (.invokevirtual 54, 3) := by decide +kernel
theorem dJ7_checkLength_df160_30 : decode cJ7_checkLength_df160 30 = .ok (.invokevirtual 61, 3) := by decide +kernel
theorem dJ7_checkLength_df160_33 : decode cJ7_checkLength_df160 33 = .ok (.invokespecial 65, 3) := by decide +kernel
theorem dJ7_checkLength_df160_36 : decode cJ7_checkLength_df160 36 = .ok (.athrow, 1) := by decide +kernel
theorem dJ7_checkLength_df160_37 : decode cJ7_checkLength_df160 37 = .ok (.return_, 1) := by decide +kernel
theorem dJ7_copyOfRange_39247_0 : decode cJ7_copyOfRange_39247 0 = .ok (.iload_n 1, 1) := by decide +kernel
theorem dJ7_copyOfRange_39247_1 : decode cJ7_copyOfRange_39247 1 = .ok (.ifCond .ne 9, 3) := by decide +kernel
theorem dJ7_copyOfRange_39247_4 : decode cJ7_copyOfRange_39247 4 = .ok (.iload_n 2, 1) := by decide +kernel
theorem dJ7_copyOfRange_39247_5 : decode cJ7_copyOfRange_39247 5 = .ok (.aload_n 0, 1) := by decide +kernel
theorem dJ7_copyOfRange_39247_6 : decode cJ7_copyOfRange_39247 6 = .ok (.arraylength, 1) := by decide +kernel
theorem dJ7_copyOfRange_39247_7 : decode cJ7_copyOfRange_39247 7 = .ok (.if_icmp .eq 10, 3) := by decide +kernel
theorem dJ7_copyOfRange_39247_10 : decode cJ7_copyOfRange_39247 10 = .ok (.aload_n 0, 1) := by decide +kernel
theorem dJ7_copyOfRange_39247_11 : decode cJ7_copyOfRange_39247 11 = .ok (.iload_n 1, 1) := by decide +kernel
theorem dJ7_copyOfRange_39247_12 : decode cJ7_copyOfRange_39247 12 = .ok (.iload_n 2, 1) := by decide +kernel
theorem dJ7_copyOfRange_39247_13 : decode cJ7_copyOfRange_39247 13 = .ok (.invokestatic 339, 3) := by decide +kernel
theorem dJ7_copyOfRange_39247_16 : decode cJ7_copyOfRange_39247 16 = .ok (.areturn, 1) := by decide +kernel
theorem dJ7_copyOfRange_39247_17 : decode cJ7_copyOfRange_39247 17 = .ok (.aload_n 0, 1) := by decide +kernel
theorem dJ7_copyOfRange_39247_18 : decode cJ7_copyOfRange_39247 18 = .ok (.invokevirtual 310, 3) := by decide +kernel
theorem dJ7_copyOfRange_39247_21 : decode cJ7_copyOfRange_39247 21 = .ok (.checkcast 311, 3) := by decide +kernel
theorem dJ7_copyOfRange_39247_24 : decode cJ7_copyOfRange_39247 24 = .ok (.areturn, 1) := by decide +kernel
theorem dJ7_copyOfRangeByte_39247_0 : decode cJ7_copyOfRangeByte_39247 0 = .ok (.iload_n 1, 1) := by decide +kernel
theorem dJ7_copyOfRangeByte_39247_1 : decode cJ7_copyOfRangeByte_39247 1 = .ok (.iload_n 2, 1) := by decide +kernel
theorem dJ7_copyOfRangeByte_39247_2 : decode cJ7_copyOfRangeByte_39247 2 = .ok (.invokestatic 343, 3) := by decide +kernel
theorem dJ7_copyOfRangeByte_39247_5 : decode cJ7_copyOfRangeByte_39247 5 = .ok (.iload_n 2, 1) := by decide +kernel
theorem dJ7_copyOfRangeByte_39247_6 : decode cJ7_copyOfRangeByte_39247 6 = .ok (.iload_n 1, 1) := by decide +kernel
theorem dJ7_copyOfRangeByte_39247_7 : decode cJ7_copyOfRangeByte_39247 7 = .ok (.isub, 1) := by decide +kernel
theorem dJ7_copyOfRangeByte_39247_8 : decode cJ7_copyOfRangeByte_39247 8 = .ok (.istore_n 3, 1) := by decide +kernel
theorem dJ7_copyOfRangeByte_39247_9 : decode cJ7_copyOfRangeByte_39247 9 = .ok (.iload_n 3, 1) := by decide +kernel
theorem dJ7_copyOfRangeByte_39247_10 : decode cJ7_copyOfRangeByte_39247 10 = .ok (.newarray .byte, 2) := by decide +kernel
theorem dJ7_copyOfRangeByte_39247_12 : decode cJ7_copyOfRangeByte_39247 12 = .ok (.astore 4, 2) := by decide +kernel
theorem dJ7_copyOfRangeByte_39247_14 : decode cJ7_copyOfRangeByte_39247 14 = .ok (.aload_n 0, 1) := by decide +kernel
theorem dJ7_copyOfRangeByte_39247_15 : decode cJ7_copyOfRangeByte_39247 15 = .ok (.iload_n 1, 1) := by decide +kernel
theorem dJ7_copyOfRangeByte_39247_16 : decode cJ7_copyOfRangeByte_39247 16 = .ok (.aload 4, 2) := by decide +kernel
theorem dJ7_copyOfRangeByte_39247_18 : decode cJ7_copyOfRangeByte_39247 18 = .ok (.iconst 0, 1) := by decide +kernel
theorem dJ7_copyOfRangeByte_39247_19 : decode cJ7_copyOfRangeByte_39247 19 = .ok (.aload_n 0, 1) := by decide +kernel
theorem dJ7_copyOfRangeByte_39247_20 : decode cJ7_copyOfRangeByte_39247 20 = .ok (.arraylength, 1) := by decide +kernel
theorem dJ7_copyOfRangeByte_39247_21 : decode cJ7_copyOfRangeByte_39247 21 = .ok (.iload_n 1, 1) := by decide +kernel
theorem dJ7_copyOfRangeByte_39247_22 : decode cJ7_copyOfRangeByte_39247 22 = .ok (.isub, 1) := by decide +kernel
theorem dJ7_copyOfRangeByte_39247_23 : decode cJ7_copyOfRangeByte_39247 23 = .ok (.iload_n 3, 1) := by decide +kernel
theorem dJ7_copyOfRangeByte_39247_24 : decode cJ7_copyOfRangeByte_39247 24 = .ok (.invokestatic 304, 3) := by decide +kernel
theorem dJ7_copyOfRangeByte_39247_27 : decode cJ7_copyOfRangeByte_39247 27 = .ok (.invokestatic 150, 3) := by decide +kernel
theorem dJ7_copyOfRangeByte_39247_30 : decode cJ7_copyOfRangeByte_39247 30 = .ok (.aload 4, 2) := by decide +kernel
theorem dJ7_copyOfRangeByte_39247_32 : decode cJ7_copyOfRangeByte_39247 32 = .ok (.areturn, 1) := by decide +kernel
theorem dJ15_checkIndex_7cf53_0 : decode cJ15_checkIndex_7cf53 0 = .ok (.iload_n 0, 1) := by decide +kernel
theorem dJ15_checkIndex_7cf53_1 : decode cJ15_checkIndex_7cf53 1 = .ok (.iload_n 1, 1) := by decide +kernel
theorem dJ15_checkIndex_7cf53_2 : decode cJ15_checkIndex_7cf53 2 = .ok (.aconst_null, 1) := by decide +kernel
theorem dJ15_checkIndex_7cf53_3 : decode cJ15_checkIndex_7cf53 3 = .ok (.invokestatic 105, 3) := by decide +kernel
theorem dJ15_checkIndex_7cf53_6 : decode cJ15_checkIndex_7cf53 6 = .ok (.ireturn, 1) := by decide +kernel
theorem dJ8_newLength_cabcc_0 : decode cJ8_newLength_cabcc 0 = .ok (.iload_n 0, 1) := by decide +kernel
theorem dJ8_newLength_cabcc_1 : decode cJ8_newLength_cabcc 1 = .ok (.iload_n 1, 1) := by decide +kernel
theorem dJ8_newLength_cabcc_2 : decode cJ8_newLength_cabcc 2 = .ok (.iload_n 2, 1) := by decide +kernel
theorem dJ8_newLength_cabcc_3 : decode cJ8_newLength_cabcc 3 = .ok (.invokestatic 194, 3) := by decide +kernel
theorem dJ8_newLength_cabcc_6 : decode cJ8_newLength_cabcc 6 = .ok (.iadd, 1) := by decide +kernel
theorem dJ8_newLength_cabcc_7 : decode cJ8_newLength_cabcc 7 = .ok (.istore_n 3, 1) := by decide +kernel
theorem dJ8_newLength_cabcc_8 : decode cJ8_newLength_cabcc 8 = .ok (.iconst 0, 1) := by decide +kernel
theorem dJ8_newLength_cabcc_9 : decode cJ8_newLength_cabcc 9 = .ok (.iload_n 3, 1) := by decide +kernel
theorem dJ8_newLength_cabcc_10 : decode cJ8_newLength_cabcc 10 = .ok (.if_icmp .ge 11, 3) := by decide +kernel
theorem dJ8_newLength_cabcc_13 : decode cJ8_newLength_cabcc 13 = .ok (.iload_n 3, 1) := by decide +kernel
theorem dJ8_newLength_cabcc_14 : decode cJ8_newLength_cabcc 14 = .ok (.ldc 200, 2) := by decide +kernel
theorem dJ8_newLength_cabcc_16 : decode cJ8_newLength_cabcc 16 = .ok (.if_icmp .gt 5, 3) := by decide +kernel
theorem dJ8_newLength_cabcc_19 : decode cJ8_newLength_cabcc 19 = .ok (.iload_n 3, 1) := by decide +kernel
theorem dJ8_newLength_cabcc_20 : decode cJ8_newLength_cabcc 20 = .ok (.ireturn, 1) := by decide +kernel
theorem dJ8_newLength_cabcc_21 : decode cJ8_newLength_cabcc 21 = .ok (.iload_n 0, 1) := by decide +kernel
theorem dJ8_newLength_cabcc_22 : decode cJ8_newLength_cabcc 22 = .ok (.iload_n 1, 1) := by decide +kernel
theorem dJ8_newLength_cabcc_23 : decode cJ8_newLength_cabcc 23 = .ok (.invokestatic 201, 3) := by decide +kernel
theorem dJ8_newLength_cabcc_26 : decode cJ8_newLength_cabcc 26 = .ok (.ireturn, 1) := by decide +kernel
theorem dJ8_hugeLength_7cf53_0 : decode cJ8_hugeLength_7cf53 0 = .ok (.iload_n 0, 1) := by decide +kernel
theorem dJ8_hugeLength_7cf53_1 : decode cJ8_hugeLength_7cf53 1 = .ok (.iload_n 1, 1) := by decide +kernel
theorem dJ8_hugeLength_7cf53_2 : decode cJ8_hugeLength_7cf53 2 = .ok (.iadd, 1) := by decide +kernel
theorem dJ8_hugeLength_7cf53_3 : decode cJ8_hugeLength_7cf53 3 = .ok (.istore_n 2, 1) := by decide +kernel
theorem dJ8_hugeLength_7cf53_4 : decode cJ8_hugeLength_7cf53 4 = .ok (.iload_n 2, 1) := by decide +kernel
theorem dJ8_hugeLength_7cf53_5 : decode cJ8_hugeLength_7cf53 5 = .ok (.ifCond .ge 44, 3) := by decide +kernel
theorem dJ8_hugeLength_7cf53_8 : decode cJ8_hugeLength_7cf53 8 = .ok (.new 204, 3) := by decide +kernel
theorem dJ8_hugeLength_7cf53_11 : decode cJ8_hugeLength_7cf53 11 = .ok (.dup, 1) := by decide +kernel
theorem dJ8_hugeLength_7cf53_12 : decode cJ8_hugeLength_7cf53 12 = .ok (.new 89, 3) := by decide +kernel
theorem dJ8_hugeLength_7cf53_15 : decode cJ8_hugeLength_7cf53 15 = .ok (.dup, 1) := by decide +kernel
theorem dJ8_hugeLength_7cf53_16 : decode cJ8_hugeLength_7cf53 16 = .ok (.invokespecial 91, 3) := by decide +kernel
theorem dJ8_hugeLength_7cf53_19 : decode cJ8_hugeLength_7cf53 19 = .ok (.ldc 206, 2) := by decide +kernel
theorem dJ8_hugeLength_7cf53_21 : decode cJ8_hugeLength_7cf53 21 = .ok (.invokevirtual 94, 3) := by decide +kernel
theorem dJ8_hugeLength_7cf53_24 : decode cJ8_hugeLength_7cf53 24 = .ok (.iload_n 0, 1) := by decide +kernel
theorem dJ8_hugeLength_7cf53_25 : decode cJ8_hugeLength_7cf53 25 = .ok (.invokevirtual 98, 3) := by decide +kernel
theorem dJ8_hugeLength_7cf53_28 : decode cJ8_hugeLength_7cf53 28 = .ok (.ldc 208, 2) := by decide +kernel
theorem dJ8_hugeLength_7cf53_30 : decode cJ8_hugeLength_7cf53 30 = .ok (.invokevirtual 94, 3) := by decide +kernel
theorem dJ8_hugeLength_7cf53_33 : decode cJ8_hugeLength_7cf53 33 = .ok (.iload_n 1, 1) := by decide +kernel
theorem dJ8_hugeLength_7cf53_34 : decode cJ8_hugeLength_7cf53 34 = .ok (.invokevirtual 98, 3) := by decide +kernel
theorem dJ8_hugeLength_7cf53_37 : decode cJ8_hugeLength_7cf53 37 = .ok (.ldc 210, 2) := by decide +kernel
theorem dJ8_hugeLength_7cf53_39 : decode cJ8_hugeLength_7cf53 39 = .ok (.invokevirtual 94, 3) := by decide +kernel
theorem dJ8_hugeLength_7cf53_42 : decode cJ8_hugeLength_7cf53 42 = .ok (.invokevirtual 101, 3) := by decide +kernel
theorem dJ8_hugeLength_7cf53_45 : decode cJ8_hugeLength_7cf53 45 = .ok (.invokespecial 212, 3) := by decide +kernel
theorem dJ8_hugeLength_7cf53_48 : decode cJ8_hugeLength_7cf53 48 = .ok (.athrow, 1) := by decide +kernel
theorem dJ8_hugeLength_7cf53_49 : decode cJ8_hugeLength_7cf53 49 = .ok (.iload_n 2, 1) := by decide +kernel
theorem dJ8_hugeLength_7cf53_50 : decode cJ8_hugeLength_7cf53 50 = .ok (.ldc 200, 2) := by decide +kernel
theorem dJ8_hugeLength_7cf53_52 : decode cJ8_hugeLength_7cf53 52 = .ok (.if_icmp .gt 6, 3) := by decide +kernel
theorem dJ8_hugeLength_7cf53_55 : decode cJ8_hugeLength_7cf53 55 = .ok (.ldc 200, 2) := by decide +kernel
theorem dJ8_hugeLength_7cf53_57 : decode cJ8_hugeLength_7cf53 57 = .ok (.ireturn, 1) := by decide +kernel
theorem dJ8_hugeLength_7cf53_58 : decode cJ8_hugeLength_7cf53 58 = .ok (.iload_n 2, 1) := by decide +kernel
theorem dJ8_hugeLength_7cf53_59 : decode cJ8_hugeLength_7cf53 59 = .ok (.ireturn, 1) := by decide +kernel
theorem dJ3_checkIndex_8e157_0 : decode cJ3_checkIndex_8e157 0 = .ok (.iload_n 0, 1) := by decide +kernel
theorem dJ3_checkIndex_8e157_1 : decode cJ3_checkIndex_8e157 1 = .ok (.ifCond .lt 8, 3) := by decide +kernel
theorem dJ3_checkIndex_8e157_4 : decode cJ3_checkIndex_8e157 4 = .ok (.iload_n 0, 1) := by decide +kernel
theorem dJ3_checkIndex_8e157_5 : decode cJ3_checkIndex_8e157 5 = .ok (.iload_n 1, 1) := by decide +kernel
theorem dJ3_checkIndex_8e157_6 : decode cJ3_checkIndex_8e157 6 = .ok (.if_icmp .lt 10, 3) := by decide +kernel
theorem dJ3_checkIndex_8e157_9 : decode cJ3_checkIndex_8e157 9 = .ok (.aload_n 2, 1) := by decide +kernel
theorem dJ3_checkIndex_8e157_10 : decode cJ3_checkIndex_8e157 10 = .ok (.iload_n 0, 1) := by decide +kernel
theorem dJ3_checkIndex_8e157_11 : decode cJ3_checkIndex_8e157 11 = .ok (.iload_n 1, 1) := by decide +kernel
theorem dJ3_checkIndex_8e157_12 : decode cJ3_checkIndex_8e157 12 = .ok (.invokestatic 95, 3) := by decide +kernel
theorem dJ3_checkIndex_8e157_15 : decode cJ3_checkIndex_8e157 15 = .ok (.athrow, 1) := by decide +kernel
theorem dJ3_checkIndex_8e157_16 : decode cJ3_checkIndex_8e157 16 = .ok (.iload_n 0, 1) := by decide +kernel
theorem dJ3_checkIndex_8e157_17 : decode cJ3_checkIndex_8e157 17 = .ok (.ireturn, 1) := by decide +kernel
theorem dL_law_0 : decode cL_law 0 = .ok (.new 7, 3) := by decide +kernel
theorem dL_law_3 : decode cL_law 3 = .ok (.dup, 1) := by decide +kernel
theorem dL_law_4 : decode cL_law 4 = .ok (.invokespecial 9, 3) := by decide +kernel
theorem dL_law_7 : decode cL_law 7 = .ok (.astore_n 1, 1) := by decide +kernel
theorem dL_law_8 : decode cL_law 8 = .ok (.new 10, 3) := by decide +kernel
theorem dL_law_11 : decode cL_law 11 = .ok (.dup, 1) := by decide +kernel
theorem dL_law_12 : decode cL_law 12 = .ok (.invokespecial 12, 3) := by decide +kernel
theorem dL_law_15 : decode cL_law 15 = .ok (.astore_n 2, 1) := by decide +kernel
theorem dL_law_16 : decode cL_law 16 = .ok (.iconst 0, 1) := by decide +kernel
theorem dL_law_17 : decode cL_law 17 = .ok (.istore_n 3, 1) := by decide +kernel
theorem dL_law_18 : decode cL_law 18 = .ok (.iload_n 3, 1) := by decide +kernel
theorem dL_law_19 : decode cL_law 19 = .ok (.aload_n 0, 1) := by decide +kernel
theorem dL_law_20 : decode cL_law 20 = .ok (.arraylength, 1) := by decide +kernel
theorem dL_law_21 : decode cL_law 21 = .ok (.iconst 5, 1) := by decide +kernel
theorem dL_law_22 : decode cL_law 22 = .ok (.isub, 1) := by decide +kernel
theorem dL_law_23 : decode cL_law 23 = .ok (.if_icmp .gt 1364, 3) := by decide +kernel
theorem dL_law_26 : decode cL_law 26 = .ok (.aload_n 0, 1) := by decide +kernel
theorem dL_law_27 : decode cL_law 27 = .ok (.iload_n 3, 1) := by decide +kernel
theorem dL_law_28 : decode cL_law 28 = .ok (.iaload, 1) := by decide +kernel
theorem dL_law_29 : decode cL_law 29 = .ok (.bipush 63, 2) := by decide +kernel
theorem dL_law_31 : decode cL_law 31 = .ok (.iand, 1) := by decide +kernel
theorem dL_law_32 : decode cL_law 32 = .ok (.tableswitch 1349 0 35 #[160, 223, 246, 269, 322, 375, 438, 491, 584, 637, 690, 743, 796, 810, 823, 836, 849, 862, 875, 888, 921, 954, 997, 1050, 1063, 1076, 1139, 1162, 1185, 1198, 1221, 1234, 1247, 1280, 1303, 1326], 160) := by decide +kernel
theorem dL_law_192 : decode cL_law 192 = .ok (.aload_n 1, 1) := by decide +kernel
theorem dL_law_193 : decode cL_law 193 = .ok (.aload_n 0, 1) := by decide +kernel
theorem dL_law_194 : decode cL_law 194 = .ok (.iload_n 3, 1) := by decide +kernel
theorem dL_law_195 : decode cL_law 195 = .ok (.iconst 1, 1) := by decide +kernel
theorem dL_law_196 : decode cL_law 196 = .ok (.iadd, 1) := by decide +kernel
theorem dL_law_197 : decode cL_law 197 = .ok (.iaload, 1) := by decide +kernel
theorem dL_law_198 : decode cL_law 198 = .ok (.i2l, 1) := by decide +kernel
theorem dL_law_199 : decode cL_law 199 = .ok (.bipush 32, 2) := by decide +kernel
theorem dL_law_201 : decode cL_law 201 = .ok (.lshl, 1) := by decide +kernel
theorem dL_law_202 : decode cL_law 202 = .ok (.aload_n 0, 1) := by decide +kernel
theorem dL_law_203 : decode cL_law 203 = .ok (.iload_n 3, 1) := by decide +kernel
theorem dL_law_204 : decode cL_law 204 = .ok (.iconst 2, 1) := by decide +kernel
theorem dL_law_205 : decode cL_law 205 = .ok (.iadd, 1) := by decide +kernel
theorem dL_law_206 : decode cL_law 206 = .ok (.iaload, 1) := by decide +kernel
theorem dL_law_207 : decode cL_law 207 = .ok (.i2l, 1) := by decide +kernel
theorem dL_law_208 : decode cL_law 208 = .ok (.ldc2_w 13, 3) := by decide +kernel
theorem dL_law_211 : decode cL_law 211 = .ok (.land, 1) := by decide +kernel
theorem dL_law_212 : decode cL_law 212 = .ok (.lor, 1) := by decide +kernel
theorem dL_law_213 : decode cL_law 213 = .ok (.aload_n 0, 1) := by decide +kernel
theorem dL_law_214 : decode cL_law 214 = .ok (.iload_n 3, 1) := by decide +kernel
theorem dL_law_215 : decode cL_law 215 = .ok (.iconst 3, 1) := by decide +kernel
theorem dL_law_216 : decode cL_law 216 = .ok (.iadd, 1) := by decide +kernel
theorem dL_law_217 : decode cL_law 217 = .ok (.iaload, 1) := by decide +kernel
theorem dL_law_218 : decode cL_law 218 = .ok (.invokevirtual 15, 3) := by decide +kernel
theorem dL_law_221 : decode cL_law 221 = .ok (.aload_n 2, 1) := by decide +kernel
theorem dL_law_222 : decode cL_law 222 = .ok (.aload_n 0, 1) := by decide +kernel
theorem dL_law_223 : decode cL_law 223 = .ok (.iload_n 3, 1) := by decide +kernel
theorem dL_law_224 : decode cL_law 224 = .ok (.iconst 1, 1) := by decide +kernel
theorem dL_law_225 : decode cL_law 225 = .ok (.iadd, 1) := by decide +kernel
theorem dL_law_226 : decode cL_law 226 = .ok (.iaload, 1) := by decide +kernel
theorem dL_law_227 : decode cL_law 227 = .ok (.i2l, 1) := by decide +kernel
theorem dL_law_228 : decode cL_law 228 = .ok (.bipush 32, 2) := by decide +kernel
theorem dL_law_230 : decode cL_law 230 = .ok (.lshl, 1) := by decide +kernel
theorem dL_law_231 : decode cL_law 231 = .ok (.aload_n 0, 1) := by decide +kernel
theorem dL_law_232 : decode cL_law 232 = .ok (.iload_n 3, 1) := by decide +kernel
theorem dL_law_233 : decode cL_law 233 = .ok (.iconst 2, 1) := by decide +kernel
theorem dL_law_234 : decode cL_law 234 = .ok (.iadd, 1) := by decide +kernel
theorem dL_law_235 : decode cL_law 235 = .ok (.iaload, 1) := by decide +kernel
theorem dL_law_236 : decode cL_law 236 = .ok (.i2l, 1) := by decide +kernel
theorem dL_law_237 : decode cL_law 237 = .ok (.ldc2_w 13, 3) := by decide +kernel
theorem dL_law_240 : decode cL_law 240 = .ok (.land, 1) := by decide +kernel
theorem dL_law_241 : decode cL_law 241 = .ok (.lor, 1) := by decide +kernel
theorem dL_law_242 : decode cL_law 242 = .ok (.aload_n 0, 1) := by decide +kernel
theorem dL_law_243 : decode cL_law 243 = .ok (.iload_n 3, 1) := by decide +kernel
theorem dL_law_244 : decode cL_law 244 = .ok (.iconst 3, 1) := by decide +kernel
theorem dL_law_245 : decode cL_law 245 = .ok (.iadd, 1) := by decide +kernel
theorem dL_law_246 : decode cL_law 246 = .ok (.iaload, 1) := by decide +kernel
theorem dL_law_247 : decode cL_law 247 = .ok (.invokevirtual 19, 3) := by decide +kernel
theorem dL_law_250 : decode cL_law 250 = .ok (.if_icmp .eq 1131, 3) := by decide +kernel
theorem dL_law_253 : decode cL_law 253 = .ok (.iconst 0, 1) := by decide +kernel
theorem dL_law_254 : decode cL_law 254 = .ok (.ireturn, 1) := by decide +kernel
theorem dL_law_255 : decode cL_law 255 = .ok (.aload_n 1, 1) := by decide +kernel
theorem dL_law_256 : decode cL_law 256 = .ok (.aload_n 0, 1) := by decide +kernel
theorem dL_law_257 : decode cL_law 257 = .ok (.iload_n 3, 1) := by decide +kernel
theorem dL_law_258 : decode cL_law 258 = .ok (.iconst 1, 1) := by decide +kernel
theorem dL_law_259 : decode cL_law 259 = .ok (.iadd, 1) := by decide +kernel
theorem dL_law_260 : decode cL_law 260 = .ok (.iaload, 1) := by decide +kernel
theorem dL_law_261 : decode cL_law 261 = .ok (.invokevirtual 20, 3) := by decide +kernel
theorem dL_law_264 : decode cL_law 264 = .ok (.aload_n 2, 1) := by decide +kernel
theorem dL_law_265 : decode cL_law 265 = .ok (.aload_n 0, 1) := by decide +kernel
theorem dL_law_266 : decode cL_law 266 = .ok (.iload_n 3, 1) := by decide +kernel
theorem dL_law_267 : decode cL_law 267 = .ok (.iconst 1, 1) := by decide +kernel
theorem dL_law_268 : decode cL_law 268 = .ok (.iadd, 1) := by decide +kernel
theorem dL_law_269 : decode cL_law 269 = .ok (.iaload, 1) := by decide +kernel
theorem dL_law_270 : decode cL_law 270 = .ok (.invokevirtual 24, 3) := by decide +kernel
theorem dL_law_273 : decode cL_law 273 = .ok (.if_icmp .eq 1108, 3) := by decide +kernel
theorem dL_law_276 : decode cL_law 276 = .ok (.iconst 0, 1) := by decide +kernel
theorem dL_law_277 : decode cL_law 277 = .ok (.ireturn, 1) := by decide +kernel
theorem dL_law_278 : decode cL_law 278 = .ok (.aload_n 1, 1) := by decide +kernel
theorem dL_law_279 : decode cL_law 279 = .ok (.aload_n 0, 1) := by decide +kernel
theorem dL_law_280 : decode cL_law 280 = .ok (.iload_n 3, 1) := by decide +kernel
theorem dL_law_281 : decode cL_law 281 = .ok (.iconst 1, 1) := by decide +kernel
theorem dL_law_282 : decode cL_law 282 = .ok (.iadd, 1) := by decide +kernel
theorem dL_law_283 : decode cL_law 283 = .ok (.iaload, 1) := by decide +kernel
theorem dL_law_284 : decode cL_law 284 = .ok (.invokevirtual 25, 3) := by decide +kernel
theorem dL_law_287 : decode cL_law 287 = .ok (.aload_n 2, 1) := by decide +kernel
theorem dL_law_288 : decode cL_law 288 = .ok (.aload_n 0, 1) := by decide +kernel
theorem dL_law_289 : decode cL_law 289 = .ok (.iload_n 3, 1) := by decide +kernel
theorem dL_law_290 : decode cL_law 290 = .ok (.iconst 1, 1) := by decide +kernel
theorem dL_law_291 : decode cL_law 291 = .ok (.iadd, 1) := by decide +kernel
theorem dL_law_292 : decode cL_law 292 = .ok (.iaload, 1) := by decide +kernel
theorem dL_law_293 : decode cL_law 293 = .ok (.invokevirtual 28, 3) := by decide +kernel
theorem dL_law_296 : decode cL_law 296 = .ok (.if_icmp .eq 1085, 3) := by decide +kernel
theorem dL_law_299 : decode cL_law 299 = .ok (.iconst 0, 1) := by decide +kernel
theorem dL_law_300 : decode cL_law 300 = .ok (.ireturn, 1) := by decide +kernel
theorem dL_law_301 : decode cL_law 301 = .ok (.aload_n 1, 1) := by decide +kernel
theorem dL_law_302 : decode cL_law 302 = .ok (.aload_n 0, 1) := by decide +kernel
theorem dL_law_303 : decode cL_law 303 = .ok (.iload_n 3, 1) := by decide +kernel
theorem dL_law_304 : decode cL_law 304 = .ok (.iconst 1, 1) := by decide +kernel
theorem dL_law_305 : decode cL_law 305 = .ok (.iadd, 1) := by decide +kernel
theorem dL_law_306 : decode cL_law 306 = .ok (.iaload, 1) := by decide +kernel
theorem dL_law_307 : decode cL_law 307 = .ok (.i2l, 1) := by decide +kernel
theorem dL_law_308 : decode cL_law 308 = .ok (.bipush 32, 2) := by decide +kernel
theorem dL_law_310 : decode cL_law 310 = .ok (.lshl, 1) := by decide +kernel
theorem dL_law_311 : decode cL_law 311 = .ok (.aload_n 0, 1) := by decide +kernel
theorem dL_law_312 : decode cL_law 312 = .ok (.iload_n 3, 1) := by decide +kernel
theorem dL_law_313 : decode cL_law 313 = .ok (.iconst 2, 1) := by decide +kernel
theorem dL_law_314 : decode cL_law 314 = .ok (.iadd, 1) := by decide +kernel
theorem dL_law_315 : decode cL_law 315 = .ok (.iaload, 1) := by decide +kernel
theorem dL_law_316 : decode cL_law 316 = .ok (.i2l, 1) := by decide +kernel
theorem dL_law_317 : decode cL_law 317 = .ok (.ldc2_w 13, 3) := by decide +kernel
theorem dL_law_320 : decode cL_law 320 = .ok (.land, 1) := by decide +kernel
theorem dL_law_321 : decode cL_law 321 = .ok (.lor, 1) := by decide +kernel
theorem dL_law_322 : decode cL_law 322 = .ok (.invokevirtual 29, 3) := by decide +kernel
theorem dL_law_325 : decode cL_law 325 = .ok (.aload_n 2, 1) := by decide +kernel
theorem dL_law_326 : decode cL_law 326 = .ok (.aload_n 0, 1) := by decide +kernel
theorem dL_law_327 : decode cL_law 327 = .ok (.iload_n 3, 1) := by decide +kernel
theorem dL_law_328 : decode cL_law 328 = .ok (.iconst 1, 1) := by decide +kernel
theorem dL_law_329 : decode cL_law 329 = .ok (.iadd, 1) := by decide +kernel
theorem dL_law_330 : decode cL_law 330 = .ok (.iaload, 1) := by decide +kernel
theorem dL_law_331 : decode cL_law 331 = .ok (.i2l, 1) := by decide +kernel
theorem dL_law_332 : decode cL_law 332 = .ok (.bipush 32, 2) := by decide +kernel
theorem dL_law_334 : decode cL_law 334 = .ok (.lshl, 1) := by decide +kernel
theorem dL_law_335 : decode cL_law 335 = .ok (.aload_n 0, 1) := by decide +kernel
theorem dL_law_336 : decode cL_law 336 = .ok (.iload_n 3, 1) := by decide +kernel
theorem dL_law_337 : decode cL_law 337 = .ok (.iconst 2, 1) := by decide +kernel
theorem dL_law_338 : decode cL_law 338 = .ok (.iadd, 1) := by decide +kernel
theorem dL_law_339 : decode cL_law 339 = .ok (.iaload, 1) := by decide +kernel
theorem dL_law_340 : decode cL_law 340 = .ok (.i2l, 1) := by decide +kernel
theorem dL_law_341 : decode cL_law 341 = .ok (.ldc2_w 13, 3) := by decide +kernel
theorem dL_law_344 : decode cL_law 344 = .ok (.land, 1) := by decide +kernel
theorem dL_law_345 : decode cL_law 345 = .ok (.lor, 1) := by decide +kernel
theorem dL_law_346 : decode cL_law 346 = .ok (.invokevirtual 33, 3) := by decide +kernel
theorem dL_law_349 : decode cL_law 349 = .ok (.if_icmp .eq 1032, 3) := by decide +kernel
theorem dL_law_352 : decode cL_law 352 = .ok (.iconst 0, 1) := by decide +kernel
theorem dL_law_353 : decode cL_law 353 = .ok (.ireturn, 1) := by decide +kernel
theorem dL_law_354 : decode cL_law 354 = .ok (.aload_n 1, 1) := by decide +kernel
theorem dL_law_355 : decode cL_law 355 = .ok (.aload_n 0, 1) := by decide +kernel
theorem dL_law_356 : decode cL_law 356 = .ok (.iload_n 3, 1) := by decide +kernel
theorem dL_law_357 : decode cL_law 357 = .ok (.iconst 1, 1) := by decide +kernel
theorem dL_law_358 : decode cL_law 358 = .ok (.iadd, 1) := by decide +kernel
theorem dL_law_359 : decode cL_law 359 = .ok (.iaload, 1) := by decide +kernel
theorem dL_law_360 : decode cL_law 360 = .ok (.i2l, 1) := by decide +kernel
theorem dL_law_361 : decode cL_law 361 = .ok (.bipush 32, 2) := by decide +kernel
theorem dL_law_363 : decode cL_law 363 = .ok (.lshl, 1) := by decide +kernel
theorem dL_law_364 : decode cL_law 364 = .ok (.aload_n 0, 1) := by decide +kernel
theorem dL_law_365 : decode cL_law 365 = .ok (.iload_n 3, 1) := by decide +kernel
theorem dL_law_366 : decode cL_law 366 = .ok (.iconst 2, 1) := by decide +kernel
theorem dL_law_367 : decode cL_law 367 = .ok (.iadd, 1) := by decide +kernel
theorem dL_law_368 : decode cL_law 368 = .ok (.iaload, 1) := by decide +kernel
theorem dL_law_369 : decode cL_law 369 = .ok (.i2l, 1) := by decide +kernel
theorem dL_law_370 : decode cL_law 370 = .ok (.ldc2_w 13, 3) := by decide +kernel
theorem dL_law_373 : decode cL_law 373 = .ok (.land, 1) := by decide +kernel
theorem dL_law_374 : decode cL_law 374 = .ok (.lor, 1) := by decide +kernel
theorem dL_law_375 : decode cL_law 375 = .ok (.invokevirtual 34, 3) := by decide +kernel
theorem dL_law_378 : decode cL_law 378 = .ok (.aload_n 2, 1) := by decide +kernel
theorem dL_law_379 : decode cL_law 379 = .ok (.aload_n 0, 1) := by decide +kernel
theorem dL_law_380 : decode cL_law 380 = .ok (.iload_n 3, 1) := by decide +kernel
theorem dL_law_381 : decode cL_law 381 = .ok (.iconst 1, 1) := by decide +kernel
theorem dL_law_382 : decode cL_law 382 = .ok (.iadd, 1) := by decide +kernel
theorem dL_law_383 : decode cL_law 383 = .ok (.iaload, 1) := by decide +kernel
theorem dL_law_384 : decode cL_law 384 = .ok (.i2l, 1) := by decide +kernel
theorem dL_law_385 : decode cL_law 385 = .ok (.bipush 32, 2) := by decide +kernel
theorem dL_law_387 : decode cL_law 387 = .ok (.lshl, 1) := by decide +kernel
theorem dL_law_388 : decode cL_law 388 = .ok (.aload_n 0, 1) := by decide +kernel
theorem dL_law_389 : decode cL_law 389 = .ok (.iload_n 3, 1) := by decide +kernel
theorem dL_law_390 : decode cL_law 390 = .ok (.iconst 2, 1) := by decide +kernel
theorem dL_law_391 : decode cL_law 391 = .ok (.iadd, 1) := by decide +kernel
theorem dL_law_392 : decode cL_law 392 = .ok (.iaload, 1) := by decide +kernel
theorem dL_law_393 : decode cL_law 393 = .ok (.i2l, 1) := by decide +kernel
theorem dL_law_394 : decode cL_law 394 = .ok (.ldc2_w 13, 3) := by decide +kernel
theorem dL_law_397 : decode cL_law 397 = .ok (.land, 1) := by decide +kernel
theorem dL_law_398 : decode cL_law 398 = .ok (.lor, 1) := by decide +kernel
theorem dL_law_399 : decode cL_law 399 = .ok (.invokevirtual 37, 3) := by decide +kernel
theorem dL_law_402 : decode cL_law 402 = .ok (.if_icmp .eq 979, 3) := by decide +kernel
theorem dL_law_405 : decode cL_law 405 = .ok (.iconst 0, 1) := by decide +kernel
theorem dL_law_406 : decode cL_law 406 = .ok (.ireturn, 1) := by decide +kernel
theorem dL_law_407 : decode cL_law 407 = .ok (.aload_n 1, 1) := by decide +kernel
theorem dL_law_408 : decode cL_law 408 = .ok (.aload_n 0, 1) := by decide +kernel
theorem dL_law_409 : decode cL_law 409 = .ok (.iload_n 3, 1) := by decide +kernel
theorem dL_law_410 : decode cL_law 410 = .ok (.iconst 1, 1) := by decide +kernel
theorem dL_law_411 : decode cL_law 411 = .ok (.iadd, 1) := by decide +kernel
theorem dL_law_412 : decode cL_law 412 = .ok (.iaload, 1) := by decide +kernel
theorem dL_law_413 : decode cL_law 413 = .ok (.i2l, 1) := by decide +kernel
theorem dL_law_414 : decode cL_law 414 = .ok (.bipush 32, 2) := by decide +kernel
theorem dL_law_416 : decode cL_law 416 = .ok (.lshl, 1) := by decide +kernel
theorem dL_law_417 : decode cL_law 417 = .ok (.aload_n 0, 1) := by decide +kernel
theorem dL_law_418 : decode cL_law 418 = .ok (.iload_n 3, 1) := by decide +kernel
theorem dL_law_419 : decode cL_law 419 = .ok (.iconst 2, 1) := by decide +kernel
theorem dL_law_420 : decode cL_law 420 = .ok (.iadd, 1) := by decide +kernel
theorem dL_law_421 : decode cL_law 421 = .ok (.iaload, 1) := by decide +kernel
theorem dL_law_422 : decode cL_law 422 = .ok (.i2l, 1) := by decide +kernel
theorem dL_law_423 : decode cL_law 423 = .ok (.ldc2_w 13, 3) := by decide +kernel
theorem dL_law_426 : decode cL_law 426 = .ok (.land, 1) := by decide +kernel
theorem dL_law_427 : decode cL_law 427 = .ok (.lor, 1) := by decide +kernel
theorem dL_law_428 : decode cL_law 428 = .ok (.aload_n 0, 1) := by decide +kernel
theorem dL_law_429 : decode cL_law 429 = .ok (.iload_n 3, 1) := by decide +kernel
theorem dL_law_430 : decode cL_law 430 = .ok (.iconst 3, 1) := by decide +kernel
theorem dL_law_431 : decode cL_law 431 = .ok (.iadd, 1) := by decide +kernel
theorem dL_law_432 : decode cL_law 432 = .ok (.iaload, 1) := by decide +kernel
theorem dL_law_433 : decode cL_law 433 = .ok (.invokevirtual 38, 3) := by decide +kernel
theorem dL_law_436 : decode cL_law 436 = .ok (.aload_n 2, 1) := by decide +kernel
theorem dL_law_437 : decode cL_law 437 = .ok (.aload_n 0, 1) := by decide +kernel
theorem dL_law_438 : decode cL_law 438 = .ok (.iload_n 3, 1) := by decide +kernel
theorem dL_law_439 : decode cL_law 439 = .ok (.iconst 1, 1) := by decide +kernel
theorem dL_law_440 : decode cL_law 440 = .ok (.iadd, 1) := by decide +kernel
theorem dL_law_441 : decode cL_law 441 = .ok (.iaload, 1) := by decide +kernel
theorem dL_law_442 : decode cL_law 442 = .ok (.i2l, 1) := by decide +kernel
theorem dL_law_443 : decode cL_law 443 = .ok (.bipush 32, 2) := by decide +kernel
theorem dL_law_445 : decode cL_law 445 = .ok (.lshl, 1) := by decide +kernel
theorem dL_law_446 : decode cL_law 446 = .ok (.aload_n 0, 1) := by decide +kernel
theorem dL_law_447 : decode cL_law 447 = .ok (.iload_n 3, 1) := by decide +kernel
theorem dL_law_448 : decode cL_law 448 = .ok (.iconst 2, 1) := by decide +kernel
theorem dL_law_449 : decode cL_law 449 = .ok (.iadd, 1) := by decide +kernel
theorem dL_law_450 : decode cL_law 450 = .ok (.iaload, 1) := by decide +kernel
theorem dL_law_451 : decode cL_law 451 = .ok (.i2l, 1) := by decide +kernel
theorem dL_law_452 : decode cL_law 452 = .ok (.ldc2_w 13, 3) := by decide +kernel
theorem dL_law_455 : decode cL_law 455 = .ok (.land, 1) := by decide +kernel
theorem dL_law_456 : decode cL_law 456 = .ok (.lor, 1) := by decide +kernel
theorem dL_law_457 : decode cL_law 457 = .ok (.aload_n 0, 1) := by decide +kernel
theorem dL_law_458 : decode cL_law 458 = .ok (.iload_n 3, 1) := by decide +kernel
theorem dL_law_459 : decode cL_law 459 = .ok (.iconst 3, 1) := by decide +kernel
theorem dL_law_460 : decode cL_law 460 = .ok (.iadd, 1) := by decide +kernel
theorem dL_law_461 : decode cL_law 461 = .ok (.iaload, 1) := by decide +kernel
theorem dL_law_462 : decode cL_law 462 = .ok (.invokevirtual 41, 3) := by decide +kernel
theorem dL_law_465 : decode cL_law 465 = .ok (.if_icmp .eq 916, 3) := by decide +kernel
theorem dL_law_468 : decode cL_law 468 = .ok (.iconst 0, 1) := by decide +kernel
theorem dL_law_469 : decode cL_law 469 = .ok (.ireturn, 1) := by decide +kernel
theorem dL_law_470 : decode cL_law 470 = .ok (.aload_n 1, 1) := by decide +kernel
theorem dL_law_471 : decode cL_law 471 = .ok (.aload_n 0, 1) := by decide +kernel
theorem dL_law_472 : decode cL_law 472 = .ok (.iload_n 3, 1) := by decide +kernel
theorem dL_law_473 : decode cL_law 473 = .ok (.iconst 1, 1) := by decide +kernel
theorem dL_law_474 : decode cL_law 474 = .ok (.iadd, 1) := by decide +kernel
theorem dL_law_475 : decode cL_law 475 = .ok (.iaload, 1) := by decide +kernel
theorem dL_law_476 : decode cL_law 476 = .ok (.i2l, 1) := by decide +kernel
theorem dL_law_477 : decode cL_law 477 = .ok (.bipush 32, 2) := by decide +kernel
theorem dL_law_479 : decode cL_law 479 = .ok (.lshl, 1) := by decide +kernel
theorem dL_law_480 : decode cL_law 480 = .ok (.aload_n 0, 1) := by decide +kernel
theorem dL_law_481 : decode cL_law 481 = .ok (.iload_n 3, 1) := by decide +kernel
theorem dL_law_482 : decode cL_law 482 = .ok (.iconst 2, 1) := by decide +kernel
theorem dL_law_483 : decode cL_law 483 = .ok (.iadd, 1) := by decide +kernel
theorem dL_law_484 : decode cL_law 484 = .ok (.iaload, 1) := by decide +kernel
theorem dL_law_485 : decode cL_law 485 = .ok (.i2l, 1) := by decide +kernel
theorem dL_law_486 : decode cL_law 486 = .ok (.ldc2_w 13, 3) := by decide +kernel
theorem dL_law_489 : decode cL_law 489 = .ok (.land, 1) := by decide +kernel
theorem dL_law_490 : decode cL_law 490 = .ok (.lor, 1) := by decide +kernel
theorem dL_law_491 : decode cL_law 491 = .ok (.invokevirtual 42, 3) := by decide +kernel
theorem dL_law_494 : decode cL_law 494 = .ok (.aload_n 2, 1) := by decide +kernel
theorem dL_law_495 : decode cL_law 495 = .ok (.aload_n 0, 1) := by decide +kernel
theorem dL_law_496 : decode cL_law 496 = .ok (.iload_n 3, 1) := by decide +kernel
theorem dL_law_497 : decode cL_law 497 = .ok (.iconst 1, 1) := by decide +kernel
theorem dL_law_498 : decode cL_law 498 = .ok (.iadd, 1) := by decide +kernel
theorem dL_law_499 : decode cL_law 499 = .ok (.iaload, 1) := by decide +kernel
theorem dL_law_500 : decode cL_law 500 = .ok (.i2l, 1) := by decide +kernel
theorem dL_law_501 : decode cL_law 501 = .ok (.bipush 32, 2) := by decide +kernel
theorem dL_law_503 : decode cL_law 503 = .ok (.lshl, 1) := by decide +kernel
theorem dL_law_504 : decode cL_law 504 = .ok (.aload_n 0, 1) := by decide +kernel
theorem dL_law_505 : decode cL_law 505 = .ok (.iload_n 3, 1) := by decide +kernel
theorem dL_law_506 : decode cL_law 506 = .ok (.iconst 2, 1) := by decide +kernel
theorem dL_law_507 : decode cL_law 507 = .ok (.iadd, 1) := by decide +kernel
theorem dL_law_508 : decode cL_law 508 = .ok (.iaload, 1) := by decide +kernel
theorem dL_law_509 : decode cL_law 509 = .ok (.i2l, 1) := by decide +kernel
theorem dL_law_510 : decode cL_law 510 = .ok (.ldc2_w 13, 3) := by decide +kernel
theorem dL_law_513 : decode cL_law 513 = .ok (.land, 1) := by decide +kernel
theorem dL_law_514 : decode cL_law 514 = .ok (.lor, 1) := by decide +kernel
theorem dL_law_515 : decode cL_law 515 = .ok (.invokevirtual 45, 3) := by decide +kernel
theorem dL_law_518 : decode cL_law 518 = .ok (.if_icmp .eq 863, 3) := by decide +kernel
theorem dL_law_521 : decode cL_law 521 = .ok (.iconst 0, 1) := by decide +kernel
theorem dL_law_522 : decode cL_law 522 = .ok (.ireturn, 1) := by decide +kernel
theorem dL_law_523 : decode cL_law 523 = .ok (.aload_n 1, 1) := by decide +kernel
theorem dL_law_524 : decode cL_law 524 = .ok (.aload_n 0, 1) := by decide +kernel
theorem dL_law_525 : decode cL_law 525 = .ok (.iload_n 3, 1) := by decide +kernel
theorem dL_law_526 : decode cL_law 526 = .ok (.iconst 1, 1) := by decide +kernel
theorem dL_law_527 : decode cL_law 527 = .ok (.iadd, 1) := by decide +kernel
theorem dL_law_528 : decode cL_law 528 = .ok (.iaload, 1) := by decide +kernel
theorem dL_law_529 : decode cL_law 529 = .ok (.i2l, 1) := by decide +kernel
theorem dL_law_530 : decode cL_law 530 = .ok (.bipush 32, 2) := by decide +kernel
theorem dL_law_532 : decode cL_law 532 = .ok (.lshl, 1) := by decide +kernel
theorem dL_law_533 : decode cL_law 533 = .ok (.aload_n 0, 1) := by decide +kernel
theorem dL_law_534 : decode cL_law 534 = .ok (.iload_n 3, 1) := by decide +kernel
theorem dL_law_535 : decode cL_law 535 = .ok (.iconst 2, 1) := by decide +kernel
theorem dL_law_536 : decode cL_law 536 = .ok (.iadd, 1) := by decide +kernel
theorem dL_law_537 : decode cL_law 537 = .ok (.iaload, 1) := by decide +kernel
theorem dL_law_538 : decode cL_law 538 = .ok (.i2l, 1) := by decide +kernel
theorem dL_law_539 : decode cL_law 539 = .ok (.ldc2_w 13, 3) := by decide +kernel
theorem dL_law_542 : decode cL_law 542 = .ok (.land, 1) := by decide +kernel
theorem dL_law_543 : decode cL_law 543 = .ok (.lor, 1) := by decide +kernel
theorem dL_law_544 : decode cL_law 544 = .ok (.aload_n 0, 1) := by decide +kernel
theorem dL_law_545 : decode cL_law 545 = .ok (.iload_n 3, 1) := by decide +kernel
theorem dL_law_546 : decode cL_law 546 = .ok (.iconst 3, 1) := by decide +kernel
theorem dL_law_547 : decode cL_law 547 = .ok (.iadd, 1) := by decide +kernel
theorem dL_law_548 : decode cL_law 548 = .ok (.iaload, 1) := by decide +kernel
theorem dL_law_549 : decode cL_law 549 = .ok (.i2l, 1) := by decide +kernel
theorem dL_law_550 : decode cL_law 550 = .ok (.bipush 32, 2) := by decide +kernel
theorem dL_law_552 : decode cL_law 552 = .ok (.lshl, 1) := by decide +kernel
theorem dL_law_553 : decode cL_law 553 = .ok (.aload_n 0, 1) := by decide +kernel
theorem dL_law_554 : decode cL_law 554 = .ok (.iload_n 3, 1) := by decide +kernel
theorem dL_law_555 : decode cL_law 555 = .ok (.iconst 4, 1) := by decide +kernel
theorem dL_law_556 : decode cL_law 556 = .ok (.iadd, 1) := by decide +kernel
theorem dL_law_557 : decode cL_law 557 = .ok (.iaload, 1) := by decide +kernel
theorem dL_law_558 : decode cL_law 558 = .ok (.i2l, 1) := by decide +kernel
theorem dL_law_559 : decode cL_law 559 = .ok (.ldc2_w 13, 3) := by decide +kernel
theorem dL_law_562 : decode cL_law 562 = .ok (.land, 1) := by decide +kernel
theorem dL_law_563 : decode cL_law 563 = .ok (.lor, 1) := by decide +kernel
theorem dL_law_564 : decode cL_law 564 = .ok (.invokevirtual 46, 3) := by decide +kernel
theorem dL_law_567 : decode cL_law 567 = .ok (.aload_n 2, 1) := by decide +kernel
theorem dL_law_568 : decode cL_law 568 = .ok (.aload_n 0, 1) := by decide +kernel
theorem dL_law_569 : decode cL_law 569 = .ok (.iload_n 3, 1) := by decide +kernel
theorem dL_law_570 : decode cL_law 570 = .ok (.iconst 1, 1) := by decide +kernel
theorem dL_law_571 : decode cL_law 571 = .ok (.iadd, 1) := by decide +kernel
theorem dL_law_572 : decode cL_law 572 = .ok (.iaload, 1) := by decide +kernel
theorem dL_law_573 : decode cL_law 573 = .ok (.i2l, 1) := by decide +kernel
theorem dL_law_574 : decode cL_law 574 = .ok (.bipush 32, 2) := by decide +kernel
theorem dL_law_576 : decode cL_law 576 = .ok (.lshl, 1) := by decide +kernel
theorem dL_law_577 : decode cL_law 577 = .ok (.aload_n 0, 1) := by decide +kernel
theorem dL_law_578 : decode cL_law 578 = .ok (.iload_n 3, 1) := by decide +kernel
theorem dL_law_579 : decode cL_law 579 = .ok (.iconst 2, 1) := by decide +kernel
theorem dL_law_580 : decode cL_law 580 = .ok (.iadd, 1) := by decide +kernel
theorem dL_law_581 : decode cL_law 581 = .ok (.iaload, 1) := by decide +kernel
theorem dL_law_582 : decode cL_law 582 = .ok (.i2l, 1) := by decide +kernel
theorem dL_law_583 : decode cL_law 583 = .ok (.ldc2_w 13, 3) := by decide +kernel
theorem dL_law_586 : decode cL_law 586 = .ok (.land, 1) := by decide +kernel
theorem dL_law_587 : decode cL_law 587 = .ok (.lor, 1) := by decide +kernel
theorem dL_law_588 : decode cL_law 588 = .ok (.aload_n 0, 1) := by decide +kernel
theorem dL_law_589 : decode cL_law 589 = .ok (.iload_n 3, 1) := by decide +kernel
theorem dL_law_590 : decode cL_law 590 = .ok (.iconst 3, 1) := by decide +kernel
theorem dL_law_591 : decode cL_law 591 = .ok (.iadd, 1) := by decide +kernel
theorem dL_law_592 : decode cL_law 592 = .ok (.iaload, 1) := by decide +kernel
theorem dL_law_593 : decode cL_law 593 = .ok (.i2l, 1) := by decide +kernel
theorem dL_law_594 : decode cL_law 594 = .ok (.bipush 32, 2) := by decide +kernel
theorem dL_law_596 : decode cL_law 596 = .ok (.lshl, 1) := by decide +kernel
theorem dL_law_597 : decode cL_law 597 = .ok (.aload_n 0, 1) := by decide +kernel
theorem dL_law_598 : decode cL_law 598 = .ok (.iload_n 3, 1) := by decide +kernel
theorem dL_law_599 : decode cL_law 599 = .ok (.iconst 4, 1) := by decide +kernel
theorem dL_law_600 : decode cL_law 600 = .ok (.iadd, 1) := by decide +kernel
theorem dL_law_601 : decode cL_law 601 = .ok (.iaload, 1) := by decide +kernel
theorem dL_law_602 : decode cL_law 602 = .ok (.i2l, 1) := by decide +kernel
theorem dL_law_603 : decode cL_law 603 = .ok (.ldc2_w 13, 3) := by decide +kernel
theorem dL_law_606 : decode cL_law 606 = .ok (.land, 1) := by decide +kernel
theorem dL_law_607 : decode cL_law 607 = .ok (.lor, 1) := by decide +kernel
theorem dL_law_608 : decode cL_law 608 = .ok (.invokevirtual 50, 3) := by decide +kernel
theorem dL_law_611 : decode cL_law 611 = .ok (.if_icmp .eq 770, 3) := by decide +kernel
theorem dL_law_614 : decode cL_law 614 = .ok (.iconst 0, 1) := by decide +kernel
theorem dL_law_615 : decode cL_law 615 = .ok (.ireturn, 1) := by decide +kernel
theorem dL_law_616 : decode cL_law 616 = .ok (.aload_n 1, 1) := by decide +kernel
theorem dL_law_617 : decode cL_law 617 = .ok (.aload_n 0, 1) := by decide +kernel
theorem dL_law_618 : decode cL_law 618 = .ok (.iload_n 3, 1) := by decide +kernel
theorem dL_law_619 : decode cL_law 619 = .ok (.iconst 1, 1) := by decide +kernel
theorem dL_law_620 : decode cL_law 620 = .ok (.iadd, 1) := by decide +kernel
theorem dL_law_621 : decode cL_law 621 = .ok (.iaload, 1) := by decide +kernel
theorem dL_law_622 : decode cL_law 622 = .ok (.i2l, 1) := by decide +kernel
theorem dL_law_623 : decode cL_law 623 = .ok (.bipush 32, 2) := by decide +kernel
theorem dL_law_625 : decode cL_law 625 = .ok (.lshl, 1) := by decide +kernel
theorem dL_law_626 : decode cL_law 626 = .ok (.aload_n 0, 1) := by decide +kernel
theorem dL_law_627 : decode cL_law 627 = .ok (.iload_n 3, 1) := by decide +kernel
theorem dL_law_628 : decode cL_law 628 = .ok (.iconst 2, 1) := by decide +kernel
theorem dL_law_629 : decode cL_law 629 = .ok (.iadd, 1) := by decide +kernel
theorem dL_law_630 : decode cL_law 630 = .ok (.iaload, 1) := by decide +kernel
theorem dL_law_631 : decode cL_law 631 = .ok (.i2l, 1) := by decide +kernel
theorem dL_law_632 : decode cL_law 632 = .ok (.ldc2_w 13, 3) := by decide +kernel
theorem dL_law_635 : decode cL_law 635 = .ok (.land, 1) := by decide +kernel
theorem dL_law_636 : decode cL_law 636 = .ok (.lor, 1) := by decide +kernel
theorem dL_law_637 : decode cL_law 637 = .ok (.invokevirtual 51, 3) := by decide +kernel
theorem dL_law_640 : decode cL_law 640 = .ok (.aload_n 2, 1) := by decide +kernel
theorem dL_law_641 : decode cL_law 641 = .ok (.aload_n 0, 1) := by decide +kernel
theorem dL_law_642 : decode cL_law 642 = .ok (.iload_n 3, 1) := by decide +kernel
theorem dL_law_643 : decode cL_law 643 = .ok (.iconst 1, 1) := by decide +kernel
theorem dL_law_644 : decode cL_law 644 = .ok (.iadd, 1) := by decide +kernel
theorem dL_law_645 : decode cL_law 645 = .ok (.iaload, 1) := by decide +kernel
theorem dL_law_646 : decode cL_law 646 = .ok (.i2l, 1) := by decide +kernel
theorem dL_law_647 : decode cL_law 647 = .ok (.bipush 32, 2) := by decide +kernel
theorem dL_law_649 : decode cL_law 649 = .ok (.lshl, 1) := by decide +kernel
theorem dL_law_650 : decode cL_law 650 = .ok (.aload_n 0, 1) := by decide +kernel
theorem dL_law_651 : decode cL_law 651 = .ok (.iload_n 3, 1) := by decide +kernel
theorem dL_law_652 : decode cL_law 652 = .ok (.iconst 2, 1) := by decide +kernel
theorem dL_law_653 : decode cL_law 653 = .ok (.iadd, 1) := by decide +kernel
theorem dL_law_654 : decode cL_law 654 = .ok (.iaload, 1) := by decide +kernel
theorem dL_law_655 : decode cL_law 655 = .ok (.i2l, 1) := by decide +kernel
theorem dL_law_656 : decode cL_law 656 = .ok (.ldc2_w 13, 3) := by decide +kernel
theorem dL_law_659 : decode cL_law 659 = .ok (.land, 1) := by decide +kernel
theorem dL_law_660 : decode cL_law 660 = .ok (.lor, 1) := by decide +kernel
theorem dL_law_661 : decode cL_law 661 = .ok (.invokevirtual 54, 3) := by decide +kernel
theorem dL_law_664 : decode cL_law 664 = .ok (.if_icmp .eq 717, 3) := by decide +kernel
theorem dL_law_667 : decode cL_law 667 = .ok (.iconst 0, 1) := by decide +kernel
theorem dL_law_668 : decode cL_law 668 = .ok (.ireturn, 1) := by decide +kernel
theorem dL_law_669 : decode cL_law 669 = .ok (.aload_n 1, 1) := by decide +kernel
theorem dL_law_670 : decode cL_law 670 = .ok (.aload_n 0, 1) := by decide +kernel
theorem dL_law_671 : decode cL_law 671 = .ok (.iload_n 3, 1) := by decide +kernel
theorem dL_law_672 : decode cL_law 672 = .ok (.iconst 1, 1) := by decide +kernel
theorem dL_law_673 : decode cL_law 673 = .ok (.iadd, 1) := by decide +kernel
theorem dL_law_674 : decode cL_law 674 = .ok (.iaload, 1) := by decide +kernel
theorem dL_law_675 : decode cL_law 675 = .ok (.i2l, 1) := by decide +kernel
theorem dL_law_676 : decode cL_law 676 = .ok (.bipush 32, 2) := by decide +kernel
theorem dL_law_678 : decode cL_law 678 = .ok (.lshl, 1) := by decide +kernel
theorem dL_law_679 : decode cL_law 679 = .ok (.aload_n 0, 1) := by decide +kernel
theorem dL_law_680 : decode cL_law 680 = .ok (.iload_n 3, 1) := by decide +kernel
theorem dL_law_681 : decode cL_law 681 = .ok (.iconst 2, 1) := by decide +kernel
theorem dL_law_682 : decode cL_law 682 = .ok (.iadd, 1) := by decide +kernel
theorem dL_law_683 : decode cL_law 683 = .ok (.iaload, 1) := by decide +kernel
theorem dL_law_684 : decode cL_law 684 = .ok (.i2l, 1) := by decide +kernel
theorem dL_law_685 : decode cL_law 685 = .ok (.ldc2_w 13, 3) := by decide +kernel
theorem dL_law_688 : decode cL_law 688 = .ok (.land, 1) := by decide +kernel
theorem dL_law_689 : decode cL_law 689 = .ok (.lor, 1) := by decide +kernel
theorem dL_law_690 : decode cL_law 690 = .ok (.invokevirtual 55, 3) := by decide +kernel
theorem dL_law_693 : decode cL_law 693 = .ok (.aload_n 2, 1) := by decide +kernel
theorem dL_law_694 : decode cL_law 694 = .ok (.aload_n 0, 1) := by decide +kernel
theorem dL_law_695 : decode cL_law 695 = .ok (.iload_n 3, 1) := by decide +kernel
theorem dL_law_696 : decode cL_law 696 = .ok (.iconst 1, 1) := by decide +kernel
theorem dL_law_697 : decode cL_law 697 = .ok (.iadd, 1) := by decide +kernel
theorem dL_law_698 : decode cL_law 698 = .ok (.iaload, 1) := by decide +kernel
theorem dL_law_699 : decode cL_law 699 = .ok (.i2l, 1) := by decide +kernel
theorem dL_law_700 : decode cL_law 700 = .ok (.bipush 32, 2) := by decide +kernel
theorem dL_law_702 : decode cL_law 702 = .ok (.lshl, 1) := by decide +kernel
theorem dL_law_703 : decode cL_law 703 = .ok (.aload_n 0, 1) := by decide +kernel
theorem dL_law_704 : decode cL_law 704 = .ok (.iload_n 3, 1) := by decide +kernel
theorem dL_law_705 : decode cL_law 705 = .ok (.iconst 2, 1) := by decide +kernel
theorem dL_law_706 : decode cL_law 706 = .ok (.iadd, 1) := by decide +kernel
theorem dL_law_707 : decode cL_law 707 = .ok (.iaload, 1) := by decide +kernel
theorem dL_law_708 : decode cL_law 708 = .ok (.i2l, 1) := by decide +kernel
theorem dL_law_709 : decode cL_law 709 = .ok (.ldc2_w 13, 3) := by decide +kernel
theorem dL_law_712 : decode cL_law 712 = .ok (.land, 1) := by decide +kernel
theorem dL_law_713 : decode cL_law 713 = .ok (.lor, 1) := by decide +kernel
theorem dL_law_714 : decode cL_law 714 = .ok (.invokevirtual 58, 3) := by decide +kernel
theorem dL_law_717 : decode cL_law 717 = .ok (.if_icmp .eq 664, 3) := by decide +kernel
theorem dL_law_720 : decode cL_law 720 = .ok (.iconst 0, 1) := by decide +kernel
theorem dL_law_721 : decode cL_law 721 = .ok (.ireturn, 1) := by decide +kernel
theorem dL_law_722 : decode cL_law 722 = .ok (.aload_n 1, 1) := by decide +kernel
theorem dL_law_723 : decode cL_law 723 = .ok (.aload_n 0, 1) := by decide +kernel
theorem dL_law_724 : decode cL_law 724 = .ok (.iload_n 3, 1) := by decide +kernel
theorem dL_law_725 : decode cL_law 725 = .ok (.iconst 1, 1) := by decide +kernel
theorem dL_law_726 : decode cL_law 726 = .ok (.iadd, 1) := by decide +kernel
theorem dL_law_727 : decode cL_law 727 = .ok (.iaload, 1) := by decide +kernel
theorem dL_law_728 : decode cL_law 728 = .ok (.i2l, 1) := by decide +kernel
theorem dL_law_729 : decode cL_law 729 = .ok (.bipush 32, 2) := by decide +kernel
theorem dL_law_731 : decode cL_law 731 = .ok (.lshl, 1) := by decide +kernel
theorem dL_law_732 : decode cL_law 732 = .ok (.aload_n 0, 1) := by decide +kernel
theorem dL_law_733 : decode cL_law 733 = .ok (.iload_n 3, 1) := by decide +kernel
theorem dL_law_734 : decode cL_law 734 = .ok (.iconst 2, 1) := by decide +kernel
theorem dL_law_735 : decode cL_law 735 = .ok (.iadd, 1) := by decide +kernel
theorem dL_law_736 : decode cL_law 736 = .ok (.iaload, 1) := by decide +kernel
theorem dL_law_737 : decode cL_law 737 = .ok (.i2l, 1) := by decide +kernel
theorem dL_law_738 : decode cL_law 738 = .ok (.ldc2_w 13, 3) := by decide +kernel
theorem dL_law_741 : decode cL_law 741 = .ok (.land, 1) := by decide +kernel
theorem dL_law_742 : decode cL_law 742 = .ok (.lor, 1) := by decide +kernel
theorem dL_law_743 : decode cL_law 743 = .ok (.invokevirtual 59, 3) := by decide +kernel
theorem dL_law_746 : decode cL_law 746 = .ok (.aload_n 2, 1) := by decide +kernel
theorem dL_law_747 : decode cL_law 747 = .ok (.aload_n 0, 1) := by decide +kernel
theorem dL_law_748 : decode cL_law 748 = .ok (.iload_n 3, 1) := by decide +kernel
theorem dL_law_749 : decode cL_law 749 = .ok (.iconst 1, 1) := by decide +kernel
theorem dL_law_750 : decode cL_law 750 = .ok (.iadd, 1) := by decide +kernel
theorem dL_law_751 : decode cL_law 751 = .ok (.iaload, 1) := by decide +kernel
theorem dL_law_752 : decode cL_law 752 = .ok (.i2l, 1) := by decide +kernel
theorem dL_law_753 : decode cL_law 753 = .ok (.bipush 32, 2) := by decide +kernel
theorem dL_law_755 : decode cL_law 755 = .ok (.lshl, 1) := by decide +kernel
theorem dL_law_756 : decode cL_law 756 = .ok (.aload_n 0, 1) := by decide +kernel
theorem dL_law_757 : decode cL_law 757 = .ok (.iload_n 3, 1) := by decide +kernel
theorem dL_law_758 : decode cL_law 758 = .ok (.iconst 2, 1) := by decide +kernel
theorem dL_law_759 : decode cL_law 759 = .ok (.iadd, 1) := by decide +kernel
theorem dL_law_760 : decode cL_law 760 = .ok (.iaload, 1) := by decide +kernel
theorem dL_law_761 : decode cL_law 761 = .ok (.i2l, 1) := by decide +kernel
theorem dL_law_762 : decode cL_law 762 = .ok (.ldc2_w 13, 3) := by decide +kernel
theorem dL_law_765 : decode cL_law 765 = .ok (.land, 1) := by decide +kernel
theorem dL_law_766 : decode cL_law 766 = .ok (.lor, 1) := by decide +kernel
theorem dL_law_767 : decode cL_law 767 = .ok (.invokevirtual 62, 3) := by decide +kernel
theorem dL_law_770 : decode cL_law 770 = .ok (.if_icmp .eq 611, 3) := by decide +kernel
theorem dL_law_773 : decode cL_law 773 = .ok (.iconst 0, 1) := by decide +kernel
theorem dL_law_774 : decode cL_law 774 = .ok (.ireturn, 1) := by decide +kernel
theorem dL_law_775 : decode cL_law 775 = .ok (.aload_n 1, 1) := by decide +kernel
theorem dL_law_776 : decode cL_law 776 = .ok (.aload_n 0, 1) := by decide +kernel
theorem dL_law_777 : decode cL_law 777 = .ok (.iload_n 3, 1) := by decide +kernel
theorem dL_law_778 : decode cL_law 778 = .ok (.iconst 1, 1) := by decide +kernel
theorem dL_law_779 : decode cL_law 779 = .ok (.iadd, 1) := by decide +kernel
theorem dL_law_780 : decode cL_law 780 = .ok (.iaload, 1) := by decide +kernel
theorem dL_law_781 : decode cL_law 781 = .ok (.i2l, 1) := by decide +kernel
theorem dL_law_782 : decode cL_law 782 = .ok (.bipush 32, 2) := by decide +kernel
theorem dL_law_784 : decode cL_law 784 = .ok (.lshl, 1) := by decide +kernel
theorem dL_law_785 : decode cL_law 785 = .ok (.aload_n 0, 1) := by decide +kernel
theorem dL_law_786 : decode cL_law 786 = .ok (.iload_n 3, 1) := by decide +kernel
theorem dL_law_787 : decode cL_law 787 = .ok (.iconst 2, 1) := by decide +kernel
theorem dL_law_788 : decode cL_law 788 = .ok (.iadd, 1) := by decide +kernel
theorem dL_law_789 : decode cL_law 789 = .ok (.iaload, 1) := by decide +kernel
theorem dL_law_790 : decode cL_law 790 = .ok (.i2l, 1) := by decide +kernel
theorem dL_law_791 : decode cL_law 791 = .ok (.ldc2_w 13, 3) := by decide +kernel
theorem dL_law_794 : decode cL_law 794 = .ok (.land, 1) := by decide +kernel
theorem dL_law_795 : decode cL_law 795 = .ok (.lor, 1) := by decide +kernel
theorem dL_law_796 : decode cL_law 796 = .ok (.invokevirtual 63, 3) := by decide +kernel
theorem dL_law_799 : decode cL_law 799 = .ok (.aload_n 2, 1) := by decide +kernel
theorem dL_law_800 : decode cL_law 800 = .ok (.aload_n 0, 1) := by decide +kernel
theorem dL_law_801 : decode cL_law 801 = .ok (.iload_n 3, 1) := by decide +kernel
theorem dL_law_802 : decode cL_law 802 = .ok (.iconst 1, 1) := by decide +kernel
theorem dL_law_803 : decode cL_law 803 = .ok (.iadd, 1) := by decide +kernel
theorem dL_law_804 : decode cL_law 804 = .ok (.iaload, 1) := by decide +kernel
theorem dL_law_805 : decode cL_law 805 = .ok (.i2l, 1) := by decide +kernel
theorem dL_law_806 : decode cL_law 806 = .ok (.bipush 32, 2) := by decide +kernel
theorem dL_law_808 : decode cL_law 808 = .ok (.lshl, 1) := by decide +kernel
theorem dL_law_809 : decode cL_law 809 = .ok (.aload_n 0, 1) := by decide +kernel
theorem dL_law_810 : decode cL_law 810 = .ok (.iload_n 3, 1) := by decide +kernel
theorem dL_law_811 : decode cL_law 811 = .ok (.iconst 2, 1) := by decide +kernel
theorem dL_law_812 : decode cL_law 812 = .ok (.iadd, 1) := by decide +kernel
theorem dL_law_813 : decode cL_law 813 = .ok (.iaload, 1) := by decide +kernel
theorem dL_law_814 : decode cL_law 814 = .ok (.i2l, 1) := by decide +kernel
theorem dL_law_815 : decode cL_law 815 = .ok (.ldc2_w 13, 3) := by decide +kernel
theorem dL_law_818 : decode cL_law 818 = .ok (.land, 1) := by decide +kernel
theorem dL_law_819 : decode cL_law 819 = .ok (.lor, 1) := by decide +kernel
theorem dL_law_820 : decode cL_law 820 = .ok (.invokevirtual 66, 3) := by decide +kernel
theorem dL_law_823 : decode cL_law 823 = .ok (.if_icmp .eq 558, 3) := by decide +kernel
theorem dL_law_826 : decode cL_law 826 = .ok (.iconst 0, 1) := by decide +kernel
theorem dL_law_827 : decode cL_law 827 = .ok (.ireturn, 1) := by decide +kernel
theorem dL_law_828 : decode cL_law 828 = .ok (.aload_n 1, 1) := by decide +kernel
theorem dL_law_829 : decode cL_law 829 = .ok (.invokevirtual 67, 3) := by decide +kernel
theorem dL_law_832 : decode cL_law 832 = .ok (.aload_n 2, 1) := by decide +kernel
theorem dL_law_833 : decode cL_law 833 = .ok (.invokevirtual 71, 3) := by decide +kernel
theorem dL_law_836 : decode cL_law 836 = .ok (.lcmp, 1) := by decide +kernel
theorem dL_law_837 : decode cL_law 837 = .ok (.ifCond .eq 544, 3) := by decide +kernel
theorem dL_law_840 : decode cL_law 840 = .ok (.iconst 0, 1) := by decide +kernel
theorem dL_law_841 : decode cL_law 841 = .ok (.ireturn, 1) := by decide +kernel
theorem dL_law_842 : decode cL_law 842 = .ok (.aload_n 1, 1) := by decide +kernel
theorem dL_law_843 : decode cL_law 843 = .ok (.invokevirtual 72, 3) := by decide +kernel
theorem dL_law_846 : decode cL_law 846 = .ok (.aload_n 2, 1) := by decide +kernel
theorem dL_law_847 : decode cL_law 847 = .ok (.invokevirtual 76, 3) := by decide +kernel
theorem dL_law_850 : decode cL_law 850 = .ok (.if_icmp .eq 531, 3) := by decide +kernel
theorem dL_law_853 : decode cL_law 853 = .ok (.iconst 0, 1) := by decide +kernel
theorem dL_law_854 : decode cL_law 854 = .ok (.ireturn, 1) := by decide +kernel
theorem dL_law_855 : decode cL_law 855 = .ok (.aload_n 1, 1) := by decide +kernel
theorem dL_law_856 : decode cL_law 856 = .ok (.invokevirtual 77, 3) := by decide +kernel
theorem dL_law_859 : decode cL_law 859 = .ok (.aload_n 2, 1) := by decide +kernel
theorem dL_law_860 : decode cL_law 860 = .ok (.invokevirtual 80, 3) := by decide +kernel
theorem dL_law_863 : decode cL_law 863 = .ok (.if_icmp .eq 518, 3) := by decide +kernel
theorem dL_law_866 : decode cL_law 866 = .ok (.iconst 0, 1) := by decide +kernel
theorem dL_law_867 : decode cL_law 867 = .ok (.ireturn, 1) := by decide +kernel
theorem dL_law_868 : decode cL_law 868 = .ok (.aload_n 1, 1) := by decide +kernel
theorem dL_law_869 : decode cL_law 869 = .ok (.invokevirtual 81, 3) := by decide +kernel
theorem dL_law_872 : decode cL_law 872 = .ok (.aload_n 2, 1) := by decide +kernel
theorem dL_law_873 : decode cL_law 873 = .ok (.invokevirtual 84, 3) := by decide +kernel
theorem dL_law_876 : decode cL_law 876 = .ok (.if_icmp .eq 505, 3) := by decide +kernel
theorem dL_law_879 : decode cL_law 879 = .ok (.iconst 0, 1) := by decide +kernel
theorem dL_law_880 : decode cL_law 880 = .ok (.ireturn, 1) := by decide +kernel
theorem dL_law_881 : decode cL_law 881 = .ok (.aload_n 1, 1) := by decide +kernel
theorem dL_law_882 : decode cL_law 882 = .ok (.invokevirtual 85, 3) := by decide +kernel
theorem dL_law_885 : decode cL_law 885 = .ok (.aload_n 2, 1) := by decide +kernel
theorem dL_law_886 : decode cL_law 886 = .ok (.invokevirtual 88, 3) := by decide +kernel
theorem dL_law_889 : decode cL_law 889 = .ok (.if_icmp .eq 492, 3) := by decide +kernel
theorem dL_law_892 : decode cL_law 892 = .ok (.iconst 0, 1) := by decide +kernel
theorem dL_law_893 : decode cL_law 893 = .ok (.ireturn, 1) := by decide +kernel
theorem dL_law_894 : decode cL_law 894 = .ok (.aload_n 1, 1) := by decide +kernel
theorem dL_law_895 : decode cL_law 895 = .ok (.invokevirtual 89, 3) := by decide +kernel
theorem dL_law_898 : decode cL_law 898 = .ok (.aload_n 2, 1) := by decide +kernel
theorem dL_law_899 : decode cL_law 899 = .ok (.invokevirtual 92, 3) := by decide +kernel
theorem dL_law_902 : decode cL_law 902 = .ok (.if_icmp .eq 479, 3) := by decide +kernel
theorem dL_law_905 : decode cL_law 905 = .ok (.iconst 0, 1) := by decide +kernel
theorem dL_law_906 : decode cL_law 906 = .ok (.ireturn, 1) := by decide +kernel
theorem dL_law_907 : decode cL_law 907 = .ok (.aload_n 1, 1) := by decide +kernel
theorem dL_law_908 : decode cL_law 908 = .ok (.invokevirtual 93, 3) := by decide +kernel
theorem dL_law_911 : decode cL_law 911 = .ok (.aload_n 2, 1) := by decide +kernel
theorem dL_law_912 : decode cL_law 912 = .ok (.invokevirtual 96, 3) := by decide +kernel
theorem dL_law_915 : decode cL_law 915 = .ok (.if_icmp .eq 466, 3) := by decide +kernel
theorem dL_law_918 : decode cL_law 918 = .ok (.iconst 0, 1) := by decide +kernel
theorem dL_law_919 : decode cL_law 919 = .ok (.ireturn, 1) := by decide +kernel
theorem dL_law_920 : decode cL_law 920 = .ok (.aload_n 1, 1) := by decide +kernel
theorem dL_law_921 : decode cL_law 921 = .ok (.aload_n 0, 1) := by decide +kernel
theorem dL_law_922 : decode cL_law 922 = .ok (.iload_n 3, 1) := by decide +kernel
theorem dL_law_923 : decode cL_law 923 = .ok (.iconst 1, 1) := by decide +kernel
theorem dL_law_924 : decode cL_law 924 = .ok (.iadd, 1) := by decide +kernel
theorem dL_law_925 : decode cL_law 925 = .ok (.iaload, 1) := by decide +kernel
theorem dL_law_926 : decode cL_law 926 = .ok (.aload_n 0, 1) := by decide +kernel
theorem dL_law_927 : decode cL_law 927 = .ok (.iload_n 3, 1) := by decide +kernel
theorem dL_law_928 : decode cL_law 928 = .ok (.iconst 2, 1) := by decide +kernel
theorem dL_law_929 : decode cL_law 929 = .ok (.iadd, 1) := by decide +kernel
theorem dL_law_930 : decode cL_law 930 = .ok (.iaload, 1) := by decide +kernel
theorem dL_law_931 : decode cL_law 931 = .ok (.invokevirtual 97, 3) := by decide +kernel
theorem dL_law_934 : decode cL_law 934 = .ok (.aload_n 2, 1) := by decide +kernel
theorem dL_law_935 : decode cL_law 935 = .ok (.aload_n 0, 1) := by decide +kernel
theorem dL_law_936 : decode cL_law 936 = .ok (.iload_n 3, 1) := by decide +kernel
theorem dL_law_937 : decode cL_law 937 = .ok (.iconst 1, 1) := by decide +kernel
theorem dL_law_938 : decode cL_law 938 = .ok (.iadd, 1) := by decide +kernel
theorem dL_law_939 : decode cL_law 939 = .ok (.iaload, 1) := by decide +kernel
theorem dL_law_940 : decode cL_law 940 = .ok (.aload_n 0, 1) := by decide +kernel
theorem dL_law_941 : decode cL_law 941 = .ok (.iload_n 3, 1) := by decide +kernel
theorem dL_law_942 : decode cL_law 942 = .ok (.iconst 2, 1) := by decide +kernel
theorem dL_law_943 : decode cL_law 943 = .ok (.iadd, 1) := by decide +kernel
theorem dL_law_944 : decode cL_law 944 = .ok (.iaload, 1) := by decide +kernel
theorem dL_law_945 : decode cL_law 945 = .ok (.invokevirtual 101, 3) := by decide +kernel
theorem dL_law_948 : decode cL_law 948 = .ok (.if_icmp .eq 433, 3) := by decide +kernel
theorem dL_law_951 : decode cL_law 951 = .ok (.iconst 0, 1) := by decide +kernel
theorem dL_law_952 : decode cL_law 952 = .ok (.ireturn, 1) := by decide +kernel
theorem dL_law_953 : decode cL_law 953 = .ok (.aload_n 1, 1) := by decide +kernel
theorem dL_law_954 : decode cL_law 954 = .ok (.aload_n 0, 1) := by decide +kernel
theorem dL_law_955 : decode cL_law 955 = .ok (.iload_n 3, 1) := by decide +kernel
theorem dL_law_956 : decode cL_law 956 = .ok (.iconst 1, 1) := by decide +kernel
theorem dL_law_957 : decode cL_law 957 = .ok (.iadd, 1) := by decide +kernel
theorem dL_law_958 : decode cL_law 958 = .ok (.iaload, 1) := by decide +kernel
theorem dL_law_959 : decode cL_law 959 = .ok (.aload_n 0, 1) := by decide +kernel
theorem dL_law_960 : decode cL_law 960 = .ok (.iload_n 3, 1) := by decide +kernel
theorem dL_law_961 : decode cL_law 961 = .ok (.iconst 2, 1) := by decide +kernel
theorem dL_law_962 : decode cL_law 962 = .ok (.iadd, 1) := by decide +kernel
theorem dL_law_963 : decode cL_law 963 = .ok (.iaload, 1) := by decide +kernel
theorem dL_law_964 : decode cL_law 964 = .ok (.invokevirtual 102, 3) := by decide +kernel
theorem dL_law_967 : decode cL_law 967 = .ok (.aload_n 2, 1) := by decide +kernel
theorem dL_law_968 : decode cL_law 968 = .ok (.aload_n 0, 1) := by decide +kernel
theorem dL_law_969 : decode cL_law 969 = .ok (.iload_n 3, 1) := by decide +kernel
theorem dL_law_970 : decode cL_law 970 = .ok (.iconst 1, 1) := by decide +kernel
theorem dL_law_971 : decode cL_law 971 = .ok (.iadd, 1) := by decide +kernel
theorem dL_law_972 : decode cL_law 972 = .ok (.iaload, 1) := by decide +kernel
theorem dL_law_973 : decode cL_law 973 = .ok (.aload_n 0, 1) := by decide +kernel
theorem dL_law_974 : decode cL_law 974 = .ok (.iload_n 3, 1) := by decide +kernel
theorem dL_law_975 : decode cL_law 975 = .ok (.iconst 2, 1) := by decide +kernel
theorem dL_law_976 : decode cL_law 976 = .ok (.iadd, 1) := by decide +kernel
theorem dL_law_977 : decode cL_law 977 = .ok (.iaload, 1) := by decide +kernel
theorem dL_law_978 : decode cL_law 978 = .ok (.invokevirtual 105, 3) := by decide +kernel
theorem dL_law_981 : decode cL_law 981 = .ok (.if_icmp .eq 400, 3) := by decide +kernel
theorem dL_law_984 : decode cL_law 984 = .ok (.iconst 0, 1) := by decide +kernel
theorem dL_law_985 : decode cL_law 985 = .ok (.ireturn, 1) := by decide +kernel
theorem dL_law_986 : decode cL_law 986 = .ok (.aload_n 1, 1) := by decide +kernel
theorem dL_law_987 : decode cL_law 987 = .ok (.aload_n 0, 1) := by decide +kernel
theorem dL_law_988 : decode cL_law 988 = .ok (.iload_n 3, 1) := by decide +kernel
theorem dL_law_989 : decode cL_law 989 = .ok (.iconst 1, 1) := by decide +kernel
theorem dL_law_990 : decode cL_law 990 = .ok (.iadd, 1) := by decide +kernel
theorem dL_law_991 : decode cL_law 991 = .ok (.iaload, 1) := by decide +kernel
theorem dL_law_992 : decode cL_law 992 = .ok (.aload_n 0, 1) := by decide +kernel
theorem dL_law_993 : decode cL_law 993 = .ok (.iload_n 3, 1) := by decide +kernel
theorem dL_law_994 : decode cL_law 994 = .ok (.iconst 2, 1) := by decide +kernel
theorem dL_law_995 : decode cL_law 995 = .ok (.iadd, 1) := by decide +kernel
theorem dL_law_996 : decode cL_law 996 = .ok (.iaload, 1) := by decide +kernel
theorem dL_law_997 : decode cL_law 997 = .ok (.aload_n 0, 1) := by decide +kernel
theorem dL_law_998 : decode cL_law 998 = .ok (.iload_n 3, 1) := by decide +kernel
theorem dL_law_999 : decode cL_law 999 = .ok (.iconst 3, 1) := by decide +kernel
theorem dL_law_1000 : decode cL_law 1000 = .ok (.iadd, 1) := by decide +kernel
theorem dL_law_1001 : decode cL_law 1001 = .ok (.iaload, 1) := by decide +kernel
theorem dL_law_1002 : decode cL_law 1002 = .ok (.invokevirtual 106, 3) := by decide +kernel
theorem dL_law_1005 : decode cL_law 1005 = .ok (.aload_n 2, 1) := by decide +kernel
theorem dL_law_1006 : decode cL_law 1006 = .ok (.aload_n 0, 1) := by decide +kernel
theorem dL_law_1007 : decode cL_law 1007 = .ok (.iload_n 3, 1) := by decide +kernel
theorem dL_law_1008 : decode cL_law 1008 = .ok (.iconst 1, 1) := by decide +kernel
theorem dL_law_1009 : decode cL_law 1009 = .ok (.iadd, 1) := by decide +kernel
theorem dL_law_1010 : decode cL_law 1010 = .ok (.iaload, 1) := by decide +kernel
theorem dL_law_1011 : decode cL_law 1011 = .ok (.aload_n 0, 1) := by decide +kernel
theorem dL_law_1012 : decode cL_law 1012 = .ok (.iload_n 3, 1) := by decide +kernel
theorem dL_law_1013 : decode cL_law 1013 = .ok (.iconst 2, 1) := by decide +kernel
theorem dL_law_1014 : decode cL_law 1014 = .ok (.iadd, 1) := by decide +kernel
theorem dL_law_1015 : decode cL_law 1015 = .ok (.iaload, 1) := by decide +kernel
theorem dL_law_1016 : decode cL_law 1016 = .ok (.aload_n 0, 1) := by decide +kernel
theorem dL_law_1017 : decode cL_law 1017 = .ok (.iload_n 3, 1) := by decide +kernel
theorem dL_law_1018 : decode cL_law 1018 = .ok (.iconst 3, 1) := by decide +kernel
theorem dL_law_1019 : decode cL_law 1019 = .ok (.iadd, 1) := by decide +kernel
theorem dL_law_1020 : decode cL_law 1020 = .ok (.iaload, 1) := by decide +kernel
theorem dL_law_1021 : decode cL_law 1021 = .ok (.invokevirtual 110, 3) := by decide +kernel
theorem dL_law_1024 : decode cL_law 1024 = .ok (.if_icmp .eq 357, 3) := by decide +kernel
theorem dL_law_1027 : decode cL_law 1027 = .ok (.iconst 0, 1) := by decide +kernel
theorem dL_law_1028 : decode cL_law 1028 = .ok (.ireturn, 1) := by decide +kernel
theorem dL_law_1029 : decode cL_law 1029 = .ok (.aload_n 1, 1) := by decide +kernel
theorem dL_law_1030 : decode cL_law 1030 = .ok (.aload_n 0, 1) := by decide +kernel
theorem dL_law_1031 : decode cL_law 1031 = .ok (.iload_n 3, 1) := by decide +kernel
theorem dL_law_1032 : decode cL_law 1032 = .ok (.iconst 1, 1) := by decide +kernel
theorem dL_law_1033 : decode cL_law 1033 = .ok (.iadd, 1) := by decide +kernel
theorem dL_law_1034 : decode cL_law 1034 = .ok (.iaload, 1) := by decide +kernel
theorem dL_law_1035 : decode cL_law 1035 = .ok (.i2l, 1) := by decide +kernel
theorem dL_law_1036 : decode cL_law 1036 = .ok (.bipush 32, 2) := by decide +kernel
theorem dL_law_1038 : decode cL_law 1038 = .ok (.lshl, 1) := by decide +kernel
theorem dL_law_1039 : decode cL_law 1039 = .ok (.aload_n 0, 1) := by decide +kernel
theorem dL_law_1040 : decode cL_law 1040 = .ok (.iload_n 3, 1) := by decide +kernel
theorem dL_law_1041 : decode cL_law 1041 = .ok (.iconst 2, 1) := by decide +kernel
theorem dL_law_1042 : decode cL_law 1042 = .ok (.iadd, 1) := by decide +kernel
theorem dL_law_1043 : decode cL_law 1043 = .ok (.iaload, 1) := by decide +kernel
theorem dL_law_1044 : decode cL_law 1044 = .ok (.i2l, 1) := by decide +kernel
theorem dL_law_1045 : decode cL_law 1045 = .ok (.ldc2_w 13, 3) := by decide +kernel
theorem dL_law_1048 : decode cL_law 1048 = .ok (.land, 1) := by decide +kernel
theorem dL_law_1049 : decode cL_law 1049 = .ok (.lor, 1) := by decide +kernel
theorem dL_law_1050 : decode cL_law 1050 = .ok (.invokevirtual 111, 3) := by decide +kernel
theorem dL_law_1053 : decode cL_law 1053 = .ok (.aload_n 2, 1) := by decide +kernel
theorem dL_law_1054 : decode cL_law 1054 = .ok (.aload_n 0, 1) := by decide +kernel
theorem dL_law_1055 : decode cL_law 1055 = .ok (.iload_n 3, 1) := by decide +kernel
theorem dL_law_1056 : decode cL_law 1056 = .ok (.iconst 1, 1) := by decide +kernel
theorem dL_law_1057 : decode cL_law 1057 = .ok (.iadd, 1) := by decide +kernel
theorem dL_law_1058 : decode cL_law 1058 = .ok (.iaload, 1) := by decide +kernel
theorem dL_law_1059 : decode cL_law 1059 = .ok (.i2l, 1) := by decide +kernel
theorem dL_law_1060 : decode cL_law 1060 = .ok (.bipush 32, 2) := by decide +kernel
theorem dL_law_1062 : decode cL_law 1062 = .ok (.lshl, 1) := by decide +kernel
theorem dL_law_1063 : decode cL_law 1063 = .ok (.aload_n 0, 1) := by decide +kernel
theorem dL_law_1064 : decode cL_law 1064 = .ok (.iload_n 3, 1) := by decide +kernel
theorem dL_law_1065 : decode cL_law 1065 = .ok (.iconst 2, 1) := by decide +kernel
theorem dL_law_1066 : decode cL_law 1066 = .ok (.iadd, 1) := by decide +kernel
theorem dL_law_1067 : decode cL_law 1067 = .ok (.iaload, 1) := by decide +kernel
theorem dL_law_1068 : decode cL_law 1068 = .ok (.i2l, 1) := by decide +kernel
theorem dL_law_1069 : decode cL_law 1069 = .ok (.ldc2_w 13, 3) := by decide +kernel
theorem dL_law_1072 : decode cL_law 1072 = .ok (.land, 1) := by decide +kernel
theorem dL_law_1073 : decode cL_law 1073 = .ok (.lor, 1) := by decide +kernel
theorem dL_law_1074 : decode cL_law 1074 = .ok (.invokevirtual 114, 3) := by decide +kernel
theorem dL_law_1077 : decode cL_law 1077 = .ok (.if_icmp .eq 304, 3) := by decide +kernel
theorem dL_law_1080 : decode cL_law 1080 = .ok (.iconst 0, 1) := by decide +kernel
theorem dL_law_1081 : decode cL_law 1081 = .ok (.ireturn, 1) := by decide +kernel
theorem dL_law_1082 : decode cL_law 1082 = .ok (.aload_n 1, 1) := by decide +kernel
theorem dL_law_1083 : decode cL_law 1083 = .ok (.invokevirtual 115, 3) := by decide +kernel
theorem dL_law_1086 : decode cL_law 1086 = .ok (.aload_n 2, 1) := by decide +kernel
theorem dL_law_1087 : decode cL_law 1087 = .ok (.invokevirtual 118, 3) := by decide +kernel
theorem dL_law_1090 : decode cL_law 1090 = .ok (.if_icmp .eq 291, 3) := by decide +kernel
theorem dL_law_1093 : decode cL_law 1093 = .ok (.iconst 0, 1) := by decide +kernel
theorem dL_law_1094 : decode cL_law 1094 = .ok (.ireturn, 1) := by decide +kernel
theorem dL_law_1095 : decode cL_law 1095 = .ok (.aload_n 1, 1) := by decide +kernel
theorem dL_law_1096 : decode cL_law 1096 = .ok (.invokevirtual 119, 3) := by decide +kernel
theorem dL_law_1099 : decode cL_law 1099 = .ok (.aload_n 2, 1) := by decide +kernel
theorem dL_law_1100 : decode cL_law 1100 = .ok (.invokevirtual 122, 3) := by decide +kernel
theorem dL_law_1103 : decode cL_law 1103 = .ok (.if_icmp .eq 278, 3) := by decide +kernel
theorem dL_law_1106 : decode cL_law 1106 = .ok (.iconst 0, 1) := by decide +kernel
theorem dL_law_1107 : decode cL_law 1107 = .ok (.ireturn, 1) := by decide +kernel
theorem dL_law_1108 : decode cL_law 1108 = .ok (.aload_n 1, 1) := by decide +kernel
theorem dL_law_1109 : decode cL_law 1109 = .ok (.aload_n 0, 1) := by decide +kernel
theorem dL_law_1110 : decode cL_law 1110 = .ok (.iload_n 3, 1) := by decide +kernel
theorem dL_law_1111 : decode cL_law 1111 = .ok (.iconst 1, 1) := by decide +kernel
theorem dL_law_1112 : decode cL_law 1112 = .ok (.iadd, 1) := by decide +kernel
theorem dL_law_1113 : decode cL_law 1113 = .ok (.iaload, 1) := by decide +kernel
theorem dL_law_1114 : decode cL_law 1114 = .ok (.aload_n 0, 1) := by decide +kernel
theorem dL_law_1115 : decode cL_law 1115 = .ok (.iload_n 3, 1) := by decide +kernel
theorem dL_law_1116 : decode cL_law 1116 = .ok (.iconst 2, 1) := by decide +kernel
theorem dL_law_1117 : decode cL_law 1117 = .ok (.iadd, 1) := by decide +kernel
theorem dL_law_1118 : decode cL_law 1118 = .ok (.iaload, 1) := by decide +kernel
theorem dL_law_1119 : decode cL_law 1119 = .ok (.i2l, 1) := by decide +kernel
theorem dL_law_1120 : decode cL_law 1120 = .ok (.bipush 32, 2) := by decide +kernel
theorem dL_law_1122 : decode cL_law 1122 = .ok (.lshl, 1) := by decide +kernel
theorem dL_law_1123 : decode cL_law 1123 = .ok (.aload_n 0, 1) := by decide +kernel
theorem dL_law_1124 : decode cL_law 1124 = .ok (.iload_n 3, 1) := by decide +kernel
theorem dL_law_1125 : decode cL_law 1125 = .ok (.iconst 3, 1) := by decide +kernel
theorem dL_law_1126 : decode cL_law 1126 = .ok (.iadd, 1) := by decide +kernel
theorem dL_law_1127 : decode cL_law 1127 = .ok (.iaload, 1) := by decide +kernel
theorem dL_law_1128 : decode cL_law 1128 = .ok (.i2l, 1) := by decide +kernel
theorem dL_law_1129 : decode cL_law 1129 = .ok (.ldc2_w 13, 3) := by decide +kernel
theorem dL_law_1132 : decode cL_law 1132 = .ok (.land, 1) := by decide +kernel
theorem dL_law_1133 : decode cL_law 1133 = .ok (.lor, 1) := by decide +kernel
theorem dL_law_1134 : decode cL_law 1134 = .ok (.invokevirtual 123, 3) := by decide +kernel
theorem dL_law_1137 : decode cL_law 1137 = .ok (.aload_n 2, 1) := by decide +kernel
theorem dL_law_1138 : decode cL_law 1138 = .ok (.aload_n 0, 1) := by decide +kernel
theorem dL_law_1139 : decode cL_law 1139 = .ok (.iload_n 3, 1) := by decide +kernel
theorem dL_law_1140 : decode cL_law 1140 = .ok (.iconst 1, 1) := by decide +kernel
theorem dL_law_1141 : decode cL_law 1141 = .ok (.iadd, 1) := by decide +kernel
theorem dL_law_1142 : decode cL_law 1142 = .ok (.iaload, 1) := by decide +kernel
theorem dL_law_1143 : decode cL_law 1143 = .ok (.aload_n 0, 1) := by decide +kernel
theorem dL_law_1144 : decode cL_law 1144 = .ok (.iload_n 3, 1) := by decide +kernel
theorem dL_law_1145 : decode cL_law 1145 = .ok (.iconst 2, 1) := by decide +kernel
theorem dL_law_1146 : decode cL_law 1146 = .ok (.iadd, 1) := by decide +kernel
theorem dL_law_1147 : decode cL_law 1147 = .ok (.iaload, 1) := by decide +kernel
theorem dL_law_1148 : decode cL_law 1148 = .ok (.i2l, 1) := by decide +kernel
theorem dL_law_1149 : decode cL_law 1149 = .ok (.bipush 32, 2) := by decide +kernel
theorem dL_law_1151 : decode cL_law 1151 = .ok (.lshl, 1) := by decide +kernel
theorem dL_law_1152 : decode cL_law 1152 = .ok (.aload_n 0, 1) := by decide +kernel
theorem dL_law_1153 : decode cL_law 1153 = .ok (.iload_n 3, 1) := by decide +kernel
theorem dL_law_1154 : decode cL_law 1154 = .ok (.iconst 3, 1) := by decide +kernel
theorem dL_law_1155 : decode cL_law 1155 = .ok (.iadd, 1) := by decide +kernel
theorem dL_law_1156 : decode cL_law 1156 = .ok (.iaload, 1) := by decide +kernel
theorem dL_law_1157 : decode cL_law 1157 = .ok (.i2l, 1) := by decide +kernel
theorem dL_law_1158 : decode cL_law 1158 = .ok (.ldc2_w 13, 3) := by decide +kernel
theorem dL_law_1161 : decode cL_law 1161 = .ok (.land, 1) := by decide +kernel
theorem dL_law_1162 : decode cL_law 1162 = .ok (.lor, 1) := by decide +kernel
theorem dL_law_1163 : decode cL_law 1163 = .ok (.invokevirtual 127, 3) := by decide +kernel
theorem dL_law_1166 : decode cL_law 1166 = .ok (.if_icmp .eq 215, 3) := by decide +kernel
theorem dL_law_1169 : decode cL_law 1169 = .ok (.iconst 0, 1) := by decide +kernel
theorem dL_law_1170 : decode cL_law 1170 = .ok (.ireturn, 1) := by decide +kernel
theorem dL_law_1171 : decode cL_law 1171 = .ok (.aload_n 1, 1) := by decide +kernel
theorem dL_law_1172 : decode cL_law 1172 = .ok (.aload_n 0, 1) := by decide +kernel
theorem dL_law_1173 : decode cL_law 1173 = .ok (.iload_n 3, 1) := by decide +kernel
theorem dL_law_1174 : decode cL_law 1174 = .ok (.iconst 1, 1) := by decide +kernel
theorem dL_law_1175 : decode cL_law 1175 = .ok (.iadd, 1) := by decide +kernel
theorem dL_law_1176 : decode cL_law 1176 = .ok (.iaload, 1) := by decide +kernel
theorem dL_law_1177 : decode cL_law 1177 = .ok (.invokevirtual 128, 3) := by decide +kernel
theorem dL_law_1180 : decode cL_law 1180 = .ok (.aload_n 2, 1) := by decide +kernel
theorem dL_law_1181 : decode cL_law 1181 = .ok (.aload_n 0, 1) := by decide +kernel
theorem dL_law_1182 : decode cL_law 1182 = .ok (.iload_n 3, 1) := by decide +kernel
theorem dL_law_1183 : decode cL_law 1183 = .ok (.iconst 1, 1) := by decide +kernel
theorem dL_law_1184 : decode cL_law 1184 = .ok (.iadd, 1) := by decide +kernel
theorem dL_law_1185 : decode cL_law 1185 = .ok (.iaload, 1) := by decide +kernel
theorem dL_law_1186 : decode cL_law 1186 = .ok (.invokevirtual 131, 3) := by decide +kernel
theorem dL_law_1189 : decode cL_law 1189 = .ok (.if_icmp .eq 192, 3) := by decide +kernel
theorem dL_law_1192 : decode cL_law 1192 = .ok (.iconst 0, 1) := by decide +kernel
theorem dL_law_1193 : decode cL_law 1193 = .ok (.ireturn, 1) := by decide +kernel
theorem dL_law_1194 : decode cL_law 1194 = .ok (.aload_n 1, 1) := by decide +kernel
theorem dL_law_1195 : decode cL_law 1195 = .ok (.aload_n 0, 1) := by decide +kernel
theorem dL_law_1196 : decode cL_law 1196 = .ok (.iload_n 3, 1) := by decide +kernel
theorem dL_law_1197 : decode cL_law 1197 = .ok (.iconst 1, 1) := by decide +kernel
theorem dL_law_1198 : decode cL_law 1198 = .ok (.iadd, 1) := by decide +kernel
theorem dL_law_1199 : decode cL_law 1199 = .ok (.iaload, 1) := by decide +kernel
theorem dL_law_1200 : decode cL_law 1200 = .ok (.invokevirtual 132, 3) := by decide +kernel
theorem dL_law_1203 : decode cL_law 1203 = .ok (.aload_n 2, 1) := by decide +kernel
theorem dL_law_1204 : decode cL_law 1204 = .ok (.aload_n 0, 1) := by decide +kernel
theorem dL_law_1205 : decode cL_law 1205 = .ok (.iload_n 3, 1) := by decide +kernel
theorem dL_law_1206 : decode cL_law 1206 = .ok (.iconst 1, 1) := by decide +kernel
theorem dL_law_1207 : decode cL_law 1207 = .ok (.iadd, 1) := by decide +kernel
theorem dL_law_1208 : decode cL_law 1208 = .ok (.iaload, 1) := by decide +kernel
theorem dL_law_1209 : decode cL_law 1209 = .ok (.invokevirtual 135, 3) := by decide +kernel
theorem dL_law_1212 : decode cL_law 1212 = .ok (.if_icmp .eq 169, 3) := by decide +kernel
theorem dL_law_1215 : decode cL_law 1215 = .ok (.iconst 0, 1) := by decide +kernel
theorem dL_law_1216 : decode cL_law 1216 = .ok (.ireturn, 1) := by decide +kernel
theorem dL_law_1217 : decode cL_law 1217 = .ok (.aload_n 1, 1) := by decide +kernel
theorem dL_law_1218 : decode cL_law 1218 = .ok (.invokevirtual 136, 3) := by decide +kernel
theorem dL_law_1221 : decode cL_law 1221 = .ok (.aload_n 2, 1) := by decide +kernel
theorem dL_law_1222 : decode cL_law 1222 = .ok (.invokevirtual 139, 3) := by decide +kernel
theorem dL_law_1225 : decode cL_law 1225 = .ok (.if_icmp .eq 156, 3) := by decide +kernel
theorem dL_law_1228 : decode cL_law 1228 = .ok (.iconst 0, 1) := by decide +kernel
theorem dL_law_1229 : decode cL_law 1229 = .ok (.ireturn, 1) := by decide +kernel
theorem dL_law_1230 : decode cL_law 1230 = .ok (.aload_n 1, 1) := by decide +kernel
theorem dL_law_1231 : decode cL_law 1231 = .ok (.aload_n 0, 1) := by decide +kernel
theorem dL_law_1232 : decode cL_law 1232 = .ok (.iload_n 3, 1) := by decide +kernel
theorem dL_law_1233 : decode cL_law 1233 = .ok (.iconst 1, 1) := by decide +kernel
theorem dL_law_1234 : decode cL_law 1234 = .ok (.iadd, 1) := by decide +kernel
theorem dL_law_1235 : decode cL_law 1235 = .ok (.iaload, 1) := by decide +kernel
theorem dL_law_1236 : decode cL_law 1236 = .ok (.invokevirtual 140, 3) := by decide +kernel
theorem dL_law_1239 : decode cL_law 1239 = .ok (.aload_n 2, 1) := by decide +kernel
theorem dL_law_1240 : decode cL_law 1240 = .ok (.aload_n 0, 1) := by decide +kernel
theorem dL_law_1241 : decode cL_law 1241 = .ok (.iload_n 3, 1) := by decide +kernel
theorem dL_law_1242 : decode cL_law 1242 = .ok (.iconst 1, 1) := by decide +kernel
theorem dL_law_1243 : decode cL_law 1243 = .ok (.iadd, 1) := by decide +kernel
theorem dL_law_1244 : decode cL_law 1244 = .ok (.iaload, 1) := by decide +kernel
theorem dL_law_1245 : decode cL_law 1245 = .ok (.invokevirtual 143, 3) := by decide +kernel
theorem dL_law_1248 : decode cL_law 1248 = .ok (.if_icmp .eq 133, 3) := by decide +kernel
theorem dL_law_1251 : decode cL_law 1251 = .ok (.iconst 0, 1) := by decide +kernel
theorem dL_law_1252 : decode cL_law 1252 = .ok (.ireturn, 1) := by decide +kernel
theorem dL_law_1253 : decode cL_law 1253 = .ok (.aload_n 1, 1) := by decide +kernel
theorem dL_law_1254 : decode cL_law 1254 = .ok (.invokevirtual 144, 3) := by decide +kernel
theorem dL_law_1257 : decode cL_law 1257 = .ok (.aload_n 2, 1) := by decide +kernel
theorem dL_law_1258 : decode cL_law 1258 = .ok (.invokevirtual 147, 3) := by decide +kernel
theorem dL_law_1261 : decode cL_law 1261 = .ok (.if_icmp .eq 120, 3) := by decide +kernel
theorem dL_law_1264 : decode cL_law 1264 = .ok (.iconst 0, 1) := by decide +kernel
theorem dL_law_1265 : decode cL_law 1265 = .ok (.ireturn, 1) := by decide +kernel
theorem dL_law_1266 : decode cL_law 1266 = .ok (.aload_n 1, 1) := by decide +kernel
theorem dL_law_1267 : decode cL_law 1267 = .ok (.invokevirtual 148, 3) := by decide +kernel
theorem dL_law_1270 : decode cL_law 1270 = .ok (.aload_n 2, 1) := by decide +kernel
theorem dL_law_1271 : decode cL_law 1271 = .ok (.invokevirtual 151, 3) := by decide +kernel
theorem dL_law_1274 : decode cL_law 1274 = .ok (.if_icmp .eq 107, 3) := by decide +kernel
theorem dL_law_1277 : decode cL_law 1277 = .ok (.iconst 0, 1) := by decide +kernel
theorem dL_law_1278 : decode cL_law 1278 = .ok (.ireturn, 1) := by decide +kernel
theorem dL_law_1279 : decode cL_law 1279 = .ok (.aload_n 1, 1) := by decide +kernel
theorem dL_law_1280 : decode cL_law 1280 = .ok (.aload_n 0, 1) := by decide +kernel
theorem dL_law_1281 : decode cL_law 1281 = .ok (.iload_n 3, 1) := by decide +kernel
theorem dL_law_1282 : decode cL_law 1282 = .ok (.iconst 1, 1) := by decide +kernel
theorem dL_law_1283 : decode cL_law 1283 = .ok (.iadd, 1) := by decide +kernel
theorem dL_law_1284 : decode cL_law 1284 = .ok (.iaload, 1) := by decide +kernel
theorem dL_law_1285 : decode cL_law 1285 = .ok (.aload_n 0, 1) := by decide +kernel
theorem dL_law_1286 : decode cL_law 1286 = .ok (.iload_n 3, 1) := by decide +kernel
theorem dL_law_1287 : decode cL_law 1287 = .ok (.iconst 2, 1) := by decide +kernel
theorem dL_law_1288 : decode cL_law 1288 = .ok (.iadd, 1) := by decide +kernel
theorem dL_law_1289 : decode cL_law 1289 = .ok (.iaload, 1) := by decide +kernel
theorem dL_law_1290 : decode cL_law 1290 = .ok (.invokevirtual 152, 3) := by decide +kernel
theorem dL_law_1293 : decode cL_law 1293 = .ok (.aload_n 2, 1) := by decide +kernel
theorem dL_law_1294 : decode cL_law 1294 = .ok (.aload_n 0, 1) := by decide +kernel
theorem dL_law_1295 : decode cL_law 1295 = .ok (.iload_n 3, 1) := by decide +kernel
theorem dL_law_1296 : decode cL_law 1296 = .ok (.iconst 1, 1) := by decide +kernel
theorem dL_law_1297 : decode cL_law 1297 = .ok (.iadd, 1) := by decide +kernel
theorem dL_law_1298 : decode cL_law 1298 = .ok (.iaload, 1) := by decide +kernel
theorem dL_law_1299 : decode cL_law 1299 = .ok (.aload_n 0, 1) := by decide +kernel
theorem dL_law_1300 : decode cL_law 1300 = .ok (.iload_n 3, 1) := by decide +kernel
theorem dL_law_1301 : decode cL_law 1301 = .ok (.iconst 2, 1) := by decide +kernel
theorem dL_law_1302 : decode cL_law 1302 = .ok (.iadd, 1) := by decide +kernel
theorem dL_law_1303 : decode cL_law 1303 = .ok (.iaload, 1) := by decide +kernel
theorem dL_law_1304 : decode cL_law 1304 = .ok (.invokevirtual 155, 3) := by decide +kernel
theorem dL_law_1307 : decode cL_law 1307 = .ok (.if_icmp .eq 74, 3) := by decide +kernel
theorem dL_law_1310 : decode cL_law 1310 = .ok (.iconst 0, 1) := by decide +kernel
theorem dL_law_1311 : decode cL_law 1311 = .ok (.ireturn, 1) := by decide +kernel
theorem dL_law_1312 : decode cL_law 1312 = .ok (.aload_n 1, 1) := by decide +kernel
theorem dL_law_1313 : decode cL_law 1313 = .ok (.aload_n 0, 1) := by decide +kernel
theorem dL_law_1314 : decode cL_law 1314 = .ok (.iload_n 3, 1) := by decide +kernel
theorem dL_law_1315 : decode cL_law 1315 = .ok (.iconst 1, 1) := by decide +kernel
theorem dL_law_1316 : decode cL_law 1316 = .ok (.iadd, 1) := by decide +kernel
theorem dL_law_1317 : decode cL_law 1317 = .ok (.iaload, 1) := by decide +kernel
theorem dL_law_1318 : decode cL_law 1318 = .ok (.invokevirtual 156, 3) := by decide +kernel
theorem dL_law_1321 : decode cL_law 1321 = .ok (.aload_n 2, 1) := by decide +kernel
theorem dL_law_1322 : decode cL_law 1322 = .ok (.aload_n 0, 1) := by decide +kernel
theorem dL_law_1323 : decode cL_law 1323 = .ok (.iload_n 3, 1) := by decide +kernel
theorem dL_law_1324 : decode cL_law 1324 = .ok (.iconst 1, 1) := by decide +kernel
theorem dL_law_1325 : decode cL_law 1325 = .ok (.iadd, 1) := by decide +kernel
theorem dL_law_1326 : decode cL_law 1326 = .ok (.iaload, 1) := by decide +kernel
theorem dL_law_1327 : decode cL_law 1327 = .ok (.invokevirtual 159, 3) := by decide +kernel
theorem dL_law_1330 : decode cL_law 1330 = .ok (.if_icmp .eq 51, 3) := by decide +kernel
theorem dL_law_1333 : decode cL_law 1333 = .ok (.iconst 0, 1) := by decide +kernel
theorem dL_law_1334 : decode cL_law 1334 = .ok (.ireturn, 1) := by decide +kernel
theorem dL_law_1335 : decode cL_law 1335 = .ok (.aload_n 1, 1) := by decide +kernel
theorem dL_law_1336 : decode cL_law 1336 = .ok (.aload_n 0, 1) := by decide +kernel
theorem dL_law_1337 : decode cL_law 1337 = .ok (.iload_n 3, 1) := by decide +kernel
theorem dL_law_1338 : decode cL_law 1338 = .ok (.iconst 1, 1) := by decide +kernel
theorem dL_law_1339 : decode cL_law 1339 = .ok (.iadd, 1) := by decide +kernel
theorem dL_law_1340 : decode cL_law 1340 = .ok (.iaload, 1) := by decide +kernel
theorem dL_law_1341 : decode cL_law 1341 = .ok (.invokevirtual 160, 3) := by decide +kernel
theorem dL_law_1344 : decode cL_law 1344 = .ok (.aload_n 2, 1) := by decide +kernel
theorem dL_law_1345 : decode cL_law 1345 = .ok (.aload_n 0, 1) := by decide +kernel
theorem dL_law_1346 : decode cL_law 1346 = .ok (.iload_n 3, 1) := by decide +kernel
theorem dL_law_1347 : decode cL_law 1347 = .ok (.iconst 1, 1) := by decide +kernel
theorem dL_law_1348 : decode cL_law 1348 = .ok (.iadd, 1) := by decide +kernel
theorem dL_law_1349 : decode cL_law 1349 = .ok (.iaload, 1) := by decide +kernel
theorem dL_law_1350 : decode cL_law 1350 = .ok (.invokevirtual 163, 3) := by decide +kernel
theorem dL_law_1353 : decode cL_law 1353 = .ok (.if_icmp .eq 28, 3) := by decide +kernel
theorem dL_law_1356 : decode cL_law 1356 = .ok (.iconst 0, 1) := by decide +kernel
theorem dL_law_1357 : decode cL_law 1357 = .ok (.ireturn, 1) := by decide +kernel
theorem dL_law_1358 : decode cL_law 1358 = .ok (.aload_n 1, 1) := by decide +kernel
theorem dL_law_1359 : decode cL_law 1359 = .ok (.aload_n 0, 1) := by decide +kernel
theorem dL_law_1360 : decode cL_law 1360 = .ok (.iload_n 3, 1) := by decide +kernel
theorem dL_law_1361 : decode cL_law 1361 = .ok (.iconst 1, 1) := by decide +kernel
theorem dL_law_1362 : decode cL_law 1362 = .ok (.iadd, 1) := by decide +kernel
theorem dL_law_1363 : decode cL_law 1363 = .ok (.iaload, 1) := by decide +kernel
theorem dL_law_1364 : decode cL_law 1364 = .ok (.invokevirtual 164, 3) := by decide +kernel
theorem dL_law_1367 : decode cL_law 1367 = .ok (.aload_n 2, 1) := by decide +kernel
theorem dL_law_1368 : decode cL_law 1368 = .ok (.aload_n 0, 1) := by decide +kernel
theorem dL_law_1369 : decode cL_law 1369 = .ok (.iload_n 3, 1) := by decide +kernel
theorem dL_law_1370 : decode cL_law 1370 = .ok (.iconst 1, 1) := by decide +kernel
theorem dL_law_1371 : decode cL_law 1371 = .ok (.iadd, 1) := by decide +kernel
theorem dL_law_1372 : decode cL_law 1372 = .ok (.iaload, 1) := by decide +kernel
theorem dL_law_1373 : decode cL_law 1373 = .ok (.invokevirtual 167, 3) := by decide +kernel
theorem dL_law_1376 : decode cL_law 1376 = .ok (.if_icmp .eq 5, 3) := by decide +kernel
theorem dL_law_1379 : decode cL_law 1379 = .ok (.iconst 0, 1) := by decide +kernel
theorem dL_law_1380 : decode cL_law 1380 = .ok (.ireturn, 1) := by decide +kernel
theorem dL_law_1381 : decode cL_law 1381 = .ok (.iinc 3 5, 3) := by decide +kernel
theorem dL_law_1384 : decode cL_law 1384 = .ok (.goto (-1366), 3) := by decide +kernel
theorem dL_law_1387 : decode cL_law 1387 = .ok (.iconst 1, 1) := by decide +kernel
theorem dL_law_1388 : decode cL_law 1388 = .ok (.ireturn, 1) := by decide +kernel
end
section
/-! ===== the words that every method of the claim may use ===== -/
def gw_t : List Cond := lw_tbl.filter goodWord
theorem gw_in {w : Cond} (h : w ∈ lw_tbl) (g : goodWord w = true) : w ∈ gw_t := List.mem_filter.mpr ⟨h, g⟩
theorem gw_tbl {w : Cond} (h : w ∈ gw_t) : w ∈ lw_tbl := (List.mem_filter.mp h).1
theorem gw_good : GoodIn gw_t gw_t := fun w h => ⟨h, good_of_word (List.mem_filter.mp h).2⟩
theorem gw_goodc {c : Cond} (hc : c ∈ gw_t) : GoodIn gw_t (c :: gw_t) := fun w h => by
  rcases List.mem_cons.mp h with rfl | h
  · exact gw_good _ hc
  · exact gw_good _ h
/-! ===== abstract heaps: the next address, the slots made so far, what lies at an address ===== -/
abbrev ah_C : Type := (Nat × vp_A) ⊕ (Nat × List Value)
abbrev ah_H : Type := Nat × Nat × (Nat → Option ah_C)
/-- what a launch gives: class numbers and slots, array classes, the heap at the start, the empty list row, NO_BYTES, the mirror of Object[] -/
abbrev ah_X : Type := va_G × (Nat → ClassId) × Heap × Nat × Nat × Nat
def ah_cv (X : ah_X) (c : ah_C) : va_E := match c with
  | .inl q => .inl (X.2.1 q.1, q.2)
  | .inr o => .inr o
def ah_A (X : ah_X) : Nat → Prop := fun q => X.2.2.1.size ≤ q
def ah_ty (k : Nat) : FieldType := match k with
  | 0 => .byte
  | 1 => .boolean
  | 2 => .int
  | 3 => .long
  | 4 => .object "java/lang/Object"
  | _ => .object "LetterTree$Head"
def ah_tys (X : ah_X) : List (ClassId × FieldType) := (List.range 6).map (fun k => (X.2.1 k, ah_ty k))
theorem ah_tys_at (X : ah_X) {k : Nat} (h : k < 6) : (ah_tys X)[k]? = some (X.2.1 k, ah_ty k) := by
  simp [ah_tys, h]
abbrev ah_e4 : ah_C := .inl (4, 0, .inr (.inr (.inr (.inr (fun _ => none)))))
abbrev ah_e0 : ah_C := .inl (0, 0, .inl (fun _ => 0))
/-- the heap H is the abstract heap h -/
def ah_R (X : ah_X) (h : ah_H) (H : Heap) : Prop :=
  H.size = h.1 ∧ (∀ (a : Nat) (c : ah_C), h.2.2 a = some c → (X.2.2.1.size ≤ a ∧ a < h.1 ∧ va_at X.1 vwCl (a, ah_cv X c) H) ∨ (a = X.2.2.2.1 ∧ c = ah_e4) ∨ (a = X.2.2.2.2.1 ∧ c = ah_e0)) ∧
  (∀ q : Nat, q < X.2.2.1.size → H[q]? = X.2.2.1[q]?) ∧ X.2.2.1.size ≤ h.1 ∧ X.2.2.2.1 < X.2.2.1.size ∧ X.2.2.2.2.1 < X.2.2.1.size
def ah_set (h : ah_H) (a : Nat) (c : ah_C) : ah_H := (h.1, h.2.1, va_up h.2.2 a (some c))
def ah_new (h : ah_H) (c : ah_C) (n : Nat) : ah_H := (h.1 + 1, h.2.1 + n, va_up h.2.2 h.1 (some c))
theorem ah_R.set {X : ah_X} {h : ah_H} {H H1 : Heap} {a : Nat} {c : ah_C} (r : ah_R X h H) (ha : X.2.2.1.size ≤ a) (hl : a < h.1) (he : va_at X.1 vwCl (a, ah_cv X c) H1) (hz : H1.size = H.size) (oq : ∀ q : Nat, q ≠ a → H1[q]? = H[q]?) : ah_R X (ah_set h a c) H1 := by
  obtain ⟨r1, r2, r3, r4, r5, r6⟩ := r
  refine ⟨hz.trans r1, fun b d hd => ?_, fun q hq => ?_, r4, r5, r6⟩
  · by_cases hb : b = a
    · subst hb
      have e : d = c := by
        have : (va_up h.2.2 b (some c)) b = some d := hd
        rw [va_up_self] at this
        exact (Option.some.inj this).symm
      subst e
      exact Or.inl ⟨ha, hl, he⟩
    · have hd' : h.2.2 b = some d := by
        have : (va_up h.2.2 a (some c)) b = some d := hd
        rwa [va_up_ne _ _ hb] at this
      rcases r2 b d hd' with ⟨x1, x2, x3⟩ | x | x
      · exact Or.inl ⟨x1, x2, x3.kept (oq b hb)⟩
      · exact Or.inr (Or.inl x)
      · exact Or.inr (Or.inr x)
  · rw [oq q (by omega)]
    exact r3 q hq
theorem ah_R.new {X : ah_X} {h : ah_H} {H H1 : Heap} {c : ah_C} {n : Nat} (r : ah_R X h H) (he : va_at X.1 vwCl (h.1, ah_cv X c) H1) (hz : H1.size = h.1 + 1) (oq : ∀ q : Nat, q < h.1 → H1[q]? = H[q]?) : ah_R X (ah_new h c n) H1 := by
  obtain ⟨r1, r2, r3, r4, r5, r6⟩ := r
  refine ⟨hz, fun b d hd => ?_, fun q hq => ?_, Nat.le_succ_of_le r4, r5, r6⟩
  · by_cases hb : b = h.1
    · subst hb
      have e : d = c := by
        have : (va_up h.2.2 h.1 (some c)) h.1 = some d := hd
        rw [va_up_self] at this
        exact (Option.some.inj this).symm
      subst e
      exact Or.inl ⟨r4, Nat.lt_succ_self _, he⟩
    · have hd' : h.2.2 b = some d := by
        have : (va_up h.2.2 h.1 (some c)) b = some d := hd
        rwa [va_up_ne _ _ hb] at this
      rcases r2 b d hd' with ⟨x1, x2, x3⟩ | x | x
      · exact Or.inl ⟨x1, Nat.lt_succ_of_lt x2, x3.kept (oq b x2)⟩
      · exact Or.inr (Or.inl x)
      · exact Or.inr (Or.inr x)
  · rw [oq q (by omega)]
    exact r3 q hq
/-- an object of the abstract heap lies in the heap -/
theorem ah_R.obj {X : ah_X} {h : ah_H} {H : Heap} {a : Nat} {o : Nat × List Value} (r : ah_R X h H) (ha : h.2.2 a = some (.inr o)) : X.2.2.1.size ≤ a ∧ a < h.1 ∧ va_at X.1 vwCl (a, .inr o) H := by
  rcases r.2.1 a _ ha with x | ⟨-, x⟩ | ⟨-, x⟩
  · exact x
  · cases x
  · cases x
/-- so does an array that has places -/
theorem ah_R.arr {X : ah_X} {h : ah_H} {H : Heap} {a k n : Nat} {f : (Nat → Int32) ⊕ (Nat → Int64) ⊕ (Nat → UInt32) ⊕ (Nat → UInt64) ⊕ (Nat → Option Nat)} (r : ah_R X h H) (ha : h.2.2 a = some (.inl (k, n, f))) (hn : 0 < n) : X.2.2.1.size ≤ a ∧ a < h.1 ∧ H[a]? = some (vp_cell (X.2.1 k) (n, f)) := by
  rcases r.2.1 a _ ha with x | ⟨-, x⟩ | ⟨-, x⟩
  · exact x
  · cases x; omega
  · cases x; omega
/-! ===== the state that every method meets ===== -/
def ah_ns : List Cond := lw_tbl.filter (fun w => match w with | .methodLinkNest _ _ _ _ => true | .fieldLinkNest _ _ _ _ _ _ => true | .castable _ _ => true | _ => false)
def ah_K (X : ah_X) (U : State) : Prop :=
  va_K X.1 vwCl (ah_tys X) U ∧ (∀ w ∈ ah_ns, va_Nw w U) ∧ va_AO "java/lang/Object" U ∧ va_AO "LetterTree$Head" U ∧
  va_Z "java/util/ArrayList" "DEFAULTCAPACITY_EMPTY_ELEMENTDATA" "[Ljava/lang/Object;" (.ref X.2.2.2.1) (ah_A X) U X.2.2.1 ∧ va_Z "LetterTree" "NO_BYTES" "[B" (.ref X.2.2.2.2.1) (ah_A X) U X.2.2.1 ∧
  va_T (.object "java/lang/Object") X.2.2.2.1 0 (fun _ => .null) (ah_A X) U X.2.2.1 ∧ va_T .byte X.2.2.2.2.1 0 (fun _ => .int 0) (ah_A X) U X.2.2.1 ∧ va_Mi "[Ljava/lang/Object;" X.2.2.2.2.2 U ∧ va_Dc U
theorem ah_ns_warm {w : Cond} (hw : w ∈ ah_ns) {s U : State} (hW : s.WarmedH U.vm) (h : va_Nw w s) : va_Nw w U := by
  have h1 := (List.mem_filter.mp hw).2
  cases w <;> first | (simp at h1; done) | exact va_Nw.warmM hW h | exact va_Nw.warmF hW h | exact va_Nw.warmC hW h
theorem ah_K.warm {X : ah_X} {s U : State} (hW : s.WarmedH U.vm) (h : ah_K X s) : ah_K X U := by
  obtain ⟨h1, h2, h3, h4, h5, h6, h7, h8, h9, h10⟩ := h
  have ha := hW.alike
  exact ⟨va_K.moved ha h1, fun w hw => ah_ns_warm hw hW (h2 w hw), va_AO.moved ha h3, va_AO.moved ha h4, va_Z.moved ha h5, va_Z.moved ha h6, va_T.moved ha h7, va_T.moved ha h8, va_Mi.moved ha h9, va_Dc.moved ha h10⟩
end
section
/-! ===== a run of a method from a frame to its end, over abstract heaps ===== -/
def rt_C (X : ah_X) (y : MethodName) (cc : ByteArray) (nL d : Nat) (p : Program) (R : Room) (s : State) (m : MethodId) (args : Array Value) (meth : Method) (c : Code) : Prop :=
  p.tables.exec = Jvm.exec ∧ c.code = cc ∧ c.maxLocals = nL ∧ s.vm.findClass y.cls = some m.cls ∧ (∀ w ∈ gw_t, w.before args s = true) ∧ meth.name = y.name ∧ ah_K X s ∧ d ≤ R.frames ∧ 40 * d ≤ R.locals ∧ X.2.2.1.size ≤ s.heap.size ∧ (∀ q : Nat, q < X.2.2.1.size → s.heap[q]? = X.2.2.1[q]?)
def rt_at (cc : ByteArray) (pc : Nat) (r : Option Value) : Prop := match r with
  | none => decode cc pc = .ok (.return_, 1)
  | some (.int _) => decode cc pc = .ok (.ireturn, 1)
  | some (.long _) => decode cc pc = .ok (.lreturn, 1)
  | some .null => decode cc pc = .ok (.areturn, 1)
  | some (.ref _) => decode cc pc = .ok (.areturn, 1)
  | _ => False
/-- from pc, with these locals and this stack, over h, the method y returns r, and the heap is h2 -/
def Rt (X : ah_X) (y : MethodName) (cc : ByteArray) (nL d pc : Nat) (l : List (Nat × Value)) (st : List Value) (h : ah_H) (r : Option Value) (h2 : ah_H) : Prop :=
  h.1 ≤ h2.1 ∧ h.2.1 ≤ h2.2.1 ∧
  ∀ {p : Program} {la : Launch} {e : Env} {R : Room} {s : State} {m : MethodId} {args : Array Value} {below : List Frame} {meth : Method} {c : Code} {Q : State → Prop} (c0 z0 : Nat) (H : Heap) (locs : List Loc) (ls : Array Slot),
    rt_C X y cc nL d p R s m args meth c →
    (∀ (pc' : Nat) (H' : Heap) (locs' : List Loc) (ls' : Array Slot), rt_at cc pc' r → ah_R X h2 H' → va_S (ah_A X) s.heap H' locs' → W p la e R s m args below meth c H' locs' (h2.1 - c0) (h2.2.1 - z0) Q (F0 m pc' ls' r.toList)) →
    ah_R X h H → va_S (ah_A X) s.heap H locs → lv_has ls nL l → c0 ≤ h.1 → z0 ≤ h.2.1 → h2.1 - c0 ≤ R.cells → h2.2.1 - z0 ≤ R.slots →
    W p la e R s m args below meth c H locs (h.1 - c0) (h.2.1 - z0) Q (F0 m pc ls st)
section RT
variable {X : ah_X} {y : MethodName} {cc : ByteArray} {nL d pc : Nat} {l : List (Nat × Value)} {st : List Value} {h h2 : ah_H} {r : Option Value}
theorem rt_ret (ha : rt_at cc pc r) (hs : r.toList = st) : Rt X y cc nL d pc l st h r h :=
  ⟨Nat.le_refl _, Nat.le_refl _, fun c0 z0 H locs ls C hr hR hS hl h1 h2 h3 h4 => hs ▸ hr pc H locs ls ha hR hS⟩

theorem rt_iconst {n : Int} {v : Int32} (hv : Int32.ofInt n = v) (hd : decode cc pc = .ok (.iconst n, 1)) (k : Rt X y cc nL d (pc + 1) l (.int v :: st) h r h2) : Rt X y cc nL d pc l (st) h r h2 :=
  ⟨k.1, k.2.1, fun c0 z0 H locs ls C hr hR hS hl h1 h2 h3 h4 => lv_iconst C.1 C.2.1 hd hv (k.2.2 c0 z0 H locs ls C hr hR hS hl h1 h2 h3 h4)⟩
theorem rt_bipush {n : Int} {v : Int32} (hv : (Int8.ofInt n).toInt32 = v) (hd : decode cc pc = .ok (.bipush n, 2)) (k : Rt X y cc nL d (pc + 2) l (.int v :: st) h r h2) : Rt X y cc nL d pc l (st) h r h2 :=
  ⟨k.1, k.2.1, fun c0 z0 H locs ls C hr hR hS hl h1 h2 h3 h4 => lv_bipush C.1 C.2.1 hd hv (k.2.2 c0 z0 H locs ls C hr hR hS hl h1 h2 h3 h4)⟩
theorem rt_sipush {n : Int} {v : Int32} (hv : (Int16.ofInt n).toInt32 = v) (hd : decode cc pc = .ok (.sipush n, 3)) (k : Rt X y cc nL d (pc + 3) l (.int v :: st) h r h2) : Rt X y cc nL d pc l (st) h r h2 :=
  ⟨k.1, k.2.1, fun c0 z0 H locs ls C hr hR hS hl h1 h2 h3 h4 => lv_sipush C.1 C.2.1 hd hv (k.2.2 c0 z0 H locs ls C hr hR hS hl h1 h2 h3 h4)⟩
theorem rt_lconst {n : Fin 2} {v : Int64} (hv : Int64.ofNat (n : Nat) = v) (hd : decode cc pc = .ok (.lconst n, 1)) (k : Rt X y cc nL d (pc + 1) l (.long v :: st) h r h2) : Rt X y cc nL d pc l (st) h r h2 :=
  ⟨k.1, k.2.1, fun c0 z0 H locs ls C hr hR hS hl h1 h2 h3 h4 => lv_lconst C.1 C.2.1 hd hv (k.2.2 c0 z0 H locs ls C hr hR hS hl h1 h2 h3 h4)⟩
theorem rt_null  (hd : decode cc pc = .ok (.aconst_null, 1)) (k : Rt X y cc nL d (pc + 1) l (va_rf none :: st) h r h2) : Rt X y cc nL d pc l (st) h r h2 :=
  ⟨k.1, k.2.1, fun c0 z0 H locs ls C hr hR hS hl h1 h2 h3 h4 => lv_null C.1 C.2.1 hd (k.2.2 c0 z0 H locs ls C hr hR hS hl h1 h2 h3 h4)⟩
theorem rt_ldc {idx : Nat} {v : Int32} (hw : Cond.constant y.cls idx v ∈ gw_t) (hd : decode cc pc = .ok (.ldc idx, 2)) (k : Rt X y cc nL d (pc + 2) l (.int v :: st) h r h2) : Rt X y cc nL d pc l (st) h r h2 :=
  ⟨k.1, k.2.1, fun c0 z0 H locs ls C hr hR hS hl h1 h2 h3 h4 => lv_ldc C.1 C.2.1 C.2.2.2.1 (C.2.2.2.2.1 _ hw) hd (k.2.2 c0 z0 H locs ls C hr hR hS hl h1 h2 h3 h4)⟩
theorem rt_ldc2 {idx : Nat} {v : Int64} (hw : Cond.constantLong y.cls idx v ∈ gw_t) (hd : decode cc pc = .ok (.ldc2_w idx, 3)) (k : Rt X y cc nL d (pc + 3) l (.long v :: st) h r h2) : Rt X y cc nL d pc l (st) h r h2 :=
  ⟨k.1, k.2.1, fun c0 z0 H locs ls C hr hR hS hl h1 h2 h3 h4 => lv_ldc2 C.1 C.2.1 C.2.2.2.1 (C.2.2.2.2.1 _ hw) hd (k.2.2 c0 z0 H locs ls C hr hR hS hl h1 h2 h3 h4)⟩
theorem rt_iload_n {k0 : Fin 4} {x : Int32} (q : Nat) (hq : l[q]? = some ((k0 : Nat), .int x)) (hd : decode cc pc = .ok (.iload_n k0, 1)) (k : Rt X y cc nL d (pc + 1) l (.int x :: st) h r h2) : Rt X y cc nL d pc l (st) h r h2 :=
  ⟨k.1, k.2.1, fun c0 z0 H locs ls C hr hR hS hl h1 h2 h3 h4 => lv_iload_n C.1 C.2.1 hd rfl (lv_at hl q hq) (k.2.2 c0 z0 H locs ls C hr hR hS hl h1 h2 h3 h4)⟩
theorem rt_iload {i : Nat} {x : Int32} (q : Nat) (hq : l[q]? = some (i, .int x)) (hd : decode cc pc = .ok (.iload i, 2)) (k : Rt X y cc nL d (pc + 2) l (.int x :: st) h r h2) : Rt X y cc nL d pc l (st) h r h2 :=
  ⟨k.1, k.2.1, fun c0 z0 H locs ls C hr hR hS hl h1 h2 h3 h4 => lv_iload C.1 C.2.1 hd (lv_at hl q hq) (k.2.2 c0 z0 H locs ls C hr hR hS hl h1 h2 h3 h4)⟩
theorem rt_lload_n {k0 : Fin 4} {x : Int64} (q : Nat) (hq : l[q]? = some ((k0 : Nat), .long x)) (hd : decode cc pc = .ok (.lload_n k0, 1)) (k : Rt X y cc nL d (pc + 1) l (.long x :: st) h r h2) : Rt X y cc nL d pc l (st) h r h2 :=
  ⟨k.1, k.2.1, fun c0 z0 H locs ls C hr hR hS hl h1 h2 h3 h4 => lv_lload_n C.1 C.2.1 hd rfl (lv_at hl q hq) (k.2.2 c0 z0 H locs ls C hr hR hS hl h1 h2 h3 h4)⟩
theorem rt_lload {i : Nat} {x : Int64} (q : Nat) (hq : l[q]? = some (i, .long x)) (hd : decode cc pc = .ok (.lload i, 2)) (k : Rt X y cc nL d (pc + 2) l (.long x :: st) h r h2) : Rt X y cc nL d pc l (st) h r h2 :=
  ⟨k.1, k.2.1, fun c0 z0 H locs ls C hr hR hS hl h1 h2 h3 h4 => lv_lload C.1 C.2.1 hd (lv_at hl q hq) (k.2.2 c0 z0 H locs ls C hr hR hS hl h1 h2 h3 h4)⟩
theorem rt_aload_n {k0 : Fin 4} {x : Option Nat} (q : Nat) (hq : l[q]? = some ((k0 : Nat), va_rf x)) (hd : decode cc pc = .ok (.aload_n k0, 1)) (k : Rt X y cc nL d (pc + 1) l (va_rf x :: st) h r h2) : Rt X y cc nL d pc l st h r h2 := by
  refine ⟨k.1, k.2.1, fun c0 z0 H locs ls C hr hR hS hl h1 h2 h3 h4 => ?_⟩
  have kk := (k.2.2 c0 z0 H locs ls C hr hR hS hl h1 h2 h3 h4)
  cases x with
  | none => exact lv_aload_nN C.1 C.2.1 hd rfl (lv_at hl q hq) kk
  | some a => exact lv_aload_n C.1 C.2.1 hd rfl (lv_at hl q hq) kk
theorem rt_aload {i : Nat} {x : Option Nat} (q : Nat) (hq : l[q]? = some (i, va_rf x)) (hd : decode cc pc = .ok (.aload i, 2)) (k : Rt X y cc nL d (pc + 2) l (va_rf x :: st) h r h2) : Rt X y cc nL d pc l st h r h2 := by
  refine ⟨k.1, k.2.1, fun c0 z0 H locs ls C hr hR hS hl h1 h2 h3 h4 => ?_⟩
  have kk := (k.2.2 c0 z0 H locs ls C hr hR hS hl h1 h2 h3 h4)
  cases x with
  | none => exact lv_aloadN C.1 C.2.1 hd (lv_at hl q hq) kk
  | some a => exact lv_aload C.1 C.2.1 hd (lv_at hl q hq) kk
theorem rt_istore_n {k0 : Fin 4} {x : Int32} {l2 : List (Nat × Value)} (hn : (k0 : Nat) < nL) (hl2 : ((k0 : Nat), .int x) :: l.filter (fun q => !(q.1 == (k0 : Nat)) && !(q.1 + 1 == (k0 : Nat) && q.2.category == 2)) = l2) (hd : decode cc pc = .ok (.istore_n k0, 1)) (k : Rt X y cc nL d (pc + 1) l2 st h r h2) : Rt X y cc nL d pc l (.int x :: st) h r h2 :=
  ⟨k.1, k.2.1, fun c0 z0 H locs ls C hr hR hS hl h1 h2 h3 h4 => lv_istore_n C.1 C.2.1 hd rfl hl hn hl2 (fun ls2 hl2 => (k.2.2 c0 z0 H locs ls2 C hr hR hS hl2 h1 h2 h3 h4))⟩
theorem rt_istore {i : Nat} {x : Int32} {l2 : List (Nat × Value)} (hn : i < nL) (hl2 : (i, .int x) :: l.filter (fun q => !(q.1 == i) && !(q.1 + 1 == i && q.2.category == 2)) = l2) (hd : decode cc pc = .ok (.istore i, 2)) (k : Rt X y cc nL d (pc + 2) l2 st h r h2) : Rt X y cc nL d pc l (.int x :: st) h r h2 :=
  ⟨k.1, k.2.1, fun c0 z0 H locs ls C hr hR hS hl h1 h2 h3 h4 => lv_istore C.1 C.2.1 hd hl hn hl2 (fun ls2 hl2 => (k.2.2 c0 z0 H locs ls2 C hr hR hS hl2 h1 h2 h3 h4))⟩
theorem rt_lstore_n {k0 : Fin 4} {x : Int64} {l2 : List (Nat × Value)} (hn : (k0 : Nat) + 1 < nL) (hl2 : ((k0 : Nat), .long x) :: l.filter (fun q => !(q.1 == (k0 : Nat)) && (!(q.1 == (k0 : Nat) + 1) && !(q.1 + 1 == (k0 : Nat) && q.2.category == 2))) = l2) (hd : decode cc pc = .ok (.lstore_n k0, 1)) (k : Rt X y cc nL d (pc + 1) l2 st h r h2) : Rt X y cc nL d pc l (.long x :: st) h r h2 :=
  ⟨k.1, k.2.1, fun c0 z0 H locs ls C hr hR hS hl h1 h2 h3 h4 => lv_lstore_n C.1 C.2.1 hd rfl hl hn hl2 (fun ls2 hl2 => (k.2.2 c0 z0 H locs ls2 C hr hR hS hl2 h1 h2 h3 h4))⟩
theorem rt_lstore {i : Nat} {x : Int64} {l2 : List (Nat × Value)} (hn : i + 1 < nL) (hl2 : (i, .long x) :: l.filter (fun q => !(q.1 == i) && (!(q.1 == i + 1) && !(q.1 + 1 == i && q.2.category == 2))) = l2) (hd : decode cc pc = .ok (.lstore i, 2)) (k : Rt X y cc nL d (pc + 2) l2 st h r h2) : Rt X y cc nL d pc l (.long x :: st) h r h2 :=
  ⟨k.1, k.2.1, fun c0 z0 H locs ls C hr hR hS hl h1 h2 h3 h4 => lv_lstore C.1 C.2.1 hd hl hn hl2 (fun ls2 hl2 => (k.2.2 c0 z0 H locs ls2 C hr hR hS hl2 h1 h2 h3 h4))⟩
theorem rt_astore_n {k0 : Fin 4} {x : Option Nat} {l2 : List (Nat × Value)} (hn : (k0 : Nat) < nL) (hl2 : ((k0 : Nat), va_rf x) :: l.filter (fun q => !(q.1 == (k0 : Nat)) && !(q.1 + 1 == (k0 : Nat) && q.2.category == 2)) = l2) (hd : decode cc pc = .ok (.astore_n k0, 1)) (k : Rt X y cc nL d (pc + 1) l2 st h r h2) : Rt X y cc nL d pc l (va_rf x :: st) h r h2 := by
  refine ⟨k.1, k.2.1, fun c0 z0 H locs ls C hr hR hS hl h1 h2 h3 h4 => ?_⟩
  cases x with
  | none => exact lv_astore_nN C.1 C.2.1 hd rfl hl hn hl2 (fun ls2 hl2 => (k.2.2 c0 z0 H locs ls2 C hr hR hS hl2 h1 h2 h3 h4))
  | some a => exact lv_astore_n C.1 C.2.1 hd rfl hl hn hl2 (fun ls2 hl2 => (k.2.2 c0 z0 H locs ls2 C hr hR hS hl2 h1 h2 h3 h4))
theorem rt_astore {i : Nat} {x : Option Nat} {l2 : List (Nat × Value)} (hn : i < nL) (hl2 : (i, va_rf x) :: l.filter (fun q => !(q.1 == i) && !(q.1 + 1 == i && q.2.category == 2)) = l2) (hd : decode cc pc = .ok (.astore i, 2)) (k : Rt X y cc nL d (pc + 2) l2 st h r h2) : Rt X y cc nL d pc l (va_rf x :: st) h r h2 := by
  refine ⟨k.1, k.2.1, fun c0 z0 H locs ls C hr hR hS hl h1 h2 h3 h4 => ?_⟩
  cases x with
  | none => exact lv_astoreN C.1 C.2.1 hd hl hn hl2 (fun ls2 hl2 => (k.2.2 c0 z0 H locs ls2 C hr hR hS hl2 h1 h2 h3 h4))
  | some a => exact lv_astore C.1 C.2.1 hd hl hn hl2 (fun ls2 hl2 => (k.2.2 c0 z0 H locs ls2 C hr hR hS hl2 h1 h2 h3 h4))
theorem rt_iinc {i : Nat} {n : Int} {x v : Int32} {l2 : List (Nat × Value)} (q : Nat) (hq : l[q]? = some (i, .int x)) (hv : x + Int32.ofInt n = v) (hn : i < nL) (hl2 : (i, .int v) :: l.filter (fun q => !(q.1 == i) && !(q.1 + 1 == i && q.2.category == 2)) = l2) (hd : decode cc pc = .ok (.iinc i n, 3)) (k : Rt X y cc nL d (pc + 3) l2 st h r h2) : Rt X y cc nL d pc l st h r h2 :=
  ⟨k.1, k.2.1, fun c0 z0 H locs ls C hr hR hS hl h1 h2 h3 h4 => lv_iinc C.1 C.2.1 hd hl hq hv hn hl2 (fun ls2 hl2 => (k.2.2 c0 z0 H locs ls2 C hr hR hS hl2 h1 h2 h3 h4))⟩
/-- the locals in another order, or fewer of them -/
theorem rt_locals {l2 : List (Nat × Value)} (hl2 : ∀ q ∈ l2, q ∈ l) (k : Rt X y cc nL d pc l2 st h r h2) : Rt X y cc nL d pc l st h r h2 :=
  ⟨k.1, k.2.1, fun c0 z0 H locs ls C hr hR hS hl h1 h2 h3 h4 => k.2.2 c0 z0 H locs ls C hr hR hS ⟨hl.1, hl.2.1, fun q hq => hl.2.2 q (hl2 q hq)⟩ h1 h2 h3 h4⟩
theorem rt_iadd {x z : Int32} (hd : decode cc pc = .ok (.iadd, 1)) (k : Rt X y cc nL d (pc + 1) l (.int (x + z) :: st) h r h2) : Rt X y cc nL d pc l (.int z :: .int x :: st) h r h2 :=
  ⟨k.1, k.2.1, fun c0 z0 H locs ls C hr hR hS hl h1 h2 h3 h4 => lv_iadd C.1 C.2.1 hd (k.2.2 c0 z0 H locs ls C hr hR hS hl h1 h2 h3 h4)⟩
theorem rt_isub {x z : Int32} (hd : decode cc pc = .ok (.isub, 1)) (k : Rt X y cc nL d (pc + 1) l (.int (x - z) :: st) h r h2) : Rt X y cc nL d pc l (.int z :: .int x :: st) h r h2 :=
  ⟨k.1, k.2.1, fun c0 z0 H locs ls C hr hR hS hl h1 h2 h3 h4 => lv_isub C.1 C.2.1 hd (k.2.2 c0 z0 H locs ls C hr hR hS hl h1 h2 h3 h4)⟩
theorem rt_imul {x z : Int32} (hd : decode cc pc = .ok (.imul, 1)) (k : Rt X y cc nL d (pc + 1) l (.int (x * z) :: st) h r h2) : Rt X y cc nL d pc l (.int z :: .int x :: st) h r h2 :=
  ⟨k.1, k.2.1, fun c0 z0 H locs ls C hr hR hS hl h1 h2 h3 h4 => lv_imul C.1 C.2.1 hd (k.2.2 c0 z0 H locs ls C hr hR hS hl h1 h2 h3 h4)⟩
theorem rt_iand {x z : Int32} (hd : decode cc pc = .ok (.iand, 1)) (k : Rt X y cc nL d (pc + 1) l (.int (x &&& z) :: st) h r h2) : Rt X y cc nL d pc l (.int z :: .int x :: st) h r h2 :=
  ⟨k.1, k.2.1, fun c0 z0 H locs ls C hr hR hS hl h1 h2 h3 h4 => lv_iand C.1 C.2.1 hd (k.2.2 c0 z0 H locs ls C hr hR hS hl h1 h2 h3 h4)⟩
theorem rt_ior {x z : Int32} (hd : decode cc pc = .ok (.ior, 1)) (k : Rt X y cc nL d (pc + 1) l (.int (x ||| z) :: st) h r h2) : Rt X y cc nL d pc l (.int z :: .int x :: st) h r h2 :=
  ⟨k.1, k.2.1, fun c0 z0 H locs ls C hr hR hS hl h1 h2 h3 h4 => lv_ior C.1 C.2.1 hd (k.2.2 c0 z0 H locs ls C hr hR hS hl h1 h2 h3 h4)⟩
theorem rt_ishl {x z : Int32} (hd : decode cc pc = .ok (.ishl, 1)) (k : Rt X y cc nL d (pc + 1) l (.int (x <<< (z &&& 31)) :: st) h r h2) : Rt X y cc nL d pc l (.int z :: .int x :: st) h r h2 :=
  ⟨k.1, k.2.1, fun c0 z0 H locs ls C hr hR hS hl h1 h2 h3 h4 => lv_ishl C.1 C.2.1 hd (k.2.2 c0 z0 H locs ls C hr hR hS hl h1 h2 h3 h4)⟩
theorem rt_ishr {x z : Int32} (hd : decode cc pc = .ok (.ishr, 1)) (k : Rt X y cc nL d (pc + 1) l (.int (x >>> (z &&& 31)) :: st) h r h2) : Rt X y cc nL d pc l (.int z :: .int x :: st) h r h2 :=
  ⟨k.1, k.2.1, fun c0 z0 H locs ls C hr hR hS hl h1 h2 h3 h4 => lv_ishr C.1 C.2.1 hd (k.2.2 c0 z0 H locs ls C hr hR hS hl h1 h2 h3 h4)⟩
theorem rt_idiv {x z : Int32} (hz : ¬ z = 0) (hd : decode cc pc = .ok (.idiv, 1)) (k : Rt X y cc nL d (pc + 1) l (.int (x / z) :: st) h r h2) : Rt X y cc nL d pc l (.int z :: .int x :: st) h r h2 :=
  ⟨k.1, k.2.1, fun c0 z0 H locs ls C hr hR hS hl h1 h2 h3 h4 => lv_idiv C.1 C.2.1 hd hz (k.2.2 c0 z0 H locs ls C hr hR hS hl h1 h2 h3 h4)⟩
theorem rt_irem {x z : Int32} (hz : ¬ z = 0) (hd : decode cc pc = .ok (.irem, 1)) (k : Rt X y cc nL d (pc + 1) l (.int (x - x / z * z) :: st) h r h2) : Rt X y cc nL d pc l (.int z :: .int x :: st) h r h2 :=
  ⟨k.1, k.2.1, fun c0 z0 H locs ls C hr hR hS hl h1 h2 h3 h4 => lv_irem C.1 C.2.1 hd hz (k.2.2 c0 z0 H locs ls C hr hR hS hl h1 h2 h3 h4)⟩
theorem rt_ladd {x z : Int64} (hd : decode cc pc = .ok (.ladd, 1)) (k : Rt X y cc nL d (pc + 1) l (.long (x + z) :: st) h r h2) : Rt X y cc nL d pc l (.long z :: .long x :: st) h r h2 :=
  ⟨k.1, k.2.1, fun c0 z0 H locs ls C hr hR hS hl h1 h2 h3 h4 => lv_ladd C.1 C.2.1 hd (k.2.2 c0 z0 H locs ls C hr hR hS hl h1 h2 h3 h4)⟩
theorem rt_lsub {x z : Int64} (hd : decode cc pc = .ok (.lsub, 1)) (k : Rt X y cc nL d (pc + 1) l (.long (x - z) :: st) h r h2) : Rt X y cc nL d pc l (.long z :: .long x :: st) h r h2 :=
  ⟨k.1, k.2.1, fun c0 z0 H locs ls C hr hR hS hl h1 h2 h3 h4 => lv_lsub C.1 C.2.1 hd (k.2.2 c0 z0 H locs ls C hr hR hS hl h1 h2 h3 h4)⟩
theorem rt_land {x z : Int64} (hd : decode cc pc = .ok (.land, 1)) (k : Rt X y cc nL d (pc + 1) l (.long (x &&& z) :: st) h r h2) : Rt X y cc nL d pc l (.long z :: .long x :: st) h r h2 :=
  ⟨k.1, k.2.1, fun c0 z0 H locs ls C hr hR hS hl h1 h2 h3 h4 => lv_land C.1 C.2.1 hd (k.2.2 c0 z0 H locs ls C hr hR hS hl h1 h2 h3 h4)⟩
theorem rt_lor {x z : Int64} (hd : decode cc pc = .ok (.lor, 1)) (k : Rt X y cc nL d (pc + 1) l (.long (x ||| z) :: st) h r h2) : Rt X y cc nL d pc l (.long z :: .long x :: st) h r h2 :=
  ⟨k.1, k.2.1, fun c0 z0 H locs ls C hr hR hS hl h1 h2 h3 h4 => lv_lor C.1 C.2.1 hd (k.2.2 c0 z0 H locs ls C hr hR hS hl h1 h2 h3 h4)⟩
theorem rt_lshl {x : Int64} {z : Int32} (hd : decode cc pc = .ok (.lshl, 1)) (k : Rt X y cc nL d (pc + 1) l (.long (x <<< (z.toInt64 &&& 63)) :: st) h r h2) : Rt X y cc nL d pc l (.int z :: .long x :: st) h r h2 :=
  ⟨k.1, k.2.1, fun c0 z0 H locs ls C hr hR hS hl h1 h2 h3 h4 => lv_lshl C.1 C.2.1 hd rfl (k.2.2 c0 z0 H locs ls C hr hR hS hl h1 h2 h3 h4)⟩
theorem rt_lshr {x : Int64} {z : Int32} (hd : decode cc pc = .ok (.lshr, 1)) (k : Rt X y cc nL d (pc + 1) l (.long (x >>> (z.toInt64 &&& 63)) :: st) h r h2) : Rt X y cc nL d pc l (.int z :: .long x :: st) h r h2 :=
  ⟨k.1, k.2.1, fun c0 z0 H locs ls C hr hR hS hl h1 h2 h3 h4 => lv_lshr C.1 C.2.1 hd rfl (k.2.2 c0 z0 H locs ls C hr hR hS hl h1 h2 h3 h4)⟩
theorem rt_lushr {x : Int64} {z : Int32} (hd : decode cc pc = .ok (.lushr, 1)) (k : Rt X y cc nL d (pc + 1) l (.long ((x.toUInt64 >>> (z.toInt64.toUInt64 &&& Int64.toUInt64 63)).toInt64) :: st) h r h2) : Rt X y cc nL d pc l (.int z :: .long x :: st) h r h2 :=
  ⟨k.1, k.2.1, fun c0 z0 H locs ls C hr hR hS hl h1 h2 h3 h4 => lv_lushr C.1 C.2.1 hd rfl (k.2.2 c0 z0 H locs ls C hr hR hS hl h1 h2 h3 h4)⟩
theorem rt_i2l {x : Int32} (hd : decode cc pc = .ok (.i2l, 1)) (k : Rt X y cc nL d (pc + 1) l (.long x.toInt64 :: st) h r h2) : Rt X y cc nL d pc l (.int x :: st) h r h2 :=
  ⟨k.1, k.2.1, fun c0 z0 H locs ls C hr hR hS hl h1 h2 h3 h4 => lv_i2l C.1 C.2.1 hd rfl (k.2.2 c0 z0 H locs ls C hr hR hS hl h1 h2 h3 h4)⟩
theorem rt_l2i {x : Int64} (hd : decode cc pc = .ok (.l2i, 1)) (k : Rt X y cc nL d (pc + 1) l (.int x.toInt32 :: st) h r h2) : Rt X y cc nL d pc l (.long x :: st) h r h2 :=
  ⟨k.1, k.2.1, fun c0 z0 H locs ls C hr hR hS hl h1 h2 h3 h4 => lv_l2i C.1 C.2.1 hd rfl (k.2.2 c0 z0 H locs ls C hr hR hS hl h1 h2 h3 h4)⟩
theorem rt_i2b {x : Int32} (hd : decode cc pc = .ok (.i2b, 1)) (k : Rt X y cc nL d (pc + 1) l (.int x.toInt8.toInt32 :: st) h r h2) : Rt X y cc nL d pc l (.int x :: st) h r h2 :=
  ⟨k.1, k.2.1, fun c0 z0 H locs ls C hr hR hS hl h1 h2 h3 h4 => lv_i2b C.1 C.2.1 hd rfl (k.2.2 c0 z0 H locs ls C hr hR hS hl h1 h2 h3 h4)⟩
theorem rt_lcmp {x z : Int64} (hd : decode cc pc = .ok (.lcmp, 1)) (k : Rt X y cc nL d (pc + 1) l (.int (lg_cmp x z) :: st) h r h2) : Rt X y cc nL d pc l (.long z :: .long x :: st) h r h2 :=
  ⟨k.1, k.2.1, fun c0 z0 H locs ls C hr hR hS hl h1 h2 h3 h4 => W.lcmp C.1 C.2.1 hd (k.2.2 c0 z0 H locs ls C hr hR hS hl h1 h2 h3 h4)⟩
theorem rt_dup {v : Value} (hv : v.category = 1) (hd : decode cc pc = .ok (.dup, 1)) (k : Rt X y cc nL d (pc + 1) l (v :: v :: st) h r h2) : Rt X y cc nL d pc l (v :: st) h r h2 :=
  ⟨k.1, k.2.1, fun c0 z0 H locs ls C hr hR hS hl h1 h2 h3 h4 => lv_dup C.1 C.2.1 hd hv (k.2.2 c0 z0 H locs ls C hr hR hS hl h1 h2 h3 h4)⟩
theorem rt_pop {v : Value} (hv : v.category = 1) (hd : decode cc pc = .ok (.pop, 1)) (k : Rt X y cc nL d (pc + 1) l (st) h r h2) : Rt X y cc nL d pc l (v :: st) h r h2 :=
  ⟨k.1, k.2.1, fun c0 z0 H locs ls C hr hR hS hl h1 h2 h3 h4 => lv_pop C.1 C.2.1 hd hv (k.2.2 c0 z0 H locs ls C hr hR hS hl h1 h2 h3 h4)⟩
theorem rt_dup_x1 {v w : Value} (hv : v.category = 1) (hw : w.category = 1) (hd : decode cc pc = .ok (.dup_x1, 1)) (k : Rt X y cc nL d (pc + 1) l (v :: w :: v :: st) h r h2) : Rt X y cc nL d pc l (v :: w :: st) h r h2 :=
  ⟨k.1, k.2.1, fun c0 z0 H locs ls C hr hR hS hl h1 h2 h3 h4 => lv_dup_x1 C.1 C.2.1 hd hv hw (k.2.2 c0 z0 H locs ls C hr hR hS hl h1 h2 h3 h4)⟩
theorem rt_dup2 {v w : Value} (hv : v.category = 1) (hw : w.category = 1) (hd : decode cc pc = .ok (.dup2, 1)) (k : Rt X y cc nL d (pc + 1) l (v :: w :: v :: w :: st) h r h2) : Rt X y cc nL d pc l (v :: w :: st) h r h2 :=
  ⟨k.1, k.2.1, fun c0 z0 H locs ls C hr hR hS hl h1 h2 h3 h4 => lv_dup2_11 C.1 C.2.1 hd hv hw (k.2.2 c0 z0 H locs ls C hr hR hS hl h1 h2 h3 h4)⟩
theorem rt_cat (x : Option Nat) : (va_rf x).category = 1 := by cases x <;> rfl
theorem rt_if_eq {x : Int32} {off : Int} {tgt : Nat} (ht : (pc : Int) + off = (tgt : Int)) (hd : decode cc pc = .ok (.ifCond .eq off, 3)) (c1 : h.1 ≤ h2.1 ∧ h.2.1 ≤ h2.2.1) (kt : x = 0 → Rt X y cc nL d tgt l st h r h2) (kf : ¬ x = 0 → Rt X y cc nL d (pc + 3) l st h r h2) : Rt X y cc nL d pc l (.int x :: st) h r h2 :=
  ⟨c1.1, c1.2, fun c0 z0 H locs ls C hr hR hS hl h1 h2 h3 h4 => lv_if_eq C.1 C.2.1 hd ht (fun q => (kt q).2.2 c0 z0 H locs ls C hr hR hS hl h1 h2 h3 h4) (fun q => (kf q).2.2 c0 z0 H locs ls C hr hR hS hl h1 h2 h3 h4)⟩
theorem rt_icmp_eq {x z : Int32} {off : Int} {tgt : Nat} (ht : (pc : Int) + off = (tgt : Int)) (hd : decode cc pc = .ok (.if_icmp .eq off, 3)) (c1 : h.1 ≤ h2.1 ∧ h.2.1 ≤ h2.2.1) (kt : x = z → Rt X y cc nL d tgt l st h r h2) (kf : ¬ x = z → Rt X y cc nL d (pc + 3) l st h r h2) : Rt X y cc nL d pc l (.int z :: .int x :: st) h r h2 :=
  ⟨c1.1, c1.2, fun c0 z0 H locs ls C hr hR hS hl h1 h2 h3 h4 => lv_icmp_eq C.1 C.2.1 hd ht (fun q => (kt q).2.2 c0 z0 H locs ls C hr hR hS hl h1 h2 h3 h4) (fun q => (kf q).2.2 c0 z0 H locs ls C hr hR hS hl h1 h2 h3 h4)⟩
theorem rt_if_ne {x : Int32} {off : Int} {tgt : Nat} (ht : (pc : Int) + off = (tgt : Int)) (hd : decode cc pc = .ok (.ifCond .ne off, 3)) (c1 : h.1 ≤ h2.1 ∧ h.2.1 ≤ h2.2.1) (kt : ¬ x = 0 → Rt X y cc nL d tgt l st h r h2) (kf : x = 0 → Rt X y cc nL d (pc + 3) l st h r h2) : Rt X y cc nL d pc l (.int x :: st) h r h2 :=
  ⟨c1.1, c1.2, fun c0 z0 H locs ls C hr hR hS hl h1 h2 h3 h4 => lv_if_ne C.1 C.2.1 hd ht (fun q => (kt q).2.2 c0 z0 H locs ls C hr hR hS hl h1 h2 h3 h4) (fun q => (kf q).2.2 c0 z0 H locs ls C hr hR hS hl h1 h2 h3 h4)⟩
theorem rt_icmp_ne {x z : Int32} {off : Int} {tgt : Nat} (ht : (pc : Int) + off = (tgt : Int)) (hd : decode cc pc = .ok (.if_icmp .ne off, 3)) (c1 : h.1 ≤ h2.1 ∧ h.2.1 ≤ h2.2.1) (kt : ¬ x = z → Rt X y cc nL d tgt l st h r h2) (kf : x = z → Rt X y cc nL d (pc + 3) l st h r h2) : Rt X y cc nL d pc l (.int z :: .int x :: st) h r h2 :=
  ⟨c1.1, c1.2, fun c0 z0 H locs ls C hr hR hS hl h1 h2 h3 h4 => lv_icmp_ne C.1 C.2.1 hd ht (fun q => (kt q).2.2 c0 z0 H locs ls C hr hR hS hl h1 h2 h3 h4) (fun q => (kf q).2.2 c0 z0 H locs ls C hr hR hS hl h1 h2 h3 h4)⟩
theorem rt_if_lt {x : Int32} {off : Int} {tgt : Nat} (ht : (pc : Int) + off = (tgt : Int)) (hd : decode cc pc = .ok (.ifCond .lt off, 3)) (c1 : h.1 ≤ h2.1 ∧ h.2.1 ≤ h2.2.1) (kt : x < 0 → Rt X y cc nL d tgt l st h r h2) (kf : ¬ x < 0 → Rt X y cc nL d (pc + 3) l st h r h2) : Rt X y cc nL d pc l (.int x :: st) h r h2 :=
  ⟨c1.1, c1.2, fun c0 z0 H locs ls C hr hR hS hl h1 h2 h3 h4 => lv_if_lt C.1 C.2.1 hd ht (fun q => (kt q).2.2 c0 z0 H locs ls C hr hR hS hl h1 h2 h3 h4) (fun q => (kf q).2.2 c0 z0 H locs ls C hr hR hS hl h1 h2 h3 h4)⟩
theorem rt_icmp_lt {x z : Int32} {off : Int} {tgt : Nat} (ht : (pc : Int) + off = (tgt : Int)) (hd : decode cc pc = .ok (.if_icmp .lt off, 3)) (c1 : h.1 ≤ h2.1 ∧ h.2.1 ≤ h2.2.1) (kt : x < z → Rt X y cc nL d tgt l st h r h2) (kf : ¬ x < z → Rt X y cc nL d (pc + 3) l st h r h2) : Rt X y cc nL d pc l (.int z :: .int x :: st) h r h2 :=
  ⟨c1.1, c1.2, fun c0 z0 H locs ls C hr hR hS hl h1 h2 h3 h4 => lv_icmp_lt C.1 C.2.1 hd ht (fun q => (kt q).2.2 c0 z0 H locs ls C hr hR hS hl h1 h2 h3 h4) (fun q => (kf q).2.2 c0 z0 H locs ls C hr hR hS hl h1 h2 h3 h4)⟩
theorem rt_if_ge {x : Int32} {off : Int} {tgt : Nat} (ht : (pc : Int) + off = (tgt : Int)) (hd : decode cc pc = .ok (.ifCond .ge off, 3)) (c1 : h.1 ≤ h2.1 ∧ h.2.1 ≤ h2.2.1) (kt : 0 ≤ x → Rt X y cc nL d tgt l st h r h2) (kf : ¬ 0 ≤ x → Rt X y cc nL d (pc + 3) l st h r h2) : Rt X y cc nL d pc l (.int x :: st) h r h2 :=
  ⟨c1.1, c1.2, fun c0 z0 H locs ls C hr hR hS hl h1 h2 h3 h4 => lv_if_ge C.1 C.2.1 hd ht (fun q => (kt q).2.2 c0 z0 H locs ls C hr hR hS hl h1 h2 h3 h4) (fun q => (kf q).2.2 c0 z0 H locs ls C hr hR hS hl h1 h2 h3 h4)⟩
theorem rt_icmp_ge {x z : Int32} {off : Int} {tgt : Nat} (ht : (pc : Int) + off = (tgt : Int)) (hd : decode cc pc = .ok (.if_icmp .ge off, 3)) (c1 : h.1 ≤ h2.1 ∧ h.2.1 ≤ h2.2.1) (kt : z ≤ x → Rt X y cc nL d tgt l st h r h2) (kf : ¬ z ≤ x → Rt X y cc nL d (pc + 3) l st h r h2) : Rt X y cc nL d pc l (.int z :: .int x :: st) h r h2 :=
  ⟨c1.1, c1.2, fun c0 z0 H locs ls C hr hR hS hl h1 h2 h3 h4 => lv_icmp_ge C.1 C.2.1 hd ht (fun q => (kt q).2.2 c0 z0 H locs ls C hr hR hS hl h1 h2 h3 h4) (fun q => (kf q).2.2 c0 z0 H locs ls C hr hR hS hl h1 h2 h3 h4)⟩
theorem rt_if_gt {x : Int32} {off : Int} {tgt : Nat} (ht : (pc : Int) + off = (tgt : Int)) (hd : decode cc pc = .ok (.ifCond .gt off, 3)) (c1 : h.1 ≤ h2.1 ∧ h.2.1 ≤ h2.2.1) (kt : 0 < x → Rt X y cc nL d tgt l st h r h2) (kf : ¬ 0 < x → Rt X y cc nL d (pc + 3) l st h r h2) : Rt X y cc nL d pc l (.int x :: st) h r h2 :=
  ⟨c1.1, c1.2, fun c0 z0 H locs ls C hr hR hS hl h1 h2 h3 h4 => lv_if_gt C.1 C.2.1 hd ht (fun q => (kt q).2.2 c0 z0 H locs ls C hr hR hS hl h1 h2 h3 h4) (fun q => (kf q).2.2 c0 z0 H locs ls C hr hR hS hl h1 h2 h3 h4)⟩
theorem rt_icmp_gt {x z : Int32} {off : Int} {tgt : Nat} (ht : (pc : Int) + off = (tgt : Int)) (hd : decode cc pc = .ok (.if_icmp .gt off, 3)) (c1 : h.1 ≤ h2.1 ∧ h.2.1 ≤ h2.2.1) (kt : z < x → Rt X y cc nL d tgt l st h r h2) (kf : ¬ z < x → Rt X y cc nL d (pc + 3) l st h r h2) : Rt X y cc nL d pc l (.int z :: .int x :: st) h r h2 :=
  ⟨c1.1, c1.2, fun c0 z0 H locs ls C hr hR hS hl h1 h2 h3 h4 => lv_icmp_gt C.1 C.2.1 hd ht (fun q => (kt q).2.2 c0 z0 H locs ls C hr hR hS hl h1 h2 h3 h4) (fun q => (kf q).2.2 c0 z0 H locs ls C hr hR hS hl h1 h2 h3 h4)⟩
theorem rt_if_le {x : Int32} {off : Int} {tgt : Nat} (ht : (pc : Int) + off = (tgt : Int)) (hd : decode cc pc = .ok (.ifCond .le off, 3)) (c1 : h.1 ≤ h2.1 ∧ h.2.1 ≤ h2.2.1) (kt : x ≤ 0 → Rt X y cc nL d tgt l st h r h2) (kf : ¬ x ≤ 0 → Rt X y cc nL d (pc + 3) l st h r h2) : Rt X y cc nL d pc l (.int x :: st) h r h2 :=
  ⟨c1.1, c1.2, fun c0 z0 H locs ls C hr hR hS hl h1 h2 h3 h4 => lv_if_le C.1 C.2.1 hd ht (fun q => (kt q).2.2 c0 z0 H locs ls C hr hR hS hl h1 h2 h3 h4) (fun q => (kf q).2.2 c0 z0 H locs ls C hr hR hS hl h1 h2 h3 h4)⟩
theorem rt_icmp_le {x z : Int32} {off : Int} {tgt : Nat} (ht : (pc : Int) + off = (tgt : Int)) (hd : decode cc pc = .ok (.if_icmp .le off, 3)) (c1 : h.1 ≤ h2.1 ∧ h.2.1 ≤ h2.2.1) (kt : x ≤ z → Rt X y cc nL d tgt l st h r h2) (kf : ¬ x ≤ z → Rt X y cc nL d (pc + 3) l st h r h2) : Rt X y cc nL d pc l (.int z :: .int x :: st) h r h2 :=
  ⟨c1.1, c1.2, fun c0 z0 H locs ls C hr hR hS hl h1 h2 h3 h4 => lv_icmp_le C.1 C.2.1 hd ht (fun q => (kt q).2.2 c0 z0 H locs ls C hr hR hS hl h1 h2 h3 h4) (fun q => (kf q).2.2 c0 z0 H locs ls C hr hR hS hl h1 h2 h3 h4)⟩
theorem rt_acmp_eq {x z : Option Nat} {off : Int} {tgt : Nat} (ht : (pc : Int) + off = (tgt : Int)) (hd : decode cc pc = .ok (.if_acmp .eq off, 3)) (c1 : h.1 ≤ h2.1 ∧ h.2.1 ≤ h2.2.1) (kt : x = z → Rt X y cc nL d tgt l st h r h2) (kf : ¬ x = z → Rt X y cc nL d (pc + 3) l st h r h2) : Rt X y cc nL d pc l (va_rf z :: va_rf x :: st) h r h2 :=
  ⟨c1.1, c1.2, fun c0 z0 H locs ls C hr hR hS hl h1 h2 h3 h4 => lv_acmp_eq C.1 C.2.1 hd ht (fun q => (kt q).2.2 c0 z0 H locs ls C hr hR hS hl h1 h2 h3 h4) (fun q => (kf q).2.2 c0 z0 H locs ls C hr hR hS hl h1 h2 h3 h4)⟩
theorem rt_acmp_ne {x z : Option Nat} {off : Int} {tgt : Nat} (ht : (pc : Int) + off = (tgt : Int)) (hd : decode cc pc = .ok (.if_acmp .ne off, 3)) (c1 : h.1 ≤ h2.1 ∧ h.2.1 ≤ h2.2.1) (kt : ¬ x = z → Rt X y cc nL d tgt l st h r h2) (kf : x = z → Rt X y cc nL d (pc + 3) l st h r h2) : Rt X y cc nL d pc l (va_rf z :: va_rf x :: st) h r h2 :=
  ⟨c1.1, c1.2, fun c0 z0 H locs ls C hr hR hS hl h1 h2 h3 h4 => lv_acmp_ne C.1 C.2.1 hd ht (fun q => (kt q).2.2 c0 z0 H locs ls C hr hR hS hl h1 h2 h3 h4) (fun q => (kf q).2.2 c0 z0 H locs ls C hr hR hS hl h1 h2 h3 h4)⟩
theorem rt_goto {off : Int} {tgt : Nat} (ht : (pc : Int) + off = (tgt : Int)) (hd : decode cc pc = .ok (.goto off, 3)) (k : Rt X y cc nL d tgt l st h r h2) : Rt X y cc nL d pc l st h r h2 :=
  ⟨k.1, k.2.1, fun c0 z0 H locs ls C hr hR hS hl h1 h2 h3 h4 => lv_goto C.1 C.2.1 hd ht (k.2.2 c0 z0 H locs ls C hr hR hS hl h1 h2 h3 h4)⟩
theorem rt_ifnull {x : Option Nat} {off : Int} {tgt : Nat} (ht : (pc : Int) + off = (tgt : Int)) (hd : decode cc pc = .ok (.ifnull off, 3)) (c1 : h.1 ≤ h2.1 ∧ h.2.1 ≤ h2.2.1) (kt : x = none → Rt X y cc nL d tgt l st h r h2) (kf : ¬ x = none → Rt X y cc nL d (pc + 3) l st h r h2) : Rt X y cc nL d pc l (va_rf x :: st) h r h2 := by
  refine ⟨c1.1, c1.2, fun c0 z0 H locs ls C hr hR hS hl h1 h2 h3 h4 => ?_⟩
  cases x with
  | none => exact lv_ifnullN C.1 C.2.1 hd ht ((kt rfl).2.2 c0 z0 H locs ls C hr hR hS hl h1 h2 h3 h4)
  | some a => exact lv_ifnull C.1 C.2.1 hd ((kf (fun q => by cases q)).2.2 c0 z0 H locs ls C hr hR hS hl h1 h2 h3 h4)
theorem rt_ifnonnull {x : Option Nat} {off : Int} {tgt : Nat} (ht : (pc : Int) + off = (tgt : Int)) (hd : decode cc pc = .ok (.ifnonnull off, 3)) (c1 : h.1 ≤ h2.1 ∧ h.2.1 ≤ h2.2.1) (kt : ¬ x = none → Rt X y cc nL d tgt l st h r h2) (kf : x = none → Rt X y cc nL d (pc + 3) l st h r h2) : Rt X y cc nL d pc l (va_rf x :: st) h r h2 := by
  refine ⟨c1.1, c1.2, fun c0 z0 H locs ls C hr hR hS hl h1 h2 h3 h4 => ?_⟩
  cases x with
  | none => exact lv_ifnonnullN C.1 C.2.1 hd ((kf rfl).2.2 c0 z0 H locs ls C hr hR hS hl h1 h2 h3 h4)
  | some a => exact lv_ifnonnull C.1 C.2.1 hd ht ((kt (fun q => by cases q)).2.2 c0 z0 H locs ls C hr hR hS hl h1 h2 h3 h4)
theorem rt_tableOut {dflt lo hi : Int} {offs : Array Int} {len : Nat} {x : Int32} {tgt : Nat} (ht : (pc : Int) + dflt = (tgt : Int)) (hd : decode cc pc = .ok (.tableswitch dflt lo hi offs, len)) (hx : x.toInt < lo ∨ hi < x.toInt) (k : Rt X y cc nL d tgt l st h r h2) : Rt X y cc nL d pc l (.int x :: st) h r h2 :=
  ⟨k.1, k.2.1, fun c0 z0 H locs ls C hr hR hS hl h1 h2 h3 h4 => lv_tableOut C.1 C.2.1 hd hx ht (k.2.2 c0 z0 H locs ls C hr hR hS hl h1 h2 h3 h4)⟩
theorem rt_tableIn {dflt lo hi : Int} {offs : Array Int} {len : Nat} {x : Int32} {off : Int} {tgt : Nat} (hd : decode cc pc = .ok (.tableswitch dflt lo hi offs, len)) (hx1 : ¬ x.toInt < lo) (hx2 : ¬ hi < x.toInt) (ho : offs[(x.toInt - lo).toNat]? = some off) (ht : (pc : Int) + off = (tgt : Int)) (k : Rt X y cc nL d tgt l st h r h2) : Rt X y cc nL d pc l (.int x :: st) h r h2 :=
  ⟨k.1, k.2.1, fun c0 z0 H locs ls C hr hR hS hl h1 h2 h3 h4 => lv_tableIn C.1 C.2.1 hd hx1 hx2 ho ht (k.2.2 c0 z0 H locs ls C hr hR hS hl h1 h2 h3 h4)⟩
end RT
end
section
/-! ===== reading and writing the abstract heap ===== -/
def hp_fs (h : ah_H) (r : Option Nat) (ci : Nat) : Option (List Value) := match r with
  | none => none
  | some a => match h.2.2 a with
    | some (.inr o) => if o.1 = ci then some o.2 else none
    | _ => none
theorem hp_fs_spec {h : ah_H} {r : Option Nat} {ci : Nat} {fs : List Value} (e : hp_fs h r ci = some fs) : ∃ a, r = some a ∧ h.2.2 a = some (.inr (ci, fs)) := by
  unfold hp_fs at e
  cases r with
  | none => cases e
  | some a =>
    refine ⟨a, rfl, ?_⟩
    simp only at e
    split at e
    · rename_i o ho
      split at e
      · rename_i hc
        cases e
        obtain ⟨o1, o2⟩ := o
        cases hc
        exact ho
      · cases e
    · cases e
theorem hp_fs_of {h : ah_H} {a ci : Nat} {fs : List Value} (e : h.2.2 a = some (.inr (ci, fs))) : hp_fs h (some a) ci = some fs := by
  simp [hp_fs, e]
def hp_gi (h : ah_H) (r : Option Nat) (ci k : Nat) : Option Int32 := match hp_fs h r ci with
  | some fs => match fs[k]? with
    | some (.int x) => some x
    | _ => none
  | none => none
def hp_gl (h : ah_H) (r : Option Nat) (ci k : Nat) : Option Int64 := match hp_fs h r ci with
  | some fs => match fs[k]? with
    | some (.long x) => some x
    | _ => none
  | none => none
def hp_gr (h : ah_H) (r : Option Nat) (ci k : Nat) : Option (Option Nat) := match hp_fs h r ci with
  | some fs => match fs[k]? with
    | some (.ref a) => some (some a)
    | some .null => some none
    | _ => none
  | none => none
theorem hp_gi_spec {h : ah_H} {r : Option Nat} {ci k : Nat} {x : Int32} (e : hp_gi h r ci k = some x) : ∃ a fs, r = some a ∧ h.2.2 a = some (.inr (ci, fs)) ∧ fs[k]? = some (.int x) := by
  unfold hp_gi at e
  split at e
  · rename_i fs hfs
    obtain ⟨a, h1, h2⟩ := hp_fs_spec hfs
    split at e
    · rename_i z hz
      cases e
      exact ⟨a, fs, h1, h2, hz⟩
    · cases e
  · cases e
theorem hp_gl_spec {h : ah_H} {r : Option Nat} {ci k : Nat} {x : Int64} (e : hp_gl h r ci k = some x) : ∃ a fs, r = some a ∧ h.2.2 a = some (.inr (ci, fs)) ∧ fs[k]? = some (.long x) := by
  unfold hp_gl at e
  split at e
  · rename_i fs hfs
    obtain ⟨a, h1, h2⟩ := hp_fs_spec hfs
    split at e
    · rename_i z hz
      cases e
      exact ⟨a, fs, h1, h2, hz⟩
    · cases e
  · cases e
theorem hp_gr_spec {h : ah_H} {r : Option Nat} {ci k : Nat} {x : Option Nat} (e : hp_gr h r ci k = some x) : ∃ a fs, r = some a ∧ h.2.2 a = some (.inr (ci, fs)) ∧ fs[k]? = some (va_rf x) := by
  unfold hp_gr at e
  split at e
  · rename_i fs hfs
    obtain ⟨a, h1, h2⟩ := hp_fs_spec hfs
    split at e
    · rename_i z hz
      cases e
      exact ⟨a, fs, h1, h2, hz⟩
    · rename_i hz
      cases e
      exact ⟨a, fs, h1, h2, hz⟩
    · cases e
  · cases e
def hp_pv (h : ah_H) (r : Option Nat) (ci k : Nat) (v : Value) : Option ah_H := match r with
  | none => none
  | some a => match hp_fs h (some a) ci with
    | some fs => if k < fs.length then some (ah_set h a (.inr (ci, fs.set k v))) else none
    | none => none
theorem hp_pv_spec {h h1 : ah_H} {r : Option Nat} {ci k : Nat} {v : Value} (e : hp_pv h r ci k v = some h1) : ∃ a fs, r = some a ∧ h.2.2 a = some (.inr (ci, fs)) ∧ k < fs.length ∧ h1 = ah_set h a (.inr (ci, fs.set k v)) := by
  unfold hp_pv at e
  cases r with
  | none => cases e
  | some a =>
    simp only at e
    split at e
    · rename_i fs hfs
      obtain ⟨a', h1', h2⟩ := hp_fs_spec hfs
      cases h1'
      split at e
      · rename_i hk
        cases e
        exact ⟨a, fs, rfl, h2, hk, rfl⟩
      · cases e
    · cases e
/-- what the tables say of a class, and of a field as a method's class spells it -/
def cl_ok (ci : Nat) (C : String) (T : u_T) (N : Nat) : Prop := vwCl[ci]? = some (C, T, N) ∧ (∀ w ∈ u_ws C T N, w ∈ gw_t) ∧ (∀ a, a < N → ∀ b, b < N → a ≠ b → (T a).2.1 ≠ (T b).2.1) ∧ ∃ ty : Nat → FieldType, ∀ k, k < N → parseFieldDescriptor (T k).2.2.1 = some (ty k)
def fp_ok (own : String) (idx ci k : Nat) (ty : FieldType) (fin : Bool) : Prop := ∃ (C : String) (T : u_T) (N : Nat) (ref : String), cl_ok ci C T N ∧ k < N ∧ Cond.fieldLink own idx ref (T k).2.1 (T k).2.2.1 ∈ gw_t ∧ (ref = (T k).1 ∨ Cond.sameField ref (T k).1 (T k).2.1 (T k).2.2.1 ∈ gw_t) ∧ parseFieldDescriptor (T k).2.2.1 = some ty ∧ (T k).2.2.2 = fin ∧ (fin = true → (T k).1 = own)
theorem fp_same {args : Array Value} {s : State} (hts : ∀ w ∈ gw_t, w.before args s = true) {ref o n dd : String} (h : ref = o ∨ Cond.sameField ref o n dd ∈ gw_t) (x : ClassId × Class × Nat × Field) (hx : s.fieldFound? o n dd = some x) : s.fieldFound? ref n dd = some x := by
  rcases h with rfl | h
  · exact hx
  · exact u_same (hts _ h) x hx
theorem ah_P1 {X : ah_X} {H : Heap} {q : Nat × va_E} (h : va_at X.1 vwCl q H) : va_P X.1 vwCl [q] H := fun k z hz => by
  have hk : k < 1 := (List.getElem?_eq_some_iff.mp hz).1
  rw [show k = 0 by omega] at hz
  cases hz
  exact h
section RTH
variable {X : ah_X} {y : MethodName} {cc : ByteArray} {nL d pc : Nat} {l : List (Nat × Value)} {st : List Value} {h h1 h2 : ah_H} {r : Option Value} {x : Option Nat} {idx ci k0 : Nat} {ty : FieldType} {fin : Bool}

theorem rt_getf {a : Nat} {fs : List Value} {v : Value} (F : fp_ok y.cls idx ci k0 ty fin) (ha : h.2.2 a = some (.inr (ci, fs))) (hv : fs[k0]? = some v) (hd : decode cc pc = .ok (.getfield idx, 3)) (k : Rt X y cc nL d (pc + 3) l (v :: st) h r h2) : Rt X y cc nL d pc l (.ref a :: st) h r h2 := by
  obtain ⟨Cn, T, N, ref, ⟨hc, hin, -, -⟩, hk, hlink, hsame, -⟩ := F
  refine ⟨k.1, k.2.1, ?_⟩
  intro p la e R s m args below meth c Q c0 z0 H locs ls C hr hR hS hl h1 h2 h3 h4
  obtain ⟨-, -, hat⟩ := hR.obj ha
  exact va_get C.1 C.2.1 (Ts := gw_t) C.2.2.2.2.1 hin C.2.2.2.1 C.2.2.2.2.2.2.1.1 (ah_P1 hat) 0 rfl hc k0 hk (C.2.2.2.2.1 _ hlink) (fp_same C.2.2.2.2.1 hsame) hv hd (k.2.2 c0 z0 H locs ls C hr hR hS hl h1 h2 h3 h4)
theorem rt_gi {z : Int32} (F : fp_ok y.cls idx ci k0 ty fin) (hd : decode cc pc = .ok (.getfield idx, 3)) (hx : hp_gi h x ci k0 = some z) (k : Rt X y cc nL d (pc + 3) l (.int z :: st) h r h2) : Rt X y cc nL d pc l (va_rf x :: st) h r h2 := by
  obtain ⟨a, fs, rfl, e2, e3⟩ := hp_gi_spec hx
  exact rt_getf F e2 e3 hd k
theorem rt_gl {z : Int64} (F : fp_ok y.cls idx ci k0 ty fin) (hd : decode cc pc = .ok (.getfield idx, 3)) (hx : hp_gl h x ci k0 = some z) (k : Rt X y cc nL d (pc + 3) l (.long z :: st) h r h2) : Rt X y cc nL d pc l (va_rf x :: st) h r h2 := by
  obtain ⟨a, fs, rfl, e2, e3⟩ := hp_gl_spec hx
  exact rt_getf F e2 e3 hd k
theorem rt_gr {z : Option Nat} (F : fp_ok y.cls idx ci k0 ty fin) (hd : decode cc pc = .ok (.getfield idx, 3)) (hx : hp_gr h x ci k0 = some z) (k : Rt X y cc nL d (pc + 3) l (va_rf z :: st) h r h2) : Rt X y cc nL d pc l (va_rf x :: st) h r h2 := by
  obtain ⟨a, fs, rfl, e2, e3⟩ := hp_gr_spec hx
  exact rt_getf F e2 e3 hd k
theorem rt_putf {v : Value} (F : fp_ok y.cls idx ci k0 ty fin) (hfin : fin = false ∨ y.name = "<init>") (hn : narrow ty v = v) (hf : fits ty v = true) (hd : decode cc pc = .ok (.putfield idx, 3)) (hx : hp_pv h x ci k0 v = some h1) (k : Rt X y cc nL d (pc + 3) l st h1 r h2) : Rt X y cc nL d pc l (v :: va_rf x :: st) h r h2 := by
  obtain ⟨a, fs, rfl, e2, e3, rfl⟩ := hp_pv_spec hx
  obtain ⟨Cn, T, N, ref, ⟨hc, hin, hnm, ty0, hty⟩, hk, hlink, hsame, hpd, hfl, hdecl⟩ := F
  refine ⟨k.1, k.2.1, ?_⟩
  intro p la e R s m args below meth c Q c0 z0 H locs ls C hr hR hS hl h1 h2 h3 h4
  obtain ⟨ha1, ha2, hat⟩ := hR.obj e2
  obtain ⟨hx0, hb0, hml, hown, hts, hname, hK, -⟩ := id C
  have hap := va_apart (own := y.cls) hts hin ty0 hty hnm hK.1 hc
  obtain ⟨rr, g1, cell, q1, q2, q3, q4⟩ := hat
  have hrr : rr = (Cn, T, N) := Option.some.inj (g1.symm.trans hc)
  subst hrr
  obtain ⟨hSl, hfc, kC, hkC, hkind⟩ := hK.1.1 ci _ hc
  obtain ⟨cf, kf, fi, f, hi, hsl⟩ := hSl k0 hk
  have hlay := hts _ (hin _ (u_in_lay hk))
  have hst := (u_facts hfc hkC (u_lays hts hin hk) hi).1
  have fin2 : ∀ H' : Heap, H'[a]? = some (cell.setSlot f.slot v) → H'.size = H.size → (∀ q : Nat, q ≠ a → H'[q]? = H[q]?) → ah_R X (ah_set h a (.inr (ci, fs.set k0 v))) H' ∧ va_S (ah_A X) s.heap H' (locs ++ [⟨a, f.slot⟩]) := by
    intro H' e1 e2 e3'
    rw [hsl] at e1 ⊢
    exact ⟨hR.set ha1 ha2 ⟨_, hc, t_OB.to (V := updV (vp_V fs) k0 v) ⟨_, e1, q2, q3, t_set q4 hap hk v⟩ (fun j _ => vp_updV_set e3 v j)⟩ e2 e3', hS.put e2 e3' ha1⟩
  cases hb : fin with
  | false =>
    unfold u_lay at hlay
    rw [if_neg (by rw [hfl, hb]; decide)] at hlay
    have h6 := u_store hfc hkC hkind hlay hi hpd hn hf
    refine W.putK hx0 hb0 (f := f) ⟨hown, hts _ hlink, ⟨_, _, _, fp_same hts hsame _ hi⟩, hst⟩ (by rw [q2]; exact h6) q1 q3 (by rw [hsl]; exact k2_hasslot (q4 k0 hk)) rfl rfl hd fun H' e1 e2 e3' => ?_
    obtain ⟨r1, r2⟩ := fin2 H' e1 e2 e3'
    exact k.2.2 c0 z0 H' _ ls C hr r1 r2 hl h1 h2 h3 h4
  | true =>
    unfold u_lay at hlay
    rw [if_pos (by rw [hfl, hb])] at hlay
    have hin2 : y.name = "<init>" := by
      rcases hfin with q | q
      · rw [hb] at q; cases q
      · exact q
    have hcf : m.cls = cf := by
      obtain ⟨_, _, c', _, _, _, -, -, hf', -, -, -, hown2, -⟩ := Cond.laysFinal_spec hlay
      have e1 : c' = cf := by have := hi.symm.trans hf'; simp at this; exact this.1.symm
      rw [hdecl hb] at hown2
      rw [← e1]
      exact Option.some.inj (hown.symm.trans hown2)
    have h6 := u_fits hfc hkC hkind (Or.inr hlay) hi hpd hn hf
    refine W.putFinK hx0 hb0 hown (hts _ hlink) (fp_same hts hsame _ hi) hst hcf (hname.trans hin2) (by rw [q2]; exact h6) q1 q3 (by rw [hsl]; exact k2_hasslot (q4 k0 hk)) rfl rfl hd fun H' e1 e2 e3' => ?_
    obtain ⟨r1, r2⟩ := fin2 H' e1 e2 e3'
    exact k.2.2 c0 z0 H' _ ls C hr r1 r2 hl h1 h2 h3 h4
/-- new -/
def nw_ok (own : String) (idx ci N : Nat) (fs : List Value) : Prop := ∃ (C : String) (T : u_T), cl_ok ci C T N ∧ Cond.classLink own idx C ∈ gw_t ∧ Cond.instantiable C N ∈ gw_t ∧ Cond.initialized C ∈ gw_t ∧ ∀ j, j < N → (parseFieldDescriptor (T j).2.2.1).map defaultValue = some (vp_V fs j)
theorem rt_new {N : Nat} {fs : List Value} (F : nw_ok y.cls idx ci N fs) (hd : decode cc pc = .ok (.new idx, 3)) (k : Rt X y cc nL d (pc + 3) l (va_rf (some h.1) :: st) (ah_new h (.inr (ci, fs)) N) r h2) : Rt X y cc nL d pc l st h r h2 := by
  obtain ⟨Cn, T, ⟨hc, hin, hnm, ty0, hty⟩, hcl, hinst, hini, hfs⟩ := F
  have k1 : h.1 + 1 ≤ h2.1 := k.1
  have k2 : h.2.1 + N ≤ h2.2.1 := k.2.1
  refine ⟨by omega, by omega, ?_⟩
  intro p la e R s m args below meth c Q c0 z0 H locs ls C hr hR hS hl h1 h2 h3 h4
  obtain ⟨hx0, hb0, hml, hown, hts, hname, hK, -⟩ := id C
  have hKn := hK.1.1 ci _ hc
  refine W.newcK hx0 hb0 hown (hts _ hcl) (hts _ hinst) (hts _ hini) rfl hd (by omega) (by omega) hKn.2.1 hR.1 fun H1 kC hkC e1 z1 o1 => ?_
  have hat : va_at X.1 vwCl (h.1, ah_cv X (.inr (ci, fs))) H1 := ⟨_, hc, (u_born ty0 hts hin hKn hkC e1 hty).to (fun j hj => by
    have := hfs j hj
    rw [hty j hj] at this
    exact Option.some.inj this)⟩
  have hR1 : ah_R X (ah_new h (.inr (ci, fs)) N) H1 := hR.new hat z1 o1
  have hS1 : va_S (ah_A X) s.heap H1 locs := ⟨Nat.le_trans hS.1 (by rw [z1, hR.1]; omega), fun q g1 g2 => (o1 q (Nat.lt_of_lt_of_le g1 (by rw [← hR.1]; exact hS.1))).trans (hS.2.1 q g1 g2), hS.2.2⟩
  have := k.2.2 c0 z0 H1 locs ls C hr hR1 hS1 hl (Nat.le_succ_of_le h1) (Nat.le_trans h2 (Nat.le_add_right _ _)) h3 h4
  have ec : (ah_new h (.inr (ci, fs)) N).1 - c0 = h.1 - c0 + 1 := by show h.1 + 1 - c0 = _; omega
  have ez : (ah_new h (.inr (ci, fs)) N).2.1 - z0 = h.2.1 - z0 + N := by show h.2.1 + N - z0 = _; omega
  rw [ec, ez] at this
  exact this
end RTH
end
section
/-! ===== arrays of the abstract heap ===== -/
def hp_ar (h : ah_H) (r : Option Nat) : Option (Nat × vp_A) := match r with
  | none => none
  | some a => match h.2.2 a with
    | some (.inl q) => some q
    | _ => none
theorem hp_ar_spec {h : ah_H} {r : Option Nat} {q : Nat × vp_A} (e : hp_ar h r = some q) : ∃ a, r = some a ∧ h.2.2 a = some (.inl q) := by
  unfold hp_ar at e
  cases r with
  | none => cases e
  | some a =>
    simp only at e
    split at e
    · rename_i q0 hq
      cases e
      exact ⟨a, rfl, hq⟩
    · cases e
theorem hp_ar_of {h : ah_H} {a : Nat} {q : Nat × vp_A} (e : h.2.2 a = some (.inl q)) : hp_ar h (some a) = some q := by simp [hp_ar, e]
def hp_len (h : ah_H) (r : Option Nat) : Option Int32 := match hp_ar h r with
  | some q => if q.1 < 6 then some (Int32.ofNat q.2.1) else none
  | none => none
/-- an int of an array of ints (2) or of bytes and booleans (0, 1) -/
def hp_ldi (h : ah_H) (r : Option Nat) (i : Int32) : Option Int32 := match hp_ar h r with
  | some (2, n, .inl f) => if i < 0 ∨ n ≤ i.toNatClampNeg then none else some (f i.toNatClampNeg)
  | _ => none
def hp_ldb (h : ah_H) (r : Option Nat) (i : Int32) : Option Int32 := match hp_ar h r with
  | some (0, n, .inl f) => if i < 0 ∨ n ≤ i.toNatClampNeg then none else some (f i.toNatClampNeg)
  | some (1, n, .inl f) => if i < 0 ∨ n ≤ i.toNatClampNeg then none else some (f i.toNatClampNeg)
  | _ => none
def hp_ldl (h : ah_H) (r : Option Nat) (i : Int32) : Option Int64 := match hp_ar h r with
  | some (3, n, .inr (.inl f)) => if i < 0 ∨ n ≤ i.toNatClampNeg then none else some (f i.toNatClampNeg)
  | _ => none
def hp_ldq (h : ah_H) (r : Option Nat) (i : Int32) : Option (Option Nat) := match hp_ar h r with
  | some (4, n, .inr (.inr (.inr (.inr f)))) => if i < 0 ∨ n ≤ i.toNatClampNeg then none else some (f i.toNatClampNeg)
  | some (5, n, .inr (.inr (.inr (.inr f)))) => if i < 0 ∨ n ≤ i.toNatClampNeg then none else some (f i.toNatClampNeg)
  | _ => none
def hp_sti (h : ah_H) (r : Option Nat) (i x : Int32) : Option ah_H := match r, hp_ar h r with
  | some a, some (2, n, .inl f) => if i < 0 ∨ n ≤ i.toNatClampNeg then none else some (ah_set h a (.inl (2, n, .inl (upd f i.toNatClampNeg x))))
  | _, _ => none
def hp_stb (h : ah_H) (r : Option Nat) (i x : Int32) : Option ah_H := match r, hp_ar h r with
  | some a, some (0, n, .inl f) => if i < 0 ∨ n ≤ i.toNatClampNeg then none else some (ah_set h a (.inl (0, n, .inl (upd f i.toNatClampNeg x.toInt8.toInt32))))
  | some a, some (1, n, .inl f) => if i < 0 ∨ n ≤ i.toNatClampNeg then none else some (ah_set h a (.inl (1, n, .inl (upd f i.toNatClampNeg (vp_nar .boolean x)))))
  | _, _ => none
def hp_stl (h : ah_H) (r : Option Nat) (i : Int32) (x : Int64) : Option ah_H := match r, hp_ar h r with
  | some a, some (3, n, .inr (.inl f)) => if i < 0 ∨ n ≤ i.toNatClampNeg then none else some (ah_set h a (.inl (3, n, .inr (.inl (vp_updL f i.toNatClampNeg x)))))
  | _, _ => none
/-- an object whose class may lie in a row of Object -/
def hp_obj (h : ah_H) (v : Option Nat) : Bool := match v with
  | none => true
  | some b => match h.2.2 b with
    | some (.inr o) => decide (1 ≤ o.1 ∧ o.1 ≤ 11)
    | _ => false
def hp_cls (h : ah_H) (v : Option Nat) (ci : Nat) : Bool := match v with
  | none => true
  | some b => match h.2.2 b with
    | some (.inr o) => decide (o.1 = ci)
    | _ => false
def hp_stq (h : ah_H) (r : Option Nat) (i : Int32) (v : Option Nat) : Option ah_H := match r, hp_ar h r with
  | some a, some (4, n, .inr (.inr (.inr (.inr f)))) => if i < 0 ∨ n ≤ i.toNatClampNeg ∨ hp_obj h v = false then none else some (ah_set h a (.inl (4, n, .inr (.inr (.inr (.inr (va_up f i.toNatClampNeg v)))))))
  | some a, some (5, n, .inr (.inr (.inr (.inr f)))) => if i < 0 ∨ n ≤ i.toNatClampNeg ∨ hp_cls h v 4 = false then none else some (ah_set h a (.inl (5, n, .inr (.inr (.inr (.inr (va_up f i.toNatClampNeg v)))))))
  | _, _ => none
theorem ah_in {i : Int32} {n : Nat} (h : ¬ (i < 0 ∨ n ≤ i.toNatClampNeg)) : vp_in i n ∧ 0 < n := ⟨h, by
  have := fun q => h (Or.inr q)
  omega⟩
theorem cas_1 : Cond.castable "LetterTree$Disk" "java/lang/Object" ∈ ah_ns := List.mem_filter.mpr ⟨List.mem_of_getElem? (i := 1533) (by decide +kernel), rfl⟩
theorem cas_2 : Cond.castable "LetterTree$Entries" "java/lang/Object" ∈ ah_ns := List.mem_filter.mpr ⟨List.mem_of_getElem? (i := 1535) (by decide +kernel), rfl⟩
theorem cas_3 : Cond.castable "LetterTree$Entry" "java/lang/Object" ∈ ah_ns := List.mem_filter.mpr ⟨List.mem_of_getElem? (i := 1539) (by decide +kernel), rfl⟩
theorem cas_4 : Cond.castable "LetterTree$Head" "java/lang/Object" ∈ ah_ns := List.mem_filter.mpr ⟨List.mem_of_getElem? (i := 1540) (by decide +kernel), rfl⟩
theorem cas_5 : Cond.castable "LetterTree$Letter" "java/lang/Object" ∈ ah_ns := List.mem_filter.mpr ⟨List.mem_of_getElem? (i := 1538) (by decide +kernel), rfl⟩
theorem cas_6 : Cond.castable "LetterTree$Page" "java/lang/Object" ∈ ah_ns := List.mem_filter.mpr ⟨List.mem_of_getElem? (i := 1536) (by decide +kernel), rfl⟩
theorem cas_7 : Cond.castable "LetterTree$Picture" "java/lang/Object" ∈ ah_ns := List.mem_filter.mpr ⟨List.mem_of_getElem? (i := 1541) (by decide +kernel), rfl⟩
theorem cas_8 : Cond.castable "LetterTree$Tape" "java/lang/Object" ∈ ah_ns := List.mem_filter.mpr ⟨List.mem_of_getElem? (i := 1532) (by decide +kernel), rfl⟩
theorem cas_9 : Cond.castable "LetterTree$Tree" "java/lang/Object" ∈ ah_ns := List.mem_filter.mpr ⟨List.mem_of_getElem? (i := 1534) (by decide +kernel), rfl⟩
theorem cas_10 : Cond.castable "LetterTree" "java/lang/Object" ∈ ah_ns := List.mem_filter.mpr ⟨List.mem_of_getElem? (i := 1531) (by decide +kernel), rfl⟩
theorem cas_11 : Cond.castable "LetterTreeModel" "java/lang/Object" ∈ ah_ns := List.mem_filter.mpr ⟨List.mem_of_getElem? (i := 1537) (by decide +kernel), rfl⟩
section RTA
variable {X : ah_X} {y : MethodName} {cc : ByteArray} {nL d pc : Nat} {l : List (Nat × Value)} {st : List Value} {h hh h2 : ah_H} {r : Option Value} {x : Option Nat} {i : Int32}

theorem rt_alen {z : Int32} (hd : decode cc pc = .ok (.arraylength, 1)) (hx : hp_len h x = some z) (k : Rt X y cc nL d (pc + 1) l (.int z :: st) h r h2) : Rt X y cc nL d pc l (va_rf x :: st) h r h2 := by
  unfold hp_len at hx
  split at hx
  · rename_i q hq
    split at hx
    · rename_i h6
      obtain ⟨a, rfl, ha⟩ := hp_ar_spec hq
      cases hx
      obtain ⟨kd, n, f⟩ := q
      refine ⟨k.1, k.2.1, ?_⟩
      intro p la e R s m args below meth c Q c0 z0 H locs ls C hr hR hS hl h1 h2 h3 h4
      have kk := (k.2.2 c0 z0 H locs ls C hr hR hS hl h1 h2 h3 h4)
      have hK := C.2.2.2.2.2.2.1
      rcases hR.2.1 a _ ha with ⟨g1, g2, g3⟩ | ⟨e1, e2⟩ | ⟨e1, e2⟩
      · exact va_alen C.1 C.2.1 hK.1 (ah_P1 (q := (a, .inl (X.2.1 kd, n, f))) g3) 0 kd rfl (ah_tys_at X h6) rfl hd kk
      · cases e2
        obtain ⟨cell, t1, t2, t3, t4, t5, t6, t7⟩ := hK.2.2.2.2.2.2.1
        subst e1
        exact W.alen (n := Int32.ofNat 0) C.1 C.2.1 (by rw [hR.2.2.1 _ hR.2.2.2.2.1]; exact t1) t2 t5 rfl rfl hd kk
      · cases e2
        obtain ⟨cell, t1, t2, t3, t4, t5, t6, t7⟩ := hK.2.2.2.2.2.2.2.1
        subst e1
        exact W.alen (n := Int32.ofNat 0) C.1 C.2.1 (by rw [hR.2.2.1 _ hR.2.2.2.2.2]; exact t1) t2 t5 rfl rfl hd kk
    · cases hx
  · cases hx
theorem rt_iald {z : Int32} (hd : decode cc pc = .ok (.iaload, 1)) (hx : hp_ldi h x i = some z) (k : Rt X y cc nL d (pc + 1) l (.int z :: st) h r h2) : Rt X y cc nL d pc l (.int i :: va_rf x :: st) h r h2 := by
  unfold hp_ldi at hx
  split at hx
  · rename_i n f hq
    obtain ⟨a, rfl, ha⟩ := hp_ar_spec hq
    split at hx
    · cases hx
    · rename_i hin
      cases hx
      refine ⟨k.1, k.2.1, ?_⟩
      intro p la e R s m args below meth c Q c0 z0 H locs ls C hr hR hS hl h1 h2 h3 h4
      obtain ⟨g1, g2, g3⟩ := hR.arr ha (ah_in hin).2
      exact va_iald C.1 C.2.1 C.2.2.2.2.2.2.1.1 (ah_P1 (q := (a, .inl (X.2.1 2, n, .inl f))) g3) 0 2 rfl (ah_tys_at X (by decide)) (ah_in hin).1 hd (k.2.2 c0 z0 H locs ls C hr hR hS hl h1 h2 h3 h4)
  · cases hx
theorem rt_bald {z : Int32} (hd : decode cc pc = .ok (.baload, 1)) (hx : hp_ldb h x i = some z) (k : Rt X y cc nL d (pc + 1) l (.int z :: st) h r h2) : Rt X y cc nL d pc l (.int i :: va_rf x :: st) h r h2 := by
  unfold hp_ldb at hx
  split at hx
  · rename_i n f hq
    obtain ⟨a, rfl, ha⟩ := hp_ar_spec hq
    split at hx
    · cases hx
    · rename_i hin
      cases hx
      refine ⟨k.1, k.2.1, ?_⟩
      intro p la e R s m args below meth c Q c0 z0 H locs ls C hr hR hS hl h1 h2 h3 h4
      obtain ⟨g1, g2, g3⟩ := hR.arr ha (ah_in hin).2
      exact va_bald C.1 C.2.1 C.2.2.2.2.2.2.1.1 (ah_P1 (q := (a, .inl (X.2.1 0, n, .inl f))) g3) 0 0 rfl (ah_tys_at X (by decide)) (ah_in hin).1 hd (k.2.2 c0 z0 H locs ls C hr hR hS hl h1 h2 h3 h4)
  · rename_i n f hq
    obtain ⟨a, rfl, ha⟩ := hp_ar_spec hq
    split at hx
    · cases hx
    · rename_i hin
      cases hx
      refine ⟨k.1, k.2.1, ?_⟩
      intro p la e R s m args below meth c Q c0 z0 H locs ls C hr hR hS hl h1 h2 h3 h4
      obtain ⟨g1, g2, g3⟩ := hR.arr ha (ah_in hin).2
      exact va_zald C.1 C.2.1 C.2.2.2.2.2.2.1.1 (ah_P1 (q := (a, .inl (X.2.1 1, n, .inl f))) g3) 0 1 rfl (ah_tys_at X (by decide)) (ah_in hin).1 hd (k.2.2 c0 z0 H locs ls C hr hR hS hl h1 h2 h3 h4)
  · cases hx
theorem rt_lald {z : Int64} (hd : decode cc pc = .ok (.laload, 1)) (hx : hp_ldl h x i = some z) (k : Rt X y cc nL d (pc + 1) l (.long z :: st) h r h2) : Rt X y cc nL d pc l (.int i :: va_rf x :: st) h r h2 := by
  unfold hp_ldl at hx
  split at hx
  · rename_i n f hq
    obtain ⟨a, rfl, ha⟩ := hp_ar_spec hq
    split at hx
    · cases hx
    · rename_i hin
      cases hx
      refine ⟨k.1, k.2.1, ?_⟩
      intro p la e R s m args below meth c Q c0 z0 H locs ls C hr hR hS hl h1 h2 h3 h4
      obtain ⟨g1, g2, g3⟩ := hR.arr ha (ah_in hin).2
      exact va_lald C.1 C.2.1 C.2.2.2.2.2.2.1.1 (ah_P1 (q := (a, .inl (X.2.1 3, n, .inr (.inl f)))) g3) 0 3 rfl (ah_tys_at X (by decide)) (ah_in hin).1 hd (k.2.2 c0 z0 H locs ls C hr hR hS hl h1 h2 h3 h4)
  · cases hx
theorem rt_aald {z : Option Nat} (hd : decode cc pc = .ok (.aaload, 1)) (hx : hp_ldq h x i = some z) (k : Rt X y cc nL d (pc + 1) l (va_rf z :: st) h r h2) : Rt X y cc nL d pc l (.int i :: va_rf x :: st) h r h2 := by
  unfold hp_ldq at hx
  split at hx
  · rename_i n f hq
    obtain ⟨a, rfl, ha⟩ := hp_ar_spec hq
    split at hx
    · cases hx
    · rename_i hin
      cases hx
      refine ⟨k.1, k.2.1, ?_⟩
      intro p la e R s m args below meth c Q c0 z0 H locs ls C hr hR hS hl h1 h2 h3 h4
      obtain ⟨g1, g2, g3⟩ := hR.arr ha (ah_in hin).2
      exact va_aldq C.1 C.2.1 C.2.2.2.2.2.2.1.1 (ah_P1 (q := (a, .inl (X.2.1 4, n, .inr (.inr (.inr (.inr f)))))) g3) 0 4 rfl (ah_tys_at X (by decide)) (ah_in hin).1 hd (k.2.2 c0 z0 H locs ls C hr hR hS hl h1 h2 h3 h4)
  · rename_i n f hq
    obtain ⟨a, rfl, ha⟩ := hp_ar_spec hq
    split at hx
    · cases hx
    · rename_i hin
      cases hx
      refine ⟨k.1, k.2.1, ?_⟩
      intro p la e R s m args below meth c Q c0 z0 H locs ls C hr hR hS hl h1 h2 h3 h4
      obtain ⟨g1, g2, g3⟩ := hR.arr ha (ah_in hin).2
      exact va_aldq C.1 C.2.1 C.2.2.2.2.2.2.1.1 (ah_P1 (q := (a, .inl (X.2.1 5, n, .inr (.inr (.inr (.inr f)))))) g3) 0 5 rfl (ah_tys_at X (by decide)) (ah_in hin).1 hd (k.2.2 c0 z0 H locs ls C hr hR hS hl h1 h2 h3 h4)
  · cases hx
theorem rt_iast {z : Int32} (hd : decode cc pc = .ok (.iastore, 1)) (hx : hp_sti h x i z = some hh) (k : Rt X y cc nL d (pc + 1) l st hh r h2) : Rt X y cc nL d pc l (.int z :: .int i :: va_rf x :: st) h r h2 := by
  unfold hp_sti at hx
  split at hx
  · rename_i a n f hq
    obtain ⟨a', e0, ha⟩ := hp_ar_spec hq
    cases e0
    split at hx
    · cases hx
    · rename_i hin
      cases hx
      refine ⟨k.1, k.2.1, ?_⟩
      intro p la e R s m args below meth c Q c0 z0 H locs ls C hr hR hS hl h1 h2 h3 h4
      obtain ⟨g1, g2, g3⟩ := hR.arr ha (ah_in hin).2
      refine W.iast C.1 C.2.1 g3 ((C.2.2.2.2.2.2.1.1.2 2 _ (ah_tys_at X (by decide))).1 n (fun j => .int (f j))) (fun q => by cases q) (by show ¬ (i < 0 ∨ (arrV _ _ _).slots.size ≤ _); rw [arrV_size]; exact hin) rfl rfl hd fun H1 e1 z1 oq => ?_
      have hat : va_at X.1 vwCl (a, ah_cv X (.inl (2, n, .inl (upd f i.toNatClampNeg z)))) H1 := by
        show H1[a]? = some (vp_cell _ _)
        rw [e1, vp_cell_i, vp_cell_i, arrV_store]
        congr 2
        funext q
        by_cases hq : q = i.toNatClampNeg
        · subst hq
          simp [updV, upd]
          try rfl
        · simp [updV, upd, hq]
      exact k.2.2 c0 z0 H1 _ ls C hr (hR.set g1 g2 hat z1 oq) (hS.put z1 oq g1) hl h1 h2 h3 h4
  · cases hx
theorem rt_bast {z : Int32} (hd : decode cc pc = .ok (.bastore, 1)) (hx : hp_stb h x i z = some hh) (k : Rt X y cc nL d (pc + 1) l st hh r h2) : Rt X y cc nL d pc l (.int z :: .int i :: va_rf x :: st) h r h2 := by
  unfold hp_stb at hx
  split at hx
  · rename_i a n f hq
    obtain ⟨a', e0, ha⟩ := hp_ar_spec hq
    cases e0
    split at hx
    · cases hx
    · rename_i hin
      cases hx
      refine ⟨k.1, k.2.1, ?_⟩
      intro p la e R s m args below meth c Q c0 z0 H locs ls C hr hR hS hl h1 h2 h3 h4
      obtain ⟨g1, g2, g3⟩ := hR.arr ha (ah_in hin).2
      refine W.bast C.1 C.2.1 g3 ((C.2.2.2.2.2.2.1.1.2 0 _ (ah_tys_at X (by decide))).1 n (fun j => .int (f j))) (fun q => by cases q) (by show ¬ (i < 0 ∨ (arrV _ _ _).slots.size ≤ _); rw [arrV_size]; exact hin) rfl rfl hd fun H1 e1 z1 oq => ?_
      have hat : va_at X.1 vwCl (a, ah_cv X (.inl (0, n, .inl (upd f i.toNatClampNeg z.toInt8.toInt32)))) H1 := by
        show H1[a]? = some (vp_cell _ _)
        rw [e1, vp_cell_i, vp_cell_i, arrV_store]
        congr 2
        funext q
        by_cases hq : q = i.toNatClampNeg
        · subst hq
          simp [updV, upd, vp_nar, narrow]
          try rfl
        · simp [updV, upd, vp_nar, narrow, hq]
      exact k.2.2 c0 z0 H1 _ ls C hr (hR.set g1 g2 hat z1 oq) (hS.put z1 oq g1) hl h1 h2 h3 h4
  · rename_i a n f hq
    obtain ⟨a', e0, ha⟩ := hp_ar_spec hq
    cases e0
    split at hx
    · cases hx
    · rename_i hin
      cases hx
      refine ⟨k.1, k.2.1, ?_⟩
      intro p la e R s m args below meth c Q c0 z0 H locs ls C hr hR hS hl h1 h2 h3 h4
      obtain ⟨g1, g2, g3⟩ := hR.arr ha (ah_in hin).2
      refine W.zast C.1 C.2.1 g3 ((C.2.2.2.2.2.2.1.1.2 1 _ (ah_tys_at X (by decide))).1 n (fun j => .int (f j))) (fun q => by cases q) (by show ¬ (i < 0 ∨ (arrV _ _ _).slots.size ≤ _); rw [arrV_size]; exact hin) rfl rfl hd fun H1 e1 z1 oq => ?_
      have hat : va_at X.1 vwCl (a, ah_cv X (.inl (1, n, .inl (upd f i.toNatClampNeg (vp_nar .boolean z))))) H1 := by
        show H1[a]? = some (vp_cell _ _)
        rw [e1, vp_cell_i, vp_cell_i, arrV_store]
        congr 2
        funext q
        by_cases hq : q = i.toNatClampNeg
        · subst hq
          simp [updV, upd, vp_nar, narrow]
          try rfl
        · simp [updV, upd, vp_nar, narrow, hq]
      exact k.2.2 c0 z0 H1 _ ls C hr (hR.set g1 g2 hat z1 oq) (hS.put z1 oq g1) hl h1 h2 h3 h4
  · cases hx
theorem rt_last {z : Int64} (hd : decode cc pc = .ok (.lastore, 1)) (hx : hp_stl h x i z = some hh) (k : Rt X y cc nL d (pc + 1) l st hh r h2) : Rt X y cc nL d pc l (.long z :: .int i :: va_rf x :: st) h r h2 := by
  unfold hp_stl at hx
  split at hx
  · rename_i a n f hq
    obtain ⟨a', e0, ha⟩ := hp_ar_spec hq
    cases e0
    split at hx
    · cases hx
    · rename_i hin
      cases hx
      refine ⟨k.1, k.2.1, ?_⟩
      intro p la e R s m args below meth c Q c0 z0 H locs ls C hr hR hS hl h1 h2 h3 h4
      obtain ⟨g1, g2, g3⟩ := hR.arr ha (ah_in hin).2
      refine W.last C.1 C.2.1 g3 ((C.2.2.2.2.2.2.1.1.2 3 _ (ah_tys_at X (by decide))).1 n (fun j => .long (f j))) (fun q => by cases q) (by show ¬ (i < 0 ∨ (arrV _ _ _).slots.size ≤ _); rw [arrV_size]; exact hin) rfl rfl hd fun H1 e1 z1 oq => ?_
      have hat : va_at X.1 vwCl (a, ah_cv X (.inl (3, n, .inr (.inl (vp_updL f i.toNatClampNeg z))))) H1 := by
        show H1[a]? = some (vp_cell _ _)
        rw [e1, vp_cell_l, vp_cell_l, arrV_store]
        congr 2
        funext q
        by_cases hq : q = i.toNatClampNeg
        · subst hq
          simp [updV, vp_updL]
          try rfl
        · simp [updV, vp_updL, hq]
      exact k.2.2 c0 z0 H1 _ ls C hr (hR.set g1 g2 hat z1 oq) (hS.put z1 oq g1) hl h1 h2 h3 h4
  · cases hx
theorem ah_any {X : ah_X} {h : ah_H} {H : Heap} {s : State} {b : Nat} (hK : ah_K X s) (hR : ah_R X h H) (hb : hp_obj h (some b) = true) : va_Any "java/lang/Object" s H b := by
  unfold hp_obj at hb
  simp only at hb
  split at hb
  · rename_i o ho
    obtain ⟨ci, fs⟩ := o
    have hr : 1 ≤ ci ∧ ci ≤ 11 := of_decide_eq_true hb
    obtain ⟨-, -, hat⟩ := hR.obj ho
    have key : ∀ ci, 1 ≤ ci ∧ ci ≤ 11 → ∃ q : vw_C, vwCl[ci]? = some q ∧ Cond.castable q.1 "java/lang/Object" ∈ ah_ns := by
      intro ci hc
      rcases (show ci = 1 ∨ ci = 2 ∨ ci = 3 ∨ ci = 4 ∨ ci = 5 ∨ ci = 6 ∨ ci = 7 ∨ ci = 8 ∨ ci = 9 ∨ ci = 10 ∨ ci = 11 by omega) with rfl | rfl | rfl | rfl | rfl | rfl | rfl | rfl | rfl | rfl | rfl
      · exact ⟨_, rfl, cas_1⟩
      · exact ⟨_, rfl, cas_2⟩
      · exact ⟨_, rfl, cas_3⟩
      · exact ⟨_, rfl, cas_4⟩
      · exact ⟨_, rfl, cas_5⟩
      · exact ⟨_, rfl, cas_6⟩
      · exact ⟨_, rfl, cas_7⟩
      · exact ⟨_, rfl, cas_8⟩
      · exact ⟨_, rfl, cas_9⟩
      · exact ⟨_, rfl, cas_10⟩
      · exact ⟨_, rfl, cas_11⟩
    obtain ⟨q, hq, hcas⟩ := key ci hr
    refine va_rAny hK.1 (ah_P1 (q := (b, .inr (ci, fs))) hat) (q0 := 0) rfl hq (fun comp c0 g1 g2 => ?_)
    obtain ⟨c1, t1, f1, f2, f3⟩ := Cond.castable_spec (va_Nw.use (A := #[]) rfl (hK.2.1 _ hcas))
    cases g1.symm.trans f2
    cases g2.symm.trans f1
    exact f3
  · cases hb
theorem rt_aast {z : Option Nat} (hd : decode cc pc = .ok (.aastore, 1)) (hx : hp_stq h x i z = some hh) (k : Rt X y cc nL d (pc + 1) l st hh r h2) : Rt X y cc nL d pc l (va_rf z :: .int i :: va_rf x :: st) h r h2 := by
  unfold hp_stq at hx
  split at hx
  · rename_i a n f hq
    obtain ⟨a', e0, ha⟩ := hp_ar_spec hq
    cases e0
    split at hx
    · cases hx
    · rename_i hno
      cases hx
      have hin : ¬ (i < 0 ∨ n ≤ i.toNatClampNeg) := fun q => hno (q.elim Or.inl (fun q => Or.inr (Or.inl q)))
      have hob : hp_obj h z = true := by
        cases hb : hp_obj h z with
        | true => rfl
        | false => exact absurd (Or.inr (Or.inr hb)) hno
      refine ⟨k.1, k.2.1, ?_⟩
      intro p la e R s m args below meth c Q c0 z0 H locs ls C hr hR hS hl h1 h2 h3 h4
      obtain ⟨g1, g2, g3⟩ := hR.arr ha (ah_in hin).2
      have hK := C.2.2.2.2.2.2.1
      have hlt : i.toNatClampNeg < n := Nat.not_le.mp fun q => hin (Or.inr q)
      have fin : ∀ H1 : Heap, H1[a]? = some ((vp_cell (X.2.1 4) (n, .inr (.inr (.inr (.inr f))))).setSlot i.toNatClampNeg (va_rf z)) → va_at X.1 vwCl (a, ah_cv X (.inl (4, n, .inr (.inr (.inr (.inr (va_up f i.toNatClampNeg z))))))) H1 := by
        intro H1 e1
        show H1[a]? = some (vp_cell _ _)
        rw [e1, vp_cell_q, vp_cell_q, arrV_store]
        congr 2
        funext q
        by_cases hq : q = i.toNatClampNeg
        · subst hq
          simp [updV, va_up]
        · simp [updV, va_up, hq]
      cases z with
      | none =>
        refine va_WaastN (C := "java/lang/Object") C.1 C.2.1 g3 ((hK.1.2 4 _ (ah_tys_at X (by decide))).1 n (fun j => va_rf (f j))) (fun q => by cases q) (by show ¬ (i < 0 ∨ (arrV _ _ _).slots.size ≤ _); rw [arrV_size]; exact hin) rfl rfl hd fun H1 e1 z1 oq => ?_
        exact k.2.2 c0 z0 H1 _ ls C hr (hR.set g1 g2 (fin H1 e1) z1 oq) (hS.put z1 oq g1) hl h1 h2 h3 h4
      | some v =>
        obtain ⟨cellV, v1, v2, ⟨kv, v3⟩, v4⟩ := ah_any hK hR hob
        obtain ⟨kA, comp, k1, k2, k3, -⟩ := (hK.1.2 4 _ (ah_tys_at X (by decide))).2
        obtain ⟨kE, hkE, -⟩ := Vm.findClass_spec k3
        refine W.aast C.1 C.2.1 g3 (fun q h => by cases h) (fun h => by cases h) k1 k2 rfl hkE ⟨fun q => hin (Or.inl q), by show _ < (arrV _ _ _).slots.size; rw [arrV_size]; exact hlt⟩ v1 (fun q h => by rw [h] at v2; cases v2) v3 (v4 _ k3) rfl rfl hd fun H1 e1 z1 oq => ?_
        exact k.2.2 c0 z0 H1 _ ls C hr (hR.set g1 g2 (fin H1 e1) z1 oq) (hS.put z1 oq g1) hl h1 h2 h3 h4
  · rename_i a n f hq
    obtain ⟨a', e0, ha⟩ := hp_ar_spec hq
    cases e0
    split at hx
    · cases hx
    · rename_i hno
      cases hx
      have hin : ¬ (i < 0 ∨ n ≤ i.toNatClampNeg) := fun q => hno (q.elim Or.inl (fun q => Or.inr (Or.inl q)))
      have hob : hp_cls h z 4 = true := by
        cases hb : hp_cls h z 4 with
        | true => rfl
        | false => exact absurd (Or.inr (Or.inr hb)) hno
      refine ⟨k.1, k.2.1, ?_⟩
      intro p la e R s m args below meth c Q c0 z0 H locs ls C hr hR hS hl h1 h2 h3 h4
      obtain ⟨g1, g2, g3⟩ := hR.arr ha (ah_in hin).2
      have hK := C.2.2.2.2.2.2.1
      have hlt : i.toNatClampNeg < n := Nat.not_le.mp fun q => hin (Or.inr q)
      have fin : ∀ H1 : Heap, H1[a]? = some ((vp_cell (X.2.1 5) (n, .inr (.inr (.inr (.inr f))))).setSlot i.toNatClampNeg (va_rf z)) → va_at X.1 vwCl (a, ah_cv X (.inl (5, n, .inr (.inr (.inr (.inr (va_up f i.toNatClampNeg z))))))) H1 := by
        intro H1 e1
        show H1[a]? = some (vp_cell _ _)
        rw [e1, vp_cell_q, vp_cell_q, arrV_store]
        congr 2
        funext q
        by_cases hq : q = i.toNatClampNeg
        · subst hq
          simp [updV, va_up]
        · simp [updV, va_up, hq]
      cases z with
      | none =>
        refine va_WaastN (C := "LetterTree$Head") C.1 C.2.1 g3 ((hK.1.2 5 _ (ah_tys_at X (by decide))).1 n (fun j => va_rf (f j))) (fun q => by cases q) (by show ¬ (i < 0 ∨ (arrV _ _ _).slots.size ≤ _); rw [arrV_size]; exact hin) rfl rfl hd fun H1 e1 z1 oq => ?_
        exact k.2.2 c0 z0 H1 _ ls C hr (hR.set g1 g2 (fin H1 e1) z1 oq) (hS.put z1 oq g1) hl h1 h2 h3 h4
      | some v =>
        unfold hp_cls at hob
        simp only at hob
        split at hob
        · rename_i ob hobj
          obtain ⟨cj, vs⟩ := ob
          have hcj : cj = 4 := of_decide_eq_true hob
          subst hcj
          obtain ⟨-, -, rr, hrr, cellV, v1, v2, v3, -⟩ := hR.obj hobj
          have hcls := (hK.1.1 4 _ (show vwCl[4]? = some (RX3, TX3, 5) from rfl)).2
          obtain ⟨kA, comp, k1, k2, k3, -⟩ := (hK.1.2 5 _ (ah_tys_at X (by decide))).2
          have hcomp : comp = X.1.1 4 := Option.some.inj (k3.symm.trans hcls.1)
          subst hcomp
          obtain ⟨kC, hkC, -⟩ := hcls.2
          refine W.aast C.1 C.2.1 g3 (fun q h => by cases h) (fun h => by cases h) k1 k2 rfl hkC ⟨fun q => hin (Or.inl q), by show _ < (arrV _ _ _).slots.size; rw [arrV_size]; exact hlt⟩ v1 (fun q h => by rw [v3] at h; cases h) (by rw [v2]; exact hkC) (by rw [v2]; exact va_assign hcls) rfl rfl hd fun H1 e1 z1 oq => ?_
          exact k.2.2 c0 z0 H1 _ ls C hr (hR.set g1 g2 (fin H1 e1) z1 oq) (hS.put z1 oq g1) hl h1 h2 h3 h4
        · cases hob
  · cases hx
/-- new arrays -/
def hp_na (h : ah_H) (kd : Nat) (i : Int32) (z : (Nat → Int32) ⊕ (Nat → Int64) ⊕ (Nat → UInt32) ⊕ (Nat → UInt64) ⊕ (Nat → Option Nat)) : Option ah_H := if i < 0 ∨ 1000000 < i.toNatClampNeg then none else some (ah_new h (.inl (kd, i.toNatClampNeg, z)) i.toNatClampNeg)
theorem rt_newa {at_ : ArrayType} (kd : Nat) {z : (Nat → Int32) ⊕ (Nat → Int64) ⊕ (Nat → UInt32) ⊕ (Nat → UInt64) ⊕ (Nat → Option Nat)} (h6 : kd < 4) (hty : newarray.typeOf at_ = ah_ty kd) (hw : Cond.arrayClass (newarray.typeOf at_) ∈ gw_t) (hz : ∀ (cA : ClassId) (N : Nat), vp_cell cA (N, z) = arrV cA N (fun _ => defaultValue (ah_ty kd))) (hcb : componentBytes (ah_ty kd) ≤ 8) (hd : decode cc pc = .ok (.newarray at_, 2)) (hx : hp_na h kd i z = some hh) (k : Rt X y cc nL d (pc + 2) l (va_rf (some h.1) :: st) hh r h2) : Rt X y cc nL d pc l (.int i :: st) h r h2 := by
  unfold hp_na at hx
  split at hx
  · cases hx
  · rename_i hno
    cases hx
    have k1 : h.1 + 1 ≤ h2.1 := k.1
    have k2 : h.2.1 + i.toNatClampNeg ≤ h2.2.1 := k.2.1
    refine ⟨by omega, by omega, ?_⟩
    intro p la e R s m args below meth c Q c0 z0 H locs ls C hr hR hS hl h1 h2 h3 h4
    have hK := C.2.2.2.2.2.2.1
    have hle : i.toNatClampNeg ≤ 1000000 := Nat.not_lt.mp fun q => hno (Or.inr q)
    have hmul : i.toNatClampNeg * componentBytes (newarray.typeOf at_) ≤ 536870912 := by
      rw [hty]
      calc i.toNatClampNeg * componentBytes (ah_ty kd) ≤ 1000000 * 8 := Nat.mul_le_mul hle hcb
        _ ≤ 536870912 := by decide
    refine va_newaK C.1 C.2.1 (C.2.2.2.2.1 _ hw) rfl hd rfl (fun q => hno (Or.inl q)) rfl hmul (by omega) (by omega) hR.1 fun H1 cA e1 z1 o1 hAr hNm => ?_
    have hcA : cA = X.2.1 kd := by
      have hRA := (hK.1.2 kd _ (ah_tys_at X (by omega))).2
      rw [hty] at hNm
      rcases (show kd = 0 ∨ kd = 1 ∨ kd = 2 ∨ kd = 3 by omega) with rfl | rfl | rfl | rfl <;> exact Option.some.inj (hNm.symm.trans hRA)
    subst hcA
    have hat : va_at X.1 vwCl (h.1, ah_cv X (.inl (kd, i.toNatClampNeg, z))) H1 := by
      show H1[h.1]? = some (vp_cell _ _)
      rw [hz, e1, hty]
    have hR1 := hR.new (n := i.toNatClampNeg) hat z1 (fun q hq => o1 q hq)
    have hS1 : va_S (ah_A X) s.heap H1 locs := ⟨Nat.le_trans hS.1 (by rw [z1, hR.1]; omega), fun q g1 g2 => (o1 q (Nat.lt_of_lt_of_le g1 (by rw [← hR.1]; exact hS.1))).trans (hS.2.1 q g1 g2), hS.2.2⟩
    have := k.2.2 c0 z0 H1 locs ls C hr hR1 hS1 hl (Nat.le_succ_of_le h1) (Nat.le_trans h2 (Nat.le_add_right _ _)) h3 h4
    have ec : (ah_new h (.inl (kd, i.toNatClampNeg, z)) i.toNatClampNeg).1 - c0 = h.1 - c0 + 1 := by show h.1 + 1 - c0 = _; omega
    have ez : (ah_new h (.inl (kd, i.toNatClampNeg, z)) i.toNatClampNeg).2.1 - z0 = h.2.1 - z0 + i.toNatClampNeg := by show h.2.1 + i.toNatClampNeg - z0 = _; omega
    rw [ec, ez] at this
    exact this
theorem rt_anew {idx : Nat} (kd : Nat) (Cn : String) (h6 : kd < 6) (hty : ah_ty kd = .object Cn) (hw : Cond.classLink y.cls idx Cn ∈ gw_t) (hao : ∀ U : State, ah_K X U → va_AO Cn U) (hd : decode cc pc = .ok (.anewarray idx, 3)) (hx : hp_na h kd i (.inr (.inr (.inr (.inr (fun _ => none))))) = some hh) (k : Rt X y cc nL d (pc + 3) l (va_rf (some h.1) :: st) hh r h2) : Rt X y cc nL d pc l (.int i :: st) h r h2 := by
  unfold hp_na at hx
  split at hx
  · cases hx
  · rename_i hno
    cases hx
    have k1 : h.1 + 1 ≤ h2.1 := k.1
    have k2 : h.2.1 + i.toNatClampNeg ≤ h2.2.1 := k.2.1
    refine ⟨by omega, by omega, ?_⟩
    intro p la e R s m args below meth c Q c0 z0 H locs ls C hr hR hS hl h1 h2 h3 h4
    have hK := C.2.2.2.2.2.2.1
    have hle : i.toNatClampNeg ≤ 1000000 := Nat.not_lt.mp fun q => hno (Or.inr q)
    refine W.anew C.1 C.2.1 C.2.2.2.1 (C.2.2.2.2.1 _ hw) (va_AO.use (hao s hK)) rfl hd rfl (fun q => hno (Or.inl q)) (by omega) (by omega) (by omega) fun cA kA comp f1 f2 f3 f4 => ?_
    have hcA : cA = X.2.1 kd := by
      have hRA := (hK.1.2 kd _ (ah_tys_at X h6)).2
      rw [hty] at hRA
      obtain ⟨-, -, -, -, -, r4⟩ := hRA
      exact Option.some.inj (f1.symm.trans r4)
    subst hcA
    rw [hR.1]
    generalize hH1 : H.push ({ cls := X.2.1 kd, slots := Array.replicate i.toNatClampNeg .null, vm := .none } : Cell) = H1
    have z1 : H1.size = h.1 + 1 := by rw [← hH1, Array.size_push, hR.1]
    have e1 : H1[h.1]? = some (arrV (X.2.1 kd) i.toNatClampNeg (fun _ => .null)) := by rw [← hH1, ← hR.1, Array.getElem?_push_size, ← arrV_new]
    have o1 : ∀ q : Nat, q < h.1 → H1[q]? = H[q]? := fun q hq => by rw [← hH1, Array.getElem?_push, if_neg (by rw [hR.1]; omega)]
    have hat : va_at X.1 vwCl (h.1, ah_cv X (.inl (kd, i.toNatClampNeg, .inr (.inr (.inr (.inr (fun _ => none))))))) H1 := by
      show H1[h.1]? = some (vp_cell _ _)
      rw [vp_cell_q]
      exact e1
    have hR1 := hR.new (n := i.toNatClampNeg) hat z1 o1
    have hS1 : va_S (ah_A X) s.heap H1 locs := ⟨Nat.le_trans hS.1 (by rw [z1, hR.1]; omega), fun q g1 g2 => (o1 q (Nat.lt_of_lt_of_le g1 (by rw [← hR.1]; exact hS.1))).trans (hS.2.1 q g1 g2), hS.2.2⟩
    have := k.2.2 c0 z0 H1 locs ls C hr hR1 hS1 hl (Nat.le_succ_of_le h1) (Nat.le_trans h2 (Nat.le_add_right _ _)) h3 h4
    have ec : (ah_new h (.inl (kd, i.toNatClampNeg, .inr (.inr (.inr (.inr (fun _ => none)))))) i.toNatClampNeg).1 - c0 = h.1 - c0 + 1 := by show h.1 + 1 - c0 = _; omega
    have ez : (ah_new h (.inl (kd, i.toNatClampNeg, .inr (.inr (.inr (.inr (fun _ => none)))))) i.toNatClampNeg).2.1 - z0 = h.2.1 - z0 + i.toNatClampNeg := by show h.2.1 + i.toNatClampNeg - z0 = _; omega
    rw [ec, ez] at this
    exact this
/-- casts to a class of ours -/
theorem rt_cast {idx ci : Nat} {Cn : String} {T : u_T} {N : Nat} (hc : vwCl[ci]? = some (Cn, T, N)) (hw : Cond.classLink y.cls idx Cn ∈ gw_t) (hd : decode cc pc = .ok (.checkcast idx, 3)) (hx : hp_cls h x ci = true) (k : Rt X y cc nL d (pc + 3) l (va_rf x :: st) h r h2) : Rt X y cc nL d pc l (va_rf x :: st) h r h2 := by
  refine ⟨k.1, k.2.1, ?_⟩
  intro p la e R s m args below meth c Q c0 z0 H locs ls C hr hR hS hl h1 h2 h3 h4
  have kk := (k.2.2 c0 z0 H locs ls C hr hR hS hl h1 h2 h3 h4)
  cases x with
  | none => exact lv_castN C.1 C.2.1 hd kk
  | some a =>
    unfold hp_cls at hx
    simp only at hx
    split at hx
    · rename_i ob hobj
      obtain ⟨cj, vs⟩ := ob
      have hcj : cj = ci := of_decide_eq_true hx
      subst hcj
      obtain ⟨-, -, hat⟩ := hR.obj hobj
      have hK := C.2.2.2.2.2.2.1
      exact va_castS C.1 C.2.1 C.2.2.2.1 (C.2.2.2.2.1 _ hw) (hK.1.1 cj _ hc).2 (va_recv hK.1 (ah_P1 (q := (a, .inr (cj, vs))) hat) (q0 := 0) hc rfl) hd kk
    · cases hx
/-- the two static rows and the mirror -/
theorem ah_oldZ {X : ah_X} {s : State} {Cn n dd : String} {v : Value} (h : va_Z Cn n dd v (ah_A X) s X.2.2.1) (old : ∀ q : Nat, q < X.2.2.1.size → s.heap[q]? = X.2.2.1[q]?) : va_Z Cn n dd v (ah_A X) s s.heap := h.kept (fun a ha _ => old a ha)
theorem rt_getE {idx : Nat} (hw : Cond.fieldLink y.cls idx "java/util/ArrayList" "DEFAULTCAPACITY_EMPTY_ELEMENTDATA" "[Ljava/lang/Object;" ∈ gw_t) (hd : decode cc pc = .ok (.getstatic idx, 3)) (k : Rt X y cc nL d (pc + 3) l (va_rf (some X.2.2.2.1) :: st) h r h2) : Rt X y cc nL d pc l st h r h2 := by
  refine ⟨k.1, k.2.1, ?_⟩
  intro p la e R s m args below meth c Q c0 z0 H locs ls C hr hR hS hl h1 h2 h3 h4
  exact va_gets C.1 C.2.1 (ah_oldZ C.2.2.2.2.2.2.1.2.2.2.2.1 C.2.2.2.2.2.2.2.2.2.2) hS C.2.2.2.1 (C.2.2.2.2.1 _ hw) (fun _ h => h) hd (k.2.2 c0 z0 H locs ls C hr hR hS hl h1 h2 h3 h4)
theorem rt_getN {idx : Nat} (hw : Cond.fieldLink y.cls idx "LetterTree" "NO_BYTES" "[B" ∈ gw_t) (hd : decode cc pc = .ok (.getstatic idx, 3)) (k : Rt X y cc nL d (pc + 3) l (va_rf (some X.2.2.2.2.1) :: st) h r h2) : Rt X y cc nL d pc l st h r h2 := by
  refine ⟨k.1, k.2.1, ?_⟩
  intro p la e R s m args below meth c Q c0 z0 H locs ls C hr hR hS hl h1 h2 h3 h4
  exact va_gets C.1 C.2.1 (ah_oldZ C.2.2.2.2.2.2.1.2.2.2.2.2.1 C.2.2.2.2.2.2.2.2.2.2) hS C.2.2.2.1 (C.2.2.2.2.1 _ hw) (fun _ h => h) hd (k.2.2 c0 z0 H locs ls C hr hR hS hl h1 h2 h3 h4)
theorem rt_getNn {idx : Nat} {host : String} (hw : Cond.fieldLinkNest y.cls idx "LetterTree" "NO_BYTES" "[B" host ∈ ah_ns) (hd : decode cc pc = .ok (.getstatic idx, 3)) (k : Rt X y cc nL d (pc + 3) l (va_rf (some X.2.2.2.2.1) :: st) h r h2) : Rt X y cc nL d pc l st h r h2 := by
  refine ⟨k.1, k.2.1, ?_⟩
  intro p la e R s m args below meth c Q c0 z0 H locs ls C hr hR hS hl h1 h2 h3 h4
  exact va_getsN C.1 C.2.1 (ah_oldZ C.2.2.2.2.2.2.1.2.2.2.2.2.1 C.2.2.2.2.2.2.2.2.2.2) hS C.2.2.2.1 (va_Nw.use (A := args) rfl (C.2.2.2.2.2.2.1.2.1 _ hw)) (fun _ h => h) hd (k.2.2 c0 z0 H locs ls C hr hR hS hl h1 h2 h3 h4)
theorem rt_ldcM {idx : Nat} (hw : Cond.classLink y.cls idx "[Ljava/lang/Object;" ∈ gw_t) (hd : decode cc pc = .ok (.ldc idx, 2)) (k : Rt X y cc nL d (pc + 2) l (va_rf (some X.2.2.2.2.2) :: st) h r h2) : Rt X y cc nL d pc l st h r h2 := by
  refine ⟨k.1, k.2.1, ?_⟩
  intro p la e R s m args below meth c Q c0 z0 H locs ls C hr hR hS hl h1 h2 h3 h4
  exact va_ldcM C.1 C.2.1 C.2.2.2.1 (C.2.2.2.2.1 _ hw) C.2.2.2.2.2.2.1.2.2.2.2.2.2.2.2.1 hd (k.2.2 c0 z0 H locs ls C hr hR hS hl h1 h2 h3 h4)
end RTA
end
section
/-! ===== contracts over abstract heaps, and calls ===== -/
def rn_rm (d mc ms : Nat) : Room := { frames := d, cells := mc, slots := ms, locals := 40 * d }
/-- the method y, called with av over h, with d frames and 40 d words left, returns r, and the heap is h2 -/
def Rn (X : ah_X) (y : MethodName) (cc : ByteArray) (nL : Nat) (ret : Option FieldType) (d : Nat) (av : List Value) (h : ah_H) (r : Option Value) (h2 : ah_H) : Prop :=
  h.1 ≤ h2.1 ∧ h.2.1 ≤ h2.2.1 ∧ ∀ la : Launch, Met la y (.code y cc nL ret :: gw_t) (rn_rm d (h2.1 - h.1) (h2.2.1 - h.2.1)) (va_Pc av (fun U => ah_K X U ∧ ah_R X h U.heap)) (fun _ st oc t => oc = .returned r ∧ ah_R X h2 t.heap ∧ va_F (ah_A X) st t) (h2.1 - h.1) (h2.2.1 - h.2.1) (ah_A X)
def rt_ok (ret : Option FieldType) (r : Option Value) : Prop := match r with
  | none => ret = none
  | some (.int v) => ∃ ty, ret = some ty ∧ narrow ty (.int v) = .int v
  | some (.long _) => ret = some .long
  | some .null => ∃ rt, ret = some rt ∧ ((∃ n, rt = .object n) ∨ ∃ t, rt = .array t)
  | some (.ref _) => ∃ rt, ret = some rt ∧ ((∃ n, rt = .object n) ∨ ∃ t, rt = .array t)
  | _ => False
def me_ok (y : MethodName) (cc : ByteArray) (nL : Nat) (ret : Option FieldType) (n : Nat) : Prop :=
  Cond.code y cc nL ret ∈ gw_t ∧ Cond.initialized y.cls ∈ gw_t ∧ (y.cls ≠ "java/lang/invoke/MethodHandle" ∧ y.cls ≠ "java/lang/invoke/VarHandle" ∧ (parseMethodDescriptor y.desc).map (fun d => d.parameters.length) = some n) ∧ nL ≤ 21 ∧ plainFor y = true
theorem Rn.of {X : ah_X} {y : MethodName} {cc : ByteArray} {nL n d : Nat} {ret : Option FieldType} {av : List Value} {h h2 : ah_H} {r : Option Value} (F : me_ok y cc nL ret n) (hlen : (lg_sl av).length ≤ nL) (hok : rt_ok ret r) (k : Rt X y cc nL d 0 (lv_args 0 av) [] h r h2) : Rn X y cc nL ret d av h r h2 := by
  refine ⟨k.1, k.2.1, fun la => ?_⟩
  refine va_MetF (cc := cc) (maxL := nL) (ret := ret) F.2.2.2.2 rfl ?_
  intro p e s m args below meth c s₁ B hml hv
  obtain ⟨rfl, hK, hR⟩ := hv
  have hts := atoms_spec (ws := .code y cc nL ret :: gw_t) B.pre
  have hl := lv_entry av (n := nL) hlen
  have hlocks := B.notSynchronized
  rw [lg_entry_eq]
  generalize (lg_sl av ++ List.replicate (nL - (lg_sl av).length) Slot.unset).toArray = ls at hl ⊢
  have hrt := B.returns
  have C : rt_C X y cc nL d p (headSpec (.code y cc nL ret :: gw_t) (rn_rm d (h2.1 - h.1) (h2.2.1 - h.2.1))).room s m av.toArray meth c :=
    ⟨B.exec, B.bytes, hml, findClass_of_methodNamed B.named, fun w hw => hts w (List.mem_cons_of_mem _ hw), (name_of_methodNamed B.named B.method).1, hK, Nat.le_refl _, Nat.le_refl _, by rw [hR.1]; exact hR.2.2.2.1, hR.2.2.1⟩
  have fin := k.2.2 (la := la) (e := e) (below := below) (Q := MQ below (fun _ st oc t => oc = .returned r ∧ ah_R X h2 t.heap ∧ va_F (ah_A X) st t) av.toArray s (h2.1 - h.1) (h2.2.1 - h.2.1) (ah_A X)) h.1 h.2.1 s.heap [] ls C ?_ hR va_S.rf hl (Nat.le_refl _) (Nat.le_refl _) (Nat.le_refl _) (Nat.le_refl _)
  · rw [Nat.sub_self, Nat.sub_self] at fin
    exact fin
  · intro pc' H' locs' ls' hat hR' hS'
    cases r with
    | none => exact W.vret B.exec B.bytes (hrt.trans hok) (fun t ht _ => ⟨rfl, by rw [ht]; exact hR', hS'.F ht⟩) hS'.2.2 hat
    | some v =>
      cases v with
      | int v =>
        obtain ⟨ty, e1, e2⟩ := hok
        exact W.zret B.exec B.bytes (hrt.trans e1) e2 (fun t ht _ => ⟨rfl, by rw [ht]; exact hR', hS'.F ht⟩) hS'.2.2 hat
      | long v => exact W.lret B.exec B.bytes (hrt.trans hok) (fun t ht _ => ⟨rfl, by rw [ht]; exact hR', hS'.F ht⟩) hS'.2.2 hat
      | null =>
        obtain ⟨rt, e1, e2⟩ := hok
        exact W.aret B.exec B.bytes (hrt.trans e1) e2 (Or.inl rfl) (fun t ht _ => ⟨rfl, by rw [ht]; exact hR', hS'.F ht⟩) hS'.2.2 hat
      | ref a =>
        obtain ⟨rt, e1, e2⟩ := hok
        exact W.aret B.exec B.bytes (hrt.trans e1) e2 (Or.inr ⟨a, rfl⟩) (fun t ht _ => ⟨rfl, by rw [ht]; exact hR', hS'.F ht⟩) hS'.2.2 hat
      | float _ => exact hok.elim
      | double _ => exact hok.elim
      | retAddr _ => exact hok.elim
/-- the receiver is an object of that class -/
def hp_rcv (h : ah_H) (x : Option Nat) (ci : Nat) : Bool := match x with
  | none => false
  | some b => match h.2.2 b with
    | some (.inr o) => decide (o.1 = ci)
    | _ => false
theorem hp_rcv_spec {h : ah_H} {x : Option Nat} {ci : Nat} (e : hp_rcv h x ci = true) : ∃ a fs, x = some a ∧ h.2.2 a = some (.inr (ci, fs)) := by
  unfold hp_rcv at e
  cases x with
  | none => cases e
  | some b =>
    simp only at e
    split at e
    · rename_i o ho
      obtain ⟨c, fs⟩ := o
      have : c = ci := of_decide_eq_true e
      subst this
      exact ⟨b, fs, rfl, ho⟩
    · cases e
theorem hp_rcv_of {h : ah_H} {a ci : Nat} {fs : List Value} (e : h.2.2 a = some (.inr (ci, fs))) : hp_rcv h (some a) ci = true := by simp [hp_rcv, e]
def mi_ok (y : MethodName) (ci : Nat) : Prop := Cond.instanceMethod y ∈ gw_t ∧ Cond.selects y.cls y y ∈ gw_t ∧ ∃ (T : u_T) (N : Nat), vwCl[ci]? = some (y.cls, T, N)
section RTC
variable {X : ah_X} {y yc : MethodName} {cc ccc : ByteArray} {nL nLc d pc n idx ci : Nat} {retc : Option FieldType} {l : List (Nat × Value)} {st stk As : List Value} {h hh h2 : ah_H} {r rr : Option Value} {x : Option Nat} {host : String}
theorem rn_blind {av : List Value} : FrameBlind (va_Pc av (fun U => ah_K X U ∧ ah_R X h U.heap)) := fun a U g mk q => by
  obtain ⟨q0, qK, qR⟩ := q
  refine ⟨q0, ?_, qR⟩
  obtain ⟨h1, h2, h3, h4, h5, h6, h7, h8, h9, h10⟩ := qK
  have ha : U.vm.Alike (U.calling g mk a).vm := Vm.Alike.refl U.vm
  exact ⟨va_K.moved ha h1, fun w hw => by
    have hw2 := (List.mem_filter.mp hw).2
    exact va_Nw.same (u := U) (by cases w <;> first | (simp at hw2; done) | rfl) rfl (h2 w hw), va_AO.moved ha h3, va_AO.moved ha h4, va_Z.moved ha h5, va_Z.moved ha h6, va_T.moved ha h7, va_T.moved ha h8, va_Mi.moved ha h9, va_Dc.moved ha h10⟩
theorem rn_warm {av : List Value} {s : State} {H : Heap} (hK : ah_K X s) (hR : ah_R X h H) : ∀ U : State, U.heap = H → s.WarmedH U.vm → va_Pc av (fun U => ah_K X U ∧ ah_R X h U.heap) av.toArray U := fun U e hW => ⟨rfl, hK.warm hW, by rw [e]; exact hR⟩
theorem rt_back {A : Array Value} (hM : Rn X yc ccc nLc retc d As h rr hh) (k : Rt X y cc nL (d + 1) (pc + 3) l (rr.toList ++ st) hh r h2)
    (run : ∀ {p : Program} {la : Launch} {e : Env} {R : Room} {s : State} {m : MethodId} {args : Array Value} {below : List Frame} {meth : Method} {c : Code} (c0 z0 : Nat) (H : Heap) (locs : List Loc) (ls : Array Slot), rt_C X y cc nL (d + 1) p R s m args meth c → ah_R X h H → lv_has ls nL l → (h.1 - c0) + (hh.1 - h.1) ≤ R.cells → (h.2.1 - z0) + (hh.2.1 - h.2.1) ≤ R.slots → va_Run p la e R s m args below meth c H locs (h.1 - c0) (h.2.1 - z0) (hh.1 - h.1) (hh.2.1 - h.2.1) (F0 m pc ls stk) st (fun st oc t => oc = .returned rr ∧ ah_R X hh t.heap ∧ va_F (ah_A X) st t) (ah_A X)) : Rt X y cc nL (d + 1) pc l stk h r h2 := by
  have g1 := hM.1
  have g2 := hM.2.1
  have k1 := k.1
  have k2 := k.2.1
  refine ⟨by omega, by omega, ?_⟩
  intro p la e R s m args below meth c Q c0 z0 H locs ls C hr hR hS hl h1 h2 h3 h4
  intro T hT Xs
  obtain ⟨v, st₀, t, T', L, e0, X', hL, e1, e2, ⟨hv, hR1, hF⟩, go⟩ := run (la := la) (e := e) (below := below) c0 z0 H locs ls C hR hl (by omega) (by omega) T hT Xs
  cases hv
  have hS1 : va_S (ah_A X) s.heap T'.heap (locs ++ L) := by
    refine ⟨?_, fun q q1 q2 => ?_, fun q hq => ?_⟩
    · rw [e1]
      exact Nat.le_trans hS.1 (by rw [← e0]; exact hF.1)
    · rw [e1, hF.2 q (by rw [e0]; exact Nat.lt_of_lt_of_le q1 hS.1) q2, e0]
      exact hS.2.1 q q1 q2
    · rcases List.mem_append.mp hq with q | q
      · exact hS.2.2 _ q
      · exact hL _ q
  have kk := k.2.2 (la := la) (e := e) (below := below) (Q := Q) c0 z0 T'.heap (locs ++ L) ls C hr (by rw [e1]; exact hR1) hS1 hl (by omega) (by omega) h3 h4
  rw [show hh.1 - c0 = h.1 - c0 + (hh.1 - h.1) by omega, show hh.2.1 - z0 = h.2.1 - z0 + (hh.2.1 - h.2.1) by omega] at kk
  obtain ⟨t2, a1, b1⟩ := kk T' rfl X'
  exact ⟨t2, go t2 a1, b1⟩
theorem rt_cb {R : Room} {s : State} {args : Array Value} (F : me_ok yc ccc nLc retc n) (hts : ∀ w ∈ gw_t, w.before args s = true) (hl : Cond.methodLink y.cls idx yc ∈ gw_t) (h1 : d + 1 ≤ R.frames) (h2 : 40 * (d + 1) ≤ R.locals) {mc ms : Nat} : CallB R s args y.cls idx yc ccc nLc retc (.code yc ccc nLc retc :: gw_t) (rn_rm d mc ms) mc ms n :=
  callB_of n hts (gw_goodc F.1) rfl rfl rfl (hts _ F.2.1) (hts _ hl) F.2.2.1 ⟨h1, by show 8 + (nLc + 11) + 40 * d ≤ _; have := F.2.2.2.1; omega⟩
theorem rt_cn {R : Room} {s : State} {args : Array Value} (F : me_ok yc ccc nLc retc n) (hts : ∀ w ∈ gw_t, w.before args s = true) (hl : va_Nw (.methodLinkNest y.cls idx yc host) s) (h1 : d + 1 ≤ R.frames) (h2 : 40 * (d + 1) ≤ R.locals) {mc ms : Nat} : va_CN R s args y.cls idx yc host ccc nLc retc (.code yc ccc nLc retc :: gw_t) (rn_rm d mc ms) mc ms n :=
  va_cnB n hts (gw_goodc F.1) rfl rfl rfl hl (hts _ F.2.1) F.2.2.1 ⟨h1, by show 8 + (nLc + 11) + 40 * d ≤ _; have := F.2.2.2.1; omega⟩
theorem rt_callV (F : me_ok yc ccc nLc retc n) (G : mi_ok yc ci) (hl : Cond.methodLink y.cls idx yc ∈ gw_t) (hd : decode cc pc = .ok (.invokevirtual idx, 3)) (hn : As.length = n) (hcat : (st.map fun v => v.category).sum ≤ 8) (hst : stk = As.reverse ++ va_rf x :: st) (hrc : hp_rcv h x ci = true) (hM : Rn X yc ccc nLc retc d (va_rf x :: As) h rr hh) (k : Rt X y cc nL (d + 1) (pc + 3) l (rr.toList ++ st) hh r h2) : Rt X y cc nL (d + 1) pc l stk h r h2 := by
  obtain ⟨b, fs, rfl, hb⟩ := hp_rcv_spec hrc
  refine rt_back (A := #[]) hM k ?_
  intro p la e R s m args below meth c c0 z0 H locs ls C hR hls hc1 hc2
  obtain ⟨hx, hcb, hml, hown, hts, hname, hK, hf, hlo, -⟩ := id C
  obtain ⟨T, N, hci⟩ := G.2.2
  obtain ⟨-, -, hat⟩ := hR.obj hb
  exact va_runV (b := b) (As := As) (rest := st) ⟨hx, hcb, hml, hown, hts⟩ (hM.2.2 la) ⟨rt_cb F hts hl hf hlo, hts _ G.1, hts _ G.2.1⟩ ⟨rn_blind, va_recv hK.1 (ah_P1 (q := (b, .inr (ci, fs))) hat) (q0 := 0) hci rfl, rn_warm hK hR⟩ rfl hn hls.1 hst (lv_room hcat) hd ⟨hc1, hc2⟩
theorem rt_callVN (F : me_ok yc ccc nLc retc n) (G : mi_ok yc ci) (hl : Cond.methodLinkNest y.cls idx yc host ∈ ah_ns) (hd : decode cc pc = .ok (.invokevirtual idx, 3)) (hn : As.length = n) (hcat : (st.map fun v => v.category).sum ≤ 8) (hst : stk = As.reverse ++ va_rf x :: st) (hrc : hp_rcv h x ci = true) (hM : Rn X yc ccc nLc retc d (va_rf x :: As) h rr hh) (k : Rt X y cc nL (d + 1) (pc + 3) l (rr.toList ++ st) hh r h2) : Rt X y cc nL (d + 1) pc l stk h r h2 := by
  obtain ⟨b, fs, rfl, hb⟩ := hp_rcv_spec hrc
  refine rt_back (A := #[]) hM k ?_
  intro p la e R s m args below meth c c0 z0 H locs ls C hR hls hc1 hc2
  obtain ⟨hx, hcb, hml, hown, hts, hname, hK, hf, hlo, -⟩ := id C
  obtain ⟨T, N, hci⟩ := G.2.2
  obtain ⟨-, -, hat⟩ := hR.obj hb
  exact va_runVN (b := b) (As := As) (rest := st) ⟨hx, hcb, hml, hown, hts⟩ (hM.2.2 la) ⟨rt_cn F hts (hK.2.1 _ hl) hf hlo, hts _ G.1, hts _ G.2.1⟩ ⟨rn_blind, va_recv hK.1 (ah_P1 (q := (b, .inr (ci, fs))) hat) (q0 := 0) hci rfl, rn_warm hK hR⟩ rfl hn hls.1 hst (lv_room hcat) hd ⟨hc1, hc2⟩
theorem rt_callS (F : me_ok yc ccc nLc retc n) (hs : Cond.static yc ∈ gw_t) (hl : Cond.methodLink y.cls idx yc ∈ gw_t) (hd : decode cc pc = .ok (.invokestatic idx, 3)) (hn : As.length = n) (hcat : (st.map fun v => v.category).sum ≤ 8) (hst : stk = As.reverse ++ st) (hM : Rn X yc ccc nLc retc d As h rr hh) (k : Rt X y cc nL (d + 1) (pc + 3) l (rr.toList ++ st) hh r h2) : Rt X y cc nL (d + 1) pc l stk h r h2 := by
  refine rt_back (A := #[]) hM k ?_
  intro p la e R s m args below meth c c0 z0 H locs ls C hR hls hc1 hc2
  obtain ⟨hx, hcb, hml, hown, hts, hname, hK, hf, hlo, -⟩ := id C
  exact va_runS (As := As) (rest := st) ⟨hx, hcb, hml, hown, hts⟩ (hM.2.2 la) ⟨rt_cb F hts hl hf hlo, hts _ hs⟩ ⟨rn_blind, rn_warm hK hR⟩ rfl hn hls.1 hst (lv_room hcat) hd ⟨hc1, hc2⟩
theorem rt_callSN (F : me_ok yc ccc nLc retc n) (hs : Cond.static yc ∈ gw_t) (hl : Cond.methodLinkNest y.cls idx yc host ∈ ah_ns) (hd : decode cc pc = .ok (.invokestatic idx, 3)) (hn : As.length = n) (hcat : (st.map fun v => v.category).sum ≤ 8) (hst : stk = As.reverse ++ st) (hM : Rn X yc ccc nLc retc d As h rr hh) (k : Rt X y cc nL (d + 1) (pc + 3) l (rr.toList ++ st) hh r h2) : Rt X y cc nL (d + 1) pc l stk h r h2 := by
  refine rt_back (A := #[]) hM k ?_
  intro p la e R s m args below meth c c0 z0 H locs ls C hR hls hc1 hc2
  obtain ⟨hx, hcb, hml, hown, hts, hname, hK, hf, hlo, -⟩ := id C
  exact va_runSN (As := As) (rest := st) ⟨hx, hcb, hml, hown, hts⟩ (hM.2.2 la) ⟨rt_cn F hts (hK.2.1 _ hl) hf hlo, hts _ hs, trivial⟩ ⟨rn_blind, rn_warm hK hR⟩ rfl hn hls.1 hst (lv_room hcat) hd ⟨hc1, hc2⟩
theorem rt_callI (F : me_ok yc ccc nLc none n) (hi : yc.name = "<init>" ∧ Cond.instanceMethod yc ∈ gw_t) (hl : Cond.methodLink y.cls idx yc ∈ gw_t) (hd : decode cc pc = .ok (.invokespecial idx, 3)) (hn : As.length = n) (hcat : (st.map fun v => v.category).sum ≤ 8) (hst : stk = As.reverse ++ va_rf x :: st) (hrc : hp_rcv h x ci = true) (hM : Rn X yc ccc nLc none d (va_rf x :: As) h rr hh) (k : Rt X y cc nL (d + 1) (pc + 3) l (rr.toList ++ st) hh r h2) : Rt X y cc nL (d + 1) pc l stk h r h2 := by
  obtain ⟨b, fs, rfl, hb⟩ := hp_rcv_spec hrc
  refine rt_back (A := #[]) hM k ?_
  intro p la e R s m args below meth c c0 z0 H locs ls C hR hls hc1 hc2
  obtain ⟨hx, hcb, hml, hown, hts, hname, hK, hf, hlo, -⟩ := id C
  exact va_runI (b := b) (As := As) (rest := st) ⟨hx, hcb, hml, hown, hts⟩ (hM.2.2 la) ⟨rt_cb F hts hl hf hlo, hi.1, hts _ hi.2⟩ ⟨rn_blind, rn_warm hK hR⟩ rfl hn hls.1 hst (lv_room hcat) hd ⟨hc1, hc2⟩
theorem rt_callIN (F : me_ok yc ccc nLc none n) (hi : yc.name = "<init>" ∧ Cond.instanceMethod yc ∈ gw_t) (hl : Cond.methodLinkNest y.cls idx yc host ∈ ah_ns) (hd : decode cc pc = .ok (.invokespecial idx, 3)) (hn : As.length = n) (hcat : (st.map fun v => v.category).sum ≤ 8) (hst : stk = As.reverse ++ va_rf x :: st) (hrc : hp_rcv h x ci = true) (hM : Rn X yc ccc nLc none d (va_rf x :: As) h rr hh) (k : Rt X y cc nL (d + 1) (pc + 3) l (rr.toList ++ st) hh r h2) : Rt X y cc nL (d + 1) pc l stk h r h2 := by
  obtain ⟨b, fs, rfl, hb⟩ := hp_rcv_spec hrc
  refine rt_back (A := #[]) hM k ?_
  intro p la e R s m args below meth c c0 z0 H locs ls C hR hls hc1 hc2
  obtain ⟨hx, hcb, hml, hown, hts, hname, hK, hf, hlo, -⟩ := id C
  exact va_runIN (b := b) (As := As) (rest := st) ⟨hx, hcb, hml, hown, hts⟩ (hM.2.2 la) ⟨rt_cn F hts (hK.2.1 _ hl) hf hlo, hi.1, hts _ hi.2⟩ ⟨rn_blind, rn_warm hK hR⟩ rfl hn hls.1 hst (lv_room hcat) hd ⟨hc1, hc2⟩
end RTC
end
section
theorem nt_acN : Cond.native arraycopyName ∈ gw_t := gw_in (List.mem_of_getElem? (i := 356) (by decide +kernel)) (by decide +kernel)
theorem nt_acS : Cond.static arraycopyName ∈ gw_t := gw_in (List.mem_of_getElem? (i := 355) (by decide +kernel)) (by decide +kernel)
theorem nt_acI : Cond.initialized "java/lang/System" ∈ gw_t := gw_in (List.mem_of_getElem? (i := 86) (by decide +kernel)) (by decide +kernel)
theorem nt_oiI : Cond.instanceMethod Lib.objectInit ∈ gw_t := gw_in (List.mem_of_getElem? (i := 98) (by decide +kernel)) (by decide +kernel)
theorem nt_oiC : Cond.code Lib.objectInit ⟨#[0xb1]⟩ 1 none ∈ gw_t := gw_in (List.mem_of_getElem? (i := 99) (by decide +kernel)) (by decide +kernel)
theorem nt_gcI : Cond.instanceMethod ⟨"java/lang/Object", "getClass", "()Ljava/lang/Class;"⟩ ∈ gw_t := gw_in (List.mem_of_getElem? (i := 428) (by decide +kernel)) (by decide +kernel)
theorem nt_gcN : Cond.native ⟨"java/lang/Object", "getClass", "()Ljava/lang/Class;"⟩ ∈ gw_t := gw_in (List.mem_of_getElem? (i := 442) (by decide +kernel)) (by decide +kernel)
theorem nt_gcS : Cond.selects "[Ljava/lang/Object;" ⟨"java/lang/Object", "getClass", "()Ljava/lang/Class;"⟩ ⟨"java/lang/Object", "getClass", "()Ljava/lang/Class;"⟩ ∈ gw_t := gw_in (List.mem_of_getElem? (i := 1529) (by decide +kernel)) (by decide +kernel)
def hp_cpb (E : Nat × Nat × Nat) (h : ah_H) (x : Option Nat) (sp : Int32) (z : Option Nat) (dp n : Int32) : Option ah_H := match z, hp_ar h x, hp_ar h z with
  | some a, some (0, n0, .inl f), some (0, n1, .inl g) => if sp < 0 ∨ dp < 0 ∨ n < 0 ∨ n0 < sp.toNatClampNeg + n.toNatClampNeg ∨ n1 < dp.toNatClampNeg + n.toNatClampNeg ∨ a = E.1 ∨ a = E.2.1 ∨ (List.range n.toNatClampNeg).all (fun i => fits .byte (.int (f (sp.toNatClampNeg + i)))) = false then none else some (ah_set h a (.inl (0, n1, .inl (va_cpy f g sp.toNatClampNeg dp.toNatClampNeg n.toNatClampNeg))))
  | _, _, _ => none
def hp_cpq (E : Nat × Nat × Nat) (h : ah_H) (x : Option Nat) (sp : Int32) (z : Option Nat) (dp n : Int32) : Option ah_H := match z, hp_ar h x, hp_ar h z with
  | some a, some (4, n0, .inr (.inr (.inr (.inr f)))), some (4, n1, .inr (.inr (.inr (.inr g)))) => if sp < 0 ∨ dp < 0 ∨ n < 0 ∨ n0 < sp.toNatClampNeg + n.toNatClampNeg ∨ n1 < dp.toNatClampNeg + n.toNatClampNeg ∨ a = E.1 ∨ a = E.2.1 ∨ (List.range n.toNatClampNeg).all (fun i => hp_obj h (f (sp.toNatClampNeg + i))) = false then none else some (ah_set h a (.inl (4, n1, .inr (.inr (.inr (.inr (va_cpy f g sp.toNatClampNeg dp.toNatClampNeg n.toNatClampNeg)))))))
  | _, _, _ => none
theorem nt_nn (z : Int32) (hz : ¬ z < 0) : z.toInt = (z.toNatClampNeg : Int) := by
  have hz0 : (0 : Int) ≤ z.toInt := by
    have := Int32.not_lt.mp hz
    simpa using Int32.le_iff_toInt_le.mp this
  show z.toInt = ((z.toInt.toNat : Nat) : Int)
  omega
section RTN
variable {X : ah_X} {y : MethodName} {cc : ByteArray} {nL d pc idx : Nat} {l : List (Nat × Value)} {st : List Value} {h hh h2 : ah_H} {r : Option Value} {x z : Option Nat} {sp dp n : Int32}
theorem rt_objInit (hl : Cond.methodLink y.cls idx Lib.objectInit ∈ gw_t) (hcat : (st.map fun v => v.category).sum ≤ 8) (hd : decode cc pc = .ok (.invokespecial idx, 3)) (hx : ∃ a, x = some a) (k : Rt X y cc nL (d + 1) (pc + 3) l st h r h2) : Rt X y cc nL (d + 1) pc l (va_rf x :: st) h r h2 := by
  obtain ⟨a, rfl⟩ := hx
  refine ⟨k.1, k.2.1, ?_⟩
  intro p la e R s m args below meth c Q c0 z0 H locs ls C hr hR hS hls h1 h2 h3 h4
  obtain ⟨hx, hb, hml, hown, hts, -, -, hf, hlo, -⟩ := id C
  exact W.objInit hx hb hown (hts _ hl) (hts _ nt_oiI) (hts _ nt_oiC) rfl (by rw [hml]; exact hls.1) rfl hd (by omega) (by show 2 * 0 + _ + 12 ≤ _; omega) (k.2.2 c0 z0 H locs ls C hr hR hS hls h1 h2 h3 h4)
/-- one arraycopy, the source in the heap or one of the empty static rows -/
theorem rt_copyG {a0 a kd n1 : Nat} {cs : State → Heap → Cell → Prop} {f1 g1 : (Nat → Int32) ⊕ (Nat → Int64) ⊕ (Nat → UInt32) ⊕ (Nat → UInt64) ⊕ (Nat → Option Nat)} (h6 : kd < 6) (hl : Cond.methodLink y.cls idx arraycopyName ∈ gw_t) (hcat : (st.map fun v => v.category).sum ≤ 8) (hd : decode cc pc = .ok (.invokestatic idx, 3))
    (hs1 : ¬ sp < 0) (hs2 : ¬ dp < 0) (hs3 : ¬ n < 0) (hb2 : dp.toNatClampNeg + n.toNatClampNeg ≤ n1) (hE : ¬ a = X.2.2.2.1) (hN : ¬ a = X.2.2.2.2.1) (ha : h.2.2 a = some (.inl (kd, n1, g1)))
    (src : ∀ (s : State) (H : Heap), ah_K X s → ah_R X h H → ∃ (scr : Cell) (ks : Class) (cm : ClassId), H[a0]? = some scr ∧ (∀ k, scr.vm ≠ .statics k) ∧ scr.vm ≠ .unknown ∧ s.vm.classes[scr.cls]? = some ks ∧ ks.kind = .array cm (ah_ty kd) ∧ sp.toNatClampNeg + n.toNatClampNeg ≤ scr.slots.size ∧ copied scr (vp_cell (X.2.1 kd) (n1, g1)) sp dp n = vp_cell (X.2.1 kd) (n1, f1) ∧
      (∀ (T : State), T.heap = H → ∀ vm', s.vm.Alike vm' → ∀ dComp : ClassId, (∀ kA : Class, s.vm.classes[X.2.1 kd]? = some kA → kA.kind = .array dComp (ah_ty kd)) → ∀ i, i < n.toNatClampNeg → fits (ah_ty kd) (scr.slots.getD (sp.toNatClampNeg + i) .null) = true ∧ (T.setVm vm').takes dComp (scr.slots.getD (sp.toNatClampNeg + i) .null)))
    (k : Rt X y cc nL (d + 1) (pc + 3) l st (ah_set h a (.inl (kd, n1, f1))) r h2) : Rt X y cc nL (d + 1) pc l (.int n :: .int dp :: .ref a :: .int sp :: .ref a0 :: st) h r h2 := by
  refine ⟨k.1, k.2.1, ?_⟩
  intro p la e R s m args below meth c Q c0 z0 H locs ls C hr hR hS hls h1 h2 h3 h4
  obtain ⟨hx, hb, hml, hown, hts, -, hK, hf, hlo, -⟩ := id C
  obtain ⟨b1, b2, b3⟩ : X.2.2.1.size ≤ a ∧ a < h.1 ∧ H[a]? = some (vp_cell (X.2.1 kd) (n1, g1)) := by
    rcases hR.2.1 a _ ha with q | ⟨q, -⟩ | ⟨q, -⟩
    · exact q
    · exact absurd q hE
    · exact absurd q hN
  obtain ⟨scr, ks, cm, s1, s2, s3, s4, s5, s6, s7, s8⟩ := src s H hK hR
  have hAr := (hK.1.2 kd _ (ah_tys_at X h6)).1
  have hvp : (vp_cell (X.2.1 kd) (n1, g1)).cls = X.2.1 kd ∧ (vp_cell (X.2.1 kd) (n1, g1)).vm = .none ∧ (vp_cell (X.2.1 kd) (n1, g1)).slots.size = n1 := by
    obtain f | f | f | f | f := g1 <;> exact ⟨rfl, rfl, by first | (rw [vp_cell_i, arrV_size]; done) | (rw [vp_cell_l, arrV_size]; done) | (rw [vp_cell_f, arrV_size]; done) | (rw [vp_cell_d, arrV_size]; done) | (rw [vp_cell_q, arrV_size]; done)⟩
  obtain ⟨-, k1, hk1, cm1, hkk1⟩ := hAr n1 (fun _ => .null)
  have hk1' : s.vm.classes[X.2.1 kd]? = some k1 := hk1
  intro T hT Xs
  obtain ⟨vm', X', step⟩ := Xs.arraycopy hx hown (hts _ hl) (hts _ nt_acN) (hts _ nt_acS) (hts _ nt_acI) (src := a0) (dst := a) (cs := scr) (cd := vp_cell (X.2.1 kd) (n1, g1)) (srcPos := sp) (destPos := dp) (n := n) (by rw [hT]; exact s1) (by rw [hT]; exact b3)
    s2 (fun q hq => by rw [hvp.2.1] at hq; cases hq) s3 (fun hq => by rw [hvp.2.1] at hq; cases hq) s4 (by rw [hvp.1]; exact hk1') s5 hkk1
    (by simp) hs1 hs2 hs3
    (by rw [nt_nn sp hs1, nt_nn n hs3]; omega)
    (by rw [nt_nn dp hs2, nt_nn n hs3, hvp.2.2]; omega)
    (fun vm' hal i hi => s8 T hT vm' hal cm1 (fun kA hkA => by cases hk1'.symm.trans hkA; exact hkk1) i hi)
    (g := F0 m pc ls (.int n :: .int dp :: .ref a :: .int sp :: .ref a0 :: st)) rfl (by rw [hml]; exact hls.1) (rest := st) rfl (by rw [hb]; exact hd) (by omega) (by show 2 * 0 + _ + (5 + 2 + 11) ≤ _; omega)
  rw [s7] at X' step
  have hl2 : a < H.size := (Array.getElem?_eq_some_iff.mp b3).1
  have hheap : ((T.setVm vm').setCell a (vp_cell (X.2.1 kd) (n1, f1))).heap = H.setIfInBounds a (vp_cell (X.2.1 kd) (n1, f1)) := by rw [← hT]; rfl
  have oq : ∀ q : Nat, q ≠ a → (H.setIfInBounds a (vp_cell (X.2.1 kd) (n1, f1)))[q]? = H[q]? := fun q hq => by simp [Array.getElem?_setIfInBounds, Ne.symm hq]
  have hz : (H.setIfInBounds a (vp_cell (X.2.1 kd) (n1, f1))).size = H.size := by simp
  have hat : va_at X.1 vwCl (a, ah_cv X (.inl (kd, n1, f1))) (H.setIfInBounds a (vp_cell (X.2.1 kd) (n1, f1))) := by
    show (H.setIfInBounds a _)[a]? = some _
    simp [Array.getElem?_setIfInBounds, hl2]
  have hS1 : va_S (ah_A X) s.heap (H.setIfInBounds a (vp_cell (X.2.1 kd) (n1, f1))) (locs ++ (scr.stretch sp.toNatClampNeg n.toNatClampNeg).zipIdx.map fun q => ⟨a, dp.toNatClampNeg + q.2⟩) := ⟨by rw [hz]; exact hS.1, fun q q1 q2 => by
      rw [oq q (fun e => q2 (by rw [e]; exact b1))]
      exact hS.2.1 q q1 q2, fun q hq => by
      rcases List.mem_append.mp hq with q | q
      · exact hS.2.2 _ q
      · obtain ⟨z, -, hz⟩ := List.mem_map.mp q
        rw [← hz]
        exact b1⟩
  obtain ⟨t, a1, b4⟩ := k.2.2 (la := la) (e := e) (below := below) (Q := Q) c0 z0 _ _ ls C hr (hR.set b1 b2 hat hz oq) hS1 hls h1 h2 h3 h4 _ hheap X'
  exact ⟨t, step t a1, b4⟩
theorem rt_cpb (hl : Cond.methodLink y.cls idx arraycopyName ∈ gw_t) (hcat : (st.map fun v => v.category).sum ≤ 8) (hd : decode cc pc = .ok (.invokestatic idx, 3)) (hx : hp_cpb X.2.2.2 h x sp z dp n = some hh) (k : Rt X y cc nL (d + 1) (pc + 3) l st hh r h2) : Rt X y cc nL (d + 1) pc l (.int n :: .int dp :: va_rf z :: .int sp :: va_rf x :: st) h r h2 := by
  unfold hp_cpb at hx
  split at hx
  · rename_i a n0 f n1 g q0 q1
    obtain ⟨a0, rfl, ha0⟩ := hp_ar_spec q0
    obtain ⟨a', e1, ha⟩ := hp_ar_spec q1
    cases e1
    split at hx
    · cases hx
    · rename_i hno
      cases hx
      simp only [not_or] at hno
      obtain ⟨hs1, hs2, hs3, hs4, hs5, hE, hN, hfit⟩ := hno
      refine rt_copyG (kd := 0) (n1 := n1) (g1 := .inl g) (cs := fun _ _ _ => True) (by decide) hl hcat hd hs1 hs2 hs3 (by omega) hE hN ha ?_ k
      intro s H hK hR
      have hfit' : ∀ i, i < n.toNatClampNeg → fits .byte (.int (f (sp.toNatClampNeg + i))) = true := fun i hi => by
        have := (Bool.not_eq_false _).mp hfit
        exact List.all_eq_true.mp this i (List.mem_range.mpr hi)
      rcases hR.2.1 a0 _ ha0 with ⟨g1, g2, g3⟩ | ⟨e1, e2⟩ | ⟨e1, e2⟩
      · have hc : H[a0]? = some (vp_cell (X.2.1 0) (n0, .inl f)) := g3
        obtain ⟨-, k0, hk0, cm0, hkk0⟩ := (hK.1.2 0 _ (ah_tys_at X (by decide))).1 n0 (fun j => .int (f j))
        refine ⟨_, k0, cm0, hc, (fun _ h => by cases h), (fun h => by cases h), hk0, hkk0, ?_, va_copied (fun q => .int q) (X.2.1 0) (X.2.1 0) f g (by omega), fun T hT vm' hal dComp hdc i hi => ?_⟩
        · rw [vp_cell_i, arrV_size]; omega
        · have e : (vp_cell (X.2.1 0) (n0, .inl f)).slots.getD (sp.toNatClampNeg + i) .null = .int (f (sp.toNatClampNeg + i)) := by
            show (arrV (X.2.1 0) n0 (fun j => .int (f j))).slots.getD _ _ = _
            rw [Array.getD_eq_getD_getElem?, arrV_read _ _ (by omega)]
            rfl
          rw [e]
          exact ⟨hfit' i hi, trivial⟩
      · cases e2
      · cases e2
        obtain ⟨cell, t1, ⟨t2, k0, hk0, cm0, hkk0⟩, t3, t4, t5, t6, t7⟩ := hK.2.2.2.2.2.2.2.1
        subst e1
        refine ⟨cell, k0, cm0, by rw [hR.2.2.1 _ hR.2.2.2.2.2]; exact t1, t2, t3, hk0, hkk0, by omega, va_copiedX (fun q => .int q) cell (X.2.1 0) (fun _ => 0) g (n0 := 0) (fun j hj => absurd hj (Nat.not_lt_zero j)) (by omega), fun T hT vm' hal dComp hdc i hi => absurd hi (by omega)⟩
  · cases hx
theorem rt_cpq (hl : Cond.methodLink y.cls idx arraycopyName ∈ gw_t) (hcat : (st.map fun v => v.category).sum ≤ 8) (hd : decode cc pc = .ok (.invokestatic idx, 3)) (hx : hp_cpq X.2.2.2 h x sp z dp n = some hh) (k : Rt X y cc nL (d + 1) (pc + 3) l st hh r h2) : Rt X y cc nL (d + 1) pc l (.int n :: .int dp :: va_rf z :: .int sp :: va_rf x :: st) h r h2 := by
  unfold hp_cpq at hx
  split at hx
  · rename_i a n0 f n1 g q0 q1
    obtain ⟨a0, rfl, ha0⟩ := hp_ar_spec q0
    obtain ⟨a', e1, ha⟩ := hp_ar_spec q1
    cases e1
    split at hx
    · cases hx
    · rename_i hno
      cases hx
      simp only [not_or] at hno
      obtain ⟨hs1, hs2, hs3, hs4, hs5, hE, hN, hfit⟩ := hno
      refine rt_copyG (kd := 4) (n1 := n1) (g1 := .inr (.inr (.inr (.inr g)))) (cs := fun _ _ _ => True) (by decide) hl hcat hd hs1 hs2 hs3 (by omega) hE hN ha ?_ k
      intro s H hK hR
      have hfit' : ∀ i, i < n.toNatClampNeg → hp_obj h (f (sp.toNatClampNeg + i)) = true := fun i hi => by
        have := (Bool.not_eq_false _).mp hfit
        exact List.all_eq_true.mp this i (List.mem_range.mpr hi)
      rcases hR.2.1 a0 _ ha0 with ⟨g1, g2, g3⟩ | ⟨e1, e2⟩ | ⟨e1, e2⟩
      · have hc : H[a0]? = some (vp_cell (X.2.1 4) (n0, .inr (.inr (.inr (.inr f))))) := g3
        obtain ⟨-, k0, hk0, cm0, hkk0⟩ := (hK.1.2 4 _ (ah_tys_at X (by decide))).1 n0 (fun j => va_rf (f j))
        refine ⟨_, k0, cm0, hc, (fun _ h => by cases h), (fun h => by cases h), hk0, hkk0, ?_, va_copied (fun q => va_rf q) (X.2.1 4) (X.2.1 4) f g (by omega), fun T hT vm' hal dComp hdc i hi => ?_⟩
        · rw [vp_cell_q, arrV_size]; omega
        · have e : (vp_cell (X.2.1 4) (n0, .inr (.inr (.inr (.inr f))))).slots.getD (sp.toNatClampNeg + i) .null = va_rf (f (sp.toNatClampNeg + i)) := by
            show (arrV (X.2.1 4) n0 (fun j => va_rf (f j))).slots.getD _ _ = _
            rw [Array.getD_eq_getD_getElem?, arrV_read _ _ (by omega)]
            rfl
          rw [e]
          have ho := hfit' i hi
          cases hy : f (sp.toNatClampNeg + i) with
          | none => exact ⟨rfl, trivial⟩
          | some b =>
            rw [hy] at ho
            obtain ⟨cellV, g1, g2, ⟨kC, hkC⟩, hasg⟩ := ah_any hK hR ho
            obtain ⟨kA, comp, r1, r2, r3, -⟩ := (hK.1.2 4 _ (ah_tys_at X (by decide))).2
            have hdc2 := hdc kA r1
            have ec : dComp = comp := by
              have := hdc2.symm.trans r2
              injection this
            subst ec
            obtain ⟨kE, hkE, -⟩ := Vm.findClass_spec r3
            obtain ⟨kC', hkC', -⟩ := hal.2.2 _ _ hkC
            obtain ⟨kE', hkE', -⟩ := hal.2.2 _ _ hkE
            refine ⟨rfl, cellV, (show T.heap[b]? = some cellV by rw [hT]; exact g1), (fun q h => by rw [h] at g2; cases g2), ⟨kC', hkC'⟩, ?_, ?_⟩
            · exact ⟨kE', hkE'⟩
            · show vm'.assignable _ _ = true
              rw [hal.assignable]
              exact hasg _ r3
      · cases e2
        obtain ⟨cell, t1, ⟨t2, k0, hk0, cm0, hkk0⟩, t3, t4, t5, t6, t7⟩ := hK.2.2.2.2.2.2.1
        subst e1
        refine ⟨cell, k0, cm0, by rw [hR.2.2.1 _ hR.2.2.2.2.1]; exact t1, t2, t3, hk0, hkk0, by omega, va_copiedX (fun q => va_rf q) cell (X.2.1 4) (fun _ => none) g (n0 := 0) (fun j hj => absurd hj (Nat.not_lt_zero j)) (by omega), fun T hT vm' hal dComp hdc i hi => absurd hi (by omega)⟩
      · cases e2
  · cases hx
/-- the class of a row of Object that the run made -/
def hp_isq (E : Nat × Nat × Nat) (h : ah_H) (x : Option Nat) : Bool := match hp_ar h x with
  | some (4, _, .inr (.inr (.inr (.inr _)))) => decide (¬ x = some E.1)
  | _ => false
theorem rt_getC (hl : Cond.methodLink y.cls idx ⟨"java/lang/Object", "getClass", "()Ljava/lang/Class;"⟩ ∈ gw_t) (hcat : (st.map fun v => v.category).sum ≤ 8) (hd : decode cc pc = .ok (.invokevirtual idx, 3)) (hx : hp_isq X.2.2.2 h x = true) (k : Rt X y cc nL (d + 1) (pc + 3) l (va_rf (some X.2.2.2.2.2) :: st) h r h2) : Rt X y cc nL (d + 1) pc l (va_rf x :: st) h r h2 := by
  unfold hp_isq at hx
  split at hx
  · rename_i n f q0
    obtain ⟨a, rfl, ha⟩ := hp_ar_spec q0
    have hne : ¬ some a = some X.2.2.2.1 := of_decide_eq_true hx
    refine ⟨k.1, k.2.1, ?_⟩
    intro p la e R s m args below meth c Q c0 z0 H locs ls C hr hR hS hls h1 h2 h3 h4
    obtain ⟨hx, hb, hml, hown, hts, -, hK, hf, hlo, -⟩ := id C
    have hc : H[a]? = some (vp_cell (X.2.1 4) (n, .inr (.inr (.inr (.inr f))))) := by
      rcases hR.2.1 a _ ha with q | ⟨q, -⟩ | ⟨-, q⟩
      · exact q.2.2
      · exact absurd (by rw [q]) hne
      · cases q
    have hnm : s.vm.findClass "[Ljava/lang/Object;" = some (X.2.1 4) := va_nmO (hK.1.2 4 _ (ah_tys_at X (by decide))).2 (by decide +kernel)
    exact va_getC hx hb (by rw [hml]; exact hls.1.symm) hown (hts _ hl) (va_Dc.use hK.2.2.2.2.2.2.2.2.2) (hts _ nt_gcS) (hts _ nt_gcI) (hts _ nt_gcN) hK.2.2.2.2.2.2.2.2.1 ⟨_, hc, rfl, hnm⟩ (by omega) (by omega) hd (k.2.2 c0 z0 H locs ls C hr hR hS hls h1 h2 h3 h4)
  · cases hx
end RTN
end

theorem in_p : ∀ w ∈ k2_sels lw_privs, w ∈ lw_tbl := fun w h => List.mem_append_left _ h
theorem in_1 : ∀ w ∈ tables_1_1, w ∈ lw_tbl := fun w h => List.mem_append_right _ (List.mem_append_left _ h)
theorem in_2 : ∀ w ∈ tables_1_2, w ∈ lw_tbl := fun w h => List.mem_append_right _ (List.mem_append_right _ (List.mem_append_left _ h))
theorem in_3 : ∀ w ∈ tables_1_3, w ∈ lw_tbl := fun w h => List.mem_append_right _ (List.mem_append_right _ (List.mem_append_right _ (List.mem_append_left _ h)))
theorem in_4 : ∀ w ∈ tables_1_4, w ∈ lw_tbl := fun w h => List.mem_append_right _ (List.mem_append_right _ (List.mem_append_right _ (List.mem_append_right _ (List.mem_append_left _ h))))
theorem in_5 : ∀ w ∈ tables_1_5, w ∈ lw_tbl := fun w h => List.mem_append_right _ (List.mem_append_right _ (List.mem_append_right _ (List.mem_append_right _ (List.mem_append_right _ (List.mem_append_left _ h)))))
theorem in_6 : ∀ w ∈ tables_1_6, w ∈ lw_tbl := fun w h => List.mem_append_right _ (List.mem_append_right _ (List.mem_append_right _ (List.mem_append_right _ (List.mem_append_right _ (List.mem_append_right _ (List.mem_append_left _ h))))))
theorem in_7 : ∀ w ∈ tables_1_7, w ∈ lw_tbl := fun w h => List.mem_append_right _ (List.mem_append_right _ (List.mem_append_right _ (List.mem_append_right _ (List.mem_append_right _ (List.mem_append_right _ (List.mem_append_right _ (h)))))))
theorem cl_0 : cl_ok 0 RJx4a65c TJx4a65c 3 := ⟨rfl, gw_r [186, 182, 184] (by decide +kernel) (by decide +kernel), nmJx4a65c, tyJx4a65c, tyJx4a65c_ok⟩
def nf_0 : List Value := [.int 0, .null, .int 0]
theorem cl_1 : cl_ok 1 RX0 TX0 6 := ⟨rfl, gw_r [132, 134, 136, 138, 140, 142] (by decide +kernel) (by decide +kernel), nmX0, tyX0, tyX0_ok⟩
def nf_1 : List Value := [.null, .null, .null, .int 0, .int 0, .int 0]
theorem cl_2 : cl_ok 2 RX1 TX1 1 := ⟨rfl, gw_r [193] (by decide +kernel) (by decide +kernel), nmX1, tyX1, tyX1_ok⟩
def nf_2 : List Value := [.null]
theorem cl_3 : cl_ok 3 RX2 TX2 2 := ⟨rfl, gw_r [537, 539] (by decide +kernel) (by decide +kernel), nmX2, tyX2, tyX2_ok⟩
def nf_3 : List Value := [.long 0, .null]
theorem cl_4 : cl_ok 4 RX3 TX3 5 := ⟨rfl, gw_r [831, 833, 835, 837, 839] (by decide +kernel) (by decide +kernel), nmX3, tyX3, tyX3_ok⟩
def nf_4 : List Value := [.int 0, .int 0, .null, .int 0, .null]
theorem cl_5 : cl_ok 5 RX4 TX4 6 := ⟨rfl, gw_r [383, 385, 387, 389, 391, 393] (by decide +kernel) (by decide +kernel), nmX4, tyX4, tyX4_ok⟩
def nf_5 : List Value := [.int 0, .int 0, .long 0, .long 0, .null, .null]
theorem cl_6 : cl_ok 6 RX5 TX5 5 := ⟨rfl, gw_r [228, 230, 232, 234, 236] (by decide +kernel) (by decide +kernel), nmX5, tyX5, tyX5_ok⟩
def nf_6 : List Value := [.long 0, .null, .null, .null, .int 0]
theorem cl_7 : cl_ok 7 RX6 TX6 2 := ⟨rfl, gw_r [864, 866] (by decide +kernel) (by decide +kernel), nmX6, tyX6, tyX6_ok⟩
def nf_7 : List Value := [.int 0, .null]
theorem cl_8 : cl_ok 8 RX7 TX7 2 := ⟨rfl, gw_r [108, 110] (by decide +kernel) (by decide +kernel), nmX7, tyX7, tyX7_ok⟩
def nf_8 : List Value := [.null, .int 0]
theorem cl_9 : cl_ok 9 RX8 TX8 1 := ⟨rfl, gw_r [154] (by decide +kernel) (by decide +kernel), nmX8, tyX8, tyX8_ok⟩
def nf_9 : List Value := [.null]
theorem cl_10 : cl_ok 10 RX9 TX9 10 := ⟨rfl, gw_r [253, 255, 257, 259, 261, 263, 265, 267, 269, 271] (by decide +kernel) (by decide +kernel), nmX9, tyX9, tyX9_ok⟩
def nf_10 : List Value := [.null, .null, .null, .null, .null, .int 0, .int 0, .int 0, .long 0, .int 0]
theorem cl_11 : cl_ok 11 RX10 TX10 78 := ⟨rfl, gw_r [1205, 1207, 1209, 1211, 1213, 1215, 1217, 1219, 1221, 1223, 1225, 1227, 1229, 1231, 1233, 1235, 1237, 1239, 1241, 1243, 1245, 1247, 1249, 1251, 1253, 1255, 1257, 1259, 1261, 1263, 1265, 1267, 1269, 1271, 1273, 1275, 1277, 1279, 1281, 1283, 1285, 1287, 1289, 1291, 1293, 1295, 1297, 1299, 1301, 1303, 1305, 1307, 1309, 1311, 1313, 1315, 1317, 1319, 1321, 1323, 1325, 1327, 1329, 1331, 1333, 1335, 1337, 1339, 1341, 1343, 1345, 1347, 1349, 1351, 1353, 1355, 1357, 1359] (by decide +kernel) (by decide +kernel), nmX10, tyX10, tyX10_ok⟩
def nf_11 : List Value := [.int 0, .null, .int 0, .null, .null, .null, .int 0, .long 0, .null, .null, .null, .null, .null, .null, .int 0, .int 0, .null, .int 0, .null, .null, .null, .null, .null, .null, .null, .null, .null, .null, .null, .int 0, .int 0, .null, .null, .null, .null, .int 0, .null, .null, .null, .null, .int 0, .null, .int 0, .null, .null, .null, .int 0, .null, .null, .null, .int 0, .int 0, .null, .null, .null, .null, .null, .null, .null, .null, .null, .null, .null, .null, .null, .null, .null, .null, .null, .null, .null, .int 0, .int 0, .int 0, .int 0, .null, .null, .null]
theorem wf_Jx4a65c_48 : Cond.fieldLink RJx4a65c 48 "java/util/ArrayList" "size" "I" ∈ gw_t := gw_in (in_1 _ (List.mem_of_getElem? (i := 109) (by decide +kernel))) (by decide +kernel)
theorem fd_Jx4a65c_48 : fr_ok RJx4a65c 48 0 2 := ⟨RJx4a65c, TJx4a65c, 3, "java/util/ArrayList", cl_0, by decide, wf_Jx4a65c_48, Or.inl rfl⟩
theorem wf_Jx4a65c_63 : Cond.fieldLink RJx4a65c 63 "java/util/ArrayList" "modCount" "I" ∈ gw_t := gw_in (in_1 _ (List.mem_of_getElem? (i := 111) (by decide +kernel))) (by decide +kernel)
theorem sf_Jx4a65c_63 : Cond.sameField "java/util/ArrayList" "java/util/AbstractList" "modCount" "I" ∈ gw_t := gw_in (in_1 _ (List.mem_of_getElem? (i := 112) (by decide +kernel))) (by decide +kernel)
theorem fd_Jx4a65c_63 : fr_ok RJx4a65c 63 0 0 := ⟨RJx4a65c, TJx4a65c, 3, "java/util/ArrayList", cl_0, by decide, wf_Jx4a65c_63, Or.inr sf_Jx4a65c_63⟩
theorem wf_Jx4a65c_9 : Cond.fieldLink RJx4a65c 9 "java/util/ArrayList" "elementData" "[Ljava/lang/Object;" ∈ gw_t := gw_in (in_1 _ (List.mem_of_getElem? (i := 108) (by decide +kernel))) (by decide +kernel)
theorem fd_Jx4a65c_9 : fr_ok RJx4a65c 9 0 1 := ⟨RJx4a65c, TJx4a65c, 3, "java/util/ArrayList", cl_0, by decide, wf_Jx4a65c_9, Or.inl rfl⟩
theorem wf_X0_11 : Cond.fieldLink RX0 11 "LetterTree$Disk" "heads" "[LLetterTree$Head;" ∈ gw_t := gw_in (in_1 _ (List.mem_of_getElem? (i := 53) (by decide +kernel))) (by decide +kernel)
theorem fd_X0_11 : fr_ok RX0 11 1 0 := ⟨RX0, TX0, 6, "LetterTree$Disk", cl_1, by decide, wf_X0_11, Or.inl rfl⟩
theorem wf_X0_17 : Cond.fieldLink RX0 17 "LetterTree$Disk" "writings" "[I" ∈ gw_t := gw_in (in_1 _ (List.mem_of_getElem? (i := 55) (by decide +kernel))) (by decide +kernel)
theorem fd_X0_17 : fr_ok RX0 17 1 1 := ⟨RX0, TX0, 6, "LetterTree$Disk", cl_1, by decide, wf_X0_17, Or.inl rfl⟩
theorem wf_X0_21 : Cond.fieldLink RX0 21 "LetterTree$Disk" "taken" "[B" ∈ gw_t := gw_in (in_1 _ (List.mem_of_getElem? (i := 57) (by decide +kernel))) (by decide +kernel)
theorem fd_X0_21 : fr_ok RX0 21 1 2 := ⟨RX0, TX0, 6, "LetterTree$Disk", cl_1, by decide, wf_X0_21, Or.inl rfl⟩
theorem wf_X0_31 : Cond.fieldLink RX0 31 "LetterTree$Disk" "takenPlaces" "I" ∈ gw_t := gw_in (in_1 _ (List.mem_of_getElem? (i := 58) (by decide +kernel))) (by decide +kernel)
theorem fd_X0_31 : fr_ok RX0 31 1 3 := ⟨RX0, TX0, 6, "LetterTree$Disk", cl_1, by decide, wf_X0_31, Or.inl rfl⟩
theorem wf_X0_35 : Cond.fieldLink RX0 35 "LetterTree$Disk" "lowest" "I" ∈ gw_t := gw_in (in_1 _ (List.mem_of_getElem? (i := 60) (by decide +kernel))) (by decide +kernel)
theorem fd_X0_35 : fr_ok RX0 35 1 4 := ⟨RX0, TX0, 6, "LetterTree$Disk", cl_1, by decide, wf_X0_35, Or.inl rfl⟩
theorem wf_X0_46 : Cond.fieldLink RX0 46 "LetterTree$Head" "root" "LLetterTree$Page;" ∈ gw_t := gw_in (in_4 _ (List.mem_of_getElem? (i := 35) (by decide +kernel))) (by decide +kernel)
theorem fd_X0_46 : fr_ok RX0 46 4 2 := ⟨RX3, TX3, 5, "LetterTree$Head", cl_4, by decide, wf_X0_46, Or.inl rfl⟩
theorem wf_X0_50 : Cond.fieldLink RX0 50 "LetterTree$Head" "pictures" "Ljava/util/ArrayList;" ∈ gw_t := gw_in (in_4 _ (List.mem_of_getElem? (i := 40) (by decide +kernel))) (by decide +kernel)
theorem fd_X0_50 : fr_ok RX0 50 4 4 := ⟨RX3, TX3, 5, "LetterTree$Head", cl_4, by decide, wf_X0_50, Or.inl rfl⟩
theorem wf_X0_66 : Cond.fieldLink RX0 66 "LetterTree$Picture" "root" "LLetterTree$Page;" ∈ gw_t := gw_in (in_4 _ (List.mem_of_getElem? (i := 73) (by decide +kernel))) (by decide +kernel)
theorem fd_X0_66 : fr_ok RX0 66 7 1 := ⟨RX6, TX6, 2, "LetterTree$Picture", cl_7, by decide, wf_X0_66, Or.inl rfl⟩
theorem wf_X0_67 : Cond.fieldLink RX0 67 "LetterTree$Page" "place" "I" ∈ gw_t := gw_in (in_1 _ (List.mem_of_getElem? (i := 156) (by decide +kernel))) (by decide +kernel)
theorem fd_X0_67 : fr_ok RX0 67 6 4 := ⟨RX5, TX5, 5, "LetterTree$Page", cl_6, by decide, wf_X0_67, Or.inl rfl⟩
theorem wf_X0_72 : Cond.fieldLink RX0 72 "LetterTree$Page" "kids" "Ljava/util/ArrayList;" ∈ gw_t := gw_in (in_1 _ (List.mem_of_getElem? (i := 150) (by decide +kernel))) (by decide +kernel)
theorem fd_X0_72 : fr_ok RX0 72 6 2 := ⟨RX5, TX5, 5, "LetterTree$Page", cl_6, by decide, wf_X0_72, Or.inl rfl⟩
theorem wf_X0_90 : Cond.fieldLink RX0 90 "LetterTree$Head" "generation" "I" ∈ gw_t := gw_in (in_4 _ (List.mem_of_getElem? (i := 30) (by decide +kernel))) (by decide +kernel)
theorem fd_X0_90 : fr_ok RX0 90 4 0 := ⟨RX3, TX3, 5, "LetterTree$Head", cl_4, by decide, wf_X0_90, Or.inl rfl⟩
theorem wf_X0_93 : Cond.fieldLink RX0 93 "LetterTree$Disk" "fallDue" "I" ∈ gw_t := gw_in (in_1 _ (List.mem_of_getElem? (i := 61) (by decide +kernel))) (by decide +kernel)
theorem fd_X0_93 : fr_ok RX0 93 1 5 := ⟨RX0, TX0, 6, "LetterTree$Disk", cl_1, by decide, wf_X0_93, Or.inl rfl⟩
theorem wf_X0_96 : Cond.fieldLink RX0 96 "LetterTree$Head" "greatest" "I" ∈ gw_t := gw_in (in_4 _ (List.mem_of_getElem? (i := 38) (by decide +kernel))) (by decide +kernel)
theorem fd_X0_96 : fr_ok RX0 96 4 3 := ⟨RX3, TX3, 5, "LetterTree$Head", cl_4, by decide, wf_X0_96, Or.inl rfl⟩
theorem wf_X1_12 : Cond.fieldLink RX1 12 "LetterTree$Entries" "list" "Ljava/util/ArrayList;" ∈ gw_t := gw_in (in_1 _ (List.mem_of_getElem? (i := 120) (by decide +kernel))) (by decide +kernel)
theorem fd_X1_12 : fr_ok RX1 12 2 0 := ⟨RX1, TX1, 1, "LetterTree$Entries", cl_2, by decide, wf_X1_12, Or.inl rfl⟩
theorem wf_X1_28 : Cond.fieldLink RX1 28 "LetterTree$Entry" "key" "J" ∈ gw_t := gw_in (in_2 _ (List.mem_of_getElem? (i := 223) (by decide +kernel))) (by decide +kernel)
theorem fd_X1_28 : fr_ok RX1 28 3 0 := ⟨RX2, TX2, 2, "LetterTree$Entry", cl_3, by decide, wf_X1_28, Or.inl rfl⟩
theorem wf_X1_40 : Cond.fieldLink RX1 40 "LetterTree$Entry" "row" "[B" ∈ gw_t := gw_in (in_2 _ (List.mem_of_getElem? (i := 227) (by decide +kernel))) (by decide +kernel)
theorem fd_X1_40 : fr_ok RX1 40 3 1 := ⟨RX2, TX2, 2, "LetterTree$Entry", cl_3, by decide, wf_X1_40, Or.inl rfl⟩
theorem wf_X1_44 : Cond.fieldLink RX1 44 "LetterTree$Letter" "key" "J" ∈ gw_t := gw_in (in_2 _ (List.mem_of_getElem? (i := 67) (by decide +kernel))) (by decide +kernel)
theorem fd_X1_44 : fr_ok RX1 44 5 2 := ⟨RX4, TX4, 6, "LetterTree$Letter", cl_5, by decide, wf_X1_44, Or.inl rfl⟩
theorem wf_X1_55 : Cond.fieldLink RX1 55 "LetterTree$Letter" "kind" "I" ∈ gw_t := gw_in (in_2 _ (List.mem_of_getElem? (i := 60) (by decide +kernel))) (by decide +kernel)
theorem fd_X1_55 : fr_ok RX1 55 5 0 := ⟨RX4, TX4, 6, "LetterTree$Letter", cl_5, by decide, wf_X1_55, Or.inl rfl⟩
theorem wf_X1_59 : Cond.fieldLink RX1 59 "LetterTree$Letter" "last" "J" ∈ gw_t := gw_in (in_2 _ (List.mem_of_getElem? (i := 70) (by decide +kernel))) (by decide +kernel)
theorem fd_X1_59 : fr_ok RX1 59 5 3 := ⟨RX4, TX4, 6, "LetterTree$Letter", cl_5, by decide, wf_X1_59, Or.inl rfl⟩
theorem wf_X10_107 : Cond.fieldLink RX10 107 "LetterTreeModel" "found" "J" ∈ gw_t := gw_in (in_5 _ (List.mem_of_getElem? (i := 105) (by decide +kernel))) (by decide +kernel)
theorem fd_X10_107 : fr_ok RX10 107 11 7 := ⟨RX10, TX10, 78, "LetterTreeModel", cl_11, by decide, wf_X10_107, Or.inl rfl⟩
theorem wf_X10_119 : Cond.fieldLink RX10 119 "LetterTreeModel" "isLeaf" "[Z" ∈ gw_t := gw_in (in_5 _ (List.mem_of_getElem? (i := 116) (by decide +kernel))) (by decide +kernel)
theorem fd_X10_119 : fr_ok RX10 119 11 18 := ⟨RX10, TX10, 78, "LetterTreeModel", cl_11, by decide, wf_X10_119, Or.inl rfl⟩
theorem wf_X10_12 : Cond.fieldLink RX10 12 "LetterTreeModel" "tape" "[B" ∈ gw_t := gw_in (in_5 _ (List.mem_of_getElem? (i := 99) (by decide +kernel))) (by decide +kernel)
theorem fd_X10_12 : fr_ok RX10 12 11 1 := ⟨RX10, TX10, 78, "LetterTreeModel", cl_11, by decide, wf_X10_12, Or.inl rfl⟩
theorem wf_X10_123 : Cond.fieldLink RX10 123 "LetterTreeModel" "first" "[I" ∈ gw_t := gw_in (in_5 _ (List.mem_of_getElem? (i := 117) (by decide +kernel))) (by decide +kernel)
theorem fd_X10_123 : fr_ok RX10 123 11 19 := ⟨RX10, TX10, 78, "LetterTreeModel", cl_11, by decide, wf_X10_123, Or.inl rfl⟩
theorem wf_X10_126 : Cond.fieldLink RX10 126 "LetterTreeModel" "entries" "[I" ∈ gw_t := gw_in (in_5 _ (List.mem_of_getElem? (i := 118) (by decide +kernel))) (by decide +kernel)
theorem fd_X10_126 : fr_ok RX10 126 11 20 := ⟨RX10, TX10, 78, "LetterTreeModel", cl_11, by decide, wf_X10_126, Or.inl rfl⟩
theorem wf_X10_129 : Cond.fieldLink RX10 129 "LetterTreeModel" "kids" "[I" ∈ gw_t := gw_in (in_5 _ (List.mem_of_getElem? (i := 119) (by decide +kernel))) (by decide +kernel)
theorem fd_X10_129 : fr_ok RX10 129 11 21 := ⟨RX10, TX10, 78, "LetterTreeModel", cl_11, by decide, wf_X10_129, Or.inl rfl⟩
theorem wf_X10_133 : Cond.fieldLink RX10 133 "LetterTreeModel" "kid" "[I" ∈ gw_t := gw_in (in_5 _ (List.mem_of_getElem? (i := 120) (by decide +kernel))) (by decide +kernel)
theorem fd_X10_133 : fr_ok RX10 133 11 22 := ⟨RX10, TX10, 78, "LetterTreeModel", cl_11, by decide, wf_X10_133, Or.inl rfl⟩
theorem wf_X10_136 : Cond.fieldLink RX10 136 "LetterTreeModel" "border" "[J" ∈ gw_t := gw_in (in_5 _ (List.mem_of_getElem? (i := 121) (by decide +kernel))) (by decide +kernel)
theorem fd_X10_136 : fr_ok RX10 136 11 23 := ⟨RX10, TX10, 78, "LetterTreeModel", cl_11, by decide, wf_X10_136, Or.inl rfl⟩
theorem wf_X10_139 : Cond.fieldLink RX10 139 "LetterTreeModel" "letterFirst" "[I" ∈ gw_t := gw_in (in_5 _ (List.mem_of_getElem? (i := 122) (by decide +kernel))) (by decide +kernel)
theorem fd_X10_139 : fr_ok RX10 139 11 24 := ⟨RX10, TX10, 78, "LetterTreeModel", cl_11, by decide, wf_X10_139, Or.inl rfl⟩
theorem wf_X10_142 : Cond.fieldLink RX10 142 "LetterTreeModel" "letterLast" "[I" ∈ gw_t := gw_in (in_5 _ (List.mem_of_getElem? (i := 123) (by decide +kernel))) (by decide +kernel)
theorem fd_X10_142 : fr_ok RX10 142 11 25 := ⟨RX10, TX10, 78, "LetterTreeModel", cl_11, by decide, wf_X10_142, Or.inl rfl⟩
theorem wf_X10_145 : Cond.fieldLink RX10 145 "LetterTreeModel" "letters" "[I" ∈ gw_t := gw_in (in_5 _ (List.mem_of_getElem? (i := 124) (by decide +kernel))) (by decide +kernel)
theorem fd_X10_145 : fr_ok RX10 145 11 26 := ⟨RX10, TX10, 78, "LetterTreeModel", cl_11, by decide, wf_X10_145, Or.inl rfl⟩
theorem wf_X10_148 : Cond.fieldLink RX10 148 "LetterTreeModel" "placeOf" "[I" ∈ gw_t := gw_in (in_5 _ (List.mem_of_getElem? (i := 125) (by decide +kernel))) (by decide +kernel)
theorem fd_X10_148 : fr_ok RX10 148 11 27 := ⟨RX10, TX10, 78, "LetterTreeModel", cl_11, by decide, wf_X10_148, Or.inl rfl⟩
theorem wf_X10_151 : Cond.fieldLink RX10 151 "LetterTreeModel" "freePage" "[I" ∈ gw_t := gw_in (in_5 _ (List.mem_of_getElem? (i := 126) (by decide +kernel))) (by decide +kernel)
theorem fd_X10_151 : fr_ok RX10 151 11 28 := ⟨RX10, TX10, 78, "LetterTreeModel", cl_11, by decide, wf_X10_151, Or.inl rfl⟩
theorem wf_X10_154 : Cond.fieldLink RX10 154 "LetterTreeModel" "eKey" "[J" ∈ gw_t := gw_in (in_5 _ (List.mem_of_getElem? (i := 129) (by decide +kernel))) (by decide +kernel)
theorem fd_X10_154 : fr_ok RX10 154 11 31 := ⟨RX10, TX10, 78, "LetterTreeModel", cl_11, by decide, wf_X10_154, Or.inl rfl⟩
theorem wf_X10_157 : Cond.fieldLink RX10 157 "LetterTreeModel" "eSize" "[I" ∈ gw_t := gw_in (in_5 _ (List.mem_of_getElem? (i := 130) (by decide +kernel))) (by decide +kernel)
theorem fd_X10_157 : fr_ok RX10 157 11 32 := ⟨RX10, TX10, 78, "LetterTreeModel", cl_11, by decide, wf_X10_157, Or.inl rfl⟩
theorem wf_X10_16 : Cond.fieldLink RX10 16 "LetterTreeModel" "count" "I" ∈ gw_t := gw_in (in_5 _ (List.mem_of_getElem? (i := 104) (by decide +kernel))) (by decide +kernel)
theorem fd_X10_16 : fr_ok RX10 16 11 6 := ⟨RX10, TX10, 78, "LetterTreeModel", cl_11, by decide, wf_X10_16, Or.inl rfl⟩
theorem wf_X10_161 : Cond.fieldLink RX10 161 "LetterTreeModel" "eRow" "[B" ∈ gw_t := gw_in (in_5 _ (List.mem_of_getElem? (i := 131) (by decide +kernel))) (by decide +kernel)
theorem fd_X10_161 : fr_ok RX10 161 11 33 := ⟨RX10, TX10, 78, "LetterTreeModel", cl_11, by decide, wf_X10_161, Or.inl rfl⟩
theorem wf_X10_164 : Cond.fieldLink RX10 164 "LetterTreeModel" "eNext" "[I" ∈ gw_t := gw_in (in_5 _ (List.mem_of_getElem? (i := 132) (by decide +kernel))) (by decide +kernel)
theorem fd_X10_164 : fr_ok RX10 164 11 34 := ⟨RX10, TX10, 78, "LetterTreeModel", cl_11, by decide, wf_X10_164, Or.inl rfl⟩
theorem wf_X10_167 : Cond.fieldLink RX10 167 "LetterTreeModel" "lWrite" "[I" ∈ gw_t := gw_in (in_5 _ (List.mem_of_getElem? (i := 134) (by decide +kernel))) (by decide +kernel)
theorem fd_X10_167 : fr_ok RX10 167 11 36 := ⟨RX10, TX10, 78, "LetterTreeModel", cl_11, by decide, wf_X10_167, Or.inl rfl⟩
theorem wf_X10_170 : Cond.fieldLink RX10 170 "LetterTreeModel" "lLow" "[J" ∈ gw_t := gw_in (in_5 _ (List.mem_of_getElem? (i := 135) (by decide +kernel))) (by decide +kernel)
theorem fd_X10_170 : fr_ok RX10 170 11 37 := ⟨RX10, TX10, 78, "LetterTreeModel", cl_11, by decide, wf_X10_170, Or.inl rfl⟩
theorem wf_X10_173 : Cond.fieldLink RX10 173 "LetterTreeModel" "lHigh" "[J" ∈ gw_t := gw_in (in_5 _ (List.mem_of_getElem? (i := 136) (by decide +kernel))) (by decide +kernel)
theorem fd_X10_173 : fr_ok RX10 173 11 38 := ⟨RX10, TX10, 78, "LetterTreeModel", cl_11, by decide, wf_X10_173, Or.inl rfl⟩
theorem wf_X10_176 : Cond.fieldLink RX10 176 "LetterTreeModel" "lNext" "[I" ∈ gw_t := gw_in (in_5 _ (List.mem_of_getElem? (i := 137) (by decide +kernel))) (by decide +kernel)
theorem fd_X10_176 : fr_ok RX10 176 11 39 := ⟨RX10, TX10, 78, "LetterTreeModel", cl_11, by decide, wf_X10_176, Or.inl rfl⟩
theorem wf_X10_179 : Cond.fieldLink RX10 179 "LetterTreeModel" "given" "[I" ∈ gw_t := gw_in (in_5 _ (List.mem_of_getElem? (i := 139) (by decide +kernel))) (by decide +kernel)
theorem fd_X10_179 : fr_ok RX10 179 11 41 := ⟨RX10, TX10, 78, "LetterTreeModel", cl_11, by decide, wf_X10_179, Or.inl rfl⟩
theorem wf_X10_182 : Cond.fieldLink RX10 182 "LetterTreeModel" "share" "[I" ∈ gw_t := gw_in (in_5 _ (List.mem_of_getElem? (i := 141) (by decide +kernel))) (by decide +kernel)
theorem fd_X10_182 : fr_ok RX10 182 11 43 := ⟨RX10, TX10, 78, "LetterTreeModel", cl_11, by decide, wf_X10_182, Or.inl rfl⟩
theorem wf_X10_185 : Cond.fieldLink RX10 185 "LetterTreeModel" "part" "[I" ∈ gw_t := gw_in (in_5 _ (List.mem_of_getElem? (i := 142) (by decide +kernel))) (by decide +kernel)
theorem fd_X10_185 : fr_ok RX10 185 11 44 := ⟨RX10, TX10, 78, "LetterTreeModel", cl_11, by decide, wf_X10_185, Or.inl rfl⟩
theorem wf_X10_188 : Cond.fieldLink RX10 188 "LetterTreeModel" "ahead" "[J" ∈ gw_t := gw_in (in_5 _ (List.mem_of_getElem? (i := 143) (by decide +kernel))) (by decide +kernel)
theorem fd_X10_188 : fr_ok RX10 188 11 45 := ⟨RX10, TX10, 78, "LetterTreeModel", cl_11, by decide, wf_X10_188, Or.inl rfl⟩
theorem wf_X10_19 : Cond.fieldLink RX10 19 "LetterTreeModel" "keys" "[J" ∈ gw_t := gw_in (in_5 _ (List.mem_of_getElem? (i := 101) (by decide +kernel))) (by decide +kernel)
theorem fd_X10_19 : fr_ok RX10 19 11 3 := ⟨RX10, TX10, 78, "LetterTreeModel", cl_11, by decide, wf_X10_19, Or.inl rfl⟩
theorem wf_X10_191 : Cond.fieldLink RX10 191 "LetterTreeModel" "order" "[I" ∈ gw_t := gw_in (in_5 _ (List.mem_of_getElem? (i := 145) (by decide +kernel))) (by decide +kernel)
theorem fd_X10_191 : fr_ok RX10 191 11 47 := ⟨RX10, TX10, 78, "LetterTreeModel", cl_11, by decide, wf_X10_191, Or.inl rfl⟩
theorem wf_X10_194 : Cond.fieldLink RX10 194 "LetterTreeModel" "parentOf" "[I" ∈ gw_t := gw_in (in_5 _ (List.mem_of_getElem? (i := 146) (by decide +kernel))) (by decide +kernel)
theorem fd_X10_194 : fr_ok RX10 194 11 48 := ⟨RX10, TX10, 78, "LetterTreeModel", cl_11, by decide, wf_X10_194, Or.inl rfl⟩
theorem wf_X10_197 : Cond.fieldLink RX10 197 "LetterTreeModel" "kidOf" "[I" ∈ gw_t := gw_in (in_5 _ (List.mem_of_getElem? (i := 147) (by decide +kernel))) (by decide +kernel)
theorem fd_X10_197 : fr_ok RX10 197 11 49 := ⟨RX10, TX10, 78, "LetterTreeModel", cl_11, by decide, wf_X10_197, Or.inl rfl⟩
theorem wf_X10_200 : Cond.fieldLink RX10 200 "LetterTreeModel" "dLeaf" "[Z" ∈ gw_t := gw_in (in_5 _ (List.mem_of_getElem? (i := 150) (by decide +kernel))) (by decide +kernel)
theorem fd_X10_200 : fr_ok RX10 200 11 52 := ⟨RX10, TX10, 78, "LetterTreeModel", cl_11, by decide, wf_X10_200, Or.inl rfl⟩
theorem wf_X10_203 : Cond.fieldLink RX10 203 "LetterTreeModel" "dCount" "[I" ∈ gw_t := gw_in (in_5 _ (List.mem_of_getElem? (i := 151) (by decide +kernel))) (by decide +kernel)
theorem fd_X10_203 : fr_ok RX10 203 11 53 := ⟨RX10, TX10, 78, "LetterTreeModel", cl_11, by decide, wf_X10_203, Or.inl rfl⟩
theorem wf_X10_206 : Cond.fieldLink RX10 206 "LetterTreeModel" "dKey" "[J" ∈ gw_t := gw_in (in_5 _ (List.mem_of_getElem? (i := 152) (by decide +kernel))) (by decide +kernel)
theorem fd_X10_206 : fr_ok RX10 206 11 54 := ⟨RX10, TX10, 78, "LetterTreeModel", cl_11, by decide, wf_X10_206, Or.inl rfl⟩
theorem wf_X10_209 : Cond.fieldLink RX10 209 "LetterTreeModel" "dSize" "[I" ∈ gw_t := gw_in (in_5 _ (List.mem_of_getElem? (i := 153) (by decide +kernel))) (by decide +kernel)
theorem fd_X10_209 : fr_ok RX10 209 11 55 := ⟨RX10, TX10, 78, "LetterTreeModel", cl_11, by decide, wf_X10_209, Or.inl rfl⟩
theorem wf_X10_213 : Cond.fieldLink RX10 213 "LetterTreeModel" "dRow" "[B" ∈ gw_t := gw_in (in_5 _ (List.mem_of_getElem? (i := 154) (by decide +kernel))) (by decide +kernel)
theorem fd_X10_213 : fr_ok RX10 213 11 56 := ⟨RX10, TX10, 78, "LetterTreeModel", cl_11, by decide, wf_X10_213, Or.inl rfl⟩
theorem wf_X10_216 : Cond.fieldLink RX10 216 "LetterTreeModel" "dKid" "[I" ∈ gw_t := gw_in (in_5 _ (List.mem_of_getElem? (i := 155) (by decide +kernel))) (by decide +kernel)
theorem fd_X10_216 : fr_ok RX10 216 11 57 := ⟨RX10, TX10, 78, "LetterTreeModel", cl_11, by decide, wf_X10_216, Or.inl rfl⟩
theorem wf_X10_219 : Cond.fieldLink RX10 219 "LetterTreeModel" "dLetters" "[I" ∈ gw_t := gw_in (in_5 _ (List.mem_of_getElem? (i := 156) (by decide +kernel))) (by decide +kernel)
theorem fd_X10_219 : fr_ok RX10 219 11 58 := ⟨RX10, TX10, 78, "LetterTreeModel", cl_11, by decide, wf_X10_219, Or.inl rfl⟩
theorem wf_X10_222 : Cond.fieldLink RX10 222 "LetterTreeModel" "dWrite" "[I" ∈ gw_t := gw_in (in_5 _ (List.mem_of_getElem? (i := 157) (by decide +kernel))) (by decide +kernel)
theorem fd_X10_222 : fr_ok RX10 222 11 59 := ⟨RX10, TX10, 78, "LetterTreeModel", cl_11, by decide, wf_X10_222, Or.inl rfl⟩
theorem wf_X10_225 : Cond.fieldLink RX10 225 "LetterTreeModel" "dLow" "[J" ∈ gw_t := gw_in (in_5 _ (List.mem_of_getElem? (i := 158) (by decide +kernel))) (by decide +kernel)
theorem fd_X10_225 : fr_ok RX10 225 11 60 := ⟨RX10, TX10, 78, "LetterTreeModel", cl_11, by decide, wf_X10_225, Or.inl rfl⟩
theorem wf_X10_228 : Cond.fieldLink RX10 228 "LetterTreeModel" "dHigh" "[J" ∈ gw_t := gw_in (in_5 _ (List.mem_of_getElem? (i := 159) (by decide +kernel))) (by decide +kernel)
theorem fd_X10_228 : fr_ok RX10 228 11 61 := ⟨RX10, TX10, 78, "LetterTreeModel", cl_11, by decide, wf_X10_228, Or.inl rfl⟩
theorem wf_X10_231 : Cond.fieldLink RX10 231 "LetterTreeModel" "hGeneration" "[I" ∈ gw_t := gw_in (in_5 _ (List.mem_of_getElem? (i := 160) (by decide +kernel))) (by decide +kernel)
theorem fd_X10_231 : fr_ok RX10 231 11 62 := ⟨RX10, TX10, 78, "LetterTreeModel", cl_11, by decide, wf_X10_231, Or.inl rfl⟩
theorem wf_X10_234 : Cond.fieldLink RX10 234 "LetterTreeModel" "hRoot" "[I" ∈ gw_t := gw_in (in_5 _ (List.mem_of_getElem? (i := 161) (by decide +kernel))) (by decide +kernel)
theorem fd_X10_234 : fr_ok RX10 234 11 63 := ⟨RX10, TX10, 78, "LetterTreeModel", cl_11, by decide, wf_X10_234, Or.inl rfl⟩
theorem wf_X10_237 : Cond.fieldLink RX10 237 "LetterTreeModel" "hNumber" "[I" ∈ gw_t := gw_in (in_5 _ (List.mem_of_getElem? (i := 162) (by decide +kernel))) (by decide +kernel)
theorem fd_X10_237 : fr_ok RX10 237 11 64 := ⟨RX10, TX10, 78, "LetterTreeModel", cl_11, by decide, wf_X10_237, Or.inl rfl⟩
theorem wf_X10_240 : Cond.fieldLink RX10 240 "LetterTreeModel" "hPictures" "[I" ∈ gw_t := gw_in (in_5 _ (List.mem_of_getElem? (i := 163) (by decide +kernel))) (by decide +kernel)
theorem fd_X10_240 : fr_ok RX10 240 11 65 := ⟨RX10, TX10, 78, "LetterTreeModel", cl_11, by decide, wf_X10_240, Or.inl rfl⟩
theorem wf_X10_243 : Cond.fieldLink RX10 243 "LetterTreeModel" "hGreatest" "[I" ∈ gw_t := gw_in (in_5 _ (List.mem_of_getElem? (i := 164) (by decide +kernel))) (by decide +kernel)
theorem fd_X10_243 : fr_ok RX10 243 11 66 := ⟨RX10, TX10, 78, "LetterTreeModel", cl_11, by decide, wf_X10_243, Or.inl rfl⟩
theorem wf_X10_246 : Cond.fieldLink RX10 246 "LetterTreeModel" "hPicture" "[I" ∈ gw_t := gw_in (in_5 _ (List.mem_of_getElem? (i := 165) (by decide +kernel))) (by decide +kernel)
theorem fd_X10_246 : fr_ok RX10 246 11 67 := ⟨RX10, TX10, 78, "LetterTreeModel", cl_11, by decide, wf_X10_246, Or.inl rfl⟩
theorem wf_X10_249 : Cond.fieldLink RX10 249 "LetterTreeModel" "hPictureRoot" "[I" ∈ gw_t := gw_in (in_5 _ (List.mem_of_getElem? (i := 166) (by decide +kernel))) (by decide +kernel)
theorem fd_X10_249 : fr_ok RX10 249 11 68 := ⟨RX10, TX10, 78, "LetterTreeModel", cl_11, by decide, wf_X10_249, Or.inl rfl⟩
theorem wf_X10_252 : Cond.fieldLink RX10 252 "LetterTreeModel" "picture" "[I" ∈ gw_t := gw_in (in_5 _ (List.mem_of_getElem? (i := 167) (by decide +kernel))) (by decide +kernel)
theorem fd_X10_252 : fr_ok RX10 252 11 69 := ⟨RX10, TX10, 78, "LetterTreeModel", cl_11, by decide, wf_X10_252, Or.inl rfl⟩
theorem wf_X10_255 : Cond.fieldLink RX10 255 "LetterTreeModel" "pictureRoot" "[I" ∈ gw_t := gw_in (in_5 _ (List.mem_of_getElem? (i := 168) (by decide +kernel))) (by decide +kernel)
theorem fd_X10_255 : fr_ok RX10 255 11 70 := ⟨RX10, TX10, 78, "LetterTreeModel", cl_11, by decide, wf_X10_255, Or.inl rfl⟩
theorem wf_X10_258 : Cond.fieldLink RX10 258 "LetterTreeModel" "nextPicture" "I" ∈ gw_t := gw_in (in_5 _ (List.mem_of_getElem? (i := 170) (by decide +kernel))) (by decide +kernel)
theorem fd_X10_258 : fr_ok RX10 258 11 72 := ⟨RX10, TX10, 78, "LetterTreeModel", cl_11, by decide, wf_X10_258, Or.inl rfl⟩
theorem wf_X10_261 : Cond.fieldLink RX10 261 "LetterTreeModel" "writings" "[I" ∈ gw_t := gw_in (in_5 _ (List.mem_of_getElem? (i := 173) (by decide +kernel))) (by decide +kernel)
theorem fd_X10_261 : fr_ok RX10 261 11 75 := ⟨RX10, TX10, 78, "LetterTreeModel", cl_11, by decide, wf_X10_261, Or.inl rfl⟩
theorem wf_X10_264 : Cond.fieldLink RX10 264 "LetterTreeModel" "taken" "[Z" ∈ gw_t := gw_in (in_5 _ (List.mem_of_getElem? (i := 174) (by decide +kernel))) (by decide +kernel)
theorem fd_X10_264 : fr_ok RX10 264 11 76 := ⟨RX10, TX10, 78, "LetterTreeModel", cl_11, by decide, wf_X10_264, Or.inl rfl⟩
theorem wf_X10_267 : Cond.fieldLink RX10 267 "LetterTreeModel" "way" "[I" ∈ gw_t := gw_in (in_5 _ (List.mem_of_getElem? (i := 175) (by decide +kernel))) (by decide +kernel)
theorem fd_X10_267 : fr_ok RX10 267 11 77 := ⟨RX10, TX10, 78, "LetterTreeModel", cl_11, by decide, wf_X10_267, Or.inl rfl⟩
theorem wf_X10_27 : Cond.fieldLink RX10 27 "LetterTreeModel" "sizes" "[I" ∈ gw_t := gw_in (in_5 _ (List.mem_of_getElem? (i := 102) (by decide +kernel))) (by decide +kernel)
theorem fd_X10_27 : fr_ok RX10 27 11 4 := ⟨RX10, TX10, 78, "LetterTreeModel", cl_11, by decide, wf_X10_27, Or.inl rfl⟩
theorem wf_X10_277 : Cond.fieldLink RX10 277 "LetterTreeModel" "root" "I" ∈ gw_t := gw_in (in_5 _ (List.mem_of_getElem? (i := 128) (by decide +kernel))) (by decide +kernel)
theorem fd_X10_277 : fr_ok RX10 277 11 30 := ⟨RX10, TX10, 78, "LetterTreeModel", cl_11, by decide, wf_X10_277, Or.inl rfl⟩
theorem wf_X10_280 : Cond.fieldLink RX10 280 "LetterTreeModel" "freePages" "I" ∈ gw_t := gw_in (in_5 _ (List.mem_of_getElem? (i := 127) (by decide +kernel))) (by decide +kernel)
theorem fd_X10_280 : fr_ok RX10 280 11 29 := ⟨RX10, TX10, 78, "LetterTreeModel", cl_11, by decide, wf_X10_280, Or.inl rfl⟩
theorem wf_X10_283 : Cond.fieldLink RX10 283 "LetterTreeModel" "freeEntry" "I" ∈ gw_t := gw_in (in_5 _ (List.mem_of_getElem? (i := 133) (by decide +kernel))) (by decide +kernel)
theorem fd_X10_283 : fr_ok RX10 283 11 35 := ⟨RX10, TX10, 78, "LetterTreeModel", cl_11, by decide, wf_X10_283, Or.inl rfl⟩
theorem wf_X10_286 : Cond.fieldLink RX10 286 "LetterTreeModel" "freeLetter" "I" ∈ gw_t := gw_in (in_5 _ (List.mem_of_getElem? (i := 138) (by decide +kernel))) (by decide +kernel)
theorem fd_X10_286 : fr_ok RX10 286 11 40 := ⟨RX10, TX10, 78, "LetterTreeModel", cl_11, by decide, wf_X10_286, Or.inl rfl⟩
theorem wf_X10_31 : Cond.fieldLink RX10 31 "LetterTreeModel" "rows" "[B" ∈ gw_t := gw_in (in_5 _ (List.mem_of_getElem? (i := 103) (by decide +kernel))) (by decide +kernel)
theorem fd_X10_31 : fr_ok RX10 31 11 5 := ⟨RX10, TX10, 78, "LetterTreeModel", cl_11, by decide, wf_X10_31, Or.inl rfl⟩
theorem wf_X10_327 : Cond.fieldLink RX10 327 "LetterTreeModel" "givens" "I" ∈ gw_t := gw_in (in_5 _ (List.mem_of_getElem? (i := 140) (by decide +kernel))) (by decide +kernel)
theorem fd_X10_327 : fr_ok RX10 327 11 42 := ⟨RX10, TX10, 78, "LetterTreeModel", cl_11, by decide, wf_X10_327, Or.inl rfl⟩
theorem wf_X10_337 : Cond.fieldLink RX10 337 "LetterTreeModel" "parts" "I" ∈ gw_t := gw_in (in_5 _ (List.mem_of_getElem? (i := 144) (by decide +kernel))) (by decide +kernel)
theorem fd_X10_337 : fr_ok RX10 337 11 46 := ⟨RX10, TX10, 78, "LetterTreeModel", cl_11, by decide, wf_X10_337, Or.inl rfl⟩
theorem wf_X10_34 : Cond.fieldLink RX10 34 "LetterTreeModel" "size" "I" ∈ gw_t := gw_in (in_5 _ (List.mem_of_getElem? (i := 115) (by decide +kernel))) (by decide +kernel)
theorem fd_X10_34 : fr_ok RX10 34 11 17 := ⟨RX10, TX10, 78, "LetterTreeModel", cl_11, by decide, wf_X10_34, Or.inl rfl⟩
theorem wf_X10_349 : Cond.fieldLink RX10 349 "LetterTreeModel" "ordered" "I" ∈ gw_t := gw_in (in_5 _ (List.mem_of_getElem? (i := 148) (by decide +kernel))) (by decide +kernel)
theorem fd_X10_349 : fr_ok RX10 349 11 50 := ⟨RX10, TX10, 78, "LetterTreeModel", cl_11, by decide, wf_X10_349, Or.inl rfl⟩
theorem wf_X10_363 : Cond.fieldLink RX10 363 "LetterTreeModel" "pictures" "I" ∈ gw_t := gw_in (in_5 _ (List.mem_of_getElem? (i := 169) (by decide +kernel))) (by decide +kernel)
theorem fd_X10_363 : fr_ok RX10 363 11 71 := ⟨RX10, TX10, 78, "LetterTreeModel", cl_11, by decide, wf_X10_363, Or.inl rfl⟩
theorem wf_X10_369 : Cond.fieldLink RX10 369 "LetterTreeModel" "due" "I" ∈ gw_t := gw_in (in_5 _ (List.mem_of_getElem? (i := 172) (by decide +kernel))) (by decide +kernel)
theorem fd_X10_369 : fr_ok RX10 369 11 74 := ⟨RX10, TX10, 78, "LetterTreeModel", cl_11, by decide, wf_X10_369, Or.inl rfl⟩
theorem wf_X10_37 : Cond.fieldLink RX10 37 "LetterTreeModel" "wPart" "[I" ∈ gw_t := gw_in (in_5 _ (List.mem_of_getElem? (i := 108) (by decide +kernel))) (by decide +kernel)
theorem fd_X10_37 : fr_ok RX10 37 11 10 := ⟨RX10, TX10, 78, "LetterTreeModel", cl_11, by decide, wf_X10_37, Or.inl rfl⟩
theorem wf_X10_388 : Cond.fieldLink RX10 388 "LetterTreeModel" "generation" "I" ∈ gw_t := gw_in (in_5 _ (List.mem_of_getElem? (i := 171) (by decide +kernel))) (by decide +kernel)
theorem fd_X10_388 : fr_ok RX10 388 11 73 := ⟨RX10, TX10, 78, "LetterTreeModel", cl_11, by decide, wf_X10_388, Or.inl rfl⟩
theorem wf_X10_40 : Cond.fieldLink RX10 40 "LetterTreeModel" "row" "[B" ∈ gw_t := gw_in (in_5 _ (List.mem_of_getElem? (i := 114) (by decide +kernel))) (by decide +kernel)
theorem fd_X10_40 : fr_ok RX10 40 11 16 := ⟨RX10, TX10, 78, "LetterTreeModel", cl_11, by decide, wf_X10_40, Or.inl rfl⟩
theorem wf_X10_43 : Cond.fieldLink RX10 43 "LetterTreeModel" "wRow" "[B" ∈ gw_t := gw_in (in_5 _ (List.mem_of_getElem? (i := 110) (by decide +kernel))) (by decide +kernel)
theorem fd_X10_43 : fr_ok RX10 43 11 12 := ⟨RX10, TX10, 78, "LetterTreeModel", cl_11, by decide, wf_X10_43, Or.inl rfl⟩
theorem wf_X10_46 : Cond.fieldLink RX10 46 "LetterTreeModel" "wKind" "[I" ∈ gw_t := gw_in (in_5 _ (List.mem_of_getElem? (i := 106) (by decide +kernel))) (by decide +kernel)
theorem fd_X10_46 : fr_ok RX10 46 11 8 := ⟨RX10, TX10, 78, "LetterTreeModel", cl_11, by decide, wf_X10_46, Or.inl rfl⟩
theorem wf_X10_49 : Cond.fieldLink RX10 49 "LetterTreeModel" "wSize" "[I" ∈ gw_t := gw_in (in_5 _ (List.mem_of_getElem? (i := 109) (by decide +kernel))) (by decide +kernel)
theorem fd_X10_49 : fr_ok RX10 49 11 11 := ⟨RX10, TX10, 78, "LetterTreeModel", cl_11, by decide, wf_X10_49, Or.inl rfl⟩
theorem wf_X10_60 : Cond.fieldLink RX10 60 "LetterTreeModel" "written" "I" ∈ gw_t := gw_in (in_5 _ (List.mem_of_getElem? (i := 112) (by decide +kernel))) (by decide +kernel)
theorem fd_X10_60 : fr_ok RX10 60 11 14 := ⟨RX10, TX10, 78, "LetterTreeModel", cl_11, by decide, wf_X10_60, Or.inl rfl⟩
theorem wf_X10_63 : Cond.fieldLink RX10 63 "LetterTreeModel" "number" "I" ∈ gw_t := gw_in (in_5 _ (List.mem_of_getElem? (i := 113) (by decide +kernel))) (by decide +kernel)
theorem fd_X10_63 : fr_ok RX10 63 11 15 := ⟨RX10, TX10, 78, "LetterTreeModel", cl_11, by decide, wf_X10_63, Or.inl rfl⟩
theorem wf_X10_66 : Cond.fieldLink RX10 66 "LetterTreeModel" "wKey" "[J" ∈ gw_t := gw_in (in_5 _ (List.mem_of_getElem? (i := 107) (by decide +kernel))) (by decide +kernel)
theorem fd_X10_66 : fr_ok RX10 66 11 9 := ⟨RX10, TX10, 78, "LetterTreeModel", cl_11, by decide, wf_X10_66, Or.inl rfl⟩
theorem wf_X10_69 : Cond.fieldLink RX10 69 "LetterTreeModel" "wNumber" "[I" ∈ gw_t := gw_in (in_5 _ (List.mem_of_getElem? (i := 111) (by decide +kernel))) (by decide +kernel)
theorem fd_X10_69 : fr_ok RX10 69 11 13 := ⟨RX10, TX10, 78, "LetterTreeModel", cl_11, by decide, wf_X10_69, Or.inl rfl⟩
theorem wf_X10_9 : Cond.fieldLink RX10 9 "LetterTreeModel" "taped" "I" ∈ gw_t := gw_in (in_5 _ (List.mem_of_getElem? (i := 100) (by decide +kernel))) (by decide +kernel)
theorem fd_X10_9 : fr_ok RX10 9 11 2 := ⟨RX10, TX10, 78, "LetterTreeModel", cl_11, by decide, wf_X10_9, Or.inl rfl⟩
theorem wf_X10_90 : Cond.fieldLink RX10 90 "LetterTreeModel" "down" "Z" ∈ gw_t := gw_in (in_5 _ (List.mem_of_getElem? (i := 149) (by decide +kernel))) (by decide +kernel)
theorem fd_X10_90 : fr_ok RX10 90 11 51 := ⟨RX10, TX10, 78, "LetterTreeModel", cl_11, by decide, wf_X10_90, Or.inl rfl⟩
theorem wf_X4_18 : Cond.fieldLink RX4 18 "LetterTree$Letter" "key" "J" ∈ gw_t := gw_in (in_2 _ (List.mem_of_getElem? (i := 66) (by decide +kernel))) (by decide +kernel)
theorem fd_X4_18 : fr_ok RX4 18 5 2 := ⟨RX4, TX4, 6, "LetterTree$Letter", cl_5, by decide, wf_X4_18, Or.inl rfl⟩
theorem wf_X4_22 : Cond.fieldLink RX4 22 "LetterTree$Letter" "last" "J" ∈ gw_t := gw_in (in_2 _ (List.mem_of_getElem? (i := 69) (by decide +kernel))) (by decide +kernel)
theorem fd_X4_22 : fr_ok RX4 22 5 3 := ⟨RX4, TX4, 6, "LetterTree$Letter", cl_5, by decide, wf_X4_22, Or.inl rfl⟩
theorem wf_X4_25 : Cond.fieldLink RX4 25 "LetterTree$Letter" "first" "[B" ∈ gw_t := gw_in (in_2 _ (List.mem_of_getElem? (i := 72) (by decide +kernel))) (by decide +kernel)
theorem fd_X4_25 : fr_ok RX4 25 5 4 := ⟨RX4, TX4, 6, "LetterTree$Letter", cl_5, by decide, wf_X4_25, Or.inl rfl⟩
theorem wf_X4_29 : Cond.fieldLink RX4 29 "LetterTree$Letter" "row" "[B" ∈ gw_t := gw_in (in_2 _ (List.mem_of_getElem? (i := 73) (by decide +kernel))) (by decide +kernel)
theorem fd_X4_29 : fr_ok RX4 29 5 5 := ⟨RX4, TX4, 6, "LetterTree$Letter", cl_5, by decide, wf_X4_29, Or.inl rfl⟩
theorem wf_X4_9 : Cond.fieldLink RX4 9 "LetterTree$Letter" "kind" "I" ∈ gw_t := gw_in (in_2 _ (List.mem_of_getElem? (i := 59) (by decide +kernel))) (by decide +kernel)
theorem fd_X4_9 : fr_ok RX4 9 5 0 := ⟨RX4, TX4, 6, "LetterTree$Letter", cl_5, by decide, wf_X4_9, Or.inl rfl⟩
theorem wf_X5_108 : Cond.fieldLink RX5 108 "LetterTree$Letter" "number" "I" ∈ gw_t := gw_in (in_2 _ (List.mem_of_getElem? (i := 64) (by decide +kernel))) (by decide +kernel)
theorem fd_X5_108 : fr_ok RX5 108 5 1 := ⟨RX4, TX4, 6, "LetterTree$Letter", cl_5, by decide, wf_X5_108, Or.inl rfl⟩
theorem wf_X5_12 : Cond.fieldLink RX5 12 "LetterTree$Page" "kids" "Ljava/util/ArrayList;" ∈ gw_t := gw_in (in_1 _ (List.mem_of_getElem? (i := 148) (by decide +kernel))) (by decide +kernel)
theorem fd_X5_12 : fr_ok RX5 12 6 2 := ⟨RX5, TX5, 5, "LetterTree$Page", cl_6, by decide, wf_X5_12, Or.inl rfl⟩
theorem wf_X5_138 : Cond.fieldLink RX5 138 "LetterTree$Entry" "key" "J" ∈ gw_t := gw_in (in_2 _ (List.mem_of_getElem? (i := 224) (by decide +kernel))) (by decide +kernel)
theorem fd_X5_138 : fr_ok RX5 138 3 0 := ⟨RX2, TX2, 2, "LetterTree$Entry", cl_3, by decide, wf_X5_138, Or.inl rfl⟩
theorem wf_X5_18 : Cond.fieldLink RX5 18 "LetterTree$Page" "room" "Ljava/util/ArrayList;" ∈ gw_t := gw_in (in_1 _ (List.mem_of_getElem? (i := 152) (by decide +kernel))) (by decide +kernel)
theorem fd_X5_18 : fr_ok RX5 18 6 3 := ⟨RX5, TX5, 5, "LetterTree$Page", cl_6, by decide, wf_X5_18, Or.inl rfl⟩
theorem wf_X5_21 : Cond.fieldLink RX5 21 "LetterTree$Page" "place" "I" ∈ gw_t := gw_in (in_1 _ (List.mem_of_getElem? (i := 155) (by decide +kernel))) (by decide +kernel)
theorem fd_X5_21 : fr_ok RX5 21 6 4 := ⟨RX5, TX5, 5, "LetterTree$Page", cl_6, by decide, wf_X5_21, Or.inl rfl⟩
theorem wf_X5_25 : Cond.fieldLink RX5 25 "LetterTree$Page" "from" "J" ∈ gw_t := gw_in (in_1 _ (List.mem_of_getElem? (i := 142) (by decide +kernel))) (by decide +kernel)
theorem fd_X5_25 : fr_ok RX5 25 6 0 := ⟨RX5, TX5, 5, "LetterTree$Page", cl_6, by decide, wf_X5_25, Or.inl rfl⟩
theorem wf_X5_29 : Cond.fieldLink RX5 29 "LetterTree$Page" "entries" "LLetterTree$Entries;" ∈ gw_t := gw_in (in_1 _ (List.mem_of_getElem? (i := 145) (by decide +kernel))) (by decide +kernel)
theorem fd_X5_29 : fr_ok RX5 29 6 1 := ⟨RX5, TX5, 5, "LetterTree$Page", cl_6, by decide, wf_X5_29, Or.inl rfl⟩
theorem wf_X5_37 : Cond.fieldLink RX5 37 "LetterTree$Entries" "list" "Ljava/util/ArrayList;" ∈ gw_t := gw_in (in_1 _ (List.mem_of_getElem? (i := 121) (by decide +kernel))) (by decide +kernel)
theorem fd_X5_37 : fr_ok RX5 37 2 0 := ⟨RX1, TX1, 1, "LetterTree$Entries", cl_2, by decide, wf_X5_37, Or.inl rfl⟩
theorem wf_X5_82 : Cond.fieldLink RX5 82 "LetterTree$Letter" "kind" "I" ∈ gw_t := gw_in (in_2 _ (List.mem_of_getElem? (i := 61) (by decide +kernel))) (by decide +kernel)
theorem fd_X5_82 : fr_ok RX5 82 5 0 := ⟨RX4, TX4, 6, "LetterTree$Letter", cl_5, by decide, wf_X5_82, Or.inl rfl⟩
theorem wf_X5_89 : Cond.fieldLink RX5 89 "LetterTree$Letter" "key" "J" ∈ gw_t := gw_in (in_2 _ (List.mem_of_getElem? (i := 68) (by decide +kernel))) (by decide +kernel)
theorem fd_X5_89 : fr_ok RX5 89 5 2 := ⟨RX4, TX4, 6, "LetterTree$Letter", cl_5, by decide, wf_X5_89, Or.inl rfl⟩
theorem wf_X5_98 : Cond.fieldLink RX5 98 "LetterTree$Letter" "last" "J" ∈ gw_t := gw_in (in_2 _ (List.mem_of_getElem? (i := 71) (by decide +kernel))) (by decide +kernel)
theorem fd_X5_98 : fr_ok RX5 98 5 3 := ⟨RX4, TX4, 6, "LetterTree$Letter", cl_5, by decide, wf_X5_98, Or.inl rfl⟩
theorem wf_X7_15 : Cond.fieldLink RX7 15 "LetterTree$Tape" "size" "I" ∈ gw_t := gw_in (in_1 _ (List.mem_of_getElem? (i := 37) (by decide +kernel))) (by decide +kernel)
theorem fd_X7_15 : fr_ok RX7 15 8 1 := ⟨RX7, TX7, 2, "LetterTree$Tape", cl_8, by decide, wf_X7_15, Or.inl rfl⟩
theorem wf_X7_9 : Cond.fieldLink RX7 9 "LetterTree$Tape" "bytes" "[B" ∈ gw_t := gw_in (in_1 _ (List.mem_of_getElem? (i := 35) (by decide +kernel))) (by decide +kernel)
theorem fd_X7_9 : fr_ok RX7 9 8 0 := ⟨RX7, TX7, 2, "LetterTree$Tape", cl_8, by decide, wf_X7_9, Or.inl rfl⟩
theorem wf_X8_123 : Cond.fieldLink RX8 123 "LetterTree$Page" "place" "I" ∈ gw_t := gw_in (in_1 _ (List.mem_of_getElem? (i := 157) (by decide +kernel))) (by decide +kernel)
theorem fd_X8_123 : fr_ok RX8 123 6 4 := ⟨RX5, TX5, 5, "LetterTree$Page", cl_6, by decide, wf_X8_123, Or.inl rfl⟩
theorem wf_X8_134 : Cond.fieldLink RX8 134 "LetterTree$Page" "entries" "LLetterTree$Entries;" ∈ gw_t := gw_in (in_1 _ (List.mem_of_getElem? (i := 146) (by decide +kernel))) (by decide +kernel)
theorem fd_X8_134 : fr_ok RX8 134 6 1 := ⟨RX5, TX5, 5, "LetterTree$Page", cl_6, by decide, wf_X8_134, Or.inl rfl⟩
theorem wf_X8_15 : Cond.fieldLink RX8 15 "LetterTree$Page" "room" "Ljava/util/ArrayList;" ∈ gw_t := gw_in (in_1 _ (List.mem_of_getElem? (i := 153) (by decide +kernel))) (by decide +kernel)
theorem fd_X8_15 : fr_ok RX8 15 6 3 := ⟨RX5, TX5, 5, "LetterTree$Page", cl_6, by decide, wf_X8_15, Or.inl rfl⟩
theorem wf_X8_154 : Cond.fieldLink RX8 154 "LetterTree$Entries" "list" "Ljava/util/ArrayList;" ∈ gw_t := gw_in (in_1 _ (List.mem_of_getElem? (i := 122) (by decide +kernel))) (by decide +kernel)
theorem fd_X8_154 : fr_ok RX8 154 2 0 := ⟨RX1, TX1, 1, "LetterTree$Entries", cl_2, by decide, wf_X8_154, Or.inl rfl⟩
theorem wf_X8_53 : Cond.fieldLink RX8 53 "LetterTree$Page" "kids" "Ljava/util/ArrayList;" ∈ gw_t := gw_in (in_1 _ (List.mem_of_getElem? (i := 149) (by decide +kernel))) (by decide +kernel)
theorem fd_X8_53 : fr_ok RX8 53 6 2 := ⟨RX5, TX5, 5, "LetterTree$Page", cl_6, by decide, wf_X8_53, Or.inl rfl⟩
theorem wf_X8_61 : Cond.fieldLink RX8 61 "LetterTree$Page" "from" "J" ∈ gw_t := gw_in (in_1 _ (List.mem_of_getElem? (i := 143) (by decide +kernel))) (by decide +kernel)
theorem fd_X8_61 : fr_ok RX8 61 6 0 := ⟨RX5, TX5, 5, "LetterTree$Page", cl_6, by decide, wf_X8_61, Or.inl rfl⟩
theorem wf_X8_9 : Cond.fieldLink RX8 9 "LetterTree$Tree" "root" "LLetterTree$Page;" ∈ gw_t := gw_in (in_1 _ (List.mem_of_getElem? (i := 83) (by decide +kernel))) (by decide +kernel)
theorem fd_X8_9 : fr_ok RX8 9 9 0 := ⟨RX8, TX8, 1, "LetterTree$Tree", cl_9, by decide, wf_X8_9, Or.inl rfl⟩
theorem wf_X9_10 : Cond.fieldLink RX9 10 "LetterTree" "tape" "LLetterTree$Tape;" ∈ gw_t := gw_in (in_1 _ (List.mem_of_getElem? (i := 174) (by decide +kernel))) (by decide +kernel)
theorem fd_X9_10 : fr_ok RX9 10 10 0 := ⟨RX9, TX9, 10, "LetterTree", cl_10, by decide, wf_X9_10, Or.inl rfl⟩
theorem wf_X9_107 : Cond.fieldLink RX9 107 "LetterTree$Tree" "root" "LLetterTree$Page;" ∈ gw_t := gw_in (in_1 _ (List.mem_of_getElem? (i := 84) (by decide +kernel))) (by decide +kernel)
theorem fd_X9_107 : fr_ok RX9 107 9 0 := ⟨RX8, TX8, 1, "LetterTree$Tree", cl_9, by decide, wf_X9_107, Or.inl rfl⟩
theorem wf_X9_134 : Cond.fieldLink RX9 134 "LetterTree$Page" "room" "Ljava/util/ArrayList;" ∈ gw_t := gw_in (in_1 _ (List.mem_of_getElem? (i := 154) (by decide +kernel))) (by decide +kernel)
theorem fd_X9_134 : fr_ok RX9 134 6 3 := ⟨RX5, TX5, 5, "LetterTree$Page", cl_6, by decide, wf_X9_134, Or.inl rfl⟩
theorem wf_X9_137 : Cond.fieldLink RX9 137 "LetterTree$Page" "place" "I" ∈ gw_t := gw_in (in_1 _ (List.mem_of_getElem? (i := 158) (by decide +kernel))) (by decide +kernel)
theorem fd_X9_137 : fr_ok RX9 137 6 4 := ⟨RX5, TX5, 5, "LetterTree$Page", cl_6, by decide, wf_X9_137, Or.inl rfl⟩
theorem wf_X9_140 : Cond.fieldLink RX9 140 "LetterTree$Page" "entries" "LLetterTree$Entries;" ∈ gw_t := gw_in (in_1 _ (List.mem_of_getElem? (i := 147) (by decide +kernel))) (by decide +kernel)
theorem fd_X9_140 : fr_ok RX9 140 6 1 := ⟨RX5, TX5, 5, "LetterTree$Page", cl_6, by decide, wf_X9_140, Or.inl rfl⟩
theorem wf_X9_149 : Cond.fieldLink RX9 149 "LetterTree$Entry" "key" "J" ∈ gw_t := gw_in (in_2 _ (List.mem_of_getElem? (i := 225) (by decide +kernel))) (by decide +kernel)
theorem fd_X9_149 : fr_ok RX9 149 3 0 := ⟨RX2, TX2, 2, "LetterTree$Entry", cl_3, by decide, wf_X9_149, Or.inl rfl⟩
theorem wf_X9_152 : Cond.fieldLink RX9 152 "LetterTree$Page" "kids" "Ljava/util/ArrayList;" ∈ gw_t := gw_in (in_1 _ (List.mem_of_getElem? (i := 151) (by decide +kernel))) (by decide +kernel)
theorem fd_X9_152 : fr_ok RX9 152 6 2 := ⟨RX5, TX5, 5, "LetterTree$Page", cl_6, by decide, wf_X9_152, Or.inl rfl⟩
theorem wf_X9_155 : Cond.fieldLink RX9 155 "LetterTree$Page" "from" "J" ∈ gw_t := gw_in (in_1 _ (List.mem_of_getElem? (i := 144) (by decide +kernel))) (by decide +kernel)
theorem fd_X9_155 : fr_ok RX9 155 6 0 := ⟨RX5, TX5, 5, "LetterTree$Page", cl_6, by decide, wf_X9_155, Or.inl rfl⟩
theorem wf_X9_160 : Cond.fieldLink RX9 160 "LetterTree$Letter" "kind" "I" ∈ gw_t := gw_in (in_2 _ (List.mem_of_getElem? (i := 62) (by decide +kernel))) (by decide +kernel)
theorem fd_X9_160 : fr_ok RX9 160 5 0 := ⟨RX4, TX4, 6, "LetterTree$Letter", cl_5, by decide, wf_X9_160, Or.inl rfl⟩
theorem wf_X9_163 : Cond.fieldLink RX9 163 "LetterTree$Letter" "number" "I" ∈ gw_t := gw_in (in_2 _ (List.mem_of_getElem? (i := 65) (by decide +kernel))) (by decide +kernel)
theorem fd_X9_163 : fr_ok RX9 163 5 1 := ⟨RX4, TX4, 6, "LetterTree$Letter", cl_5, by decide, wf_X9_163, Or.inl rfl⟩
theorem wf_X9_178 : Cond.fieldLink RX9 178 "LetterTree" "greatest" "I" ∈ gw_t := gw_in (in_1 _ (List.mem_of_getElem? (i := 179) (by decide +kernel))) (by decide +kernel)
theorem fd_X9_178 : fr_ok RX9 178 10 5 := ⟨RX9, TX9, 10, "LetterTree", cl_10, by decide, wf_X9_178, Or.inl rfl⟩
theorem wf_X9_19 : Cond.fieldLink RX9 19 "LetterTree" "store" "LLetterTree$Disk;" ∈ gw_t := gw_in (in_1 _ (List.mem_of_getElem? (i := 175) (by decide +kernel))) (by decide +kernel)
theorem fd_X9_19 : fr_ok RX9 19 10 1 := ⟨RX9, TX9, 10, "LetterTree", cl_10, by decide, wf_X9_19, Or.inl rfl⟩
theorem wf_X9_193 : Cond.fieldLink RX9 193 "LetterTree$Picture" "root" "LLetterTree$Page;" ∈ gw_t := gw_in (in_4 _ (List.mem_of_getElem? (i := 74) (by decide +kernel))) (by decide +kernel)
theorem fd_X9_193 : fr_ok RX9 193 7 1 := ⟨RX6, TX6, 2, "LetterTree$Picture", cl_7, by decide, wf_X9_193, Or.inl rfl⟩
theorem wf_X9_201 : Cond.fieldLink RX9 201 "LetterTree$Picture" "number" "I" ∈ gw_t := gw_in (in_4 _ (List.mem_of_getElem? (i := 71) (by decide +kernel))) (by decide +kernel)
theorem fd_X9_201 : fr_ok RX9 201 7 0 := ⟨RX6, TX6, 2, "LetterTree$Picture", cl_7, by decide, wf_X9_201, Or.inl rfl⟩
theorem wf_X9_219 : Cond.fieldLink RX9 219 "LetterTree" "generation" "I" ∈ gw_t := gw_in (in_1 _ (List.mem_of_getElem? (i := 181) (by decide +kernel))) (by decide +kernel)
theorem fd_X9_219 : fr_ok RX9 219 10 7 := ⟨RX9, TX9, 10, "LetterTree", cl_10, by decide, wf_X9_219, Or.inl rfl⟩
theorem wf_X9_222 : Cond.fieldLink RX9 222 "LetterTree$Disk" "heads" "[LLetterTree$Head;" ∈ gw_t := gw_in (in_1 _ (List.mem_of_getElem? (i := 54) (by decide +kernel))) (by decide +kernel)
theorem fd_X9_222 : fr_ok RX9 222 1 0 := ⟨RX0, TX0, 6, "LetterTree$Disk", cl_1, by decide, wf_X9_222, Or.inl rfl⟩
theorem wf_X9_226 : Cond.fieldLink RX9 226 "LetterTree$Head" "generation" "I" ∈ gw_t := gw_in (in_4 _ (List.mem_of_getElem? (i := 31) (by decide +kernel))) (by decide +kernel)
theorem fd_X9_226 : fr_ok RX9 226 4 0 := ⟨RX3, TX3, 5, "LetterTree$Head", cl_4, by decide, wf_X9_226, Or.inl rfl⟩
theorem wf_X9_229 : Cond.fieldLink RX9 229 "LetterTree$Head" "number" "I" ∈ gw_t := gw_in (in_4 _ (List.mem_of_getElem? (i := 33) (by decide +kernel))) (by decide +kernel)
theorem fd_X9_229 : fr_ok RX9 229 4 1 := ⟨RX3, TX3, 5, "LetterTree$Head", cl_4, by decide, wf_X9_229, Or.inl rfl⟩
theorem wf_X9_230 : Cond.fieldLink RX9 230 "LetterTree$Head" "pictures" "Ljava/util/ArrayList;" ∈ gw_t := gw_in (in_4 _ (List.mem_of_getElem? (i := 41) (by decide +kernel))) (by decide +kernel)
theorem fd_X9_230 : fr_ok RX9 230 4 4 := ⟨RX3, TX3, 5, "LetterTree$Head", cl_4, by decide, wf_X9_230, Or.inl rfl⟩
theorem wf_X9_231 : Cond.fieldLink RX9 231 "LetterTree$Head" "root" "LLetterTree$Page;" ∈ gw_t := gw_in (in_4 _ (List.mem_of_getElem? (i := 36) (by decide +kernel))) (by decide +kernel)
theorem fd_X9_231 : fr_ok RX9 231 4 2 := ⟨RX3, TX3, 5, "LetterTree$Head", cl_4, by decide, wf_X9_231, Or.inl rfl⟩
theorem wf_X9_232 : Cond.fieldLink RX9 232 "LetterTree$Disk" "writings" "[I" ∈ gw_t := gw_in (in_1 _ (List.mem_of_getElem? (i := 56) (by decide +kernel))) (by decide +kernel)
theorem fd_X9_232 : fr_ok RX9 232 1 1 := ⟨RX0, TX0, 6, "LetterTree$Disk", cl_1, by decide, wf_X9_232, Or.inl rfl⟩
theorem wf_X9_236 : Cond.fieldLink RX9 236 "LetterTree" "latest" "I" ∈ gw_t := gw_in (in_1 _ (List.mem_of_getElem? (i := 180) (by decide +kernel))) (by decide +kernel)
theorem fd_X9_236 : fr_ok RX9 236 10 6 := ⟨RX9, TX9, 10, "LetterTree", cl_10, by decide, wf_X9_236, Or.inl rfl⟩
theorem wf_X9_26 : Cond.fieldLink RX9 26 "LetterTree" "tree" "LLetterTree$Tree;" ∈ gw_t := gw_in (in_1 _ (List.mem_of_getElem? (i := 176) (by decide +kernel))) (by decide +kernel)
theorem fd_X9_26 : fr_ok RX9 26 10 2 := ⟨RX9, TX9, 10, "LetterTree", cl_10, by decide, wf_X9_26, Or.inl rfl⟩
theorem wf_X9_268 : Cond.fieldLink RX9 268 "LetterTree$Disk" "takenPlaces" "I" ∈ gw_t := gw_in (in_1 _ (List.mem_of_getElem? (i := 59) (by decide +kernel))) (by decide +kernel)
theorem fd_X9_268 : fr_ok RX9 268 1 3 := ⟨RX0, TX0, 6, "LetterTree$Disk", cl_1, by decide, wf_X9_268, Or.inl rfl⟩
theorem wf_X9_33 : Cond.fieldLink RX9 33 "LetterTree" "map" "LLetterTree$Entries;" ∈ gw_t := gw_in (in_1 _ (List.mem_of_getElem? (i := 177) (by decide +kernel))) (by decide +kernel)
theorem fd_X9_33 : fr_ok RX9 33 10 3 := ⟨RX9, TX9, 10, "LetterTree", cl_10, by decide, wf_X9_33, Or.inl rfl⟩
theorem wf_X9_40 : Cond.fieldLink RX9 40 "LetterTree" "pictures" "Ljava/util/ArrayList;" ∈ gw_t := gw_in (in_1 _ (List.mem_of_getElem? (i := 178) (by decide +kernel))) (by decide +kernel)
theorem fd_X9_40 : fr_ok RX9 40 10 4 := ⟨RX9, TX9, 10, "LetterTree", cl_10, by decide, wf_X9_40, Or.inl rfl⟩
theorem wf_X9_47 : Cond.fieldLink RX9 47 "LetterTree$Tape" "size" "I" ∈ gw_t := gw_in (in_1 _ (List.mem_of_getElem? (i := 38) (by decide +kernel))) (by decide +kernel)
theorem fd_X9_47 : fr_ok RX9 47 8 1 := ⟨RX7, TX7, 2, "LetterTree$Tape", cl_8, by decide, wf_X9_47, Or.inl rfl⟩
theorem wf_X9_55 : Cond.fieldLink RX9 55 "LetterTree$Tape" "bytes" "[B" ∈ gw_t := gw_in (in_1 _ (List.mem_of_getElem? (i := 36) (by decide +kernel))) (by decide +kernel)
theorem fd_X9_55 : fr_ok RX9 55 8 0 := ⟨RX7, TX7, 2, "LetterTree$Tape", cl_8, by decide, wf_X9_55, Or.inl rfl⟩
theorem wf_X9_71 : Cond.fieldLink RX9 71 "LetterTree" "down" "Z" ∈ gw_t := gw_in (in_1 _ (List.mem_of_getElem? (i := 183) (by decide +kernel))) (by decide +kernel)
theorem fd_X9_71 : fr_ok RX9 71 10 9 := ⟨RX9, TX9, 10, "LetterTree", cl_10, by decide, wf_X9_71, Or.inl rfl⟩
theorem wf_X9_91 : Cond.fieldLink RX9 91 "LetterTree" "foundKey" "J" ∈ gw_t := gw_in (in_1 _ (List.mem_of_getElem? (i := 182) (by decide +kernel))) (by decide +kernel)
theorem fd_X9_91 : fr_ok RX9 91 10 8 := ⟨RX9, TX9, 10, "LetterTree", cl_10, by decide, wf_X9_91, Or.inl rfl⟩
theorem wf_X9_95 : Cond.fieldLink RX9 95 "LetterTree$Entries" "list" "Ljava/util/ArrayList;" ∈ gw_t := gw_in (in_1 _ (List.mem_of_getElem? (i := 123) (by decide +kernel))) (by decide +kernel)
theorem fd_X9_95 : fr_ok RX9 95 2 0 := ⟨RX1, TX1, 1, "LetterTree$Entries", cl_2, by decide, wf_X9_95, Or.inl rfl⟩
theorem fw_Jx4a65c_48 : fp_ok RJx4a65c 48 0 2 .int false := ⟨RJx4a65c, TJx4a65c, 3, "java/util/ArrayList", cl_0, by decide, wf_Jx4a65c_48, Or.inl rfl, by decide +kernel, rfl, fun h => by cases h⟩
theorem fw_Jx4a65c_63 : fp_ok RJx4a65c 63 0 0 .int false := ⟨RJx4a65c, TJx4a65c, 3, "java/util/ArrayList", cl_0, by decide, wf_Jx4a65c_63, Or.inr sf_Jx4a65c_63, by decide +kernel, rfl, fun h => by cases h⟩
theorem fw_Jx4a65c_9 : fp_ok RJx4a65c 9 0 1 (.array (.object "java/lang/Object")) false := ⟨RJx4a65c, TJx4a65c, 3, "java/util/ArrayList", cl_0, by decide, wf_Jx4a65c_9, Or.inl rfl, by decide +kernel, rfl, fun h => by cases h⟩
theorem wf_Jxc12de_7 : Cond.fieldLink RJxc12de 7 "java/util/AbstractList" "modCount" "I" ∈ gw_t := gw_in (in_1 _ (List.mem_of_getElem? (i := 110) (by decide +kernel))) (by decide +kernel)
theorem fw_Jxc12de_7 : fp_ok RJxc12de 7 0 0 .int false := ⟨RJx4a65c, TJx4a65c, 3, "java/util/AbstractList", cl_0, by decide, wf_Jxc12de_7, Or.inl rfl, by decide +kernel, rfl, fun h => by cases h⟩
theorem fw_X0_11 : fp_ok RX0 11 1 0 (.array (.object "LetterTree$Head")) true := ⟨RX0, TX0, 6, "LetterTree$Disk", cl_1, by decide, wf_X0_11, Or.inl rfl, by decide +kernel, rfl, fun _ => rfl⟩
theorem fw_X0_17 : fp_ok RX0 17 1 1 (.array .int) true := ⟨RX0, TX0, 6, "LetterTree$Disk", cl_1, by decide, wf_X0_17, Or.inl rfl, by decide +kernel, rfl, fun _ => rfl⟩
theorem fw_X0_21 : fp_ok RX0 21 1 2 (.array .byte) true := ⟨RX0, TX0, 6, "LetterTree$Disk", cl_1, by decide, wf_X0_21, Or.inl rfl, by decide +kernel, rfl, fun _ => rfl⟩
theorem fw_X0_31 : fp_ok RX0 31 1 3 .int false := ⟨RX0, TX0, 6, "LetterTree$Disk", cl_1, by decide, wf_X0_31, Or.inl rfl, by decide +kernel, rfl, fun h => by cases h⟩
theorem fw_X0_35 : fp_ok RX0 35 1 4 .int false := ⟨RX0, TX0, 6, "LetterTree$Disk", cl_1, by decide, wf_X0_35, Or.inl rfl, by decide +kernel, rfl, fun h => by cases h⟩
theorem fw_X0_67 : fp_ok RX0 67 6 4 .int false := ⟨RX5, TX5, 5, "LetterTree$Page", cl_6, by decide, wf_X0_67, Or.inl rfl, by decide +kernel, rfl, fun h => by cases h⟩
theorem fw_X0_93 : fp_ok RX0 93 1 5 .int false := ⟨RX0, TX0, 6, "LetterTree$Disk", cl_1, by decide, wf_X0_93, Or.inl rfl, by decide +kernel, rfl, fun h => by cases h⟩
theorem fw_X1_12 : fp_ok RX1 12 2 0 (.object "java/util/ArrayList") true := ⟨RX1, TX1, 1, "LetterTree$Entries", cl_2, by decide, wf_X1_12, Or.inl rfl, by decide +kernel, rfl, fun _ => rfl⟩
theorem fw_X10_107 : fp_ok RX10 107 11 7 .long false := ⟨RX10, TX10, 78, "LetterTreeModel", cl_11, by decide, wf_X10_107, Or.inl rfl, by decide +kernel, rfl, fun h => by cases h⟩
theorem fw_X10_119 : fp_ok RX10 119 11 18 (.array .boolean) true := ⟨RX10, TX10, 78, "LetterTreeModel", cl_11, by decide, wf_X10_119, Or.inl rfl, by decide +kernel, rfl, fun _ => rfl⟩
theorem fw_X10_12 : fp_ok RX10 12 11 1 (.array .byte) true := ⟨RX10, TX10, 78, "LetterTreeModel", cl_11, by decide, wf_X10_12, Or.inl rfl, by decide +kernel, rfl, fun _ => rfl⟩
theorem fw_X10_123 : fp_ok RX10 123 11 19 (.array .int) true := ⟨RX10, TX10, 78, "LetterTreeModel", cl_11, by decide, wf_X10_123, Or.inl rfl, by decide +kernel, rfl, fun _ => rfl⟩
theorem fw_X10_126 : fp_ok RX10 126 11 20 (.array .int) true := ⟨RX10, TX10, 78, "LetterTreeModel", cl_11, by decide, wf_X10_126, Or.inl rfl, by decide +kernel, rfl, fun _ => rfl⟩
theorem fw_X10_129 : fp_ok RX10 129 11 21 (.array .int) true := ⟨RX10, TX10, 78, "LetterTreeModel", cl_11, by decide, wf_X10_129, Or.inl rfl, by decide +kernel, rfl, fun _ => rfl⟩
theorem fw_X10_133 : fp_ok RX10 133 11 22 (.array .int) true := ⟨RX10, TX10, 78, "LetterTreeModel", cl_11, by decide, wf_X10_133, Or.inl rfl, by decide +kernel, rfl, fun _ => rfl⟩
theorem fw_X10_136 : fp_ok RX10 136 11 23 (.array .long) true := ⟨RX10, TX10, 78, "LetterTreeModel", cl_11, by decide, wf_X10_136, Or.inl rfl, by decide +kernel, rfl, fun _ => rfl⟩
theorem fw_X10_139 : fp_ok RX10 139 11 24 (.array .int) true := ⟨RX10, TX10, 78, "LetterTreeModel", cl_11, by decide, wf_X10_139, Or.inl rfl, by decide +kernel, rfl, fun _ => rfl⟩
theorem fw_X10_142 : fp_ok RX10 142 11 25 (.array .int) true := ⟨RX10, TX10, 78, "LetterTreeModel", cl_11, by decide, wf_X10_142, Or.inl rfl, by decide +kernel, rfl, fun _ => rfl⟩
theorem fw_X10_145 : fp_ok RX10 145 11 26 (.array .int) true := ⟨RX10, TX10, 78, "LetterTreeModel", cl_11, by decide, wf_X10_145, Or.inl rfl, by decide +kernel, rfl, fun _ => rfl⟩
theorem fw_X10_148 : fp_ok RX10 148 11 27 (.array .int) true := ⟨RX10, TX10, 78, "LetterTreeModel", cl_11, by decide, wf_X10_148, Or.inl rfl, by decide +kernel, rfl, fun _ => rfl⟩
theorem fw_X10_151 : fp_ok RX10 151 11 28 (.array .int) true := ⟨RX10, TX10, 78, "LetterTreeModel", cl_11, by decide, wf_X10_151, Or.inl rfl, by decide +kernel, rfl, fun _ => rfl⟩
theorem fw_X10_154 : fp_ok RX10 154 11 31 (.array .long) true := ⟨RX10, TX10, 78, "LetterTreeModel", cl_11, by decide, wf_X10_154, Or.inl rfl, by decide +kernel, rfl, fun _ => rfl⟩
theorem fw_X10_157 : fp_ok RX10 157 11 32 (.array .int) true := ⟨RX10, TX10, 78, "LetterTreeModel", cl_11, by decide, wf_X10_157, Or.inl rfl, by decide +kernel, rfl, fun _ => rfl⟩
theorem fw_X10_16 : fp_ok RX10 16 11 6 .int false := ⟨RX10, TX10, 78, "LetterTreeModel", cl_11, by decide, wf_X10_16, Or.inl rfl, by decide +kernel, rfl, fun h => by cases h⟩
theorem fw_X10_161 : fp_ok RX10 161 11 33 (.array .byte) true := ⟨RX10, TX10, 78, "LetterTreeModel", cl_11, by decide, wf_X10_161, Or.inl rfl, by decide +kernel, rfl, fun _ => rfl⟩
theorem fw_X10_164 : fp_ok RX10 164 11 34 (.array .int) true := ⟨RX10, TX10, 78, "LetterTreeModel", cl_11, by decide, wf_X10_164, Or.inl rfl, by decide +kernel, rfl, fun _ => rfl⟩
theorem fw_X10_167 : fp_ok RX10 167 11 36 (.array .int) true := ⟨RX10, TX10, 78, "LetterTreeModel", cl_11, by decide, wf_X10_167, Or.inl rfl, by decide +kernel, rfl, fun _ => rfl⟩
theorem fw_X10_170 : fp_ok RX10 170 11 37 (.array .long) true := ⟨RX10, TX10, 78, "LetterTreeModel", cl_11, by decide, wf_X10_170, Or.inl rfl, by decide +kernel, rfl, fun _ => rfl⟩
theorem fw_X10_173 : fp_ok RX10 173 11 38 (.array .long) true := ⟨RX10, TX10, 78, "LetterTreeModel", cl_11, by decide, wf_X10_173, Or.inl rfl, by decide +kernel, rfl, fun _ => rfl⟩
theorem fw_X10_176 : fp_ok RX10 176 11 39 (.array .int) true := ⟨RX10, TX10, 78, "LetterTreeModel", cl_11, by decide, wf_X10_176, Or.inl rfl, by decide +kernel, rfl, fun _ => rfl⟩
theorem fw_X10_179 : fp_ok RX10 179 11 41 (.array .int) true := ⟨RX10, TX10, 78, "LetterTreeModel", cl_11, by decide, wf_X10_179, Or.inl rfl, by decide +kernel, rfl, fun _ => rfl⟩
theorem fw_X10_182 : fp_ok RX10 182 11 43 (.array .int) true := ⟨RX10, TX10, 78, "LetterTreeModel", cl_11, by decide, wf_X10_182, Or.inl rfl, by decide +kernel, rfl, fun _ => rfl⟩
theorem fw_X10_185 : fp_ok RX10 185 11 44 (.array .int) true := ⟨RX10, TX10, 78, "LetterTreeModel", cl_11, by decide, wf_X10_185, Or.inl rfl, by decide +kernel, rfl, fun _ => rfl⟩
theorem fw_X10_188 : fp_ok RX10 188 11 45 (.array .long) true := ⟨RX10, TX10, 78, "LetterTreeModel", cl_11, by decide, wf_X10_188, Or.inl rfl, by decide +kernel, rfl, fun _ => rfl⟩
theorem fw_X10_19 : fp_ok RX10 19 11 3 (.array .long) true := ⟨RX10, TX10, 78, "LetterTreeModel", cl_11, by decide, wf_X10_19, Or.inl rfl, by decide +kernel, rfl, fun _ => rfl⟩
theorem fw_X10_191 : fp_ok RX10 191 11 47 (.array .int) true := ⟨RX10, TX10, 78, "LetterTreeModel", cl_11, by decide, wf_X10_191, Or.inl rfl, by decide +kernel, rfl, fun _ => rfl⟩
theorem fw_X10_194 : fp_ok RX10 194 11 48 (.array .int) true := ⟨RX10, TX10, 78, "LetterTreeModel", cl_11, by decide, wf_X10_194, Or.inl rfl, by decide +kernel, rfl, fun _ => rfl⟩
theorem fw_X10_197 : fp_ok RX10 197 11 49 (.array .int) true := ⟨RX10, TX10, 78, "LetterTreeModel", cl_11, by decide, wf_X10_197, Or.inl rfl, by decide +kernel, rfl, fun _ => rfl⟩
theorem fw_X10_200 : fp_ok RX10 200 11 52 (.array .boolean) true := ⟨RX10, TX10, 78, "LetterTreeModel", cl_11, by decide, wf_X10_200, Or.inl rfl, by decide +kernel, rfl, fun _ => rfl⟩
theorem fw_X10_203 : fp_ok RX10 203 11 53 (.array .int) true := ⟨RX10, TX10, 78, "LetterTreeModel", cl_11, by decide, wf_X10_203, Or.inl rfl, by decide +kernel, rfl, fun _ => rfl⟩
theorem fw_X10_206 : fp_ok RX10 206 11 54 (.array .long) true := ⟨RX10, TX10, 78, "LetterTreeModel", cl_11, by decide, wf_X10_206, Or.inl rfl, by decide +kernel, rfl, fun _ => rfl⟩
theorem fw_X10_209 : fp_ok RX10 209 11 55 (.array .int) true := ⟨RX10, TX10, 78, "LetterTreeModel", cl_11, by decide, wf_X10_209, Or.inl rfl, by decide +kernel, rfl, fun _ => rfl⟩
theorem fw_X10_213 : fp_ok RX10 213 11 56 (.array .byte) true := ⟨RX10, TX10, 78, "LetterTreeModel", cl_11, by decide, wf_X10_213, Or.inl rfl, by decide +kernel, rfl, fun _ => rfl⟩
theorem fw_X10_216 : fp_ok RX10 216 11 57 (.array .int) true := ⟨RX10, TX10, 78, "LetterTreeModel", cl_11, by decide, wf_X10_216, Or.inl rfl, by decide +kernel, rfl, fun _ => rfl⟩
theorem fw_X10_219 : fp_ok RX10 219 11 58 (.array .int) true := ⟨RX10, TX10, 78, "LetterTreeModel", cl_11, by decide, wf_X10_219, Or.inl rfl, by decide +kernel, rfl, fun _ => rfl⟩
theorem fw_X10_222 : fp_ok RX10 222 11 59 (.array .int) true := ⟨RX10, TX10, 78, "LetterTreeModel", cl_11, by decide, wf_X10_222, Or.inl rfl, by decide +kernel, rfl, fun _ => rfl⟩
theorem fw_X10_225 : fp_ok RX10 225 11 60 (.array .long) true := ⟨RX10, TX10, 78, "LetterTreeModel", cl_11, by decide, wf_X10_225, Or.inl rfl, by decide +kernel, rfl, fun _ => rfl⟩
theorem fw_X10_228 : fp_ok RX10 228 11 61 (.array .long) true := ⟨RX10, TX10, 78, "LetterTreeModel", cl_11, by decide, wf_X10_228, Or.inl rfl, by decide +kernel, rfl, fun _ => rfl⟩
theorem fw_X10_231 : fp_ok RX10 231 11 62 (.array .int) true := ⟨RX10, TX10, 78, "LetterTreeModel", cl_11, by decide, wf_X10_231, Or.inl rfl, by decide +kernel, rfl, fun _ => rfl⟩
theorem fw_X10_234 : fp_ok RX10 234 11 63 (.array .int) true := ⟨RX10, TX10, 78, "LetterTreeModel", cl_11, by decide, wf_X10_234, Or.inl rfl, by decide +kernel, rfl, fun _ => rfl⟩
theorem fw_X10_237 : fp_ok RX10 237 11 64 (.array .int) true := ⟨RX10, TX10, 78, "LetterTreeModel", cl_11, by decide, wf_X10_237, Or.inl rfl, by decide +kernel, rfl, fun _ => rfl⟩
theorem fw_X10_240 : fp_ok RX10 240 11 65 (.array .int) true := ⟨RX10, TX10, 78, "LetterTreeModel", cl_11, by decide, wf_X10_240, Or.inl rfl, by decide +kernel, rfl, fun _ => rfl⟩
theorem fw_X10_243 : fp_ok RX10 243 11 66 (.array .int) true := ⟨RX10, TX10, 78, "LetterTreeModel", cl_11, by decide, wf_X10_243, Or.inl rfl, by decide +kernel, rfl, fun _ => rfl⟩
theorem fw_X10_246 : fp_ok RX10 246 11 67 (.array .int) true := ⟨RX10, TX10, 78, "LetterTreeModel", cl_11, by decide, wf_X10_246, Or.inl rfl, by decide +kernel, rfl, fun _ => rfl⟩
theorem fw_X10_249 : fp_ok RX10 249 11 68 (.array .int) true := ⟨RX10, TX10, 78, "LetterTreeModel", cl_11, by decide, wf_X10_249, Or.inl rfl, by decide +kernel, rfl, fun _ => rfl⟩
theorem fw_X10_252 : fp_ok RX10 252 11 69 (.array .int) true := ⟨RX10, TX10, 78, "LetterTreeModel", cl_11, by decide, wf_X10_252, Or.inl rfl, by decide +kernel, rfl, fun _ => rfl⟩
theorem fw_X10_255 : fp_ok RX10 255 11 70 (.array .int) true := ⟨RX10, TX10, 78, "LetterTreeModel", cl_11, by decide, wf_X10_255, Or.inl rfl, by decide +kernel, rfl, fun _ => rfl⟩
theorem fw_X10_258 : fp_ok RX10 258 11 72 .int false := ⟨RX10, TX10, 78, "LetterTreeModel", cl_11, by decide, wf_X10_258, Or.inl rfl, by decide +kernel, rfl, fun h => by cases h⟩
theorem fw_X10_261 : fp_ok RX10 261 11 75 (.array .int) true := ⟨RX10, TX10, 78, "LetterTreeModel", cl_11, by decide, wf_X10_261, Or.inl rfl, by decide +kernel, rfl, fun _ => rfl⟩
theorem fw_X10_264 : fp_ok RX10 264 11 76 (.array .boolean) true := ⟨RX10, TX10, 78, "LetterTreeModel", cl_11, by decide, wf_X10_264, Or.inl rfl, by decide +kernel, rfl, fun _ => rfl⟩
theorem fw_X10_267 : fp_ok RX10 267 11 77 (.array .int) true := ⟨RX10, TX10, 78, "LetterTreeModel", cl_11, by decide, wf_X10_267, Or.inl rfl, by decide +kernel, rfl, fun _ => rfl⟩
theorem fw_X10_27 : fp_ok RX10 27 11 4 (.array .int) true := ⟨RX10, TX10, 78, "LetterTreeModel", cl_11, by decide, wf_X10_27, Or.inl rfl, by decide +kernel, rfl, fun _ => rfl⟩
theorem fw_X10_277 : fp_ok RX10 277 11 30 .int false := ⟨RX10, TX10, 78, "LetterTreeModel", cl_11, by decide, wf_X10_277, Or.inl rfl, by decide +kernel, rfl, fun h => by cases h⟩
theorem fw_X10_280 : fp_ok RX10 280 11 29 .int false := ⟨RX10, TX10, 78, "LetterTreeModel", cl_11, by decide, wf_X10_280, Or.inl rfl, by decide +kernel, rfl, fun h => by cases h⟩
theorem fw_X10_283 : fp_ok RX10 283 11 35 .int false := ⟨RX10, TX10, 78, "LetterTreeModel", cl_11, by decide, wf_X10_283, Or.inl rfl, by decide +kernel, rfl, fun h => by cases h⟩
theorem fw_X10_286 : fp_ok RX10 286 11 40 .int false := ⟨RX10, TX10, 78, "LetterTreeModel", cl_11, by decide, wf_X10_286, Or.inl rfl, by decide +kernel, rfl, fun h => by cases h⟩
theorem fw_X10_31 : fp_ok RX10 31 11 5 (.array .byte) true := ⟨RX10, TX10, 78, "LetterTreeModel", cl_11, by decide, wf_X10_31, Or.inl rfl, by decide +kernel, rfl, fun _ => rfl⟩
theorem fw_X10_327 : fp_ok RX10 327 11 42 .int false := ⟨RX10, TX10, 78, "LetterTreeModel", cl_11, by decide, wf_X10_327, Or.inl rfl, by decide +kernel, rfl, fun h => by cases h⟩
theorem fw_X10_337 : fp_ok RX10 337 11 46 .int false := ⟨RX10, TX10, 78, "LetterTreeModel", cl_11, by decide, wf_X10_337, Or.inl rfl, by decide +kernel, rfl, fun h => by cases h⟩
theorem fw_X10_34 : fp_ok RX10 34 11 17 .int false := ⟨RX10, TX10, 78, "LetterTreeModel", cl_11, by decide, wf_X10_34, Or.inl rfl, by decide +kernel, rfl, fun h => by cases h⟩
theorem fw_X10_349 : fp_ok RX10 349 11 50 .int false := ⟨RX10, TX10, 78, "LetterTreeModel", cl_11, by decide, wf_X10_349, Or.inl rfl, by decide +kernel, rfl, fun h => by cases h⟩
theorem fw_X10_363 : fp_ok RX10 363 11 71 .int false := ⟨RX10, TX10, 78, "LetterTreeModel", cl_11, by decide, wf_X10_363, Or.inl rfl, by decide +kernel, rfl, fun h => by cases h⟩
theorem fw_X10_369 : fp_ok RX10 369 11 74 .int false := ⟨RX10, TX10, 78, "LetterTreeModel", cl_11, by decide, wf_X10_369, Or.inl rfl, by decide +kernel, rfl, fun h => by cases h⟩
theorem fw_X10_37 : fp_ok RX10 37 11 10 (.array .int) true := ⟨RX10, TX10, 78, "LetterTreeModel", cl_11, by decide, wf_X10_37, Or.inl rfl, by decide +kernel, rfl, fun _ => rfl⟩
theorem fw_X10_388 : fp_ok RX10 388 11 73 .int false := ⟨RX10, TX10, 78, "LetterTreeModel", cl_11, by decide, wf_X10_388, Or.inl rfl, by decide +kernel, rfl, fun h => by cases h⟩
theorem fw_X10_40 : fp_ok RX10 40 11 16 (.array .byte) true := ⟨RX10, TX10, 78, "LetterTreeModel", cl_11, by decide, wf_X10_40, Or.inl rfl, by decide +kernel, rfl, fun _ => rfl⟩
theorem fw_X10_43 : fp_ok RX10 43 11 12 (.array .byte) true := ⟨RX10, TX10, 78, "LetterTreeModel", cl_11, by decide, wf_X10_43, Or.inl rfl, by decide +kernel, rfl, fun _ => rfl⟩
theorem fw_X10_46 : fp_ok RX10 46 11 8 (.array .int) true := ⟨RX10, TX10, 78, "LetterTreeModel", cl_11, by decide, wf_X10_46, Or.inl rfl, by decide +kernel, rfl, fun _ => rfl⟩
theorem fw_X10_49 : fp_ok RX10 49 11 11 (.array .int) true := ⟨RX10, TX10, 78, "LetterTreeModel", cl_11, by decide, wf_X10_49, Or.inl rfl, by decide +kernel, rfl, fun _ => rfl⟩
theorem fw_X10_60 : fp_ok RX10 60 11 14 .int false := ⟨RX10, TX10, 78, "LetterTreeModel", cl_11, by decide, wf_X10_60, Or.inl rfl, by decide +kernel, rfl, fun h => by cases h⟩
theorem fw_X10_63 : fp_ok RX10 63 11 15 .int false := ⟨RX10, TX10, 78, "LetterTreeModel", cl_11, by decide, wf_X10_63, Or.inl rfl, by decide +kernel, rfl, fun h => by cases h⟩
theorem fw_X10_66 : fp_ok RX10 66 11 9 (.array .long) true := ⟨RX10, TX10, 78, "LetterTreeModel", cl_11, by decide, wf_X10_66, Or.inl rfl, by decide +kernel, rfl, fun _ => rfl⟩
theorem fw_X10_69 : fp_ok RX10 69 11 13 (.array .int) true := ⟨RX10, TX10, 78, "LetterTreeModel", cl_11, by decide, wf_X10_69, Or.inl rfl, by decide +kernel, rfl, fun _ => rfl⟩
theorem fw_X10_9 : fp_ok RX10 9 11 2 .int false := ⟨RX10, TX10, 78, "LetterTreeModel", cl_11, by decide, wf_X10_9, Or.inl rfl, by decide +kernel, rfl, fun h => by cases h⟩
theorem fw_X10_90 : fp_ok RX10 90 11 51 .boolean false := ⟨RX10, TX10, 78, "LetterTreeModel", cl_11, by decide, wf_X10_90, Or.inl rfl, by decide +kernel, rfl, fun h => by cases h⟩
theorem wf_X2_13 : Cond.fieldLink RX2 13 "LetterTree$Entry" "row" "[B" ∈ gw_t := gw_in (in_2 _ (List.mem_of_getElem? (i := 226) (by decide +kernel))) (by decide +kernel)
theorem fw_X2_13 : fp_ok RX2 13 3 1 (.array .byte) true := ⟨RX2, TX2, 2, "LetterTree$Entry", cl_3, by decide, wf_X2_13, Or.inl rfl, by decide +kernel, rfl, fun _ => rfl⟩
theorem wf_X2_7 : Cond.fieldLink RX2 7 "LetterTree$Entry" "key" "J" ∈ gw_t := gw_in (in_2 _ (List.mem_of_getElem? (i := 222) (by decide +kernel))) (by decide +kernel)
theorem fw_X2_7 : fp_ok RX2 7 3 0 .long true := ⟨RX2, TX2, 2, "LetterTree$Entry", cl_3, by decide, wf_X2_7, Or.inl rfl, by decide +kernel, rfl, fun _ => rfl⟩
theorem wf_X3_10 : Cond.fieldLink RX3 10 "LetterTree$Head" "pictures" "Ljava/util/ArrayList;" ∈ gw_t := gw_in (in_4 _ (List.mem_of_getElem? (i := 39) (by decide +kernel))) (by decide +kernel)
theorem fw_X3_10 : fp_ok RX3 10 4 4 (.object "java/util/ArrayList") true := ⟨RX3, TX3, 5, "LetterTree$Head", cl_4, by decide, wf_X3_10, Or.inl rfl, by decide +kernel, rfl, fun _ => rfl⟩
theorem wf_X3_16 : Cond.fieldLink RX3 16 "LetterTree$Head" "generation" "I" ∈ gw_t := gw_in (in_4 _ (List.mem_of_getElem? (i := 29) (by decide +kernel))) (by decide +kernel)
theorem fw_X3_16 : fp_ok RX3 16 4 0 .int true := ⟨RX3, TX3, 5, "LetterTree$Head", cl_4, by decide, wf_X3_16, Or.inl rfl, by decide +kernel, rfl, fun _ => rfl⟩
theorem wf_X3_20 : Cond.fieldLink RX3 20 "LetterTree$Head" "number" "I" ∈ gw_t := gw_in (in_4 _ (List.mem_of_getElem? (i := 32) (by decide +kernel))) (by decide +kernel)
theorem fw_X3_20 : fp_ok RX3 20 4 1 .int true := ⟨RX3, TX3, 5, "LetterTree$Head", cl_4, by decide, wf_X3_20, Or.inl rfl, by decide +kernel, rfl, fun _ => rfl⟩
theorem wf_X3_23 : Cond.fieldLink RX3 23 "LetterTree$Head" "root" "LLetterTree$Page;" ∈ gw_t := gw_in (in_4 _ (List.mem_of_getElem? (i := 34) (by decide +kernel))) (by decide +kernel)
theorem fw_X3_23 : fp_ok RX3 23 4 2 (.object "LetterTree$Page") true := ⟨RX3, TX3, 5, "LetterTree$Head", cl_4, by decide, wf_X3_23, Or.inl rfl, by decide +kernel, rfl, fun _ => rfl⟩
theorem wf_X3_27 : Cond.fieldLink RX3 27 "LetterTree$Head" "greatest" "I" ∈ gw_t := gw_in (in_4 _ (List.mem_of_getElem? (i := 37) (by decide +kernel))) (by decide +kernel)
theorem fw_X3_27 : fp_ok RX3 27 4 3 .int true := ⟨RX3, TX3, 5, "LetterTree$Head", cl_4, by decide, wf_X3_27, Or.inl rfl, by decide +kernel, rfl, fun _ => rfl⟩
theorem wf_X4_15 : Cond.fieldLink RX4 15 "LetterTree$Letter" "number" "I" ∈ gw_t := gw_in (in_2 _ (List.mem_of_getElem? (i := 63) (by decide +kernel))) (by decide +kernel)
theorem fw_X4_15 : fp_ok RX4 15 5 1 .int true := ⟨RX4, TX4, 6, "LetterTree$Letter", cl_5, by decide, wf_X4_15, Or.inl rfl, by decide +kernel, rfl, fun _ => rfl⟩
theorem fw_X4_18 : fp_ok RX4 18 5 2 .long true := ⟨RX4, TX4, 6, "LetterTree$Letter", cl_5, by decide, wf_X4_18, Or.inl rfl, by decide +kernel, rfl, fun _ => rfl⟩
theorem fw_X4_22 : fp_ok RX4 22 5 3 .long true := ⟨RX4, TX4, 6, "LetterTree$Letter", cl_5, by decide, wf_X4_22, Or.inl rfl, by decide +kernel, rfl, fun _ => rfl⟩
theorem fw_X4_25 : fp_ok RX4 25 5 4 (.array .byte) true := ⟨RX4, TX4, 6, "LetterTree$Letter", cl_5, by decide, wf_X4_25, Or.inl rfl, by decide +kernel, rfl, fun _ => rfl⟩
theorem fw_X4_29 : fp_ok RX4 29 5 5 (.array .byte) true := ⟨RX4, TX4, 6, "LetterTree$Letter", cl_5, by decide, wf_X4_29, Or.inl rfl, by decide +kernel, rfl, fun _ => rfl⟩
theorem fw_X4_9 : fp_ok RX4 9 5 0 .int true := ⟨RX4, TX4, 6, "LetterTree$Letter", cl_5, by decide, wf_X4_9, Or.inl rfl, by decide +kernel, rfl, fun _ => rfl⟩
theorem fw_X5_12 : fp_ok RX5 12 6 2 (.object "java/util/ArrayList") true := ⟨RX5, TX5, 5, "LetterTree$Page", cl_6, by decide, wf_X5_12, Or.inl rfl, by decide +kernel, rfl, fun _ => rfl⟩
theorem fw_X5_18 : fp_ok RX5 18 6 3 (.object "java/util/ArrayList") true := ⟨RX5, TX5, 5, "LetterTree$Page", cl_6, by decide, wf_X5_18, Or.inl rfl, by decide +kernel, rfl, fun _ => rfl⟩
theorem fw_X5_21 : fp_ok RX5 21 6 4 .int false := ⟨RX5, TX5, 5, "LetterTree$Page", cl_6, by decide, wf_X5_21, Or.inl rfl, by decide +kernel, rfl, fun h => by cases h⟩
theorem fw_X5_25 : fp_ok RX5 25 6 0 .long true := ⟨RX5, TX5, 5, "LetterTree$Page", cl_6, by decide, wf_X5_25, Or.inl rfl, by decide +kernel, rfl, fun _ => rfl⟩
theorem fw_X5_29 : fp_ok RX5 29 6 1 (.object "LetterTree$Entries") true := ⟨RX5, TX5, 5, "LetterTree$Page", cl_6, by decide, wf_X5_29, Or.inl rfl, by decide +kernel, rfl, fun _ => rfl⟩
theorem wf_X6_13 : Cond.fieldLink RX6 13 "LetterTree$Picture" "root" "LLetterTree$Page;" ∈ gw_t := gw_in (in_4 _ (List.mem_of_getElem? (i := 72) (by decide +kernel))) (by decide +kernel)
theorem fw_X6_13 : fp_ok RX6 13 7 1 (.object "LetterTree$Page") true := ⟨RX6, TX6, 2, "LetterTree$Picture", cl_7, by decide, wf_X6_13, Or.inl rfl, by decide +kernel, rfl, fun _ => rfl⟩
theorem wf_X6_7 : Cond.fieldLink RX6 7 "LetterTree$Picture" "number" "I" ∈ gw_t := gw_in (in_4 _ (List.mem_of_getElem? (i := 70) (by decide +kernel))) (by decide +kernel)
theorem fw_X6_7 : fp_ok RX6 7 7 0 .int true := ⟨RX6, TX6, 2, "LetterTree$Picture", cl_7, by decide, wf_X6_7, Or.inl rfl, by decide +kernel, rfl, fun _ => rfl⟩
theorem fw_X7_15 : fp_ok RX7 15 8 1 .int false := ⟨RX7, TX7, 2, "LetterTree$Tape", cl_8, by decide, wf_X7_15, Or.inl rfl, by decide +kernel, rfl, fun h => by cases h⟩
theorem fw_X7_9 : fp_ok RX7 9 8 0 (.array .byte) true := ⟨RX7, TX7, 2, "LetterTree$Tape", cl_8, by decide, wf_X7_9, Or.inl rfl, by decide +kernel, rfl, fun _ => rfl⟩
theorem fw_X8_9 : fp_ok RX8 9 9 0 (.object "LetterTree$Page") false := ⟨RX8, TX8, 1, "LetterTree$Tree", cl_9, by decide, wf_X8_9, Or.inl rfl, by decide +kernel, rfl, fun h => by cases h⟩
theorem fw_X9_10 : fp_ok RX9 10 10 0 (.object "LetterTree$Tape") true := ⟨RX9, TX9, 10, "LetterTree", cl_10, by decide, wf_X9_10, Or.inl rfl, by decide +kernel, rfl, fun _ => rfl⟩
theorem fw_X9_107 : fp_ok RX9 107 9 0 (.object "LetterTree$Page") false := ⟨RX8, TX8, 1, "LetterTree$Tree", cl_9, by decide, wf_X9_107, Or.inl rfl, by decide +kernel, rfl, fun h => by cases h⟩
theorem fw_X9_178 : fp_ok RX9 178 10 5 .int false := ⟨RX9, TX9, 10, "LetterTree", cl_10, by decide, wf_X9_178, Or.inl rfl, by decide +kernel, rfl, fun h => by cases h⟩
theorem fw_X9_19 : fp_ok RX9 19 10 1 (.object "LetterTree$Disk") true := ⟨RX9, TX9, 10, "LetterTree", cl_10, by decide, wf_X9_19, Or.inl rfl, by decide +kernel, rfl, fun _ => rfl⟩
theorem wf_X9_202 : Cond.fieldLink RX9 202 "LetterTree$Disk" "fallDue" "I" ∈ gw_t := gw_in (in_1 _ (List.mem_of_getElem? (i := 62) (by decide +kernel))) (by decide +kernel)
theorem fw_X9_202 : fp_ok RX9 202 1 5 .int false := ⟨RX0, TX0, 6, "LetterTree$Disk", cl_1, by decide, wf_X9_202, Or.inl rfl, by decide +kernel, rfl, fun h => by cases h⟩
theorem fw_X9_219 : fp_ok RX9 219 10 7 .int false := ⟨RX9, TX9, 10, "LetterTree", cl_10, by decide, wf_X9_219, Or.inl rfl, by decide +kernel, rfl, fun h => by cases h⟩
theorem fw_X9_236 : fp_ok RX9 236 10 6 .int false := ⟨RX9, TX9, 10, "LetterTree", cl_10, by decide, wf_X9_236, Or.inl rfl, by decide +kernel, rfl, fun h => by cases h⟩
theorem fw_X9_26 : fp_ok RX9 26 10 2 (.object "LetterTree$Tree") true := ⟨RX9, TX9, 10, "LetterTree", cl_10, by decide, wf_X9_26, Or.inl rfl, by decide +kernel, rfl, fun _ => rfl⟩
theorem fw_X9_33 : fp_ok RX9 33 10 3 (.object "LetterTree$Entries") true := ⟨RX9, TX9, 10, "LetterTree", cl_10, by decide, wf_X9_33, Or.inl rfl, by decide +kernel, rfl, fun _ => rfl⟩
theorem fw_X9_40 : fp_ok RX9 40 10 4 (.object "java/util/ArrayList") true := ⟨RX9, TX9, 10, "LetterTree", cl_10, by decide, wf_X9_40, Or.inl rfl, by decide +kernel, rfl, fun _ => rfl⟩
theorem fw_X9_47 : fp_ok RX9 47 8 1 .int false := ⟨RX7, TX7, 2, "LetterTree$Tape", cl_8, by decide, wf_X9_47, Or.inl rfl, by decide +kernel, rfl, fun h => by cases h⟩
theorem fw_X9_71 : fp_ok RX9 71 10 9 .boolean false := ⟨RX9, TX9, 10, "LetterTree", cl_10, by decide, wf_X9_71, Or.inl rfl, by decide +kernel, rfl, fun h => by cases h⟩
theorem fw_X9_91 : fp_ok RX9 91 10 8 .long false := ⟨RX9, TX9, 10, "LetterTree", cl_10, by decide, wf_X9_91, Or.inl rfl, by decide +kernel, rfl, fun h => by cases h⟩
theorem wi_Jx4a65c_init_da8c8 : Cond.instanceMethod yJx4a65c_init_da8c8 ∈ gw_t := gw_in (in_1 _ (List.mem_of_getElem? (i := 97) (by decide +kernel))) (by decide +kernel)
theorem mI_Jx4a65c_init_da8c8 : yJx4a65c_init_da8c8.name = "<init>" ∧ Cond.instanceMethod yJx4a65c_init_da8c8 ∈ gw_t := ⟨rfl, wi_Jx4a65c_init_da8c8⟩
theorem wi_Jxa1e45_init_da8c8 : Cond.instanceMethod yJxa1e45_init_da8c8 ∈ gw_t := gw_in (in_1 _ (List.mem_of_getElem? (i := 103) (by decide +kernel))) (by decide +kernel)
theorem mI_Jxa1e45_init_da8c8 : yJxa1e45_init_da8c8.name = "<init>" ∧ Cond.instanceMethod yJxa1e45_init_da8c8 ∈ gw_t := ⟨rfl, wi_Jxa1e45_init_da8c8⟩
theorem wi_Jxc12de_init_da8c8 : Cond.instanceMethod yJxc12de_init_da8c8 ∈ gw_t := gw_in (in_1 _ (List.mem_of_getElem? (i := 100) (by decide +kernel))) (by decide +kernel)
theorem mI_Jxc12de_init_da8c8 : yJxc12de_init_da8c8.name = "<init>" ∧ Cond.instanceMethod yJxc12de_init_da8c8 ∈ gw_t := ⟨rfl, wi_Jxc12de_init_da8c8⟩
theorem wi_X0_init : Cond.instanceMethod yX0_init ∈ gw_t := gw_in (in_1 _ (List.mem_of_getElem? (i := 48) (by decide +kernel))) (by decide +kernel)
theorem mI_X0_init : yX0_init.name = "<init>" ∧ Cond.instanceMethod yX0_init ∈ gw_t := ⟨rfl, wi_X0_init⟩
theorem wi_X10_init : Cond.instanceMethod yX10_init ∈ gw_t := gw_in (in_5 _ (List.mem_of_getElem? (i := 87) (by decide +kernel))) (by decide +kernel)
theorem mI_X10_init : yX10_init.name = "<init>" ∧ Cond.instanceMethod yX10_init ∈ gw_t := ⟨rfl, wi_X10_init⟩
theorem wi_X1_init : Cond.instanceMethod yX1_init ∈ gw_t := gw_in (in_1 _ (List.mem_of_getElem? (i := 91) (by decide +kernel))) (by decide +kernel)
theorem mI_X1_init : yX1_init.name = "<init>" ∧ Cond.instanceMethod yX1_init ∈ gw_t := ⟨rfl, wi_X1_init⟩
theorem wi_X2_init : Cond.instanceMethod yX2_init ∈ gw_t := gw_in (in_2 _ (List.mem_of_getElem? (i := 219) (by decide +kernel))) (by decide +kernel)
theorem mI_X2_init : yX2_init.name = "<init>" ∧ Cond.instanceMethod yX2_init ∈ gw_t := ⟨rfl, wi_X2_init⟩
theorem wi_X3_init : Cond.instanceMethod yX3_init ∈ gw_t := gw_in (in_4 _ (List.mem_of_getElem? (i := 24) (by decide +kernel))) (by decide +kernel)
theorem mI_X3_init : yX3_init.name = "<init>" ∧ Cond.instanceMethod yX3_init ∈ gw_t := ⟨rfl, wi_X3_init⟩
theorem wi_X4_init : Cond.instanceMethod yX4_init ∈ gw_t := gw_in (in_2 _ (List.mem_of_getElem? (i := 56) (by decide +kernel))) (by decide +kernel)
theorem mI_X4_init : yX4_init.name = "<init>" ∧ Cond.instanceMethod yX4_init ∈ gw_t := ⟨rfl, wi_X4_init⟩
theorem wi_X5_init : Cond.instanceMethod yX5_init ∈ gw_t := gw_in (in_1 _ (List.mem_of_getElem? (i := 137) (by decide +kernel))) (by decide +kernel)
theorem mI_X5_init : yX5_init.name = "<init>" ∧ Cond.instanceMethod yX5_init ∈ gw_t := ⟨rfl, wi_X5_init⟩
theorem wi_X6_init : Cond.instanceMethod yX6_init ∈ gw_t := gw_in (in_4 _ (List.mem_of_getElem? (i := 67) (by decide +kernel))) (by decide +kernel)
theorem mI_X6_init : yX6_init.name = "<init>" ∧ Cond.instanceMethod yX6_init ∈ gw_t := ⟨rfl, wi_X6_init⟩
theorem wi_X7_init : Cond.instanceMethod yX7_init ∈ gw_t := gw_in (in_1 _ (List.mem_of_getElem? (i := 32) (by decide +kernel))) (by decide +kernel)
theorem mI_X7_init : yX7_init.name = "<init>" ∧ Cond.instanceMethod yX7_init ∈ gw_t := ⟨rfl, wi_X7_init⟩
theorem wi_X8_init : Cond.instanceMethod yX8_init ∈ gw_t := gw_in (in_1 _ (List.mem_of_getElem? (i := 80) (by decide +kernel))) (by decide +kernel)
theorem mI_X8_init : yX8_init.name = "<init>" ∧ Cond.instanceMethod yX8_init ∈ gw_t := ⟨rfl, wi_X8_init⟩
theorem wi_X9_init : Cond.instanceMethod yX9_init ∈ gw_t := gw_in (in_1 _ (List.mem_of_getElem? (i := 24) (by decide +kernel))) (by decide +kernel)
theorem mI_X9_init : yX9_init.name = "<init>" ∧ Cond.instanceMethod yX9_init ∈ gw_t := ⟨rfl, wi_X9_init⟩
theorem wN_J15 : Cond.initialized RJ15 ∈ gw_t := gw_in (in_1 _ (List.mem_of_getElem? (i := 11) (by decide +kernel))) (by decide +kernel)
theorem wm_J15_checkIndex_7cf53 : Cond.code yJ15_checkIndex_7cf53 cJ15_checkIndex_7cf53 2 (some .int) ∈ gw_t := gw_in (in_2 _ (List.mem_of_getElem? (i := 7) (by decide +kernel))) (by decide +kernel)
theorem me_J15_checkIndex_7cf53 : me_ok yJ15_checkIndex_7cf53 cJ15_checkIndex_7cf53 2 (some .int) 2 := ⟨wm_J15_checkIndex_7cf53, wN_J15, by decide +kernel, by decide, by decide +kernel⟩
theorem wN_J3 : Cond.initialized RJ3 ∈ gw_t := gw_in (in_1 _ (List.mem_of_getElem? (i := 12) (by decide +kernel))) (by decide +kernel)
theorem wm_J3_checkIndex_8e157 : Cond.code yJ3_checkIndex_8e157 cJ3_checkIndex_8e157 3 (some .int) ∈ gw_t := gw_in (in_2 _ (List.mem_of_getElem? (i := 10) (by decide +kernel))) (by decide +kernel)
theorem me_J3_checkIndex_8e157 : me_ok yJ3_checkIndex_8e157 cJ3_checkIndex_8e157 3 (some .int) 3 := ⟨wm_J3_checkIndex_8e157, wN_J3, by decide +kernel, by decide, by decide +kernel⟩
theorem wN_J7 : Cond.initialized RJ7 ∈ gw_t := gw_in (in_1 _ (List.mem_of_getElem? (i := 13) (by decide +kernel))) (by decide +kernel)
theorem wm_J7_checkLength_df160 : Cond.code yJ7_checkLength_df160 cJ7_checkLength_df160 2 none ∈ gw_t := gw_in (in_2 _ (List.mem_of_getElem? (i := 39) (by decide +kernel))) (by decide +kernel)
theorem me_J7_checkLength_df160 : me_ok yJ7_checkLength_df160 cJ7_checkLength_df160 2 none 2 := ⟨wm_J7_checkLength_df160, wN_J7, by decide +kernel, by decide, by decide +kernel⟩
theorem wm_J7_copyOfRangeByte_39247 : Cond.code yJ7_copyOfRangeByte_39247 cJ7_copyOfRangeByte_39247 5 (some (.array .byte)) ∈ gw_t := gw_in (in_2 _ (List.mem_of_getElem? (i := 36) (by decide +kernel))) (by decide +kernel)
theorem me_J7_copyOfRangeByte_39247 : me_ok yJ7_copyOfRangeByte_39247 cJ7_copyOfRangeByte_39247 5 (some (.array .byte)) 3 := ⟨wm_J7_copyOfRangeByte_39247, wN_J7, by decide +kernel, by decide, by decide +kernel⟩
theorem wm_J7_copyOfRange_39247 : Cond.code yJ7_copyOfRange_39247 cJ7_copyOfRange_39247 3 (some (.array .byte)) ∈ gw_t := gw_in (in_2 _ (List.mem_of_getElem? (i := 33) (by decide +kernel))) (by decide +kernel)
theorem me_J7_copyOfRange_39247 : me_ok yJ7_copyOfRange_39247 cJ7_copyOfRange_39247 3 (some (.array .byte)) 3 := ⟨wm_J7_copyOfRange_39247, wN_J7, by decide +kernel, by decide, by decide +kernel⟩
theorem wm_J7_copyOf_1904c : Cond.code yJ7_copyOf_1904c cJ7_copyOf_1904c 2 (some (.array (.object "java/lang/Object"))) ∈ gw_t := gw_in (in_2 _ (List.mem_of_getElem? (i := 115) (by decide +kernel))) (by decide +kernel)
theorem me_J7_copyOf_1904c : me_ok yJ7_copyOf_1904c cJ7_copyOf_1904c 2 (some (.array (.object "java/lang/Object"))) 2 := ⟨wm_J7_copyOf_1904c, wN_J7, by decide +kernel, by decide, by decide +kernel⟩
theorem wm_J7_copyOf_6403c : Cond.code yJ7_copyOf_6403c cJ7_copyOf_6403c 4 (some (.array (.object "java/lang/Object"))) ∈ gw_t := gw_in (in_2 _ (List.mem_of_getElem? (i := 134) (by decide +kernel))) (by decide +kernel)
theorem me_J7_copyOf_6403c : me_ok yJ7_copyOf_6403c cJ7_copyOf_6403c 4 (some (.array (.object "java/lang/Object"))) 3 := ⟨wm_J7_copyOf_6403c, wN_J7, by decide +kernel, by decide, by decide +kernel⟩
theorem wm_J7_copyOf_9075b : Cond.code yJ7_copyOf_9075b cJ7_copyOf_9075b 3 (some (.array .byte)) ∈ gw_t := gw_in (in_2 _ (List.mem_of_getElem? (i := 217) (by decide +kernel))) (by decide +kernel)
theorem me_J7_copyOf_9075b : me_ok yJ7_copyOf_9075b cJ7_copyOf_9075b 3 (some (.array .byte)) 2 := ⟨wm_J7_copyOf_9075b, wN_J7, by decide +kernel, by decide, by decide +kernel⟩
theorem wm_J7_fill_031fb : Cond.code yJ7_fill_031fb cJ7_fill_031fb 4 none ∈ gw_t := gw_in (in_3 _ (List.mem_of_getElem? (i := 228) (by decide +kernel))) (by decide +kernel)
theorem me_J7_fill_031fb : me_ok yJ7_fill_031fb cJ7_fill_031fb 4 none 2 := ⟨wm_J7_fill_031fb, wN_J7, by decide +kernel, by decide, by decide +kernel⟩
theorem wN_J8 : Cond.initialized RJ8 ∈ gw_t := gw_in (in_1 _ (List.mem_of_getElem? (i := 17) (by decide +kernel))) (by decide +kernel)
theorem wm_J8_hugeLength_7cf53 : Cond.code yJ8_hugeLength_7cf53 cJ8_hugeLength_7cf53 3 (some .int) ∈ gw_t := gw_in (in_2 _ (List.mem_of_getElem? (i := 112) (by decide +kernel))) (by decide +kernel)
theorem me_J8_hugeLength_7cf53 : me_ok yJ8_hugeLength_7cf53 cJ8_hugeLength_7cf53 3 (some .int) 2 := ⟨wm_J8_hugeLength_7cf53, wN_J8, by decide +kernel, by decide, by decide +kernel⟩
theorem wm_J8_newLength_cabcc : Cond.code yJ8_newLength_cabcc cJ8_newLength_cabcc 4 (some .int) ∈ gw_t := gw_in (in_2 _ (List.mem_of_getElem? (i := 105) (by decide +kernel))) (by decide +kernel)
theorem me_J8_newLength_cabcc : me_ok yJ8_newLength_cabcc cJ8_newLength_cabcc 4 (some .int) 3 := ⟨wm_J8_newLength_cabcc, wN_J8, by decide +kernel, by decide, by decide +kernel⟩
theorem wN_J9 : Cond.initialized RJ9 ∈ gw_t := gw_in (in_1 _ (List.mem_of_getElem? (i := 14) (by decide +kernel))) (by decide +kernel)
theorem wm_J9_max_7cf53 : Cond.code yJ9_max_7cf53 cJ9_max_7cf53 2 (some .int) ∈ gw_t := gw_in (in_2 _ (List.mem_of_getElem? (i := 108) (by decide +kernel))) (by decide +kernel)
theorem me_J9_max_7cf53 : me_ok yJ9_max_7cf53 cJ9_max_7cf53 2 (some .int) 2 := ⟨wm_J9_max_7cf53, wN_J9, by decide +kernel, by decide, by decide +kernel⟩
theorem wm_J9_max_f86c9 : Cond.code yJ9_max_f86c9 cJ9_max_f86c9 4 (some .long) ∈ gw_t := gw_in (in_3 _ (List.mem_of_getElem? (i := 11) (by decide +kernel))) (by decide +kernel)
theorem me_J9_max_f86c9 : me_ok yJ9_max_f86c9 cJ9_max_f86c9 4 (some .long) 2 := ⟨wm_J9_max_f86c9, wN_J9, by decide +kernel, by decide, by decide +kernel⟩
theorem wm_J9_min_7cf53 : Cond.code yJ9_min_7cf53 cJ9_min_7cf53 2 (some .int) ∈ gw_t := gw_in (in_2 _ (List.mem_of_getElem? (i := 42) (by decide +kernel))) (by decide +kernel)
theorem me_J9_min_7cf53 : me_ok yJ9_min_7cf53 cJ9_min_7cf53 2 (some .int) 2 := ⟨wm_J9_min_7cf53, wN_J9, by decide +kernel, by decide, by decide +kernel⟩
theorem wm_J9_min_f86c9 : Cond.code yJ9_min_f86c9 cJ9_min_f86c9 4 (some .long) ∈ gw_t := gw_in (in_3 _ (List.mem_of_getElem? (i := 19) (by decide +kernel))) (by decide +kernel)
theorem me_J9_min_f86c9 : me_ok yJ9_min_f86c9 cJ9_min_f86c9 4 (some .long) 2 := ⟨wm_J9_min_f86c9, wN_J9, by decide +kernel, by decide, by decide +kernel⟩
theorem wN_Jx4a65c : Cond.initialized RJx4a65c ∈ gw_t := gw_in (in_1 _ (List.mem_of_getElem? (i := 8) (by decide +kernel))) (by decide +kernel)
theorem wm_Jx4a65c_add_72be8 : Cond.code yJx4a65c_add_72be8 cJx4a65c_add_72be8 4 none ∈ gw_t := gw_in (in_2 _ (List.mem_of_getElem? (i := 94) (by decide +kernel))) (by decide +kernel)
theorem me_Jx4a65c_add_72be8 : me_ok yJx4a65c_add_72be8 cJx4a65c_add_72be8 4 none 3 := ⟨wm_Jx4a65c_add_72be8, wN_Jx4a65c, by decide +kernel, by decide, by decide +kernel⟩
theorem wm_Jx4a65c_add_7a177 : Cond.code yJx4a65c_add_7a177 cJx4a65c_add_7a177 5 none ∈ gw_t := gw_in (in_3 _ (List.mem_of_getElem? (i := 0) (by decide +kernel))) (by decide +kernel)
theorem me_Jx4a65c_add_7a177 : me_ok yJx4a65c_add_7a177 cJx4a65c_add_7a177 5 none 2 := ⟨wm_Jx4a65c_add_7a177, wN_Jx4a65c, by decide +kernel, by decide, by decide +kernel⟩
theorem wm_Jx4a65c_add_9ea2d : Cond.code yJx4a65c_add_9ea2d cJx4a65c_add_9ea2d 2 (some .boolean) ∈ gw_t := gw_in (in_2 _ (List.mem_of_getElem? (i := 90) (by decide +kernel))) (by decide +kernel)
theorem me_Jx4a65c_add_9ea2d : me_ok yJx4a65c_add_9ea2d cJx4a65c_add_9ea2d 2 (some .boolean) 1 := ⟨wm_Jx4a65c_add_9ea2d, wN_Jx4a65c, by decide +kernel, by decide, by decide +kernel⟩
theorem wm_Jx4a65c_clear_da8c8 : Cond.code yJx4a65c_clear_da8c8 cJx4a65c_clear_da8c8 4 none ∈ gw_t := gw_in (in_1 _ (List.mem_of_getElem? (i := 173) (by decide +kernel))) (by decide +kernel)
theorem me_Jx4a65c_clear_da8c8 : me_ok yJx4a65c_clear_da8c8 cJx4a65c_clear_da8c8 4 none 0 := ⟨wm_Jx4a65c_clear_da8c8, wN_Jx4a65c, by decide +kernel, by decide, by decide +kernel⟩
theorem wm_Jx4a65c_elementData_915e3 : Cond.code yJx4a65c_elementData_915e3 cJx4a65c_elementData_915e3 2 (some (.object "java/lang/Object")) ∈ gw_t := gw_in (in_2 _ (List.mem_of_getElem? (i := 14) (by decide +kernel))) (by decide +kernel)
theorem me_Jx4a65c_elementData_915e3 : me_ok yJx4a65c_elementData_915e3 cJx4a65c_elementData_915e3 2 (some (.object "java/lang/Object")) 1 := ⟨wm_Jx4a65c_elementData_915e3, wN_Jx4a65c, by decide +kernel, by decide, by decide +kernel⟩
theorem wm_Jx4a65c_fastRemove_b59b0 : Cond.code yJx4a65c_fastRemove_b59b0 cJx4a65c_fastRemove_b59b0 4 none ∈ gw_t := gw_in (in_2 _ (List.mem_of_getElem? (i := 207) (by decide +kernel))) (by decide +kernel)
theorem me_Jx4a65c_fastRemove_b59b0 : me_ok yJx4a65c_fastRemove_b59b0 cJx4a65c_fastRemove_b59b0 4 none 2 := ⟨wm_Jx4a65c_fastRemove_b59b0, wN_Jx4a65c, by decide +kernel, by decide, by decide +kernel⟩
theorem wm_Jx4a65c_get_915e3 : Cond.code yJx4a65c_get_915e3 cJx4a65c_get_915e3 2 (some (.object "java/lang/Object")) ∈ gw_t := gw_in (in_2 _ (List.mem_of_getElem? (i := 4) (by decide +kernel))) (by decide +kernel)
theorem me_Jx4a65c_get_915e3 : me_ok yJx4a65c_get_915e3 cJx4a65c_get_915e3 2 (some (.object "java/lang/Object")) 1 := ⟨wm_Jx4a65c_get_915e3, wN_Jx4a65c, by decide +kernel, by decide, by decide +kernel⟩
theorem wm_Jx4a65c_grow_92f84 : Cond.code yJx4a65c_grow_92f84 cJx4a65c_grow_92f84 4 (some (.array (.object "java/lang/Object"))) ∈ gw_t := gw_in (in_2 _ (List.mem_of_getElem? (i := 102) (by decide +kernel))) (by decide +kernel)
theorem me_Jx4a65c_grow_92f84 : me_ok yJx4a65c_grow_92f84 cJx4a65c_grow_92f84 4 (some (.array (.object "java/lang/Object"))) 1 := ⟨wm_Jx4a65c_grow_92f84, wN_Jx4a65c, by decide +kernel, by decide, by decide +kernel⟩
theorem wm_Jx4a65c_grow_d5877 : Cond.code yJx4a65c_grow_d5877 cJx4a65c_grow_d5877 1 (some (.array (.object "java/lang/Object"))) ∈ gw_t := gw_in (in_2 _ (List.mem_of_getElem? (i := 98) (by decide +kernel))) (by decide +kernel)
theorem me_Jx4a65c_grow_d5877 : me_ok yJx4a65c_grow_d5877 cJx4a65c_grow_d5877 1 (some (.array (.object "java/lang/Object"))) 0 := ⟨wm_Jx4a65c_grow_d5877, wN_Jx4a65c, by decide +kernel, by decide, by decide +kernel⟩
theorem wm_Jx4a65c_init_da8c8 : Cond.code yJx4a65c_init_da8c8 cJx4a65c_init_da8c8 1 none ∈ gw_t := gw_in (in_1 _ (List.mem_of_getElem? (i := 98) (by decide +kernel))) (by decide +kernel)
theorem me_Jx4a65c_init_da8c8 : me_ok yJx4a65c_init_da8c8 cJx4a65c_init_da8c8 1 none 0 := ⟨wm_Jx4a65c_init_da8c8, wN_Jx4a65c, by decide +kernel, by decide, by decide +kernel⟩
theorem wm_Jx4a65c_isEmpty_aae02 : Cond.code yJx4a65c_isEmpty_aae02 cJx4a65c_isEmpty_aae02 1 (some .boolean) ∈ gw_t := gw_in (in_2 _ (List.mem_of_getElem? (i := 155) (by decide +kernel))) (by decide +kernel)
theorem me_Jx4a65c_isEmpty_aae02 : me_ok yJx4a65c_isEmpty_aae02 cJx4a65c_isEmpty_aae02 1 (some .boolean) 0 := ⟨wm_Jx4a65c_isEmpty_aae02, wN_Jx4a65c, by decide +kernel, by decide, by decide +kernel⟩
theorem wm_Jx4a65c_rangeCheckForAdd_d00df : Cond.code yJx4a65c_rangeCheckForAdd_d00df cJx4a65c_rangeCheckForAdd_d00df 2 none ∈ gw_t := gw_in (in_3 _ (List.mem_of_getElem? (i := 4) (by decide +kernel))) (by decide +kernel)
theorem me_Jx4a65c_rangeCheckForAdd_d00df : me_ok yJx4a65c_rangeCheckForAdd_d00df cJx4a65c_rangeCheckForAdd_d00df 2 none 1 := ⟨wm_Jx4a65c_rangeCheckForAdd_d00df, wN_Jx4a65c, by decide +kernel, by decide, by decide +kernel⟩
theorem wm_Jx4a65c_remove_915e3 : Cond.code yJx4a65c_remove_915e3 cJx4a65c_remove_915e3 4 (some (.object "java/lang/Object")) ∈ gw_t := gw_in (in_2 _ (List.mem_of_getElem? (i := 203) (by decide +kernel))) (by decide +kernel)
theorem me_Jx4a65c_remove_915e3 : me_ok yJx4a65c_remove_915e3 cJx4a65c_remove_915e3 4 (some (.object "java/lang/Object")) 1 := ⟨wm_Jx4a65c_remove_915e3, wN_Jx4a65c, by decide +kernel, by decide, by decide +kernel⟩
theorem wm_Jx4a65c_set_bcc79 : Cond.code yJx4a65c_set_bcc79 cJx4a65c_set_bcc79 4 (some (.object "java/lang/Object")) ∈ gw_t := gw_in (in_2 _ (List.mem_of_getElem? (i := 236) (by decide +kernel))) (by decide +kernel)
theorem me_Jx4a65c_set_bcc79 : me_ok yJx4a65c_set_bcc79 cJx4a65c_set_bcc79 4 (some (.object "java/lang/Object")) 2 := ⟨wm_Jx4a65c_set_bcc79, wN_Jx4a65c, by decide +kernel, by decide, by decide +kernel⟩
theorem wm_Jx4a65c_size_8abf5 : Cond.code yJx4a65c_size_8abf5 cJx4a65c_size_8abf5 1 (some .int) ∈ gw_t := gw_in (in_2 _ (List.mem_of_getElem? (i := 0) (by decide +kernel))) (by decide +kernel)
theorem me_Jx4a65c_size_8abf5 : me_ok yJx4a65c_size_8abf5 cJx4a65c_size_8abf5 1 (some .int) 0 := ⟨wm_Jx4a65c_size_8abf5, wN_Jx4a65c, by decide +kernel, by decide, by decide +kernel⟩
theorem wN_Jxa1e45 : Cond.initialized RJxa1e45 ∈ gw_t := gw_in (in_1 _ (List.mem_of_getElem? (i := 6) (by decide +kernel))) (by decide +kernel)
theorem wm_Jxa1e45_init_da8c8 : Cond.code yJxa1e45_init_da8c8 cJxa1e45_init_da8c8 1 none ∈ gw_t := gw_in (in_1 _ (List.mem_of_getElem? (i := 104) (by decide +kernel))) (by decide +kernel)
theorem me_Jxa1e45_init_da8c8 : me_ok yJxa1e45_init_da8c8 cJxa1e45_init_da8c8 1 none 0 := ⟨wm_Jxa1e45_init_da8c8, wN_Jxa1e45, by decide +kernel, by decide, by decide +kernel⟩
theorem wN_Jxc12de : Cond.initialized RJxc12de ∈ gw_t := gw_in (in_1 _ (List.mem_of_getElem? (i := 7) (by decide +kernel))) (by decide +kernel)
theorem wm_Jxc12de_init_da8c8 : Cond.code yJxc12de_init_da8c8 cJxc12de_init_da8c8 1 none ∈ gw_t := gw_in (in_1 _ (List.mem_of_getElem? (i := 101) (by decide +kernel))) (by decide +kernel)
theorem me_Jxc12de_init_da8c8 : me_ok yJxc12de_init_da8c8 cJxc12de_init_da8c8 1 none 0 := ⟨wm_Jxc12de_init_da8c8, wN_Jxc12de, by decide +kernel, by decide, by decide +kernel⟩
theorem wN_X0 : Cond.initialized RX0 ∈ gw_t := gw_in (in_1 _ (List.mem_of_getElem? (i := 3) (by decide +kernel))) (by decide +kernel)
theorem wm_X0_fallComes : Cond.code yX0_fallComes cX0_fallComes 1 (some .boolean) ∈ gw_t := gw_in (in_4 _ (List.mem_of_getElem? (i := 16) (by decide +kernel))) (by decide +kernel)
theorem me_X0_fallComes : me_ok yX0_fallComes cX0_fallComes 1 (some .boolean) 0 := ⟨wm_X0_fallComes, wN_X0, by decide +kernel, by decide, by decide +kernel⟩
theorem wm_X0_greatestPicture : Cond.code yX0_greatestPicture cX0_greatestPicture 3 (some .int) ∈ gw_t := gw_in (in_4 _ (List.mem_of_getElem? (i := 137) (by decide +kernel))) (by decide +kernel)
theorem me_X0_greatestPicture : me_ok yX0_greatestPicture cX0_greatestPicture 3 (some .int) 0 := ⟨wm_X0_greatestPicture, wN_X0, by decide +kernel, by decide, by decide +kernel⟩
theorem wm_X0_init : Cond.code yX0_init cX0_init 1 none ∈ gw_t := gw_in (in_1 _ (List.mem_of_getElem? (i := 49) (by decide +kernel))) (by decide +kernel)
theorem me_X0_init : me_ok yX0_init cX0_init 1 none 0 := ⟨wm_X0_init, wN_X0, by decide +kernel, by decide, by decide +kernel⟩
theorem wm_X0_latestHead : Cond.code yX0_latestHead cX0_latestHead 3 (some (.object "LetterTree$Head")) ∈ gw_t := gw_in (in_4 _ (List.mem_of_getElem? (i := 123) (by decide +kernel))) (by decide +kernel)
theorem me_X0_latestHead : me_ok yX0_latestHead cX0_latestHead 3 (some (.object "LetterTree$Head")) 0 := ⟨wm_X0_latestHead, wN_X0, by decide +kernel, by decide, by decide +kernel⟩
theorem wm_X0_markPages : Cond.code yX0_markPages cX0_markPages 4 none ∈ gw_t := gw_in (in_3 _ (List.mem_of_getElem? (i := 231) (by decide +kernel))) (by decide +kernel)
theorem me_X0_markPages : me_ok yX0_markPages cX0_markPages 4 none 3 := ⟨wm_X0_markPages, wN_X0, by decide +kernel, by decide, by decide +kernel⟩
theorem wm_X0_markPictures : Cond.code yX0_markPictures cX0_markPictures 3 none ∈ gw_t := gw_in (in_3 _ (List.mem_of_getElem? (i := 238) (by decide +kernel))) (by decide +kernel)
theorem me_X0_markPictures : me_ok yX0_markPictures cX0_markPictures 3 none 1 := ⟨wm_X0_markPictures, wN_X0, by decide +kernel, by decide, by decide +kernel⟩
theorem wm_X0_markTaken : Cond.code yX0_markTaken cX0_markTaken 5 none ∈ gw_t := gw_in (in_3 _ (List.mem_of_getElem? (i := 225) (by decide +kernel))) (by decide +kernel)
theorem me_X0_markTaken : me_ok yX0_markTaken cX0_markTaken 5 none 2 := ⟨wm_X0_markTaken, wN_X0, by decide +kernel, by decide, by decide +kernel⟩
theorem wm_X0_writeHead : Cond.code yX0_writeHead cX0_writeHead 4 (some .boolean) ∈ gw_t := gw_in (in_4 _ (List.mem_of_getElem? (i := 60) (by decide +kernel))) (by decide +kernel)
theorem me_X0_writeHead : me_ok yX0_writeHead cX0_writeHead 4 (some .boolean) 1 := ⟨wm_X0_writeHead, wN_X0, by decide +kernel, by decide, by decide +kernel⟩
theorem wm_X0_writePage : Cond.code yX0_writePage cX0_writePage 2 (some .boolean) ∈ gw_t := gw_in (in_4 _ (List.mem_of_getElem? (i := 11) (by decide +kernel))) (by decide +kernel)
theorem me_X0_writePage : me_ok yX0_writePage cX0_writePage 2 (some .boolean) 1 := ⟨wm_X0_writePage, wN_X0, by decide +kernel, by decide, by decide +kernel⟩
theorem wm_X0_writePages : Cond.code yX0_writePages cX0_writePages 4 (some .boolean) ∈ gw_t := gw_in (in_4 _ (List.mem_of_getElem? (i := 6) (by decide +kernel))) (by decide +kernel)
theorem me_X0_writePages : me_ok yX0_writePages cX0_writePages 4 (some .boolean) 3 := ⟨wm_X0_writePages, wN_X0, by decide +kernel, by decide, by decide +kernel⟩
theorem wN_X10 : Cond.initialized RX10 ∈ gw_t := gw_in (in_1 _ (List.mem_of_getElem? (i := 10) (by decide +kernel))) (by decide +kernel)
theorem wm_X10_actOnLeaf : Cond.code yX10_actOnLeaf cX10_actOnLeaf 11 none ∈ gw_t := gw_in (in_4 _ (List.mem_of_getElem? (i := 219) (by decide +kernel))) (by decide +kernel)
theorem me_X10_actOnLeaf : me_ok yX10_actOnLeaf cX10_actOnLeaf 11 none 4 := ⟨wm_X10_actOnLeaf, wN_X10, by decide +kernel, by decide, by decide +kernel⟩
theorem wm_X10_acts : Cond.code yX10_acts cX10_acts 4 (some .boolean) ∈ gw_t := gw_in (in_4 _ (List.mem_of_getElem? (i := 191) (by decide +kernel))) (by decide +kernel)
theorem me_X10_acts : me_ok yX10_acts cX10_acts 4 (some .boolean) 1 := ⟨wm_X10_acts, wN_X10, by decide +kernel, by decide, by decide +kernel⟩
theorem wm_X10_actsOnMap : Cond.code yX10_actsOnMap cX10_actsOnMap 6 (some .boolean) ∈ gw_t := gw_in (in_4 _ (List.mem_of_getElem? (i := 187) (by decide +kernel))) (by decide +kernel)
theorem me_X10_actsOnMap : me_ok yX10_actsOnMap cX10_actsOnMap 6 (some .boolean) 1 := ⟨wm_X10_actsOnMap, wN_X10, by decide +kernel, by decide, by decide +kernel⟩
theorem wm_X10_append : Cond.code yX10_append cX10_append 5 (some .int) ∈ gw_t := gw_in (in_5 _ (List.mem_of_getElem? (i := 47) (by decide +kernel))) (by decide +kernel)
theorem me_X10_append : me_ok yX10_append cX10_append 5 (some .int) 1 := ⟨wm_X10_append, wN_X10, by decide +kernel, by decide, by decide +kernel⟩
theorem wm_X10_begins : Cond.code yX10_begins cX10_begins 4 (some .boolean) ∈ gw_t := gw_in (in_4 _ (List.mem_of_getElem? (i := 199) (by decide +kernel))) (by decide +kernel)
theorem me_X10_begins : me_ok yX10_begins cX10_begins 4 (some .boolean) 1 := ⟨wm_X10_begins, wN_X10, by decide +kernel, by decide, by decide +kernel⟩
theorem wm_X10_below : Cond.code yX10_below cX10_below 6 (some .int) ∈ gw_t := gw_in (in_4 _ (List.mem_of_getElem? (i := 223) (by decide +kernel))) (by decide +kernel)
theorem me_X10_below : me_ok yX10_below cX10_below 6 (some .int) 2 := ⟨wm_X10_below, wN_X10, by decide +kernel, by decide, by decide +kernel⟩
theorem wm_X10_bend : Cond.code yX10_bend cX10_bend 3 (some .int) ∈ gw_t := gw_in (in_6 _ (List.mem_of_getElem? (i := 238) (by decide +kernel))) (by decide +kernel)
theorem me_X10_bend : me_ok yX10_bend cX10_bend 3 (some .int) 1 := ⟨wm_X10_bend, wN_X10, by decide +kernel, by decide, by decide +kernel⟩
theorem wm_X10_border : Cond.code yX10_border cX10_border 6 (some .int) ∈ gw_t := gw_in (in_6 _ (List.mem_of_getElem? (i := 134) (by decide +kernel))) (by decide +kernel)
theorem me_X10_border : me_ok yX10_border cX10_border 6 (some .int) 2 := ⟨wm_X10_border, wN_X10, by decide +kernel, by decide, by decide +kernel⟩
theorem wm_X10_byteAt : Cond.code yX10_byteAt cX10_byteAt 2 (some .int) ∈ gw_t := gw_in (in_4 _ (List.mem_of_getElem? (i := 166) (by decide +kernel))) (by decide +kernel)
theorem me_X10_byteAt : me_ok yX10_byteAt cX10_byteAt 2 (some .int) 1 := ⟨wm_X10_byteAt, wN_X10, by decide +kernel, by decide, by decide +kernel⟩
theorem wm_X10_chain : Cond.code yX10_chain cX10_chain 3 none ∈ gw_t := gw_in (in_5 _ (List.mem_of_getElem? (i := 3) (by decide +kernel))) (by decide +kernel)
theorem me_X10_chain : me_ok yX10_chain cX10_chain 3 none 2 := ⟨wm_X10_chain, wN_X10, by decide +kernel, by decide, by decide +kernel⟩
theorem wm_X10_changedPages : Cond.code yX10_changedPages cX10_changedPages 3 (some .int) ∈ gw_t := gw_in (in_6 _ (List.mem_of_getElem? (i := 162) (by decide +kernel))) (by decide +kernel)
theorem me_X10_changedPages : me_ok yX10_changedPages cX10_changedPages 3 (some .int) 0 := ⟨wm_X10_changedPages, wN_X10, by decide +kernel, by decide, by decide +kernel⟩
theorem wm_X10_clearPages : Cond.code yX10_clearPages cX10_clearPages 2 none ∈ gw_t := gw_in (in_5 _ (List.mem_of_getElem? (i := 98) (by decide +kernel))) (by decide +kernel)
theorem me_X10_clearPages : me_ok yX10_clearPages cX10_clearPages 2 none 0 := ⟨wm_X10_clearPages, wN_X10, by decide +kernel, by decide, by decide +kernel⟩
theorem wm_X10_comes : Cond.code yX10_comes cX10_comes 13 none ∈ gw_t := gw_in (in_4 _ (List.mem_of_getElem? (i := 235) (by decide +kernel))) (by decide +kernel)
theorem me_X10_comes : me_ok yX10_comes cX10_comes 13 none 4 := ⟨wm_X10_comes, wN_X10, by decide +kernel, by decide, by decide +kernel⟩
theorem wm_X10_copy : Cond.code yX10_copy cX10_copy 6 none ∈ gw_t := gw_in (in_4 _ (List.mem_of_getElem? (i := 195) (by decide +kernel))) (by decide +kernel)
theorem me_X10_copy : me_ok yX10_copy cX10_copy 6 none 4 := ⟨wm_X10_copy, wN_X10, by decide +kernel, by decide, by decide +kernel⟩
theorem wm_X10_count : Cond.code yX10_count cX10_count 1 (some .int) ∈ gw_t := gw_in (in_5 _ (List.mem_of_getElem? (i := 84) (by decide +kernel))) (by decide +kernel)
theorem me_X10_count : me_ok yX10_count cX10_count 1 (some .int) 0 := ⟨wm_X10_count, wN_X10, by decide +kernel, by decide, by decide +kernel⟩
theorem wm_X10_crash : Cond.code yX10_crash cX10_crash 1 (some .int) ∈ gw_t := gw_in (in_6 _ (List.mem_of_getElem? (i := 214) (by decide +kernel))) (by decide +kernel)
theorem me_X10_crash : me_ok yX10_crash cX10_crash 1 (some .int) 0 := ⟨wm_X10_crash, wN_X10, by decide +kernel, by decide, by decide +kernel⟩
theorem wm_X10_cut : Cond.code yX10_cut cX10_cut 2 (some .int) ∈ gw_t := gw_in (in_4 _ (List.mem_of_getElem? (i := 162) (by decide +kernel))) (by decide +kernel)
theorem me_X10_cut : me_ok yX10_cut cX10_cut 2 (some .int) 1 := ⟨wm_X10_cut, wN_X10, by decide +kernel, by decide, by decide +kernel⟩
theorem wm_X10_disk : Cond.code yX10_disk cX10_disk 3 (some .int) ∈ gw_t := gw_in (in_6 _ (List.mem_of_getElem? (i := 230) (by decide +kernel))) (by decide +kernel)
theorem me_X10_disk : me_ok yX10_disk cX10_disk 3 (some .int) 2 := ⟨wm_X10_disk, wN_X10, by decide +kernel, by decide, by decide +kernel⟩
theorem wm_X10_drop : Cond.code yX10_drop cX10_drop 5 (some .int) ∈ gw_t := gw_in (in_5 _ (List.mem_of_getElem? (i := 55) (by decide +kernel))) (by decide +kernel)
theorem me_X10_drop : me_ok yX10_drop cX10_drop 5 (some .int) 1 := ⟨wm_X10_drop, wN_X10, by decide +kernel, by decide, by decide +kernel⟩
theorem wm_X10_entry : Cond.code yX10_entry cX10_entry 6 (some .int) ∈ gw_t := gw_in (in_4 _ (List.mem_of_getElem? (i := 231) (by decide +kernel))) (by decide +kernel)
theorem me_X10_entry : me_ok yX10_entry cX10_entry 6 (some .int) 3 := ⟨wm_X10_entry, wN_X10, by decide +kernel, by decide, by decide +kernel⟩
theorem wm_X10_fall : Cond.code yX10_fall cX10_fall 2 (some .int) ∈ gw_t := gw_in (in_6 _ (List.mem_of_getElem? (i := 210) (by decide +kernel))) (by decide +kernel)
theorem me_X10_fall : me_ok yX10_fall cX10_fall 2 (some .int) 1 := ⟨wm_X10_fall, wN_X10, by decide +kernel, by decide, by decide +kernel⟩
theorem wm_X10_falls : Cond.code yX10_falls cX10_falls 2 (some .boolean) ∈ gw_t := gw_in (in_6 _ (List.mem_of_getElem? (i := 174) (by decide +kernel))) (by decide +kernel)
theorem me_X10_falls : me_ok yX10_falls cX10_falls 2 (some .boolean) 1 := ⟨wm_X10_falls, wN_X10, by decide +kernel, by decide, by decide +kernel⟩
theorem wm_X10_feed : Cond.code yX10_feed cX10_feed 5 (some .int) ∈ gw_t := gw_in (in_4 _ (List.mem_of_getElem? (i := 158) (by decide +kernel))) (by decide +kernel)
theorem me_X10_feed : me_ok yX10_feed cX10_feed 5 (some .int) 2 := ⟨wm_X10_feed, wN_X10, by decide +kernel, by decide, by decide +kernel⟩
theorem wm_X10_found : Cond.code yX10_found cX10_found 1 (some .long) ∈ gw_t := gw_in (in_5 _ (List.mem_of_getElem? (i := 80) (by decide +kernel))) (by decide +kernel)
theorem me_X10_found : me_ok yX10_found cX10_found 1 (some .long) 0 := ⟨wm_X10_found, wN_X10, by decide +kernel, by decide, by decide +kernel⟩
theorem wm_X10_free : Cond.code yX10_free cX10_free 1 (some .int) ∈ gw_t := gw_in (in_6 _ (List.mem_of_getElem? (i := 206) (by decide +kernel))) (by decide +kernel)
theorem me_X10_free : me_ok yX10_free cX10_free 1 (some .int) 0 := ⟨wm_X10_free, wN_X10, by decide +kernel, by decide, by decide +kernel⟩
theorem wm_X10_freePlaces : Cond.code yX10_freePlaces cX10_freePlaces 3 (some .int) ∈ gw_t := gw_in (in_6 _ (List.mem_of_getElem? (i := 150) (by decide +kernel))) (by decide +kernel)
theorem me_X10_freePlaces : me_ok yX10_freePlaces cX10_freePlaces 3 (some .int) 0 := ⟨wm_X10_freePlaces, wN_X10, by decide +kernel, by decide, by decide +kernel⟩
theorem wm_X10_get : Cond.code yX10_get cX10_get 5 (some .int) ∈ gw_t := gw_in (in_5 _ (List.mem_of_getElem? (i := 64) (by decide +kernel))) (by decide +kernel)
theorem me_X10_get : me_ok yX10_get cX10_get 5 (some .int) 1 := ⟨wm_X10_get, wN_X10, by decide +kernel, by decide, by decide +kernel⟩
theorem wm_X10_give : Cond.code yX10_give cX10_give 2 none ∈ gw_t := gw_in (in_5 _ (List.mem_of_getElem? (i := 39) (by decide +kernel))) (by decide +kernel)
theorem me_X10_give : me_ok yX10_give cX10_give 2 none 1 := ⟨wm_X10_give, wN_X10, by decide +kernel, by decide, by decide +kernel⟩
theorem wm_X10_giveLetters : Cond.code yX10_giveLetters cX10_giveLetters 11 none ∈ gw_t := gw_in (in_5 _ (List.mem_of_getElem? (i := 19) (by decide +kernel))) (by decide +kernel)
theorem me_X10_giveLetters : me_ok yX10_giveLetters cX10_giveLetters 11 none 3 := ⟨wm_X10_giveLetters, wN_X10, by decide +kernel, by decide, by decide +kernel⟩
theorem wm_X10_giveRoot : Cond.code yX10_giveRoot cX10_giveRoot 6 none ∈ gw_t := gw_in (in_4 _ (List.mem_of_getElem? (i := 215) (by decide +kernel))) (by decide +kernel)
theorem me_X10_giveRoot : me_ok yX10_giveRoot cX10_giveRoot 6 none 3 := ⟨wm_X10_giveRoot, wN_X10, by decide +kernel, by decide, by decide +kernel⟩
theorem wm_X10_grow : Cond.code yX10_grow cX10_grow 2 none ∈ gw_t := gw_in (in_5 _ (List.mem_of_getElem? (i := 43) (by decide +kernel))) (by decide +kernel)
theorem me_X10_grow : me_ok yX10_grow cX10_grow 2 none 0 := ⟨wm_X10_grow, wN_X10, by decide +kernel, by decide, by decide +kernel⟩
theorem wm_X10_has : Cond.code yX10_has cX10_has 3 (some .int) ∈ gw_t := gw_in (in_5 _ (List.mem_of_getElem? (i := 68) (by decide +kernel))) (by decide +kernel)
theorem me_X10_has : me_ok yX10_has cX10_has 3 (some .int) 1 := ⟨wm_X10_has, wN_X10, by decide +kernel, by decide, by decide +kernel⟩
theorem wm_X10_height : Cond.code yX10_height cX10_height 3 (some .int) ∈ gw_t := gw_in (in_6 _ (List.mem_of_getElem? (i := 118) (by decide +kernel))) (by decide +kernel)
theorem me_X10_height : me_ok yX10_height cX10_height 3 (some .int) 0 := ⟨wm_X10_height, wN_X10, by decide +kernel, by decide, by decide +kernel⟩
theorem wm_X10_init : Cond.code yX10_init cX10_init 1 none ∈ gw_t := gw_in (in_5 _ (List.mem_of_getElem? (i := 88) (by decide +kernel))) (by decide +kernel)
theorem me_X10_init : me_ok yX10_init cX10_init 1 none 0 := ⟨wm_X10_init, wN_X10, by decide +kernel, by decide, by decide +kernel⟩
theorem wm_X10_isAt : Cond.code yX10_isAt cX10_isAt 4 (some .boolean) ∈ gw_t := gw_in (in_4 _ (List.mem_of_getElem? (i := 179) (by decide +kernel))) (by decide +kernel)
theorem me_X10_isAt : me_ok yX10_isAt cX10_isAt 4 (some .boolean) 2 := ⟨wm_X10_isAt, wN_X10, by decide +kernel, by decide, by decide +kernel⟩
theorem wm_X10_isTooBig : Cond.code yX10_isTooBig cX10_isTooBig 2 (some .boolean) ∈ gw_t := gw_in (in_5 _ (List.mem_of_getElem? (i := 27) (by decide +kernel))) (by decide +kernel)
theorem me_X10_isTooBig : me_ok yX10_isTooBig cX10_isTooBig 2 (some .boolean) 1 := ⟨wm_X10_isTooBig, wN_X10, by decide +kernel, by decide, by decide +kernel⟩
theorem wm_X10_kidFor : Cond.code yX10_kidFor cX10_kidFor 5 (some .int) ∈ gw_t := gw_in (in_5 _ (List.mem_of_getElem? (i := 7) (by decide +kernel))) (by decide +kernel)
theorem me_X10_kidFor : me_ok yX10_kidFor cX10_kidFor 5 (some .int) 2 := ⟨wm_X10_kidFor, wN_X10, by decide +kernel, by decide, by decide +kernel⟩
theorem wm_X10_lay : Cond.code yX10_lay cX10_lay 6 none ∈ gw_t := gw_in (in_6 _ (List.mem_of_getElem? (i := 182) (by decide +kernel))) (by decide +kernel)
theorem me_X10_lay : me_ok yX10_lay cX10_lay 6 none 2 := ⟨wm_X10_lay, wN_X10, by decide +kernel, by decide, by decide +kernel⟩
theorem wm_X10_laysAll : Cond.code yX10_laysAll cX10_laysAll 3 (some .boolean) ∈ gw_t := gw_in (in_6 _ (List.mem_of_getElem? (i := 170) (by decide +kernel))) (by decide +kernel)
theorem me_X10_laysAll : me_ok yX10_laysAll cX10_laysAll 3 (some .boolean) 1 := ⟨wm_X10_laysAll, wN_X10, by decide +kernel, by decide, by decide +kernel⟩
theorem wm_X10_leastFree : Cond.code yX10_leastFree cX10_leastFree 2 (some .int) ∈ gw_t := gw_in (in_6 _ (List.mem_of_getElem? (i := 178) (by decide +kernel))) (by decide +kernel)
theorem me_X10_leastFree : me_ok yX10_leastFree cX10_leastFree 2 (some .int) 0 := ⟨wm_X10_leastFree, wN_X10, by decide +kernel, by decide, by decide +kernel⟩
theorem wm_X10_leave : Cond.code yX10_leave cX10_leave 4 none ∈ gw_t := gw_in (in_4 _ (List.mem_of_getElem? (i := 227) (by decide +kernel))) (by decide +kernel)
theorem me_X10_leave : me_ok yX10_leave cX10_leave 4 none 2 := ⟨wm_X10_leave, wN_X10, by decide +kernel, by decide, by decide +kernel⟩
theorem wm_X10_letter : Cond.code yX10_letter cX10_letter 8 none ∈ gw_t := gw_in (in_4 _ (List.mem_of_getElem? (i := 239) (by decide +kernel))) (by decide +kernel)
theorem me_X10_letter : me_ok yX10_letter cX10_letter 8 none 4 := ⟨wm_X10_letter, wN_X10, by decide +kernel, by decide, by decide +kernel⟩
theorem wm_X10_letter_ : Cond.code yX10_letter_ cX10_letter_ 6 (some .int) ∈ gw_t := gw_in (in_6 _ (List.mem_of_getElem? (i := 138) (by decide +kernel))) (by decide +kernel)
theorem me_X10_letter_ : me_ok yX10_letter_ cX10_letter_ 6 (some .int) 3 := ⟨wm_X10_letter_, wN_X10, by decide +kernel, by decide, by decide +kernel⟩
theorem wm_X10_letters : Cond.code yX10_letters cX10_letters 3 (some .int) ∈ gw_t := gw_in (in_6 _ (List.mem_of_getElem? (i := 122) (by decide +kernel))) (by decide +kernel)
theorem me_X10_letters : me_ok yX10_letters cX10_letters 3 (some .int) 0 := ⟨wm_X10_letters, wN_X10, by decide +kernel, by decide, by decide +kernel⟩
theorem wm_X10_load : Cond.code yX10_load cX10_load 6 (some .int) ∈ gw_t := gw_in (in_6 _ (List.mem_of_getElem? (i := 222) (by decide +kernel))) (by decide +kernel)
theorem me_X10_load : me_ok yX10_load cX10_load 6 (some .int) 1 := ⟨wm_X10_load, wN_X10, by decide +kernel, by decide, by decide +kernel⟩
theorem wm_X10_look : Cond.code yX10_look cX10_look 10 (some .int) ∈ gw_t := gw_in (in_6 _ (List.mem_of_getElem? (i := 190) (by decide +kernel))) (by decide +kernel)
theorem me_X10_look : me_ok yX10_look cX10_look 10 (some .int) 2 := ⟨wm_X10_look, wN_X10, by decide +kernel, by decide, by decide +kernel⟩
theorem wm_X10_mark : Cond.code yX10_mark cX10_mark 3 none ∈ gw_t := gw_in (in_6 _ (List.mem_of_getElem? (i := 154) (by decide +kernel))) (by decide +kernel)
theorem me_X10_mark : me_ok yX10_mark cX10_mark 3 none 0 := ⟨wm_X10_mark, wN_X10, by decide +kernel, by decide, by decide +kernel⟩
theorem wm_X10_met : Cond.code yX10_met cX10_met 6 (some .int) ∈ gw_t := gw_in (in_6 _ (List.mem_of_getElem? (i := 142) (by decide +kernel))) (by decide +kernel)
theorem me_X10_met : me_ok yX10_met cX10_met 6 (some .int) 1 := ⟨wm_X10_met, wN_X10, by decide +kernel, by decide, by decide +kernel⟩
theorem wm_X10_move : Cond.code yX10_move cX10_move 4 none ∈ gw_t := gw_in (in_4 _ (List.mem_of_getElem? (i := 207) (by decide +kernel))) (by decide +kernel)
theorem me_X10_move : me_ok yX10_move cX10_move 4 none 2 := ⟨wm_X10_move, wN_X10, by decide +kernel, by decide, by decide +kernel⟩
theorem wm_X10_next : Cond.code yX10_next cX10_next 4 (some .int) ∈ gw_t := gw_in (in_5 _ (List.mem_of_getElem? (i := 72) (by decide +kernel))) (by decide +kernel)
theorem me_X10_next : me_ok yX10_next cX10_next 4 (some .int) 1 := ⟨wm_X10_next, wN_X10, by decide +kernel, by decide, by decide +kernel⟩
theorem wm_X10_number : Cond.code yX10_number cX10_number 1 none ∈ gw_t := gw_in (in_6 _ (List.mem_of_getElem? (i := 106) (by decide +kernel))) (by decide +kernel)
theorem me_X10_number : me_ok yX10_number cX10_number 1 none 0 := ⟨wm_X10_number, wN_X10, by decide +kernel, by decide, by decide +kernel⟩
theorem wm_X10_number_ : Cond.code yX10_number_ cX10_number_ 2 (some .int) ∈ gw_t := gw_in (in_7 _ (List.mem_of_getElem? (i := 6) (by decide +kernel))) (by decide +kernel)
theorem me_X10_number_ : me_ok yX10_number_ cX10_number_ 2 (some .int) 1 := ⟨wm_X10_number_, wN_X10, by decide +kernel, by decide, by decide +kernel⟩
theorem wm_X10_open : Cond.code yX10_open cX10_open 5 none ∈ gw_t := gw_in (in_4 _ (List.mem_of_getElem? (i := 211) (by decide +kernel))) (by decide +kernel)
theorem me_X10_open : me_ok yX10_open cX10_open 5 none 2 := ⟨wm_X10_open, wN_X10, by decide +kernel, by decide, by decide +kernel⟩
theorem wm_X10_page : Cond.code yX10_page cX10_page 3 (some .int) ∈ gw_t := gw_in (in_5 _ (List.mem_of_getElem? (i := 35) (by decide +kernel))) (by decide +kernel)
theorem me_X10_page : me_ok yX10_page cX10_page 3 (some .int) 1 := ⟨wm_X10_page, wN_X10, by decide +kernel, by decide, by decide +kernel⟩
theorem wm_X10_page_ : Cond.code yX10_page_ cX10_page_ 4 (some .int) ∈ gw_t := gw_in (in_6 _ (List.mem_of_getElem? (i := 126) (by decide +kernel))) (by decide +kernel)
theorem me_X10_page_ : me_ok yX10_page_ cX10_page_ 4 (some .int) 2 := ⟨wm_X10_page_, wN_X10, by decide +kernel, by decide, by decide +kernel⟩
theorem wm_X10_pages : Cond.code yX10_pages cX10_pages 1 (some .int) ∈ gw_t := gw_in (in_6 _ (List.mem_of_getElem? (i := 114) (by decide +kernel))) (by decide +kernel)
theorem me_X10_pages : me_ok yX10_pages cX10_pages 1 (some .int) 0 := ⟨wm_X10_pages, wN_X10, by decide +kernel, by decide, by decide +kernel⟩
theorem wm_X10_pagesOf : Cond.code yX10_pagesOf cX10_pagesOf 4 (some .int) ∈ gw_t := gw_in (in_6 _ (List.mem_of_getElem? (i := 234) (by decide +kernel))) (by decide +kernel)
theorem me_X10_pagesOf : me_ok yX10_pagesOf cX10_pagesOf 4 (some .int) 1 := ⟨wm_X10_pagesOf, wN_X10, by decide +kernel, by decide, by decide +kernel⟩
theorem wm_X10_partKid : Cond.code yX10_partKid cX10_partKid 7 none ∈ gw_t := gw_in (in_5 _ (List.mem_of_getElem? (i := 23) (by decide +kernel))) (by decide +kernel)
theorem me_X10_partKid : me_ok yX10_partKid cX10_partKid 7 none 2 := ⟨wm_X10_partKid, wN_X10, by decide +kernel, by decide, by decide +kernel⟩
theorem wm_X10_partOf : Cond.code yX10_partOf cX10_partOf 10 none ∈ gw_t := gw_in (in_5 _ (List.mem_of_getElem? (i := 31) (by decide +kernel))) (by decide +kernel)
theorem me_X10_partOf : me_ok yX10_partOf cX10_partOf 10 none 1 := ⟨wm_X10_partOf, wN_X10, by decide +kernel, by decide, by decide +kernel⟩
theorem wm_X10_picture : Cond.code yX10_picture cX10_picture 3 (some .int) ∈ gw_t := gw_in (in_6 _ (List.mem_of_getElem? (i := 186) (by decide +kernel))) (by decide +kernel)
theorem me_X10_picture : me_ok yX10_picture cX10_picture 3 (some .int) 0 := ⟨wm_X10_picture, wN_X10, by decide +kernel, by decide, by decide +kernel⟩
theorem wm_X10_pictureAt : Cond.code yX10_pictureAt cX10_pictureAt 3 (some .int) ∈ gw_t := gw_in (in_6 _ (List.mem_of_getElem? (i := 194) (by decide +kernel))) (by decide +kernel)
theorem me_X10_pictureAt : me_ok yX10_pictureAt cX10_pictureAt 3 (some .int) 1 := ⟨wm_X10_pictureAt, wN_X10, by decide +kernel, by decide, by decide +kernel⟩
theorem wm_X10_pictured : Cond.code yX10_pictured cX10_pictured 2 (some .int) ∈ gw_t := gw_in (in_6 _ (List.mem_of_getElem? (i := 202) (by decide +kernel))) (by decide +kernel)
theorem me_X10_pictured : me_ok yX10_pictured cX10_pictured 2 (some .int) 1 := ⟨wm_X10_pictured, wN_X10, by decide +kernel, by decide, by decide +kernel⟩
theorem wm_X10_place : Cond.code yX10_place cX10_place 6 (some .int) ∈ gw_t := gw_in (in_4 _ (List.mem_of_getElem? (i := 175) (by decide +kernel))) (by decide +kernel)
theorem me_X10_place : me_ok yX10_place cX10_place 6 (some .int) 1 := ⟨wm_X10_place, wN_X10, by decide +kernel, by decide, by decide +kernel⟩
theorem wm_X10_prior : Cond.code yX10_prior cX10_prior 4 (some .int) ∈ gw_t := gw_in (in_5 _ (List.mem_of_getElem? (i := 76) (by decide +kernel))) (by decide +kernel)
theorem me_X10_prior : me_ok yX10_prior cX10_prior 4 (some .int) 1 := ⟨wm_X10_prior, wN_X10, by decide +kernel, by decide, by decide +kernel⟩
theorem wm_X10_put : Cond.code yX10_put cX10_put 6 (some .int) ∈ gw_t := gw_in (in_4 _ (List.mem_of_getElem? (i := 170) (by decide +kernel))) (by decide +kernel)
theorem me_X10_put : me_ok yX10_put cX10_put 6 (some .int) 1 := ⟨wm_X10_put, wN_X10, by decide +kernel, by decide, by decide +kernel⟩
theorem wm_X10_read : Cond.code yX10_read cX10_read 5 none ∈ gw_t := gw_in (in_6 _ (List.mem_of_getElem? (i := 226) (by decide +kernel))) (by decide +kernel)
theorem me_X10_read : me_ok yX10_read cX10_read 5 none 1 := ⟨wm_X10_read, wN_X10, by decide +kernel, by decide, by decide +kernel⟩
theorem wm_X10_release : Cond.code yX10_release cX10_release 4 (some .int) ∈ gw_t := gw_in (in_6 _ (List.mem_of_getElem? (i := 198) (by decide +kernel))) (by decide +kernel)
theorem me_X10_release : me_ok yX10_release cX10_release 4 (some .int) 1 := ⟨wm_X10_release, wN_X10, by decide +kernel, by decide, by decide +kernel⟩
theorem wm_X10_rise : Cond.code yX10_rise cX10_rise 3 (some .int) ∈ gw_t := gw_in (in_6 _ (List.mem_of_getElem? (i := 218) (by decide +kernel))) (by decide +kernel)
theorem me_X10_rise : me_ok yX10_rise cX10_rise 3 (some .int) 0 := ⟨wm_X10_rise, wN_X10, by decide +kernel, by decide, by decide +kernel⟩
theorem wm_X10_settle : Cond.code yX10_settle cX10_settle 6 (some .int) ∈ gw_t := gw_in (in_6 _ (List.mem_of_getElem? (i := 102) (by decide +kernel))) (by decide +kernel)
theorem me_X10_settle : me_ok yX10_settle cX10_settle 6 (some .int) 0 := ⟨wm_X10_settle, wN_X10, by decide +kernel, by decide, by decide +kernel⟩
theorem wm_X10_settlePage : Cond.code yX10_settlePage cX10_settlePage 3 none ∈ gw_t := gw_in (in_5 _ (List.mem_of_getElem? (i := 11) (by decide +kernel))) (by decide +kernel)
theorem me_X10_settlePage : me_ok yX10_settlePage cX10_settlePage 3 none 1 := ⟨wm_X10_settlePage, wN_X10, by decide +kernel, by decide, by decide +kernel⟩
theorem wm_X10_shut : Cond.code yX10_shut cX10_shut 4 none ∈ gw_t := gw_in (in_4 _ (List.mem_of_getElem? (i := 203) (by decide +kernel))) (by decide +kernel)
theorem me_X10_shut : me_ok yX10_shut cX10_shut 4 none 2 := ⟨wm_X10_shut, wN_X10, by decide +kernel, by decide, by decide +kernel⟩
theorem wm_X10_sink : Cond.code yX10_sink cX10_sink 2 (some .int) ∈ gw_t := gw_in (in_6 _ (List.mem_of_getElem? (i := 98) (by decide +kernel))) (by decide +kernel)
theorem me_X10_sink : me_ok yX10_sink cX10_sink 2 (some .int) 0 := ⟨wm_X10_sink, wN_X10, by decide +kernel, by decide, by decide +kernel⟩
theorem wm_X10_sinks : Cond.code yX10_sinks cX10_sinks 7 (some .int) ∈ gw_t := gw_in (in_5 _ (List.mem_of_getElem? (i := 15) (by decide +kernel))) (by decide +kernel)
theorem me_X10_sinks : me_ok yX10_sinks cX10_sinks 7 (some .int) 1 := ⟨wm_X10_sinks, wN_X10, by decide +kernel, by decide, by decide +kernel⟩
theorem wm_X10_spreadChanges : Cond.code yX10_spreadChanges cX10_spreadChanges 2 none ∈ gw_t := gw_in (in_6 _ (List.mem_of_getElem? (i := 130) (by decide +kernel))) (by decide +kernel)
theorem me_X10_spreadChanges : me_ok yX10_spreadChanges cX10_spreadChanges 2 none 0 := ⟨wm_X10_spreadChanges, wN_X10, by decide +kernel, by decide, by decide +kernel⟩
theorem wm_X10_swap : Cond.code yX10_swap cX10_swap 6 (some .int) ∈ gw_t := gw_in (in_5 _ (List.mem_of_getElem? (i := 51) (by decide +kernel))) (by decide +kernel)
theorem me_X10_swap : me_ok yX10_swap cX10_swap 6 (some .int) 2 := ⟨wm_X10_swap, wN_X10, by decide +kernel, by decide, by decide +kernel⟩
theorem wm_X10_sweep : Cond.code yX10_sweep cX10_sweep 8 (some .int) ∈ gw_t := gw_in (in_5 _ (List.mem_of_getElem? (i := 59) (by decide +kernel))) (by decide +kernel)
theorem me_X10_sweep : me_ok yX10_sweep cX10_sweep 8 (some .int) 2 := ⟨wm_X10_sweep, wN_X10, by decide +kernel, by decide, by decide +kernel⟩
theorem wm_X10_sync : Cond.code yX10_sync cX10_sync 2 (some .int) ∈ gw_t := gw_in (in_6 _ (List.mem_of_getElem? (i := 146) (by decide +kernel))) (by decide +kernel)
theorem me_X10_sync : me_ok yX10_sync cX10_sync 2 (some .int) 0 := ⟨wm_X10_sync, wN_X10, by decide +kernel, by decide, by decide +kernel⟩
theorem wm_X10_take : Cond.code yX10_take cX10_take 3 none ∈ gw_t := gw_in (in_6 _ (List.mem_of_getElem? (i := 158) (by decide +kernel))) (by decide +kernel)
theorem me_X10_take : me_ok yX10_take cX10_take 3 none 1 := ⟨wm_X10_take, wN_X10, by decide +kernel, by decide, by decide +kernel⟩
theorem wm_X10_visit : Cond.code yX10_visit cX10_visit 5 none ∈ gw_t := gw_in (in_6 _ (List.mem_of_getElem? (i := 110) (by decide +kernel))) (by decide +kernel)
theorem me_X10_visit : me_ok yX10_visit cX10_visit 5 none 3 := ⟨wm_X10_visit, wN_X10, by decide +kernel, by decide, by decide +kernel⟩
theorem wm_X10_write : Cond.code yX10_write cX10_write 7 (some .int) ∈ gw_t := gw_in (in_4 _ (List.mem_of_getElem? (i := 183) (by decide +kernel))) (by decide +kernel)
theorem me_X10_write : me_ok yX10_write cX10_write 7 (some .int) 3 := ⟨wm_X10_write, wN_X10, by decide +kernel, by decide, by decide +kernel⟩
theorem wm_X10_writeAll : Cond.code yX10_writeAll cX10_writeAll 4 (some .int) ∈ gw_t := gw_in (in_6 _ (List.mem_of_getElem? (i := 166) (by decide +kernel))) (by decide +kernel)
theorem me_X10_writeAll : me_ok yX10_writeAll cX10_writeAll 4 (some .int) 0 := ⟨wm_X10_writeAll, wN_X10, by decide +kernel, by decide, by decide +kernel⟩
theorem wm_X10_writes : Cond.code yX10_writes cX10_writes 2 (some .int) ∈ gw_t := gw_in (in_7 _ (List.mem_of_getElem? (i := 2) (by decide +kernel))) (by decide +kernel)
theorem me_X10_writes : me_ok yX10_writes cX10_writes 2 (some .int) 1 := ⟨wm_X10_writes, wN_X10, by decide +kernel, by decide, by decide +kernel⟩
theorem wN_X1 : Cond.initialized RX1 ∈ gw_t := gw_in (in_1 _ (List.mem_of_getElem? (i := 5) (by decide +kernel))) (by decide +kernel)
theorem wm_X1_act : Cond.code yX1_act cX1_act 6 (some .int) ∈ gw_t := gw_in (in_2 _ (List.mem_of_getElem? (i := 195) (by decide +kernel))) (by decide +kernel)
theorem me_X1_act : me_ok yX1_act cX1_act 6 (some .int) 1 := ⟨wm_X1_act, wN_X1, by decide +kernel, by decide, by decide +kernel⟩
theorem wm_X1_firstNotBelow : Cond.code yX1_firstNotBelow cX1_firstNotBelow 7 (some .int) ∈ gw_t := gw_in (in_1 _ (List.mem_of_getElem? (i := 236) (by decide +kernel))) (by decide +kernel)
theorem me_X1_firstNotBelow : me_ok yX1_firstNotBelow cX1_firstNotBelow 7 (some .int) 1 := ⟨wm_X1_firstNotBelow, wN_X1, by decide +kernel, by decide, by decide +kernel⟩
theorem wm_X1_hasAt : Cond.code yX1_hasAt cX1_hasAt 4 (some .boolean) ∈ gw_t := gw_in (in_2 _ (List.mem_of_getElem? (i := 19) (by decide +kernel))) (by decide +kernel)
theorem me_X1_hasAt : me_ok yX1_hasAt cX1_hasAt 4 (some .boolean) 2 := ⟨wm_X1_hasAt, wN_X1, by decide +kernel, by decide, by decide +kernel⟩
theorem wm_X1_init : Cond.code yX1_init cX1_init 1 none ∈ gw_t := gw_in (in_1 _ (List.mem_of_getElem? (i := 92) (by decide +kernel))) (by decide +kernel)
theorem me_X1_init : me_ok yX1_init cX1_init 1 none 0 := ⟨wm_X1_init, wN_X1, by decide +kernel, by decide, by decide +kernel⟩
theorem wm_X1_isChangedBy : Cond.code yX1_isChangedBy cX1_isChangedBy 3 (some .boolean) ∈ gw_t := gw_in (in_2 _ (List.mem_of_getElem? (i := 161) (by decide +kernel))) (by decide +kernel)
theorem me_X1_isChangedBy : me_ok yX1_isChangedBy cX1_isChangedBy 3 (some .boolean) 1 := ⟨wm_X1_isChangedBy, wN_X1, by decide +kernel, by decide, by decide +kernel⟩
theorem wm_X1_removeFrom : Cond.code yX1_removeFrom cX1_removeFrom 6 (some .int) ∈ gw_t := gw_in (in_2 _ (List.mem_of_getElem? (i := 199) (by decide +kernel))) (by decide +kernel)
theorem me_X1_removeFrom : me_ok yX1_removeFrom cX1_removeFrom 6 (some .int) 2 := ⟨wm_X1_removeFrom, wN_X1, by decide +kernel, by decide, by decide +kernel⟩
theorem wm_X1_rowOf : Cond.code yX1_rowOf cX1_rowOf 4 (some (.array .byte)) ∈ gw_t := gw_in (in_1 _ (List.mem_of_getElem? (i := 232) (by decide +kernel))) (by decide +kernel)
theorem me_X1_rowOf : me_ok yX1_rowOf cX1_rowOf 4 (some (.array .byte)) 1 := ⟨wm_X1_rowOf, wN_X1, by decide +kernel, by decide, by decide +kernel⟩
theorem wN_X2 : Cond.initialized RX2 ∈ gw_t := gw_in (in_1 _ (List.mem_of_getElem? (i := 18) (by decide +kernel))) (by decide +kernel)
theorem wm_X2_init : Cond.code yX2_init cX2_init 4 none ∈ gw_t := gw_in (in_2 _ (List.mem_of_getElem? (i := 220) (by decide +kernel))) (by decide +kernel)
theorem me_X2_init : me_ok yX2_init cX2_init 4 none 2 := ⟨wm_X2_init, wN_X2, by decide +kernel, by decide, by decide +kernel⟩
theorem wN_X3 : Cond.initialized RX3 ∈ gw_t := gw_in (in_1 _ (List.mem_of_getElem? (i := 19) (by decide +kernel))) (by decide +kernel)
theorem wm_X3_init : Cond.code yX3_init cX3_init 5 none ∈ gw_t := gw_in (in_4 _ (List.mem_of_getElem? (i := 25) (by decide +kernel))) (by decide +kernel)
theorem me_X3_init : me_ok yX3_init cX3_init 5 none 4 := ⟨wm_X3_init, wN_X3, by decide +kernel, by decide, by decide +kernel⟩
theorem wN_X4 : Cond.initialized RX4 ∈ gw_t := gw_in (in_1 _ (List.mem_of_getElem? (i := 16) (by decide +kernel))) (by decide +kernel)
theorem wm_X4_changes : Cond.code yX4_changes cX4_changes 4 (some .boolean) ∈ gw_t := gw_in (in_2 _ (List.mem_of_getElem? (i := 169) (by decide +kernel))) (by decide +kernel)
theorem me_X4_changes : me_ok yX4_changes cX4_changes 4 (some .boolean) 1 := ⟨wm_X4_changes, wN_X4, by decide +kernel, by decide, by decide +kernel⟩
theorem wm_X4_init : Cond.code yX4_init cX4_init 9 none ∈ gw_t := gw_in (in_2 _ (List.mem_of_getElem? (i := 57) (by decide +kernel))) (by decide +kernel)
theorem me_X4_init : me_ok yX4_init cX4_init 9 none 6 := ⟨wm_X4_init, wN_X4, by decide +kernel, by decide, by decide +kernel⟩
theorem wm_X4_meets : Cond.code yX4_meets cX4_meets 3 (some .boolean) ∈ gw_t := gw_in (in_2 _ (List.mem_of_getElem? (i := 165) (by decide +kernel))) (by decide +kernel)
theorem me_X4_meets : me_ok yX4_meets cX4_meets 3 (some .boolean) 1 := ⟨wm_X4_meets, wN_X4, by decide +kernel, by decide, by decide +kernel⟩
theorem wm_X4_rowAfter : Cond.code yX4_rowAfter cX4_rowAfter 5 (some (.array .byte)) ∈ gw_t := gw_in (in_2 _ (List.mem_of_getElem? (i := 213) (by decide +kernel))) (by decide +kernel)
theorem me_X4_rowAfter : me_ok yX4_rowAfter cX4_rowAfter 5 (some (.array .byte)) 1 := ⟨wm_X4_rowAfter, wN_X4, by decide +kernel, by decide, by decide +kernel⟩
theorem wN_X5 : Cond.initialized RX5 ∈ gw_t := gw_in (in_1 _ (List.mem_of_getElem? (i := 9) (by decide +kernel))) (by decide +kernel)
theorem wm_X5_copyInto : Cond.code yX5_copyInto cX5_copyInto 5 none ∈ gw_t := gw_in (in_2 _ (List.mem_of_getElem? (i := 185) (by decide +kernel))) (by decide +kernel)
theorem me_X5_copyInto : me_ok yX5_copyInto cX5_copyInto 5 none 3 := ⟨wm_X5_copyInto, wN_X5, by decide +kernel, by decide, by decide +kernel⟩
theorem wm_X5_fullestKid : Cond.code yX5_fullestKid cX5_fullestKid 5 (some .int) ∈ gw_t := gw_in (in_3 _ (List.mem_of_getElem? (i := 29) (by decide +kernel))) (by decide +kernel)
theorem me_X5_fullestKid : me_ok yX5_fullestKid cX5_fullestKid 5 (some .int) 0 := ⟨wm_X5_fullestKid, wN_X5, by decide +kernel, by decide, by decide +kernel⟩
theorem wm_X5_init : Cond.code yX5_init cX5_init 4 none ∈ gw_t := gw_in (in_1 _ (List.mem_of_getElem? (i := 138) (by decide +kernel))) (by decide +kernel)
theorem me_X5_init : me_ok yX5_init cX5_init 4 none 2 := ⟨wm_X5_init, wN_X5, by decide +kernel, by decide, by decide +kernel⟩
theorem wm_X5_isChangedBy : Cond.code yX5_isChangedBy cX5_isChangedBy 3 (some .boolean) ∈ gw_t := gw_in (in_2 _ (List.mem_of_getElem? (i := 146) (by decide +kernel))) (by decide +kernel)
theorem me_X5_isChangedBy : me_ok yX5_isChangedBy cX5_isChangedBy 3 (some .boolean) 1 := ⟨wm_X5_isChangedBy, wN_X5, by decide +kernel, by decide, by decide +kernel⟩
theorem wm_X5_isLeaf : Cond.code yX5_isLeaf cX5_isLeaf 1 (some .boolean) ∈ gw_t := gw_in (in_2 _ (List.mem_of_getElem? (i := 151) (by decide +kernel))) (by decide +kernel)
theorem me_X5_isLeaf : me_ok yX5_isLeaf cX5_isLeaf 1 (some .boolean) 0 := ⟨wm_X5_isLeaf, wN_X5, by decide +kernel, by decide, by decide +kernel⟩
theorem wm_X5_isTooBig : Cond.code yX5_isTooBig cX5_isTooBig 1 (some .boolean) ∈ gw_t := gw_in (in_3 _ (List.mem_of_getElem? (i := 53) (by decide +kernel))) (by decide +kernel)
theorem me_X5_isTooBig : me_ok yX5_isTooBig cX5_isTooBig 1 (some .boolean) 0 := ⟨wm_X5_isTooBig, wN_X5, by decide +kernel, by decide, by decide +kernel⟩
theorem wm_X5_kidFor : Cond.code yX5_kidFor cX5_kidFor 5 (some .int) ∈ gw_t := gw_in (in_3 _ (List.mem_of_getElem? (i := 209) (by decide +kernel))) (by decide +kernel)
theorem me_X5_kidFor : me_ok yX5_kidFor cX5_kidFor 5 (some .int) 1 := ⟨wm_X5_kidFor, wN_X5, by decide +kernel, by decide, by decide +kernel⟩
theorem wm_X5_lastKeyOf : Cond.code yX5_lastKeyOf cX5_lastKeyOf 2 (some .long) ∈ gw_t := gw_in (in_3 _ (List.mem_of_getElem? (i := 15) (by decide +kernel))) (by decide +kernel)
theorem me_X5_lastKeyOf : me_ok yX5_lastKeyOf cX5_lastKeyOf 2 (some .long) 1 := ⟨wm_X5_lastKeyOf, wN_X5, by decide +kernel, by decide, by decide +kernel⟩
theorem wm_X5_lettersFrom : Cond.code yX5_lettersFrom cX5_lettersFrom 9 (some .int) ∈ gw_t := gw_in (in_3 _ (List.mem_of_getElem? (i := 33) (by decide +kernel))) (by decide +kernel)
theorem me_X5_lettersFrom : me_ok yX5_lettersFrom cX5_lettersFrom 9 (some .int) 2 := ⟨wm_X5_lettersFrom, wN_X5, by decide +kernel, by decide, by decide +kernel⟩
theorem wm_X5_moveLetters : Cond.code yX5_moveLetters cX5_moveLetters 9 none ∈ gw_t := gw_in (in_3 _ (List.mem_of_getElem? (i := 42) (by decide +kernel))) (by decide +kernel)
theorem me_X5_moveLetters : me_ok yX5_moveLetters cX5_moveLetters 9 none 3 := ⟨wm_X5_moveLetters, wN_X5, by decide +kernel, by decide, by decide +kernel⟩
theorem wm_X5_opened : Cond.code yX5_opened cX5_opened 3 (some (.object "LetterTree$Page")) ∈ gw_t := gw_in (in_2 _ (List.mem_of_getElem? (i := 173) (by decide +kernel))) (by decide +kernel)
theorem me_X5_opened : me_ok yX5_opened cX5_opened 3 (some (.object "LetterTree$Page")) 0 := ⟨wm_X5_opened, wN_X5, by decide +kernel, by decide, by decide +kernel⟩
theorem wm_X5_partKid : Cond.code yX5_partKid cX5_partKid 9 none ∈ gw_t := gw_in (in_3 _ (List.mem_of_getElem? (i := 49) (by decide +kernel))) (by decide +kernel)
theorem me_X5_partKid : me_ok yX5_partKid cX5_partKid 9 none 1 := ⟨wm_X5_partKid, wN_X5, by decide +kernel, by decide, by decide +kernel⟩
theorem wm_X5_partOf : Cond.code yX5_partOf cX5_partOf 6 (some (.object "LetterTree$Page")) ∈ gw_t := gw_in (in_3 _ (List.mem_of_getElem? (i := 58) (by decide +kernel))) (by decide +kernel)
theorem me_X5_partOf : me_ok yX5_partOf cX5_partOf 6 (some (.object "LetterTree$Page")) 2 := ⟨wm_X5_partOf, wN_X5, by decide +kernel, by decide, by decide +kernel⟩
theorem wm_X5_takeIn : Cond.code yX5_takeIn cX5_takeIn 4 none ∈ gw_t := gw_in (in_2 _ (List.mem_of_getElem? (i := 191) (by decide +kernel))) (by decide +kernel)
theorem me_X5_takeIn : me_ok yX5_takeIn cX5_takeIn 4 none 1 := ⟨wm_X5_takeIn, wN_X5, by decide +kernel, by decide, by decide +kernel⟩
theorem wm_X5_takeInParts : Cond.code yX5_takeInParts cX5_takeInParts 7 none ∈ gw_t := gw_in (in_3 _ (List.mem_of_getElem? (i := 8) (by decide +kernel))) (by decide +kernel)
theorem me_X5_takeInParts : me_ok yX5_takeInParts cX5_takeInParts 7 none 1 := ⟨wm_X5_takeInParts, wN_X5, by decide +kernel, by decide, by decide +kernel⟩
theorem wm_X5_width : Cond.code yX5_width cX5_width 1 (some .int) ∈ gw_t := gw_in (in_2 _ (List.mem_of_getElem? (i := 181) (by decide +kernel))) (by decide +kernel)
theorem me_X5_width : me_ok yX5_width cX5_width 1 (some .int) 0 := ⟨wm_X5_width, wN_X5, by decide +kernel, by decide, by decide +kernel⟩
theorem wN_X6 : Cond.initialized RX6 ∈ gw_t := gw_in (in_1 _ (List.mem_of_getElem? (i := 20) (by decide +kernel))) (by decide +kernel)
theorem wm_X6_init : Cond.code yX6_init cX6_init 3 none ∈ gw_t := gw_in (in_4 _ (List.mem_of_getElem? (i := 68) (by decide +kernel))) (by decide +kernel)
theorem me_X6_init : me_ok yX6_init cX6_init 3 none 2 := ⟨wm_X6_init, wN_X6, by decide +kernel, by decide, by decide +kernel⟩
theorem wN_X7 : Cond.initialized RX7 ∈ gw_t := gw_in (in_1 _ (List.mem_of_getElem? (i := 2) (by decide +kernel))) (by decide +kernel)
theorem wm_X7_addBytes : Cond.code yX7_addBytes cX7_addBytes 5 none ∈ gw_t := gw_in (in_1 _ (List.mem_of_getElem? (i := 212) (by decide +kernel))) (by decide +kernel)
theorem me_X7_addBytes : me_ok yX7_addBytes cX7_addBytes 5 none 2 := ⟨wm_X7_addBytes, wN_X7, by decide +kernel, by decide, by decide +kernel⟩
theorem wm_X7_become : Cond.code yX7_become cX7_become 2 none ∈ gw_t := gw_in (in_3 _ (List.mem_of_getElem? (i := 99) (by decide +kernel))) (by decide +kernel)
theorem me_X7_become : me_ok yX7_become cX7_become 2 none 1 := ⟨wm_X7_become, wN_X7, by decide +kernel, by decide, by decide +kernel⟩
theorem wm_X7_init : Cond.code yX7_init cX7_init 1 none ∈ gw_t := gw_in (in_1 _ (List.mem_of_getElem? (i := 33) (by decide +kernel))) (by decide +kernel)
theorem me_X7_init : me_ok yX7_init cX7_init 1 none 0 := ⟨wm_X7_init, wN_X7, by decide +kernel, by decide, by decide +kernel⟩
theorem wm_X7_part : Cond.code yX7_part cX7_part 3 (some (.array .byte)) ∈ gw_t := gw_in (in_2 _ (List.mem_of_getElem? (i := 29) (by decide +kernel))) (by decide +kernel)
theorem me_X7_part : me_ok yX7_part cX7_part 3 (some (.array .byte)) 2 := ⟨wm_X7_part, wN_X7, by decide +kernel, by decide, by decide +kernel⟩
theorem wN_X8 : Cond.initialized RX8 ∈ gw_t := gw_in (in_1 _ (List.mem_of_getElem? (i := 4) (by decide +kernel))) (by decide +kernel)
theorem wm_X8_changedIn : Cond.code yX8_changedIn cX8_changedIn 4 (some .int) ∈ gw_t := gw_in (in_3 _ (List.mem_of_getElem? (i := 216) (by decide +kernel))) (by decide +kernel)
theorem me_X8_changedIn : me_ok yX8_changedIn cX8_changedIn 4 (some .int) 2 := ⟨wm_X8_changedIn, wN_X8, by decide +kernel, by decide, by decide +kernel⟩
theorem wm_X8_gather : Cond.code yX8_gather cX8_gather 4 none ∈ gw_t := gw_in (in_4 _ (List.mem_of_getElem? (i := 130) (by decide +kernel))) (by decide +kernel)
theorem me_X8_gather : me_ok yX8_gather cX8_gather 4 none 3 := ⟨wm_X8_gather, wN_X8, by decide +kernel, by decide, by decide +kernel⟩
theorem wm_X8_give : Cond.code yX8_give cX8_give 6 (some (.object "LetterTree$Page")) ∈ gw_t := gw_in (in_2 _ (List.mem_of_getElem? (i := 142) (by decide +kernel))) (by decide +kernel)
theorem me_X8_give : me_ok yX8_give cX8_give 6 (some (.object "LetterTree$Page")) 3 := ⟨wm_X8_give, wN_X8, by decide +kernel, by decide, by decide +kernel⟩
theorem wm_X8_init : Cond.code yX8_init cX8_init 1 none ∈ gw_t := gw_in (in_1 _ (List.mem_of_getElem? (i := 81) (by decide +kernel))) (by decide +kernel)
theorem me_X8_init : me_ok yX8_init cX8_init 1 none 0 := ⟨wm_X8_init, wN_X8, by decide +kernel, by decide, by decide +kernel⟩
theorem wm_X8_lettersIn : Cond.code yX8_lettersIn cX8_lettersIn 4 (some .int) ∈ gw_t := gw_in (in_3 _ (List.mem_of_getElem? (i := 152) (by decide +kernel))) (by decide +kernel)
theorem me_X8_lettersIn : me_ok yX8_lettersIn cX8_lettersIn 4 (some .int) 2 := ⟨wm_X8_lettersIn, wN_X8, by decide +kernel, by decide, by decide +kernel⟩
theorem wm_X8_lettersOnWay : Cond.code yX8_lettersOnWay cX8_lettersOnWay 7 (some .int) ∈ gw_t := gw_in (in_3 _ (List.mem_of_getElem? (i := 203) (by decide +kernel))) (by decide +kernel)
theorem me_X8_lettersOnWay : me_ok yX8_lettersOnWay cX8_lettersOnWay 7 (some .int) 1 := ⟨wm_X8_lettersOnWay, wN_X8, by decide +kernel, by decide, by decide +kernel⟩
theorem wm_X8_levels : Cond.code yX8_levels cX8_levels 4 (some .int) ∈ gw_t := gw_in (in_3 _ (List.mem_of_getElem? (i := 171) (by decide +kernel))) (by decide +kernel)
theorem me_X8_levels : me_ok yX8_levels cX8_levels 4 (some .int) 0 := ⟨wm_X8_levels, wN_X8, by decide +kernel, by decide, by decide +kernel⟩
theorem wm_X8_pageAt : Cond.code yX8_pageAt cX8_pageAt 7 (some (.object "LetterTree$Page")) ∈ gw_t := gw_in (in_3 _ (List.mem_of_getElem? (i := 184) (by decide +kernel))) (by decide +kernel)
theorem me_X8_pageAt : me_ok yX8_pageAt cX8_pageAt 7 (some (.object "LetterTree$Page")) 3 := ⟨wm_X8_pageAt, wN_X8, by decide +kernel, by decide, by decide +kernel⟩
theorem wm_X8_pagesIn : Cond.code yX8_pagesIn cX8_pagesIn 4 (some .int) ∈ gw_t := gw_in (in_3 _ (List.mem_of_getElem? (i := 162) (by decide +kernel))) (by decide +kernel)
theorem me_X8_pagesIn : me_ok yX8_pagesIn cX8_pagesIn 4 (some .int) 2 := ⟨wm_X8_pagesIn, wN_X8, by decide +kernel, by decide, by decide +kernel⟩
theorem wm_X8_partRoot : Cond.code yX8_partRoot cX8_partRoot 3 none ∈ gw_t := gw_in (in_3 _ (List.mem_of_getElem? (i := 64) (by decide +kernel))) (by decide +kernel)
theorem me_X8_partRoot : me_ok yX8_partRoot cX8_partRoot 3 none 0 := ⟨wm_X8_partRoot, wN_X8, by decide +kernel, by decide, by decide +kernel⟩
theorem wm_X8_rowIn : Cond.code yX8_rowIn cX8_rowIn 7 (some (.array .byte)) ∈ gw_t := gw_in (in_4 _ (List.mem_of_getElem? (i := 90) (by decide +kernel))) (by decide +kernel)
theorem me_X8_rowIn : me_ok yX8_rowIn cX8_rowIn 7 (some (.array .byte)) 3 := ⟨wm_X8_rowIn, wN_X8, by decide +kernel, by decide, by decide +kernel⟩
theorem wm_X8_settleAll : Cond.code yX8_settleAll cX8_settleAll 4 (some .int) ∈ gw_t := gw_in (in_3 _ (List.mem_of_getElem? (i := 148) (by decide +kernel))) (by decide +kernel)
theorem me_X8_settleAll : me_ok yX8_settleAll cX8_settleAll 4 (some .int) 0 := ⟨wm_X8_settleAll, wN_X8, by decide +kernel, by decide, by decide +kernel⟩
theorem wm_X8_settleBelow : Cond.code yX8_settleBelow cX8_settleBelow 8 (some .int) ∈ gw_t := gw_in (in_3 _ (List.mem_of_getElem? (i := 155) (by decide +kernel))) (by decide +kernel)
theorem me_X8_settleBelow : me_ok yX8_settleBelow cX8_settleBelow 8 (some .int) 2 := ⟨wm_X8_settleBelow, wN_X8, by decide +kernel, by decide, by decide +kernel⟩
theorem wm_X8_sinkPage : Cond.code yX8_sinkPage cX8_sinkPage 5 (some .int) ∈ gw_t := gw_in (in_3 _ (List.mem_of_getElem? (i := 25) (by decide +kernel))) (by decide +kernel)
theorem me_X8_sinkPage : me_ok yX8_sinkPage cX8_sinkPage 5 (some .int) 2 := ⟨wm_X8_sinkPage, wN_X8, by decide +kernel, by decide, by decide +kernel⟩
theorem wm_X8_sinkRoot : Cond.code yX8_sinkRoot cX8_sinkRoot 2 (some .int) ∈ gw_t := gw_in (in_3 _ (List.mem_of_getElem? (i := 138) (by decide +kernel))) (by decide +kernel)
theorem me_X8_sinkRoot : me_ok yX8_sinkRoot cX8_sinkRoot 2 (some .int) 0 := ⟨wm_X8_sinkRoot, wN_X8, by decide +kernel, by decide, by decide +kernel⟩
theorem wN_X9 : Cond.initialized RX9 ∈ gw_t := gw_in (in_1 _ (List.mem_of_getElem? (i := 1) (by decide +kernel))) (by decide +kernel)
theorem wm_X9_adopt : Cond.code yX9_adopt cX9_adopt 2 none ∈ gw_t := gw_in (in_4 _ (List.mem_of_getElem? (i := 127) (by decide +kernel))) (by decide +kernel)
theorem me_X9_adopt : me_ok yX9_adopt cX9_adopt 2 none 1 := ⟨wm_X9_adopt, wN_X9, by decide +kernel, by decide, by decide +kernel⟩
theorem wm_X9_append : Cond.code yX9_append cX9_append 5 (some .int) ∈ gw_t := gw_in (in_3 _ (List.mem_of_getElem? (i := 75) (by decide +kernel))) (by decide +kernel)
theorem me_X9_append : me_ok yX9_append cX9_append 5 (some .int) 1 := ⟨wm_X9_append, wN_X9, by decide +kernel, by decide, by decide +kernel⟩
theorem wm_X9_bend : Cond.code yX9_bend cX9_bend 3 (some .int) ∈ gw_t := gw_in (in_4 _ (List.mem_of_getElem? (i := 146) (by decide +kernel))) (by decide +kernel)
theorem me_X9_bend : me_ok yX9_bend cX9_bend 3 (some .int) 1 := ⟨wm_X9_bend, wN_X9, by decide +kernel, by decide, by decide +kernel⟩
theorem wm_X9_border : Cond.code yX9_border cX9_border 4 (some .int) ∈ gw_t := gw_in (in_3 _ (List.mem_of_getElem? (i := 191) (by decide +kernel))) (by decide +kernel)
theorem me_X9_border : me_ok yX9_border cX9_border 4 (some .int) 2 := ⟨wm_X9_border, wN_X9, by decide +kernel, by decide, by decide +kernel⟩
theorem wm_X9_byteAt : Cond.code yX9_byteAt cX9_byteAt 2 (some .int) ∈ gw_t := gw_in (in_1 _ (List.mem_of_getElem? (i := 220) (by decide +kernel))) (by decide +kernel)
theorem me_X9_byteAt : me_ok yX9_byteAt cX9_byteAt 2 (some .int) 1 := ⟨wm_X9_byteAt, wN_X9, by decide +kernel, by decide, by decide +kernel⟩
theorem wm_X9_copyPictures : Cond.code yX9_copyPictures cX9_copyPictures 3 none ∈ gw_t := gw_in (in_4 _ (List.mem_of_getElem? (i := 55) (by decide +kernel))) (by decide +kernel)
theorem me_X9_copyPictures : me_ok yX9_copyPictures cX9_copyPictures 3 none 2 := ⟨wm_X9_copyPictures, wN_X9, by decide +kernel, by decide, by decide +kernel⟩
theorem wm_X9_count : Cond.code yX9_count cX9_count 1 (some .int) ∈ gw_t := gw_in (in_3 _ (List.mem_of_getElem? (i := 130) (by decide +kernel))) (by decide +kernel)
theorem me_X9_count : me_ok yX9_count cX9_count 1 (some .int) 0 := ⟨wm_X9_count, wN_X9, by decide +kernel, by decide, by decide +kernel⟩
theorem wm_X9_crash : Cond.code yX9_crash cX9_crash 1 (some .int) ∈ gw_t := gw_in (in_4 _ (List.mem_of_getElem? (i := 115) (by decide +kernel))) (by decide +kernel)
theorem me_X9_crash : me_ok yX9_crash cX9_crash 1 (some .int) 0 := ⟨wm_X9_crash, wN_X9, by decide +kernel, by decide, by decide +kernel⟩
theorem wm_X9_cut : Cond.code yX9_cut cX9_cut 2 (some .int) ∈ gw_t := gw_in (in_1 _ (List.mem_of_getElem? (i := 216) (by decide +kernel))) (by decide +kernel)
theorem me_X9_cut : me_ok yX9_cut cX9_cut 2 (some .int) 1 := ⟨wm_X9_cut, wN_X9, by decide +kernel, by decide, by decide +kernel⟩
theorem wm_X9_disk : Cond.code yX9_disk cX9_disk 4 (some .int) ∈ gw_t := gw_in (in_4 _ (List.mem_of_getElem? (i := 142) (by decide +kernel))) (by decide +kernel)
theorem me_X9_disk : me_ok yX9_disk cX9_disk 4 (some .int) 2 := ⟨wm_X9_disk, wN_X9, by decide +kernel, by decide, by decide +kernel⟩
theorem wm_X9_drop : Cond.code yX9_drop cX9_drop 4 (some .int) ∈ gw_t := gw_in (in_3 _ (List.mem_of_getElem? (i := 83) (by decide +kernel))) (by decide +kernel)
theorem me_X9_drop : me_ok yX9_drop cX9_drop 4 (some .int) 1 := ⟨wm_X9_drop, wN_X9, by decide +kernel, by decide, by decide +kernel⟩
theorem wm_X9_fall : Cond.code yX9_fall cX9_fall 2 (some .int) ∈ gw_t := gw_in (in_4 _ (List.mem_of_getElem? (i := 111) (by decide +kernel))) (by decide +kernel)
theorem me_X9_fall : me_ok yX9_fall cX9_fall 2 (some .int) 1 := ⟨wm_X9_fall, wN_X9, by decide +kernel, by decide, by decide +kernel⟩
theorem wm_X9_feed : Cond.code yX9_feed cX9_feed 4 (some .int) ∈ gw_t := gw_in (in_1 _ (List.mem_of_getElem? (i := 208) (by decide +kernel))) (by decide +kernel)
theorem me_X9_feed : me_ok yX9_feed cX9_feed 4 (some .int) 2 := ⟨wm_X9_feed, wN_X9, by decide +kernel, by decide, by decide +kernel⟩
theorem wm_X9_findEntry : Cond.code yX9_findEntry cX9_findEntry 2 (some .int) ∈ gw_t := gw_in (in_3 _ (List.mem_of_getElem? (i := 114) (by decide +kernel))) (by decide +kernel)
theorem me_X9_findEntry : me_ok yX9_findEntry cX9_findEntry 2 (some .int) 1 := ⟨wm_X9_findEntry, wN_X9, by decide +kernel, by decide, by decide +kernel⟩
theorem wm_X9_found : Cond.code yX9_found cX9_found 1 (some .long) ∈ gw_t := gw_in (in_3 _ (List.mem_of_getElem? (i := 126) (by decide +kernel))) (by decide +kernel)
theorem me_X9_found : me_ok yX9_found cX9_found 1 (some .long) 0 := ⟨wm_X9_found, wN_X9, by decide +kernel, by decide, by decide +kernel⟩
theorem wm_X9_free : Cond.code yX9_free cX9_free 1 (some .int) ∈ gw_t := gw_in (in_4 _ (List.mem_of_getElem? (i := 107) (by decide +kernel))) (by decide +kernel)
theorem me_X9_free : me_ok yX9_free cX9_free 1 (some .int) 0 := ⟨wm_X9_free, wN_X9, by decide +kernel, by decide, by decide +kernel⟩
theorem wm_X9_freePlaces : Cond.code yX9_freePlaces cX9_freePlaces 1 (some .int) ∈ gw_t := gw_in (in_3 _ (List.mem_of_getElem? (i := 221) (by decide +kernel))) (by decide +kernel)
theorem me_X9_freePlaces : me_ok yX9_freePlaces cX9_freePlaces 1 (some .int) 0 := ⟨wm_X9_freePlaces, wN_X9, by decide +kernel, by decide, by decide +kernel⟩
theorem wm_X9_get : Cond.code yX9_get cX9_get 3 (some .int) ∈ gw_t := gw_in (in_3 _ (List.mem_of_getElem? (i := 91) (by decide +kernel))) (by decide +kernel)
theorem me_X9_get : me_ok yX9_get cX9_get 3 (some .int) 1 := ⟨wm_X9_get, wN_X9, by decide +kernel, by decide, by decide +kernel⟩
theorem wm_X9_goDown : Cond.code yX9_goDown cX9_goDown 1 none ∈ gw_t := gw_in (in_4 _ (List.mem_of_getElem? (i := 20) (by decide +kernel))) (by decide +kernel)
theorem me_X9_goDown : me_ok yX9_goDown cX9_goDown 1 none 0 := ⟨wm_X9_goDown, wN_X9, by decide +kernel, by decide, by decide +kernel⟩
theorem wm_X9_has : Cond.code yX9_has cX9_has 3 (some .int) ∈ gw_t := gw_in (in_3 _ (List.mem_of_getElem? (i := 105) (by decide +kernel))) (by decide +kernel)
theorem me_X9_has : me_ok yX9_has cX9_has 3 (some .int) 1 := ⟨wm_X9_has, wN_X9, by decide +kernel, by decide, by decide +kernel⟩
theorem wm_X9_height : Cond.code yX9_height cX9_height 1 (some .int) ∈ gw_t := gw_in (in_3 _ (List.mem_of_getElem? (i := 167) (by decide +kernel))) (by decide +kernel)
theorem me_X9_height : me_ok yX9_height cX9_height 1 (some .int) 0 := ⟨wm_X9_height, wN_X9, by decide +kernel, by decide, by decide +kernel⟩
theorem wm_X9_init : Cond.code yX9_init cX9_init 1 none ∈ gw_t := gw_in (in_1 _ (List.mem_of_getElem? (i := 25) (by decide +kernel))) (by decide +kernel)
theorem me_X9_init : me_ok yX9_init cX9_init 1 none 0 := ⟨wm_X9_init, wN_X9, by decide +kernel, by decide, by decide +kernel⟩
theorem wm_X9_letter : Cond.code yX9_letter cX9_letter 6 (some .int) ∈ gw_t := gw_in (in_3 _ (List.mem_of_getElem? (i := 195) (by decide +kernel))) (by decide +kernel)
theorem me_X9_letter : me_ok yX9_letter cX9_letter 6 (some .int) 3 := ⟨wm_X9_letter, wN_X9, by decide +kernel, by decide, by decide +kernel⟩
theorem wm_X9_letters : Cond.code yX9_letters cX9_letters 1 (some .int) ∈ gw_t := gw_in (in_3 _ (List.mem_of_getElem? (i := 176) (by decide +kernel))) (by decide +kernel)
theorem me_X9_letters : me_ok yX9_letters cX9_letters 1 (some .int) 0 := ⟨wm_X9_letters, wN_X9, by decide +kernel, by decide, by decide +kernel⟩
theorem wm_X9_load : Cond.code yX9_load cX9_load 2 (some .int) ∈ gw_t := gw_in (in_3 _ (List.mem_of_getElem? (i := 95) (by decide +kernel))) (by decide +kernel)
theorem me_X9_load : me_ok yX9_load cX9_load 2 (some .int) 1 := ⟨wm_X9_load, wN_X9, by decide +kernel, by decide, by decide +kernel⟩
theorem wm_X9_look : Cond.code yX9_look cX9_look 5 (some .int) ∈ gw_t := gw_in (in_4 _ (List.mem_of_getElem? (i := 83) (by decide +kernel))) (by decide +kernel)
theorem me_X9_look : me_ok yX9_look cX9_look 5 (some .int) 2 := ⟨wm_X9_look, wN_X9, by decide +kernel, by decide, by decide +kernel⟩
theorem wm_X9_met : Cond.code yX9_met cX9_met 3 (some .int) ∈ gw_t := gw_in (in_3 _ (List.mem_of_getElem? (i := 199) (by decide +kernel))) (by decide +kernel)
theorem me_X9_met : me_ok yX9_met cX9_met 3 (some .int) 1 := ⟨wm_X9_met, wN_X9, by decide +kernel, by decide, by decide +kernel⟩
theorem wm_X9_next : Cond.code yX9_next cX9_next 3 (some .int) ∈ gw_t := gw_in (in_3 _ (List.mem_of_getElem? (i := 109) (by decide +kernel))) (by decide +kernel)
theorem me_X9_next : me_ok yX9_next cX9_next 3 (some .int) 1 := ⟨wm_X9_next, wN_X9, by decide +kernel, by decide, by decide +kernel⟩
theorem wm_X9_number : Cond.code yX9_number cX9_number 2 (some .int) ∈ gw_t := gw_in (in_4 _ (List.mem_of_getElem? (i := 154) (by decide +kernel))) (by decide +kernel)
theorem me_X9_number : me_ok yX9_number cX9_number 2 (some .int) 1 := ⟨wm_X9_number, wN_X9, by decide +kernel, by decide, by decide +kernel⟩
theorem wm_X9_page : Cond.code yX9_page cX9_page 4 (some .int) ∈ gw_t := gw_in (in_3 _ (List.mem_of_getElem? (i := 181) (by decide +kernel))) (by decide +kernel)
theorem me_X9_page : me_ok yX9_page cX9_page 4 (some .int) 2 := ⟨wm_X9_page, wN_X9, by decide +kernel, by decide, by decide +kernel⟩
theorem wm_X9_pages : Cond.code yX9_pages cX9_pages 1 (some .int) ∈ gw_t := gw_in (in_3 _ (List.mem_of_getElem? (i := 159) (by decide +kernel))) (by decide +kernel)
theorem me_X9_pages : me_ok yX9_pages cX9_pages 1 (some .int) 0 := ⟨wm_X9_pages, wN_X9, by decide +kernel, by decide, by decide +kernel⟩
theorem wm_X9_picture : Cond.code yX9_picture cX9_picture 1 (some .int) ∈ gw_t := gw_in (in_4 _ (List.mem_of_getElem? (i := 64) (by decide +kernel))) (by decide +kernel)
theorem me_X9_picture : me_ok yX9_picture cX9_picture 1 (some .int) 0 := ⟨wm_X9_picture, wN_X9, by decide +kernel, by decide, by decide +kernel⟩
theorem wm_X9_pictureIndex : Cond.code yX9_pictureIndex cX9_pictureIndex 3 (some .int) ∈ gw_t := gw_in (in_4 _ (List.mem_of_getElem? (i := 87) (by decide +kernel))) (by decide +kernel)
theorem me_X9_pictureIndex : me_ok yX9_pictureIndex cX9_pictureIndex 3 (some .int) 1 := ⟨wm_X9_pictureIndex, wN_X9, by decide +kernel, by decide, by decide +kernel⟩
theorem wm_X9_pictured : Cond.code yX9_pictured cX9_pictured 2 (some .int) ∈ gw_t := gw_in (in_4 _ (List.mem_of_getElem? (i := 103) (by decide +kernel))) (by decide +kernel)
theorem me_X9_pictured : me_ok yX9_pictured cX9_pictured 2 (some .int) 1 := ⟨wm_X9_pictured, wN_X9, by decide +kernel, by decide, by decide +kernel⟩
theorem wm_X9_prior : Cond.code yX9_prior cX9_prior 4 (some .int) ∈ gw_t := gw_in (in_3 _ (List.mem_of_getElem? (i := 121) (by decide +kernel))) (by decide +kernel)
theorem me_X9_prior : me_ok yX9_prior cX9_prior 4 (some .int) 1 := ⟨wm_X9_prior, wN_X9, by decide +kernel, by decide, by decide +kernel⟩
theorem wm_X9_put : Cond.code yX9_put cX9_put 5 (some .int) ∈ gw_t := gw_in (in_1 _ (List.mem_of_getElem? (i := 224) (by decide +kernel))) (by decide +kernel)
theorem me_X9_put : me_ok yX9_put cX9_put 5 (some .int) 1 := ⟨wm_X9_put, wN_X9, by decide +kernel, by decide, by decide +kernel⟩
theorem wm_X9_release : Cond.code yX9_release cX9_release 3 (some .int) ∈ gw_t := gw_in (in_4 _ (List.mem_of_getElem? (i := 98) (by decide +kernel))) (by decide +kernel)
theorem me_X9_release : me_ok yX9_release cX9_release 3 (some .int) 1 := ⟨wm_X9_release, wN_X9, by decide +kernel, by decide, by decide +kernel⟩
theorem wm_X9_rise : Cond.code yX9_rise cX9_rise 2 (some .int) ∈ gw_t := gw_in (in_4 _ (List.mem_of_getElem? (i := 119) (by decide +kernel))) (by decide +kernel)
theorem me_X9_rise : me_ok yX9_rise cX9_rise 2 (some .int) 0 := ⟨wm_X9_rise, wN_X9, by decide +kernel, by decide, by decide +kernel⟩
theorem wm_X9_settle : Cond.code yX9_settle cX9_settle 1 (some .int) ∈ gw_t := gw_in (in_3 _ (List.mem_of_getElem? (i := 144) (by decide +kernel))) (by decide +kernel)
theorem me_X9_settle : me_ok yX9_settle cX9_settle 1 (some .int) 0 := ⟨wm_X9_settle, wN_X9, by decide +kernel, by decide, by decide +kernel⟩
theorem wm_X9_sink : Cond.code yX9_sink cX9_sink 1 (some .int) ∈ gw_t := gw_in (in_3 _ (List.mem_of_getElem? (i := 134) (by decide +kernel))) (by decide +kernel)
theorem me_X9_sink : me_ok yX9_sink cX9_sink 1 (some .int) 0 := ⟨wm_X9_sink, wN_X9, by decide +kernel, by decide, by decide +kernel⟩
theorem wm_X9_startAnew : Cond.code yX9_startAnew cX9_startAnew 1 none ∈ gw_t := gw_in (in_1 _ (List.mem_of_getElem? (i := 132) (by decide +kernel))) (by decide +kernel)
theorem me_X9_startAnew : me_ok yX9_startAnew cX9_startAnew 1 none 0 := ⟨wm_X9_startAnew, wN_X9, by decide +kernel, by decide, by decide +kernel⟩
theorem wm_X9_swap : Cond.code yX9_swap cX9_swap 6 (some .int) ∈ gw_t := gw_in (in_3 _ (List.mem_of_getElem? (i := 79) (by decide +kernel))) (by decide +kernel)
theorem me_X9_swap : me_ok yX9_swap cX9_swap 6 (some .int) 2 := ⟨wm_X9_swap, wN_X9, by decide +kernel, by decide, by decide +kernel⟩
theorem wm_X9_sweep : Cond.code yX9_sweep cX9_sweep 6 (some .int) ∈ gw_t := gw_in (in_3 _ (List.mem_of_getElem? (i := 87) (by decide +kernel))) (by decide +kernel)
theorem me_X9_sweep : me_ok yX9_sweep cX9_sweep 6 (some .int) 2 := ⟨wm_X9_sweep, wN_X9, by decide +kernel, by decide, by decide +kernel⟩
theorem wm_X9_sync : Cond.code yX9_sync cX9_sync 2 (some .int) ∈ gw_t := gw_in (in_3 _ (List.mem_of_getElem? (i := 213) (by decide +kernel))) (by decide +kernel)
theorem me_X9_sync : me_ok yX9_sync cX9_sync 2 (some .int) 0 := ⟨wm_X9_sync, wN_X9, by decide +kernel, by decide, by decide +kernel⟩
theorem wm_X9_write : Cond.code yX9_write cX9_write 11 (some .int) ∈ gw_t := gw_in (in_2 _ (List.mem_of_getElem? (i := 23) (by decide +kernel))) (by decide +kernel)
theorem me_X9_write : me_ok yX9_write cX9_write 11 (some .int) 4 := ⟨wm_X9_write, wN_X9, by decide +kernel, by decide, by decide +kernel⟩
theorem wm_X9_writeAll : Cond.code yX9_writeAll cX9_writeAll 2 (some .boolean) ∈ gw_t := gw_in (in_4 _ (List.mem_of_getElem? (i := 3) (by decide +kernel))) (by decide +kernel)
theorem me_X9_writeAll : me_ok yX9_writeAll cX9_writeAll 2 (some .boolean) 0 := ⟨wm_X9_writeAll, wN_X9, by decide +kernel, by decide, by decide +kernel⟩
theorem wm_X9_writeRefusal : Cond.code yX9_writeRefusal cX9_writeRefusal 2 (some .int) ∈ gw_t := gw_in (in_1 _ (List.mem_of_getElem? (i := 228) (by decide +kernel))) (by decide +kernel)
theorem me_X9_writeRefusal : me_ok yX9_writeRefusal cX9_writeRefusal 2 (some .int) 1 := ⟨wm_X9_writeRefusal, wN_X9, by decide +kernel, by decide, by decide +kernel⟩
theorem wm_X9_writes : Cond.code yX9_writes cX9_writes 2 (some .int) ∈ gw_t := gw_in (in_4 _ (List.mem_of_getElem? (i := 150) (by decide +kernel))) (by decide +kernel)
theorem me_X9_writes : me_ok yX9_writes cX9_writes 2 (some .int) 1 := ⟨wm_X9_writes, wN_X9, by decide +kernel, by decide, by decide +kernel⟩
theorem wi_Jx4a65c_add_72be8 : Cond.instanceMethod yJx4a65c_add_72be8 ∈ gw_t := gw_in (in_2 _ (List.mem_of_getElem? (i := 93) (by decide +kernel))) (by decide +kernel)
theorem wS_Jx4a65c_add_72be8 : Cond.selects yJx4a65c_add_72be8.cls yJx4a65c_add_72be8 yJx4a65c_add_72be8 ∈ gw_t := gw_in (in_p _ (List.mem_of_getElem? (i := 3) (by decide +kernel))) (by decide +kernel)
theorem mi_Jx4a65c_add_72be8 : mi_ok yJx4a65c_add_72be8 0 := ⟨wi_Jx4a65c_add_72be8, wS_Jx4a65c_add_72be8, TJx4a65c, 3, rfl⟩
theorem wi_Jx4a65c_add_7a177 : Cond.instanceMethod yJx4a65c_add_7a177 ∈ gw_t := gw_in (in_2 _ (List.mem_of_getElem? (i := 238) (by decide +kernel))) (by decide +kernel)
theorem wS_Jx4a65c_add_7a177 : Cond.selects yJx4a65c_add_7a177.cls yJx4a65c_add_7a177 yJx4a65c_add_7a177 ∈ gw_t := gw_in (in_2 _ (List.mem_of_getElem? (i := 239) (by decide +kernel))) (by decide +kernel)
theorem mi_Jx4a65c_add_7a177 : mi_ok yJx4a65c_add_7a177 0 := ⟨wi_Jx4a65c_add_7a177, wS_Jx4a65c_add_7a177, TJx4a65c, 3, rfl⟩
theorem wi_Jx4a65c_add_9ea2d : Cond.instanceMethod yJx4a65c_add_9ea2d ∈ gw_t := gw_in (in_2 _ (List.mem_of_getElem? (i := 88) (by decide +kernel))) (by decide +kernel)
theorem wS_Jx4a65c_add_9ea2d : Cond.selects yJx4a65c_add_9ea2d.cls yJx4a65c_add_9ea2d yJx4a65c_add_9ea2d ∈ gw_t := gw_in (in_2 _ (List.mem_of_getElem? (i := 89) (by decide +kernel))) (by decide +kernel)
theorem mi_Jx4a65c_add_9ea2d : mi_ok yJx4a65c_add_9ea2d 0 := ⟨wi_Jx4a65c_add_9ea2d, wS_Jx4a65c_add_9ea2d, TJx4a65c, 3, rfl⟩
theorem wi_Jx4a65c_clear_da8c8 : Cond.instanceMethod yJx4a65c_clear_da8c8 ∈ gw_t := gw_in (in_1 _ (List.mem_of_getElem? (i := 171) (by decide +kernel))) (by decide +kernel)
theorem wS_Jx4a65c_clear_da8c8 : Cond.selects yJx4a65c_clear_da8c8.cls yJx4a65c_clear_da8c8 yJx4a65c_clear_da8c8 ∈ gw_t := gw_in (in_1 _ (List.mem_of_getElem? (i := 172) (by decide +kernel))) (by decide +kernel)
theorem mi_Jx4a65c_clear_da8c8 : mi_ok yJx4a65c_clear_da8c8 0 := ⟨wi_Jx4a65c_clear_da8c8, wS_Jx4a65c_clear_da8c8, TJx4a65c, 3, rfl⟩
theorem wi_Jx4a65c_elementData_915e3 : Cond.instanceMethod yJx4a65c_elementData_915e3 ∈ gw_t := gw_in (in_2 _ (List.mem_of_getElem? (i := 12) (by decide +kernel))) (by decide +kernel)
theorem wS_Jx4a65c_elementData_915e3 : Cond.selects yJx4a65c_elementData_915e3.cls yJx4a65c_elementData_915e3 yJx4a65c_elementData_915e3 ∈ gw_t := gw_in (in_2 _ (List.mem_of_getElem? (i := 13) (by decide +kernel))) (by decide +kernel)
theorem mi_Jx4a65c_elementData_915e3 : mi_ok yJx4a65c_elementData_915e3 0 := ⟨wi_Jx4a65c_elementData_915e3, wS_Jx4a65c_elementData_915e3, TJx4a65c, 3, rfl⟩
theorem wi_Jx4a65c_fastRemove_b59b0 : Cond.instanceMethod yJx4a65c_fastRemove_b59b0 ∈ gw_t := gw_in (in_2 _ (List.mem_of_getElem? (i := 206) (by decide +kernel))) (by decide +kernel)
theorem wS_Jx4a65c_fastRemove_b59b0 : Cond.selects yJx4a65c_fastRemove_b59b0.cls yJx4a65c_fastRemove_b59b0 yJx4a65c_fastRemove_b59b0 ∈ gw_t := gw_in (in_p _ (List.mem_of_getElem? (i := 8) (by decide +kernel))) (by decide +kernel)
theorem mi_Jx4a65c_fastRemove_b59b0 : mi_ok yJx4a65c_fastRemove_b59b0 0 := ⟨wi_Jx4a65c_fastRemove_b59b0, wS_Jx4a65c_fastRemove_b59b0, TJx4a65c, 3, rfl⟩
theorem wi_Jx4a65c_get_915e3 : Cond.instanceMethod yJx4a65c_get_915e3 ∈ gw_t := gw_in (in_2 _ (List.mem_of_getElem? (i := 2) (by decide +kernel))) (by decide +kernel)
theorem wS_Jx4a65c_get_915e3 : Cond.selects yJx4a65c_get_915e3.cls yJx4a65c_get_915e3 yJx4a65c_get_915e3 ∈ gw_t := gw_in (in_2 _ (List.mem_of_getElem? (i := 3) (by decide +kernel))) (by decide +kernel)
theorem mi_Jx4a65c_get_915e3 : mi_ok yJx4a65c_get_915e3 0 := ⟨wi_Jx4a65c_get_915e3, wS_Jx4a65c_get_915e3, TJx4a65c, 3, rfl⟩
theorem wi_Jx4a65c_grow_92f84 : Cond.instanceMethod yJx4a65c_grow_92f84 ∈ gw_t := gw_in (in_2 _ (List.mem_of_getElem? (i := 101) (by decide +kernel))) (by decide +kernel)
theorem wS_Jx4a65c_grow_92f84 : Cond.selects yJx4a65c_grow_92f84.cls yJx4a65c_grow_92f84 yJx4a65c_grow_92f84 ∈ gw_t := gw_in (in_p _ (List.mem_of_getElem? (i := 5) (by decide +kernel))) (by decide +kernel)
theorem mi_Jx4a65c_grow_92f84 : mi_ok yJx4a65c_grow_92f84 0 := ⟨wi_Jx4a65c_grow_92f84, wS_Jx4a65c_grow_92f84, TJx4a65c, 3, rfl⟩
theorem wi_Jx4a65c_grow_d5877 : Cond.instanceMethod yJx4a65c_grow_d5877 ∈ gw_t := gw_in (in_2 _ (List.mem_of_getElem? (i := 97) (by decide +kernel))) (by decide +kernel)
theorem wS_Jx4a65c_grow_d5877 : Cond.selects yJx4a65c_grow_d5877.cls yJx4a65c_grow_d5877 yJx4a65c_grow_d5877 ∈ gw_t := gw_in (in_p _ (List.mem_of_getElem? (i := 4) (by decide +kernel))) (by decide +kernel)
theorem mi_Jx4a65c_grow_d5877 : mi_ok yJx4a65c_grow_d5877 0 := ⟨wi_Jx4a65c_grow_d5877, wS_Jx4a65c_grow_d5877, TJx4a65c, 3, rfl⟩
theorem wi_Jx4a65c_isEmpty_aae02 : Cond.instanceMethod yJx4a65c_isEmpty_aae02 ∈ gw_t := gw_in (in_2 _ (List.mem_of_getElem? (i := 153) (by decide +kernel))) (by decide +kernel)
theorem wS_Jx4a65c_isEmpty_aae02 : Cond.selects yJx4a65c_isEmpty_aae02.cls yJx4a65c_isEmpty_aae02 yJx4a65c_isEmpty_aae02 ∈ gw_t := gw_in (in_2 _ (List.mem_of_getElem? (i := 154) (by decide +kernel))) (by decide +kernel)
theorem mi_Jx4a65c_isEmpty_aae02 : mi_ok yJx4a65c_isEmpty_aae02 0 := ⟨wi_Jx4a65c_isEmpty_aae02, wS_Jx4a65c_isEmpty_aae02, TJx4a65c, 3, rfl⟩
theorem wi_Jx4a65c_rangeCheckForAdd_d00df : Cond.instanceMethod yJx4a65c_rangeCheckForAdd_d00df ∈ gw_t := gw_in (in_3 _ (List.mem_of_getElem? (i := 3) (by decide +kernel))) (by decide +kernel)
theorem wS_Jx4a65c_rangeCheckForAdd_d00df : Cond.selects yJx4a65c_rangeCheckForAdd_d00df.cls yJx4a65c_rangeCheckForAdd_d00df yJx4a65c_rangeCheckForAdd_d00df ∈ gw_t := gw_in (in_p _ (List.mem_of_getElem? (i := 9) (by decide +kernel))) (by decide +kernel)
theorem mi_Jx4a65c_rangeCheckForAdd_d00df : mi_ok yJx4a65c_rangeCheckForAdd_d00df 0 := ⟨wi_Jx4a65c_rangeCheckForAdd_d00df, wS_Jx4a65c_rangeCheckForAdd_d00df, TJx4a65c, 3, rfl⟩
theorem wi_Jx4a65c_remove_915e3 : Cond.instanceMethod yJx4a65c_remove_915e3 ∈ gw_t := gw_in (in_2 _ (List.mem_of_getElem? (i := 201) (by decide +kernel))) (by decide +kernel)
theorem wS_Jx4a65c_remove_915e3 : Cond.selects yJx4a65c_remove_915e3.cls yJx4a65c_remove_915e3 yJx4a65c_remove_915e3 ∈ gw_t := gw_in (in_2 _ (List.mem_of_getElem? (i := 202) (by decide +kernel))) (by decide +kernel)
theorem mi_Jx4a65c_remove_915e3 : mi_ok yJx4a65c_remove_915e3 0 := ⟨wi_Jx4a65c_remove_915e3, wS_Jx4a65c_remove_915e3, TJx4a65c, 3, rfl⟩
theorem wi_Jx4a65c_set_bcc79 : Cond.instanceMethod yJx4a65c_set_bcc79 ∈ gw_t := gw_in (in_2 _ (List.mem_of_getElem? (i := 234) (by decide +kernel))) (by decide +kernel)
theorem wS_Jx4a65c_set_bcc79 : Cond.selects yJx4a65c_set_bcc79.cls yJx4a65c_set_bcc79 yJx4a65c_set_bcc79 ∈ gw_t := gw_in (in_2 _ (List.mem_of_getElem? (i := 235) (by decide +kernel))) (by decide +kernel)
theorem mi_Jx4a65c_set_bcc79 : mi_ok yJx4a65c_set_bcc79 0 := ⟨wi_Jx4a65c_set_bcc79, wS_Jx4a65c_set_bcc79, TJx4a65c, 3, rfl⟩
theorem wi_Jx4a65c_size_8abf5 : Cond.instanceMethod yJx4a65c_size_8abf5 ∈ gw_t := gw_in (in_1 _ (List.mem_of_getElem? (i := 238) (by decide +kernel))) (by decide +kernel)
theorem wS_Jx4a65c_size_8abf5 : Cond.selects yJx4a65c_size_8abf5.cls yJx4a65c_size_8abf5 yJx4a65c_size_8abf5 ∈ gw_t := gw_in (in_1 _ (List.mem_of_getElem? (i := 239) (by decide +kernel))) (by decide +kernel)
theorem mi_Jx4a65c_size_8abf5 : mi_ok yJx4a65c_size_8abf5 0 := ⟨wi_Jx4a65c_size_8abf5, wS_Jx4a65c_size_8abf5, TJx4a65c, 3, rfl⟩
theorem wi_X0_fallComes : Cond.instanceMethod yX0_fallComes ∈ gw_t := gw_in (in_4 _ (List.mem_of_getElem? (i := 15) (by decide +kernel))) (by decide +kernel)
theorem wS_X0_fallComes : Cond.selects yX0_fallComes.cls yX0_fallComes yX0_fallComes ∈ gw_t := gw_in (in_p _ (List.mem_of_getElem? (i := 20) (by decide +kernel))) (by decide +kernel)
theorem mi_X0_fallComes : mi_ok yX0_fallComes 1 := ⟨wi_X0_fallComes, wS_X0_fallComes, TX0, 6, rfl⟩
theorem wi_X0_greatestPicture : Cond.instanceMethod yX0_greatestPicture ∈ gw_t := gw_in (in_4 _ (List.mem_of_getElem? (i := 135) (by decide +kernel))) (by decide +kernel)
theorem wS_X0_greatestPicture : Cond.selects yX0_greatestPicture.cls yX0_greatestPicture yX0_greatestPicture ∈ gw_t := gw_in (in_4 _ (List.mem_of_getElem? (i := 136) (by decide +kernel))) (by decide +kernel)
theorem mi_X0_greatestPicture : mi_ok yX0_greatestPicture 1 := ⟨wi_X0_greatestPicture, wS_X0_greatestPicture, TX0, 6, rfl⟩
theorem wi_X0_latestHead : Cond.instanceMethod yX0_latestHead ∈ gw_t := gw_in (in_4 _ (List.mem_of_getElem? (i := 121) (by decide +kernel))) (by decide +kernel)
theorem wS_X0_latestHead : Cond.selects yX0_latestHead.cls yX0_latestHead yX0_latestHead ∈ gw_t := gw_in (in_4 _ (List.mem_of_getElem? (i := 122) (by decide +kernel))) (by decide +kernel)
theorem mi_X0_latestHead : mi_ok yX0_latestHead 1 := ⟨wi_X0_latestHead, wS_X0_latestHead, TX0, 6, rfl⟩
theorem wi_X0_markPictures : Cond.instanceMethod yX0_markPictures ∈ gw_t := gw_in (in_3 _ (List.mem_of_getElem? (i := 237) (by decide +kernel))) (by decide +kernel)
theorem wS_X0_markPictures : Cond.selects yX0_markPictures.cls yX0_markPictures yX0_markPictures ∈ gw_t := gw_in (in_p _ (List.mem_of_getElem? (i := 17) (by decide +kernel))) (by decide +kernel)
theorem mi_X0_markPictures : mi_ok yX0_markPictures 1 := ⟨wi_X0_markPictures, wS_X0_markPictures, TX0, 6, rfl⟩
theorem wi_X0_markTaken : Cond.instanceMethod yX0_markTaken ∈ gw_t := gw_in (in_3 _ (List.mem_of_getElem? (i := 223) (by decide +kernel))) (by decide +kernel)
theorem wS_X0_markTaken : Cond.selects yX0_markTaken.cls yX0_markTaken yX0_markTaken ∈ gw_t := gw_in (in_3 _ (List.mem_of_getElem? (i := 224) (by decide +kernel))) (by decide +kernel)
theorem mi_X0_markTaken : mi_ok yX0_markTaken 1 := ⟨wi_X0_markTaken, wS_X0_markTaken, TX0, 6, rfl⟩
theorem wi_X0_writeHead : Cond.instanceMethod yX0_writeHead ∈ gw_t := gw_in (in_4 _ (List.mem_of_getElem? (i := 58) (by decide +kernel))) (by decide +kernel)
theorem wS_X0_writeHead : Cond.selects yX0_writeHead.cls yX0_writeHead yX0_writeHead ∈ gw_t := gw_in (in_4 _ (List.mem_of_getElem? (i := 59) (by decide +kernel))) (by decide +kernel)
theorem mi_X0_writeHead : mi_ok yX0_writeHead 1 := ⟨wi_X0_writeHead, wS_X0_writeHead, TX0, 6, rfl⟩
theorem wi_X0_writePage : Cond.instanceMethod yX0_writePage ∈ gw_t := gw_in (in_4 _ (List.mem_of_getElem? (i := 10) (by decide +kernel))) (by decide +kernel)
theorem wS_X0_writePage : Cond.selects yX0_writePage.cls yX0_writePage yX0_writePage ∈ gw_t := gw_in (in_p _ (List.mem_of_getElem? (i := 19) (by decide +kernel))) (by decide +kernel)
theorem mi_X0_writePage : mi_ok yX0_writePage 1 := ⟨wi_X0_writePage, wS_X0_writePage, TX0, 6, rfl⟩
theorem wi_X10_actOnLeaf : Cond.instanceMethod yX10_actOnLeaf ∈ gw_t := gw_in (in_4 _ (List.mem_of_getElem? (i := 218) (by decide +kernel))) (by decide +kernel)
theorem wS_X10_actOnLeaf : Cond.selects yX10_actOnLeaf.cls yX10_actOnLeaf yX10_actOnLeaf ∈ gw_t := gw_in (in_p _ (List.mem_of_getElem? (i := 35) (by decide +kernel))) (by decide +kernel)
theorem mi_X10_actOnLeaf : mi_ok yX10_actOnLeaf 11 := ⟨wi_X10_actOnLeaf, wS_X10_actOnLeaf, TX10, 78, rfl⟩
theorem wi_X10_acts : Cond.instanceMethod yX10_acts ∈ gw_t := gw_in (in_4 _ (List.mem_of_getElem? (i := 190) (by decide +kernel))) (by decide +kernel)
theorem wS_X10_acts : Cond.selects yX10_acts.cls yX10_acts yX10_acts ∈ gw_t := gw_in (in_p _ (List.mem_of_getElem? (i := 28) (by decide +kernel))) (by decide +kernel)
theorem mi_X10_acts : mi_ok yX10_acts 11 := ⟨wi_X10_acts, wS_X10_acts, TX10, 78, rfl⟩
theorem wi_X10_actsOnMap : Cond.instanceMethod yX10_actsOnMap ∈ gw_t := gw_in (in_4 _ (List.mem_of_getElem? (i := 186) (by decide +kernel))) (by decide +kernel)
theorem wS_X10_actsOnMap : Cond.selects yX10_actsOnMap.cls yX10_actsOnMap yX10_actsOnMap ∈ gw_t := gw_in (in_p _ (List.mem_of_getElem? (i := 27) (by decide +kernel))) (by decide +kernel)
theorem mi_X10_actsOnMap : mi_ok yX10_actsOnMap 11 := ⟨wi_X10_actsOnMap, wS_X10_actsOnMap, TX10, 78, rfl⟩
theorem wi_X10_append : Cond.instanceMethod yX10_append ∈ gw_t := gw_in (in_5 _ (List.mem_of_getElem? (i := 45) (by decide +kernel))) (by decide +kernel)
theorem wS_X10_append : Cond.selects yX10_append.cls yX10_append yX10_append ∈ gw_t := gw_in (in_5 _ (List.mem_of_getElem? (i := 46) (by decide +kernel))) (by decide +kernel)
theorem mi_X10_append : mi_ok yX10_append 11 := ⟨wi_X10_append, wS_X10_append, TX10, 78, rfl⟩
theorem wi_X10_begins : Cond.instanceMethod yX10_begins ∈ gw_t := gw_in (in_4 _ (List.mem_of_getElem? (i := 198) (by decide +kernel))) (by decide +kernel)
theorem wS_X10_begins : Cond.selects yX10_begins.cls yX10_begins yX10_begins ∈ gw_t := gw_in (in_p _ (List.mem_of_getElem? (i := 30) (by decide +kernel))) (by decide +kernel)
theorem mi_X10_begins : mi_ok yX10_begins 11 := ⟨wi_X10_begins, wS_X10_begins, TX10, 78, rfl⟩
theorem wi_X10_below : Cond.instanceMethod yX10_below ∈ gw_t := gw_in (in_4 _ (List.mem_of_getElem? (i := 222) (by decide +kernel))) (by decide +kernel)
theorem wS_X10_below : Cond.selects yX10_below.cls yX10_below yX10_below ∈ gw_t := gw_in (in_p _ (List.mem_of_getElem? (i := 36) (by decide +kernel))) (by decide +kernel)
theorem mi_X10_below : mi_ok yX10_below 11 := ⟨wi_X10_below, wS_X10_below, TX10, 78, rfl⟩
theorem wi_X10_bend : Cond.instanceMethod yX10_bend ∈ gw_t := gw_in (in_6 _ (List.mem_of_getElem? (i := 236) (by decide +kernel))) (by decide +kernel)
theorem wS_X10_bend : Cond.selects yX10_bend.cls yX10_bend yX10_bend ∈ gw_t := gw_in (in_6 _ (List.mem_of_getElem? (i := 237) (by decide +kernel))) (by decide +kernel)
theorem mi_X10_bend : mi_ok yX10_bend 11 := ⟨wi_X10_bend, wS_X10_bend, TX10, 78, rfl⟩
theorem wi_X10_border : Cond.instanceMethod yX10_border ∈ gw_t := gw_in (in_6 _ (List.mem_of_getElem? (i := 132) (by decide +kernel))) (by decide +kernel)
theorem wS_X10_border : Cond.selects yX10_border.cls yX10_border yX10_border ∈ gw_t := gw_in (in_6 _ (List.mem_of_getElem? (i := 133) (by decide +kernel))) (by decide +kernel)
theorem mi_X10_border : mi_ok yX10_border 11 := ⟨wi_X10_border, wS_X10_border, TX10, 78, rfl⟩
theorem wi_X10_byteAt : Cond.instanceMethod yX10_byteAt ∈ gw_t := gw_in (in_4 _ (List.mem_of_getElem? (i := 164) (by decide +kernel))) (by decide +kernel)
theorem wS_X10_byteAt : Cond.selects yX10_byteAt.cls yX10_byteAt yX10_byteAt ∈ gw_t := gw_in (in_4 _ (List.mem_of_getElem? (i := 165) (by decide +kernel))) (by decide +kernel)
theorem mi_X10_byteAt : mi_ok yX10_byteAt 11 := ⟨wi_X10_byteAt, wS_X10_byteAt, TX10, 78, rfl⟩
theorem wi_X10_chain : Cond.instanceMethod yX10_chain ∈ gw_t := gw_in (in_5 _ (List.mem_of_getElem? (i := 2) (by decide +kernel))) (by decide +kernel)
theorem wS_X10_chain : Cond.selects yX10_chain.cls yX10_chain yX10_chain ∈ gw_t := gw_in (in_p _ (List.mem_of_getElem? (i := 41) (by decide +kernel))) (by decide +kernel)
theorem mi_X10_chain : mi_ok yX10_chain 11 := ⟨wi_X10_chain, wS_X10_chain, TX10, 78, rfl⟩
theorem wi_X10_changedPages : Cond.instanceMethod yX10_changedPages ∈ gw_t := gw_in (in_6 _ (List.mem_of_getElem? (i := 161) (by decide +kernel))) (by decide +kernel)
theorem wS_X10_changedPages : Cond.selects yX10_changedPages.cls yX10_changedPages yX10_changedPages ∈ gw_t := gw_in (in_p _ (List.mem_of_getElem? (i := 59) (by decide +kernel))) (by decide +kernel)
theorem mi_X10_changedPages : mi_ok yX10_changedPages 11 := ⟨wi_X10_changedPages, wS_X10_changedPages, TX10, 78, rfl⟩
theorem wi_X10_clearPages : Cond.instanceMethod yX10_clearPages ∈ gw_t := gw_in (in_5 _ (List.mem_of_getElem? (i := 97) (by decide +kernel))) (by decide +kernel)
theorem wS_X10_clearPages : Cond.selects yX10_clearPages.cls yX10_clearPages yX10_clearPages ∈ gw_t := gw_in (in_p _ (List.mem_of_getElem? (i := 52) (by decide +kernel))) (by decide +kernel)
theorem mi_X10_clearPages : mi_ok yX10_clearPages 11 := ⟨wi_X10_clearPages, wS_X10_clearPages, TX10, 78, rfl⟩
theorem wi_X10_comes : Cond.instanceMethod yX10_comes ∈ gw_t := gw_in (in_4 _ (List.mem_of_getElem? (i := 234) (by decide +kernel))) (by decide +kernel)
theorem wS_X10_comes : Cond.selects yX10_comes.cls yX10_comes yX10_comes ∈ gw_t := gw_in (in_p _ (List.mem_of_getElem? (i := 39) (by decide +kernel))) (by decide +kernel)
theorem mi_X10_comes : mi_ok yX10_comes 11 := ⟨wi_X10_comes, wS_X10_comes, TX10, 78, rfl⟩
theorem wi_X10_copy : Cond.instanceMethod yX10_copy ∈ gw_t := gw_in (in_4 _ (List.mem_of_getElem? (i := 194) (by decide +kernel))) (by decide +kernel)
theorem wS_X10_copy : Cond.selects yX10_copy.cls yX10_copy yX10_copy ∈ gw_t := gw_in (in_p _ (List.mem_of_getElem? (i := 29) (by decide +kernel))) (by decide +kernel)
theorem mi_X10_copy : mi_ok yX10_copy 11 := ⟨wi_X10_copy, wS_X10_copy, TX10, 78, rfl⟩
theorem wi_X10_count : Cond.instanceMethod yX10_count ∈ gw_t := gw_in (in_5 _ (List.mem_of_getElem? (i := 82) (by decide +kernel))) (by decide +kernel)
theorem wS_X10_count : Cond.selects yX10_count.cls yX10_count yX10_count ∈ gw_t := gw_in (in_5 _ (List.mem_of_getElem? (i := 83) (by decide +kernel))) (by decide +kernel)
theorem mi_X10_count : mi_ok yX10_count 11 := ⟨wi_X10_count, wS_X10_count, TX10, 78, rfl⟩
theorem wi_X10_crash : Cond.instanceMethod yX10_crash ∈ gw_t := gw_in (in_6 _ (List.mem_of_getElem? (i := 212) (by decide +kernel))) (by decide +kernel)
theorem wS_X10_crash : Cond.selects yX10_crash.cls yX10_crash yX10_crash ∈ gw_t := gw_in (in_6 _ (List.mem_of_getElem? (i := 213) (by decide +kernel))) (by decide +kernel)
theorem mi_X10_crash : mi_ok yX10_crash 11 := ⟨wi_X10_crash, wS_X10_crash, TX10, 78, rfl⟩
theorem wi_X10_cut : Cond.instanceMethod yX10_cut ∈ gw_t := gw_in (in_4 _ (List.mem_of_getElem? (i := 160) (by decide +kernel))) (by decide +kernel)
theorem wS_X10_cut : Cond.selects yX10_cut.cls yX10_cut yX10_cut ∈ gw_t := gw_in (in_4 _ (List.mem_of_getElem? (i := 161) (by decide +kernel))) (by decide +kernel)
theorem mi_X10_cut : mi_ok yX10_cut 11 := ⟨wi_X10_cut, wS_X10_cut, TX10, 78, rfl⟩
theorem wi_X10_disk : Cond.instanceMethod yX10_disk ∈ gw_t := gw_in (in_6 _ (List.mem_of_getElem? (i := 228) (by decide +kernel))) (by decide +kernel)
theorem wS_X10_disk : Cond.selects yX10_disk.cls yX10_disk yX10_disk ∈ gw_t := gw_in (in_6 _ (List.mem_of_getElem? (i := 229) (by decide +kernel))) (by decide +kernel)
theorem mi_X10_disk : mi_ok yX10_disk 11 := ⟨wi_X10_disk, wS_X10_disk, TX10, 78, rfl⟩
theorem wi_X10_drop : Cond.instanceMethod yX10_drop ∈ gw_t := gw_in (in_5 _ (List.mem_of_getElem? (i := 53) (by decide +kernel))) (by decide +kernel)
theorem wS_X10_drop : Cond.selects yX10_drop.cls yX10_drop yX10_drop ∈ gw_t := gw_in (in_5 _ (List.mem_of_getElem? (i := 54) (by decide +kernel))) (by decide +kernel)
theorem mi_X10_drop : mi_ok yX10_drop 11 := ⟨wi_X10_drop, wS_X10_drop, TX10, 78, rfl⟩
theorem wi_X10_entry : Cond.instanceMethod yX10_entry ∈ gw_t := gw_in (in_4 _ (List.mem_of_getElem? (i := 230) (by decide +kernel))) (by decide +kernel)
theorem wS_X10_entry : Cond.selects yX10_entry.cls yX10_entry yX10_entry ∈ gw_t := gw_in (in_p _ (List.mem_of_getElem? (i := 38) (by decide +kernel))) (by decide +kernel)
theorem mi_X10_entry : mi_ok yX10_entry 11 := ⟨wi_X10_entry, wS_X10_entry, TX10, 78, rfl⟩
theorem wi_X10_fall : Cond.instanceMethod yX10_fall ∈ gw_t := gw_in (in_6 _ (List.mem_of_getElem? (i := 208) (by decide +kernel))) (by decide +kernel)
theorem wS_X10_fall : Cond.selects yX10_fall.cls yX10_fall yX10_fall ∈ gw_t := gw_in (in_6 _ (List.mem_of_getElem? (i := 209) (by decide +kernel))) (by decide +kernel)
theorem mi_X10_fall : mi_ok yX10_fall 11 := ⟨wi_X10_fall, wS_X10_fall, TX10, 78, rfl⟩
theorem wi_X10_falls : Cond.instanceMethod yX10_falls ∈ gw_t := gw_in (in_6 _ (List.mem_of_getElem? (i := 173) (by decide +kernel))) (by decide +kernel)
theorem wS_X10_falls : Cond.selects yX10_falls.cls yX10_falls yX10_falls ∈ gw_t := gw_in (in_p _ (List.mem_of_getElem? (i := 62) (by decide +kernel))) (by decide +kernel)
theorem mi_X10_falls : mi_ok yX10_falls 11 := ⟨wi_X10_falls, wS_X10_falls, TX10, 78, rfl⟩
theorem wi_X10_feed : Cond.instanceMethod yX10_feed ∈ gw_t := gw_in (in_4 _ (List.mem_of_getElem? (i := 156) (by decide +kernel))) (by decide +kernel)
theorem wS_X10_feed : Cond.selects yX10_feed.cls yX10_feed yX10_feed ∈ gw_t := gw_in (in_4 _ (List.mem_of_getElem? (i := 157) (by decide +kernel))) (by decide +kernel)
theorem mi_X10_feed : mi_ok yX10_feed 11 := ⟨wi_X10_feed, wS_X10_feed, TX10, 78, rfl⟩
theorem wi_X10_found : Cond.instanceMethod yX10_found ∈ gw_t := gw_in (in_5 _ (List.mem_of_getElem? (i := 78) (by decide +kernel))) (by decide +kernel)
theorem wS_X10_found : Cond.selects yX10_found.cls yX10_found yX10_found ∈ gw_t := gw_in (in_5 _ (List.mem_of_getElem? (i := 79) (by decide +kernel))) (by decide +kernel)
theorem mi_X10_found : mi_ok yX10_found 11 := ⟨wi_X10_found, wS_X10_found, TX10, 78, rfl⟩
theorem wi_X10_free : Cond.instanceMethod yX10_free ∈ gw_t := gw_in (in_6 _ (List.mem_of_getElem? (i := 204) (by decide +kernel))) (by decide +kernel)
theorem wS_X10_free : Cond.selects yX10_free.cls yX10_free yX10_free ∈ gw_t := gw_in (in_6 _ (List.mem_of_getElem? (i := 205) (by decide +kernel))) (by decide +kernel)
theorem mi_X10_free : mi_ok yX10_free 11 := ⟨wi_X10_free, wS_X10_free, TX10, 78, rfl⟩
theorem wi_X10_freePlaces : Cond.instanceMethod yX10_freePlaces ∈ gw_t := gw_in (in_6 _ (List.mem_of_getElem? (i := 149) (by decide +kernel))) (by decide +kernel)
theorem wS_X10_freePlaces : Cond.selects yX10_freePlaces.cls yX10_freePlaces yX10_freePlaces ∈ gw_t := gw_in (in_p _ (List.mem_of_getElem? (i := 56) (by decide +kernel))) (by decide +kernel)
theorem mi_X10_freePlaces : mi_ok yX10_freePlaces 11 := ⟨wi_X10_freePlaces, wS_X10_freePlaces, TX10, 78, rfl⟩
theorem wi_X10_get : Cond.instanceMethod yX10_get ∈ gw_t := gw_in (in_5 _ (List.mem_of_getElem? (i := 62) (by decide +kernel))) (by decide +kernel)
theorem wS_X10_get : Cond.selects yX10_get.cls yX10_get yX10_get ∈ gw_t := gw_in (in_5 _ (List.mem_of_getElem? (i := 63) (by decide +kernel))) (by decide +kernel)
theorem mi_X10_get : mi_ok yX10_get 11 := ⟨wi_X10_get, wS_X10_get, TX10, 78, rfl⟩
theorem wi_X10_give : Cond.instanceMethod yX10_give ∈ gw_t := gw_in (in_5 _ (List.mem_of_getElem? (i := 38) (by decide +kernel))) (by decide +kernel)
theorem wS_X10_give : Cond.selects yX10_give.cls yX10_give yX10_give ∈ gw_t := gw_in (in_p _ (List.mem_of_getElem? (i := 50) (by decide +kernel))) (by decide +kernel)
theorem mi_X10_give : mi_ok yX10_give 11 := ⟨wi_X10_give, wS_X10_give, TX10, 78, rfl⟩
theorem wi_X10_giveLetters : Cond.instanceMethod yX10_giveLetters ∈ gw_t := gw_in (in_5 _ (List.mem_of_getElem? (i := 18) (by decide +kernel))) (by decide +kernel)
theorem wS_X10_giveLetters : Cond.selects yX10_giveLetters.cls yX10_giveLetters yX10_giveLetters ∈ gw_t := gw_in (in_p _ (List.mem_of_getElem? (i := 45) (by decide +kernel))) (by decide +kernel)
theorem mi_X10_giveLetters : mi_ok yX10_giveLetters 11 := ⟨wi_X10_giveLetters, wS_X10_giveLetters, TX10, 78, rfl⟩
theorem wi_X10_giveRoot : Cond.instanceMethod yX10_giveRoot ∈ gw_t := gw_in (in_4 _ (List.mem_of_getElem? (i := 214) (by decide +kernel))) (by decide +kernel)
theorem wS_X10_giveRoot : Cond.selects yX10_giveRoot.cls yX10_giveRoot yX10_giveRoot ∈ gw_t := gw_in (in_p _ (List.mem_of_getElem? (i := 34) (by decide +kernel))) (by decide +kernel)
theorem mi_X10_giveRoot : mi_ok yX10_giveRoot 11 := ⟨wi_X10_giveRoot, wS_X10_giveRoot, TX10, 78, rfl⟩
theorem wi_X10_grow : Cond.instanceMethod yX10_grow ∈ gw_t := gw_in (in_5 _ (List.mem_of_getElem? (i := 42) (by decide +kernel))) (by decide +kernel)
theorem wS_X10_grow : Cond.selects yX10_grow.cls yX10_grow yX10_grow ∈ gw_t := gw_in (in_p _ (List.mem_of_getElem? (i := 51) (by decide +kernel))) (by decide +kernel)
theorem mi_X10_grow : mi_ok yX10_grow 11 := ⟨wi_X10_grow, wS_X10_grow, TX10, 78, rfl⟩
theorem wi_X10_has : Cond.instanceMethod yX10_has ∈ gw_t := gw_in (in_5 _ (List.mem_of_getElem? (i := 66) (by decide +kernel))) (by decide +kernel)
theorem wS_X10_has : Cond.selects yX10_has.cls yX10_has yX10_has ∈ gw_t := gw_in (in_5 _ (List.mem_of_getElem? (i := 67) (by decide +kernel))) (by decide +kernel)
theorem mi_X10_has : mi_ok yX10_has 11 := ⟨wi_X10_has, wS_X10_has, TX10, 78, rfl⟩
theorem wi_X10_height : Cond.instanceMethod yX10_height ∈ gw_t := gw_in (in_6 _ (List.mem_of_getElem? (i := 116) (by decide +kernel))) (by decide +kernel)
theorem wS_X10_height : Cond.selects yX10_height.cls yX10_height yX10_height ∈ gw_t := gw_in (in_6 _ (List.mem_of_getElem? (i := 117) (by decide +kernel))) (by decide +kernel)
theorem mi_X10_height : mi_ok yX10_height 11 := ⟨wi_X10_height, wS_X10_height, TX10, 78, rfl⟩
theorem wi_X10_isAt : Cond.instanceMethod yX10_isAt ∈ gw_t := gw_in (in_4 _ (List.mem_of_getElem? (i := 178) (by decide +kernel))) (by decide +kernel)
theorem wS_X10_isAt : Cond.selects yX10_isAt.cls yX10_isAt yX10_isAt ∈ gw_t := gw_in (in_p _ (List.mem_of_getElem? (i := 25) (by decide +kernel))) (by decide +kernel)
theorem mi_X10_isAt : mi_ok yX10_isAt 11 := ⟨wi_X10_isAt, wS_X10_isAt, TX10, 78, rfl⟩
theorem wi_X10_isTooBig : Cond.instanceMethod yX10_isTooBig ∈ gw_t := gw_in (in_5 _ (List.mem_of_getElem? (i := 26) (by decide +kernel))) (by decide +kernel)
theorem wS_X10_isTooBig : Cond.selects yX10_isTooBig.cls yX10_isTooBig yX10_isTooBig ∈ gw_t := gw_in (in_p _ (List.mem_of_getElem? (i := 47) (by decide +kernel))) (by decide +kernel)
theorem mi_X10_isTooBig : mi_ok yX10_isTooBig 11 := ⟨wi_X10_isTooBig, wS_X10_isTooBig, TX10, 78, rfl⟩
theorem wi_X10_kidFor : Cond.instanceMethod yX10_kidFor ∈ gw_t := gw_in (in_5 _ (List.mem_of_getElem? (i := 6) (by decide +kernel))) (by decide +kernel)
theorem wS_X10_kidFor : Cond.selects yX10_kidFor.cls yX10_kidFor yX10_kidFor ∈ gw_t := gw_in (in_p _ (List.mem_of_getElem? (i := 42) (by decide +kernel))) (by decide +kernel)
theorem mi_X10_kidFor : mi_ok yX10_kidFor 11 := ⟨wi_X10_kidFor, wS_X10_kidFor, TX10, 78, rfl⟩
theorem wi_X10_lay : Cond.instanceMethod yX10_lay ∈ gw_t := gw_in (in_6 _ (List.mem_of_getElem? (i := 181) (by decide +kernel))) (by decide +kernel)
theorem wS_X10_lay : Cond.selects yX10_lay.cls yX10_lay yX10_lay ∈ gw_t := gw_in (in_p _ (List.mem_of_getElem? (i := 64) (by decide +kernel))) (by decide +kernel)
theorem mi_X10_lay : mi_ok yX10_lay 11 := ⟨wi_X10_lay, wS_X10_lay, TX10, 78, rfl⟩
theorem wi_X10_laysAll : Cond.instanceMethod yX10_laysAll ∈ gw_t := gw_in (in_6 _ (List.mem_of_getElem? (i := 169) (by decide +kernel))) (by decide +kernel)
theorem wS_X10_laysAll : Cond.selects yX10_laysAll.cls yX10_laysAll yX10_laysAll ∈ gw_t := gw_in (in_p _ (List.mem_of_getElem? (i := 61) (by decide +kernel))) (by decide +kernel)
theorem mi_X10_laysAll : mi_ok yX10_laysAll 11 := ⟨wi_X10_laysAll, wS_X10_laysAll, TX10, 78, rfl⟩
theorem wi_X10_leastFree : Cond.instanceMethod yX10_leastFree ∈ gw_t := gw_in (in_6 _ (List.mem_of_getElem? (i := 177) (by decide +kernel))) (by decide +kernel)
theorem wS_X10_leastFree : Cond.selects yX10_leastFree.cls yX10_leastFree yX10_leastFree ∈ gw_t := gw_in (in_p _ (List.mem_of_getElem? (i := 63) (by decide +kernel))) (by decide +kernel)
theorem mi_X10_leastFree : mi_ok yX10_leastFree 11 := ⟨wi_X10_leastFree, wS_X10_leastFree, TX10, 78, rfl⟩
theorem wi_X10_leave : Cond.instanceMethod yX10_leave ∈ gw_t := gw_in (in_4 _ (List.mem_of_getElem? (i := 226) (by decide +kernel))) (by decide +kernel)
theorem wS_X10_leave : Cond.selects yX10_leave.cls yX10_leave yX10_leave ∈ gw_t := gw_in (in_p _ (List.mem_of_getElem? (i := 37) (by decide +kernel))) (by decide +kernel)
theorem mi_X10_leave : mi_ok yX10_leave 11 := ⟨wi_X10_leave, wS_X10_leave, TX10, 78, rfl⟩
theorem wi_X10_letter : Cond.instanceMethod yX10_letter ∈ gw_t := gw_in (in_4 _ (List.mem_of_getElem? (i := 238) (by decide +kernel))) (by decide +kernel)
theorem wS_X10_letter : Cond.selects yX10_letter.cls yX10_letter yX10_letter ∈ gw_t := gw_in (in_p _ (List.mem_of_getElem? (i := 40) (by decide +kernel))) (by decide +kernel)
theorem mi_X10_letter : mi_ok yX10_letter 11 := ⟨wi_X10_letter, wS_X10_letter, TX10, 78, rfl⟩
theorem wi_X10_letter_ : Cond.instanceMethod yX10_letter_ ∈ gw_t := gw_in (in_6 _ (List.mem_of_getElem? (i := 136) (by decide +kernel))) (by decide +kernel)
theorem wS_X10_letter_ : Cond.selects yX10_letter_.cls yX10_letter_ yX10_letter_ ∈ gw_t := gw_in (in_6 _ (List.mem_of_getElem? (i := 137) (by decide +kernel))) (by decide +kernel)
theorem mi_X10_letter_ : mi_ok yX10_letter_ 11 := ⟨wi_X10_letter_, wS_X10_letter_, TX10, 78, rfl⟩
theorem wi_X10_letters : Cond.instanceMethod yX10_letters ∈ gw_t := gw_in (in_6 _ (List.mem_of_getElem? (i := 120) (by decide +kernel))) (by decide +kernel)
theorem wS_X10_letters : Cond.selects yX10_letters.cls yX10_letters yX10_letters ∈ gw_t := gw_in (in_6 _ (List.mem_of_getElem? (i := 121) (by decide +kernel))) (by decide +kernel)
theorem mi_X10_letters : mi_ok yX10_letters 11 := ⟨wi_X10_letters, wS_X10_letters, TX10, 78, rfl⟩
theorem wi_X10_load : Cond.instanceMethod yX10_load ∈ gw_t := gw_in (in_6 _ (List.mem_of_getElem? (i := 221) (by decide +kernel))) (by decide +kernel)
theorem wS_X10_load : Cond.selects yX10_load.cls yX10_load yX10_load ∈ gw_t := gw_in (in_p _ (List.mem_of_getElem? (i := 66) (by decide +kernel))) (by decide +kernel)
theorem mi_X10_load : mi_ok yX10_load 11 := ⟨wi_X10_load, wS_X10_load, TX10, 78, rfl⟩
theorem wi_X10_look : Cond.instanceMethod yX10_look ∈ gw_t := gw_in (in_6 _ (List.mem_of_getElem? (i := 188) (by decide +kernel))) (by decide +kernel)
theorem wS_X10_look : Cond.selects yX10_look.cls yX10_look yX10_look ∈ gw_t := gw_in (in_6 _ (List.mem_of_getElem? (i := 189) (by decide +kernel))) (by decide +kernel)
theorem mi_X10_look : mi_ok yX10_look 11 := ⟨wi_X10_look, wS_X10_look, TX10, 78, rfl⟩
theorem wi_X10_mark : Cond.instanceMethod yX10_mark ∈ gw_t := gw_in (in_6 _ (List.mem_of_getElem? (i := 153) (by decide +kernel))) (by decide +kernel)
theorem wS_X10_mark : Cond.selects yX10_mark.cls yX10_mark yX10_mark ∈ gw_t := gw_in (in_p _ (List.mem_of_getElem? (i := 57) (by decide +kernel))) (by decide +kernel)
theorem mi_X10_mark : mi_ok yX10_mark 11 := ⟨wi_X10_mark, wS_X10_mark, TX10, 78, rfl⟩
theorem wi_X10_met : Cond.instanceMethod yX10_met ∈ gw_t := gw_in (in_6 _ (List.mem_of_getElem? (i := 140) (by decide +kernel))) (by decide +kernel)
theorem wS_X10_met : Cond.selects yX10_met.cls yX10_met yX10_met ∈ gw_t := gw_in (in_6 _ (List.mem_of_getElem? (i := 141) (by decide +kernel))) (by decide +kernel)
theorem mi_X10_met : mi_ok yX10_met 11 := ⟨wi_X10_met, wS_X10_met, TX10, 78, rfl⟩
theorem wi_X10_move : Cond.instanceMethod yX10_move ∈ gw_t := gw_in (in_4 _ (List.mem_of_getElem? (i := 206) (by decide +kernel))) (by decide +kernel)
theorem wS_X10_move : Cond.selects yX10_move.cls yX10_move yX10_move ∈ gw_t := gw_in (in_p _ (List.mem_of_getElem? (i := 32) (by decide +kernel))) (by decide +kernel)
theorem mi_X10_move : mi_ok yX10_move 11 := ⟨wi_X10_move, wS_X10_move, TX10, 78, rfl⟩
theorem wi_X10_next : Cond.instanceMethod yX10_next ∈ gw_t := gw_in (in_5 _ (List.mem_of_getElem? (i := 70) (by decide +kernel))) (by decide +kernel)
theorem wS_X10_next : Cond.selects yX10_next.cls yX10_next yX10_next ∈ gw_t := gw_in (in_5 _ (List.mem_of_getElem? (i := 71) (by decide +kernel))) (by decide +kernel)
theorem mi_X10_next : mi_ok yX10_next 11 := ⟨wi_X10_next, wS_X10_next, TX10, 78, rfl⟩
theorem wi_X10_number : Cond.instanceMethod yX10_number ∈ gw_t := gw_in (in_6 _ (List.mem_of_getElem? (i := 105) (by decide +kernel))) (by decide +kernel)
theorem wS_X10_number : Cond.selects yX10_number.cls yX10_number yX10_number ∈ gw_t := gw_in (in_p _ (List.mem_of_getElem? (i := 53) (by decide +kernel))) (by decide +kernel)
theorem mi_X10_number : mi_ok yX10_number 11 := ⟨wi_X10_number, wS_X10_number, TX10, 78, rfl⟩
theorem wi_X10_number_ : Cond.instanceMethod yX10_number_ ∈ gw_t := gw_in (in_7 _ (List.mem_of_getElem? (i := 4) (by decide +kernel))) (by decide +kernel)
theorem wS_X10_number_ : Cond.selects yX10_number_.cls yX10_number_ yX10_number_ ∈ gw_t := gw_in (in_7 _ (List.mem_of_getElem? (i := 5) (by decide +kernel))) (by decide +kernel)
theorem mi_X10_number_ : mi_ok yX10_number_ 11 := ⟨wi_X10_number_, wS_X10_number_, TX10, 78, rfl⟩
theorem wi_X10_open : Cond.instanceMethod yX10_open ∈ gw_t := gw_in (in_4 _ (List.mem_of_getElem? (i := 210) (by decide +kernel))) (by decide +kernel)
theorem wS_X10_open : Cond.selects yX10_open.cls yX10_open yX10_open ∈ gw_t := gw_in (in_p _ (List.mem_of_getElem? (i := 33) (by decide +kernel))) (by decide +kernel)
theorem mi_X10_open : mi_ok yX10_open 11 := ⟨wi_X10_open, wS_X10_open, TX10, 78, rfl⟩
theorem wi_X10_page : Cond.instanceMethod yX10_page ∈ gw_t := gw_in (in_5 _ (List.mem_of_getElem? (i := 34) (by decide +kernel))) (by decide +kernel)
theorem wS_X10_page : Cond.selects yX10_page.cls yX10_page yX10_page ∈ gw_t := gw_in (in_p _ (List.mem_of_getElem? (i := 49) (by decide +kernel))) (by decide +kernel)
theorem mi_X10_page : mi_ok yX10_page 11 := ⟨wi_X10_page, wS_X10_page, TX10, 78, rfl⟩
theorem wi_X10_page_ : Cond.instanceMethod yX10_page_ ∈ gw_t := gw_in (in_6 _ (List.mem_of_getElem? (i := 124) (by decide +kernel))) (by decide +kernel)
theorem wS_X10_page_ : Cond.selects yX10_page_.cls yX10_page_ yX10_page_ ∈ gw_t := gw_in (in_6 _ (List.mem_of_getElem? (i := 125) (by decide +kernel))) (by decide +kernel)
theorem mi_X10_page_ : mi_ok yX10_page_ 11 := ⟨wi_X10_page_, wS_X10_page_, TX10, 78, rfl⟩
theorem wi_X10_pages : Cond.instanceMethod yX10_pages ∈ gw_t := gw_in (in_6 _ (List.mem_of_getElem? (i := 112) (by decide +kernel))) (by decide +kernel)
theorem wS_X10_pages : Cond.selects yX10_pages.cls yX10_pages yX10_pages ∈ gw_t := gw_in (in_6 _ (List.mem_of_getElem? (i := 113) (by decide +kernel))) (by decide +kernel)
theorem mi_X10_pages : mi_ok yX10_pages 11 := ⟨wi_X10_pages, wS_X10_pages, TX10, 78, rfl⟩
theorem wi_X10_pagesOf : Cond.instanceMethod yX10_pagesOf ∈ gw_t := gw_in (in_6 _ (List.mem_of_getElem? (i := 233) (by decide +kernel))) (by decide +kernel)
theorem wS_X10_pagesOf : Cond.selects yX10_pagesOf.cls yX10_pagesOf yX10_pagesOf ∈ gw_t := gw_in (in_p _ (List.mem_of_getElem? (i := 68) (by decide +kernel))) (by decide +kernel)
theorem mi_X10_pagesOf : mi_ok yX10_pagesOf 11 := ⟨wi_X10_pagesOf, wS_X10_pagesOf, TX10, 78, rfl⟩
theorem wi_X10_partKid : Cond.instanceMethod yX10_partKid ∈ gw_t := gw_in (in_5 _ (List.mem_of_getElem? (i := 22) (by decide +kernel))) (by decide +kernel)
theorem wS_X10_partKid : Cond.selects yX10_partKid.cls yX10_partKid yX10_partKid ∈ gw_t := gw_in (in_p _ (List.mem_of_getElem? (i := 46) (by decide +kernel))) (by decide +kernel)
theorem mi_X10_partKid : mi_ok yX10_partKid 11 := ⟨wi_X10_partKid, wS_X10_partKid, TX10, 78, rfl⟩
theorem wi_X10_partOf : Cond.instanceMethod yX10_partOf ∈ gw_t := gw_in (in_5 _ (List.mem_of_getElem? (i := 30) (by decide +kernel))) (by decide +kernel)
theorem wS_X10_partOf : Cond.selects yX10_partOf.cls yX10_partOf yX10_partOf ∈ gw_t := gw_in (in_p _ (List.mem_of_getElem? (i := 48) (by decide +kernel))) (by decide +kernel)
theorem mi_X10_partOf : mi_ok yX10_partOf 11 := ⟨wi_X10_partOf, wS_X10_partOf, TX10, 78, rfl⟩
theorem wi_X10_picture : Cond.instanceMethod yX10_picture ∈ gw_t := gw_in (in_6 _ (List.mem_of_getElem? (i := 184) (by decide +kernel))) (by decide +kernel)
theorem wS_X10_picture : Cond.selects yX10_picture.cls yX10_picture yX10_picture ∈ gw_t := gw_in (in_6 _ (List.mem_of_getElem? (i := 185) (by decide +kernel))) (by decide +kernel)
theorem mi_X10_picture : mi_ok yX10_picture 11 := ⟨wi_X10_picture, wS_X10_picture, TX10, 78, rfl⟩
theorem wi_X10_pictureAt : Cond.instanceMethod yX10_pictureAt ∈ gw_t := gw_in (in_6 _ (List.mem_of_getElem? (i := 193) (by decide +kernel))) (by decide +kernel)
theorem wS_X10_pictureAt : Cond.selects yX10_pictureAt.cls yX10_pictureAt yX10_pictureAt ∈ gw_t := gw_in (in_p _ (List.mem_of_getElem? (i := 65) (by decide +kernel))) (by decide +kernel)
theorem mi_X10_pictureAt : mi_ok yX10_pictureAt 11 := ⟨wi_X10_pictureAt, wS_X10_pictureAt, TX10, 78, rfl⟩
theorem wi_X10_pictured : Cond.instanceMethod yX10_pictured ∈ gw_t := gw_in (in_6 _ (List.mem_of_getElem? (i := 200) (by decide +kernel))) (by decide +kernel)
theorem wS_X10_pictured : Cond.selects yX10_pictured.cls yX10_pictured yX10_pictured ∈ gw_t := gw_in (in_6 _ (List.mem_of_getElem? (i := 201) (by decide +kernel))) (by decide +kernel)
theorem mi_X10_pictured : mi_ok yX10_pictured 11 := ⟨wi_X10_pictured, wS_X10_pictured, TX10, 78, rfl⟩
theorem wi_X10_place : Cond.instanceMethod yX10_place ∈ gw_t := gw_in (in_4 _ (List.mem_of_getElem? (i := 173) (by decide +kernel))) (by decide +kernel)
theorem wS_X10_place : Cond.selects yX10_place.cls yX10_place yX10_place ∈ gw_t := gw_in (in_p _ (List.mem_of_getElem? (i := 24) (by decide +kernel))) (by decide +kernel)
theorem mi_X10_place : mi_ok yX10_place 11 := ⟨wi_X10_place, wS_X10_place, TX10, 78, rfl⟩
theorem wi_X10_prior : Cond.instanceMethod yX10_prior ∈ gw_t := gw_in (in_5 _ (List.mem_of_getElem? (i := 74) (by decide +kernel))) (by decide +kernel)
theorem wS_X10_prior : Cond.selects yX10_prior.cls yX10_prior yX10_prior ∈ gw_t := gw_in (in_5 _ (List.mem_of_getElem? (i := 75) (by decide +kernel))) (by decide +kernel)
theorem mi_X10_prior : mi_ok yX10_prior 11 := ⟨wi_X10_prior, wS_X10_prior, TX10, 78, rfl⟩
theorem wi_X10_put : Cond.instanceMethod yX10_put ∈ gw_t := gw_in (in_4 _ (List.mem_of_getElem? (i := 168) (by decide +kernel))) (by decide +kernel)
theorem wS_X10_put : Cond.selects yX10_put.cls yX10_put yX10_put ∈ gw_t := gw_in (in_4 _ (List.mem_of_getElem? (i := 169) (by decide +kernel))) (by decide +kernel)
theorem mi_X10_put : mi_ok yX10_put 11 := ⟨wi_X10_put, wS_X10_put, TX10, 78, rfl⟩
theorem wi_X10_read : Cond.instanceMethod yX10_read ∈ gw_t := gw_in (in_6 _ (List.mem_of_getElem? (i := 225) (by decide +kernel))) (by decide +kernel)
theorem wS_X10_read : Cond.selects yX10_read.cls yX10_read yX10_read ∈ gw_t := gw_in (in_p _ (List.mem_of_getElem? (i := 67) (by decide +kernel))) (by decide +kernel)
theorem mi_X10_read : mi_ok yX10_read 11 := ⟨wi_X10_read, wS_X10_read, TX10, 78, rfl⟩
theorem wi_X10_release : Cond.instanceMethod yX10_release ∈ gw_t := gw_in (in_6 _ (List.mem_of_getElem? (i := 196) (by decide +kernel))) (by decide +kernel)
theorem wS_X10_release : Cond.selects yX10_release.cls yX10_release yX10_release ∈ gw_t := gw_in (in_6 _ (List.mem_of_getElem? (i := 197) (by decide +kernel))) (by decide +kernel)
theorem mi_X10_release : mi_ok yX10_release 11 := ⟨wi_X10_release, wS_X10_release, TX10, 78, rfl⟩
theorem wi_X10_rise : Cond.instanceMethod yX10_rise ∈ gw_t := gw_in (in_6 _ (List.mem_of_getElem? (i := 216) (by decide +kernel))) (by decide +kernel)
theorem wS_X10_rise : Cond.selects yX10_rise.cls yX10_rise yX10_rise ∈ gw_t := gw_in (in_6 _ (List.mem_of_getElem? (i := 217) (by decide +kernel))) (by decide +kernel)
theorem mi_X10_rise : mi_ok yX10_rise 11 := ⟨wi_X10_rise, wS_X10_rise, TX10, 78, rfl⟩
theorem wi_X10_settle : Cond.instanceMethod yX10_settle ∈ gw_t := gw_in (in_6 _ (List.mem_of_getElem? (i := 100) (by decide +kernel))) (by decide +kernel)
theorem wS_X10_settle : Cond.selects yX10_settle.cls yX10_settle yX10_settle ∈ gw_t := gw_in (in_6 _ (List.mem_of_getElem? (i := 101) (by decide +kernel))) (by decide +kernel)
theorem mi_X10_settle : mi_ok yX10_settle 11 := ⟨wi_X10_settle, wS_X10_settle, TX10, 78, rfl⟩
theorem wi_X10_settlePage : Cond.instanceMethod yX10_settlePage ∈ gw_t := gw_in (in_5 _ (List.mem_of_getElem? (i := 10) (by decide +kernel))) (by decide +kernel)
theorem wS_X10_settlePage : Cond.selects yX10_settlePage.cls yX10_settlePage yX10_settlePage ∈ gw_t := gw_in (in_p _ (List.mem_of_getElem? (i := 43) (by decide +kernel))) (by decide +kernel)
theorem mi_X10_settlePage : mi_ok yX10_settlePage 11 := ⟨wi_X10_settlePage, wS_X10_settlePage, TX10, 78, rfl⟩
theorem wi_X10_shut : Cond.instanceMethod yX10_shut ∈ gw_t := gw_in (in_4 _ (List.mem_of_getElem? (i := 202) (by decide +kernel))) (by decide +kernel)
theorem wS_X10_shut : Cond.selects yX10_shut.cls yX10_shut yX10_shut ∈ gw_t := gw_in (in_p _ (List.mem_of_getElem? (i := 31) (by decide +kernel))) (by decide +kernel)
theorem mi_X10_shut : mi_ok yX10_shut 11 := ⟨wi_X10_shut, wS_X10_shut, TX10, 78, rfl⟩
theorem wi_X10_sink : Cond.instanceMethod yX10_sink ∈ gw_t := gw_in (in_6 _ (List.mem_of_getElem? (i := 96) (by decide +kernel))) (by decide +kernel)
theorem wS_X10_sink : Cond.selects yX10_sink.cls yX10_sink yX10_sink ∈ gw_t := gw_in (in_6 _ (List.mem_of_getElem? (i := 97) (by decide +kernel))) (by decide +kernel)
theorem mi_X10_sink : mi_ok yX10_sink 11 := ⟨wi_X10_sink, wS_X10_sink, TX10, 78, rfl⟩
theorem wi_X10_sinks : Cond.instanceMethod yX10_sinks ∈ gw_t := gw_in (in_5 _ (List.mem_of_getElem? (i := 14) (by decide +kernel))) (by decide +kernel)
theorem wS_X10_sinks : Cond.selects yX10_sinks.cls yX10_sinks yX10_sinks ∈ gw_t := gw_in (in_p _ (List.mem_of_getElem? (i := 44) (by decide +kernel))) (by decide +kernel)
theorem mi_X10_sinks : mi_ok yX10_sinks 11 := ⟨wi_X10_sinks, wS_X10_sinks, TX10, 78, rfl⟩
theorem wi_X10_spreadChanges : Cond.instanceMethod yX10_spreadChanges ∈ gw_t := gw_in (in_6 _ (List.mem_of_getElem? (i := 129) (by decide +kernel))) (by decide +kernel)
theorem wS_X10_spreadChanges : Cond.selects yX10_spreadChanges.cls yX10_spreadChanges yX10_spreadChanges ∈ gw_t := gw_in (in_p _ (List.mem_of_getElem? (i := 55) (by decide +kernel))) (by decide +kernel)
theorem mi_X10_spreadChanges : mi_ok yX10_spreadChanges 11 := ⟨wi_X10_spreadChanges, wS_X10_spreadChanges, TX10, 78, rfl⟩
theorem wi_X10_swap : Cond.instanceMethod yX10_swap ∈ gw_t := gw_in (in_5 _ (List.mem_of_getElem? (i := 49) (by decide +kernel))) (by decide +kernel)
theorem wS_X10_swap : Cond.selects yX10_swap.cls yX10_swap yX10_swap ∈ gw_t := gw_in (in_5 _ (List.mem_of_getElem? (i := 50) (by decide +kernel))) (by decide +kernel)
theorem mi_X10_swap : mi_ok yX10_swap 11 := ⟨wi_X10_swap, wS_X10_swap, TX10, 78, rfl⟩
theorem wi_X10_sweep : Cond.instanceMethod yX10_sweep ∈ gw_t := gw_in (in_5 _ (List.mem_of_getElem? (i := 57) (by decide +kernel))) (by decide +kernel)
theorem wS_X10_sweep : Cond.selects yX10_sweep.cls yX10_sweep yX10_sweep ∈ gw_t := gw_in (in_5 _ (List.mem_of_getElem? (i := 58) (by decide +kernel))) (by decide +kernel)
theorem mi_X10_sweep : mi_ok yX10_sweep 11 := ⟨wi_X10_sweep, wS_X10_sweep, TX10, 78, rfl⟩
theorem wi_X10_sync : Cond.instanceMethod yX10_sync ∈ gw_t := gw_in (in_6 _ (List.mem_of_getElem? (i := 144) (by decide +kernel))) (by decide +kernel)
theorem wS_X10_sync : Cond.selects yX10_sync.cls yX10_sync yX10_sync ∈ gw_t := gw_in (in_6 _ (List.mem_of_getElem? (i := 145) (by decide +kernel))) (by decide +kernel)
theorem mi_X10_sync : mi_ok yX10_sync 11 := ⟨wi_X10_sync, wS_X10_sync, TX10, 78, rfl⟩
theorem wi_X10_take : Cond.instanceMethod yX10_take ∈ gw_t := gw_in (in_6 _ (List.mem_of_getElem? (i := 157) (by decide +kernel))) (by decide +kernel)
theorem wS_X10_take : Cond.selects yX10_take.cls yX10_take yX10_take ∈ gw_t := gw_in (in_p _ (List.mem_of_getElem? (i := 58) (by decide +kernel))) (by decide +kernel)
theorem mi_X10_take : mi_ok yX10_take 11 := ⟨wi_X10_take, wS_X10_take, TX10, 78, rfl⟩
theorem wi_X10_visit : Cond.instanceMethod yX10_visit ∈ gw_t := gw_in (in_6 _ (List.mem_of_getElem? (i := 109) (by decide +kernel))) (by decide +kernel)
theorem wS_X10_visit : Cond.selects yX10_visit.cls yX10_visit yX10_visit ∈ gw_t := gw_in (in_p _ (List.mem_of_getElem? (i := 54) (by decide +kernel))) (by decide +kernel)
theorem mi_X10_visit : mi_ok yX10_visit 11 := ⟨wi_X10_visit, wS_X10_visit, TX10, 78, rfl⟩
theorem wi_X10_write : Cond.instanceMethod yX10_write ∈ gw_t := gw_in (in_4 _ (List.mem_of_getElem? (i := 182) (by decide +kernel))) (by decide +kernel)
theorem wS_X10_write : Cond.selects yX10_write.cls yX10_write yX10_write ∈ gw_t := gw_in (in_p _ (List.mem_of_getElem? (i := 26) (by decide +kernel))) (by decide +kernel)
theorem mi_X10_write : mi_ok yX10_write 11 := ⟨wi_X10_write, wS_X10_write, TX10, 78, rfl⟩
theorem wi_X10_writeAll : Cond.instanceMethod yX10_writeAll ∈ gw_t := gw_in (in_6 _ (List.mem_of_getElem? (i := 165) (by decide +kernel))) (by decide +kernel)
theorem wS_X10_writeAll : Cond.selects yX10_writeAll.cls yX10_writeAll yX10_writeAll ∈ gw_t := gw_in (in_p _ (List.mem_of_getElem? (i := 60) (by decide +kernel))) (by decide +kernel)
theorem mi_X10_writeAll : mi_ok yX10_writeAll 11 := ⟨wi_X10_writeAll, wS_X10_writeAll, TX10, 78, rfl⟩
theorem wi_X10_writes : Cond.instanceMethod yX10_writes ∈ gw_t := gw_in (in_7 _ (List.mem_of_getElem? (i := 0) (by decide +kernel))) (by decide +kernel)
theorem wS_X10_writes : Cond.selects yX10_writes.cls yX10_writes yX10_writes ∈ gw_t := gw_in (in_7 _ (List.mem_of_getElem? (i := 1) (by decide +kernel))) (by decide +kernel)
theorem mi_X10_writes : mi_ok yX10_writes 11 := ⟨wi_X10_writes, wS_X10_writes, TX10, 78, rfl⟩
theorem wi_X1_act : Cond.instanceMethod yX1_act ∈ gw_t := gw_in (in_2 _ (List.mem_of_getElem? (i := 193) (by decide +kernel))) (by decide +kernel)
theorem wS_X1_act : Cond.selects yX1_act.cls yX1_act yX1_act ∈ gw_t := gw_in (in_2 _ (List.mem_of_getElem? (i := 194) (by decide +kernel))) (by decide +kernel)
theorem mi_X1_act : mi_ok yX1_act 2 := ⟨wi_X1_act, wS_X1_act, TX1, 1, rfl⟩
theorem wi_X1_firstNotBelow : Cond.instanceMethod yX1_firstNotBelow ∈ gw_t := gw_in (in_1 _ (List.mem_of_getElem? (i := 234) (by decide +kernel))) (by decide +kernel)
theorem wS_X1_firstNotBelow : Cond.selects yX1_firstNotBelow.cls yX1_firstNotBelow yX1_firstNotBelow ∈ gw_t := gw_in (in_1 _ (List.mem_of_getElem? (i := 235) (by decide +kernel))) (by decide +kernel)
theorem mi_X1_firstNotBelow : mi_ok yX1_firstNotBelow 2 := ⟨wi_X1_firstNotBelow, wS_X1_firstNotBelow, TX1, 1, rfl⟩
theorem wi_X1_hasAt : Cond.instanceMethod yX1_hasAt ∈ gw_t := gw_in (in_2 _ (List.mem_of_getElem? (i := 17) (by decide +kernel))) (by decide +kernel)
theorem wS_X1_hasAt : Cond.selects yX1_hasAt.cls yX1_hasAt yX1_hasAt ∈ gw_t := gw_in (in_2 _ (List.mem_of_getElem? (i := 18) (by decide +kernel))) (by decide +kernel)
theorem mi_X1_hasAt : mi_ok yX1_hasAt 2 := ⟨wi_X1_hasAt, wS_X1_hasAt, TX1, 1, rfl⟩
theorem wi_X1_isChangedBy : Cond.instanceMethod yX1_isChangedBy ∈ gw_t := gw_in (in_2 _ (List.mem_of_getElem? (i := 159) (by decide +kernel))) (by decide +kernel)
theorem wS_X1_isChangedBy : Cond.selects yX1_isChangedBy.cls yX1_isChangedBy yX1_isChangedBy ∈ gw_t := gw_in (in_2 _ (List.mem_of_getElem? (i := 160) (by decide +kernel))) (by decide +kernel)
theorem mi_X1_isChangedBy : mi_ok yX1_isChangedBy 2 := ⟨wi_X1_isChangedBy, wS_X1_isChangedBy, TX1, 1, rfl⟩
theorem wi_X1_removeFrom : Cond.instanceMethod yX1_removeFrom ∈ gw_t := gw_in (in_2 _ (List.mem_of_getElem? (i := 198) (by decide +kernel))) (by decide +kernel)
theorem wS_X1_removeFrom : Cond.selects yX1_removeFrom.cls yX1_removeFrom yX1_removeFrom ∈ gw_t := gw_in (in_p _ (List.mem_of_getElem? (i := 7) (by decide +kernel))) (by decide +kernel)
theorem mi_X1_removeFrom : mi_ok yX1_removeFrom 2 := ⟨wi_X1_removeFrom, wS_X1_removeFrom, TX1, 1, rfl⟩
theorem wi_X1_rowOf : Cond.instanceMethod yX1_rowOf ∈ gw_t := gw_in (in_1 _ (List.mem_of_getElem? (i := 230) (by decide +kernel))) (by decide +kernel)
theorem wS_X1_rowOf : Cond.selects yX1_rowOf.cls yX1_rowOf yX1_rowOf ∈ gw_t := gw_in (in_1 _ (List.mem_of_getElem? (i := 231) (by decide +kernel))) (by decide +kernel)
theorem mi_X1_rowOf : mi_ok yX1_rowOf 2 := ⟨wi_X1_rowOf, wS_X1_rowOf, TX1, 1, rfl⟩
theorem wi_X4_changes : Cond.instanceMethod yX4_changes ∈ gw_t := gw_in (in_2 _ (List.mem_of_getElem? (i := 167) (by decide +kernel))) (by decide +kernel)
theorem wS_X4_changes : Cond.selects yX4_changes.cls yX4_changes yX4_changes ∈ gw_t := gw_in (in_2 _ (List.mem_of_getElem? (i := 168) (by decide +kernel))) (by decide +kernel)
theorem mi_X4_changes : mi_ok yX4_changes 5 := ⟨wi_X4_changes, wS_X4_changes, TX4, 6, rfl⟩
theorem wi_X4_meets : Cond.instanceMethod yX4_meets ∈ gw_t := gw_in (in_2 _ (List.mem_of_getElem? (i := 163) (by decide +kernel))) (by decide +kernel)
theorem wS_X4_meets : Cond.selects yX4_meets.cls yX4_meets yX4_meets ∈ gw_t := gw_in (in_2 _ (List.mem_of_getElem? (i := 164) (by decide +kernel))) (by decide +kernel)
theorem mi_X4_meets : mi_ok yX4_meets 5 := ⟨wi_X4_meets, wS_X4_meets, TX4, 6, rfl⟩
theorem wi_X4_rowAfter : Cond.instanceMethod yX4_rowAfter ∈ gw_t := gw_in (in_2 _ (List.mem_of_getElem? (i := 211) (by decide +kernel))) (by decide +kernel)
theorem wS_X4_rowAfter : Cond.selects yX4_rowAfter.cls yX4_rowAfter yX4_rowAfter ∈ gw_t := gw_in (in_2 _ (List.mem_of_getElem? (i := 212) (by decide +kernel))) (by decide +kernel)
theorem mi_X4_rowAfter : mi_ok yX4_rowAfter 5 := ⟨wi_X4_rowAfter, wS_X4_rowAfter, TX4, 6, rfl⟩
theorem wi_X5_copyInto : Cond.instanceMethod yX5_copyInto ∈ gw_t := gw_in (in_2 _ (List.mem_of_getElem? (i := 184) (by decide +kernel))) (by decide +kernel)
theorem wS_X5_copyInto : Cond.selects yX5_copyInto.cls yX5_copyInto yX5_copyInto ∈ gw_t := gw_in (in_p _ (List.mem_of_getElem? (i := 6) (by decide +kernel))) (by decide +kernel)
theorem mi_X5_copyInto : mi_ok yX5_copyInto 6 := ⟨wi_X5_copyInto, wS_X5_copyInto, TX5, 5, rfl⟩
theorem wi_X5_fullestKid : Cond.instanceMethod yX5_fullestKid ∈ gw_t := gw_in (in_3 _ (List.mem_of_getElem? (i := 27) (by decide +kernel))) (by decide +kernel)
theorem wS_X5_fullestKid : Cond.selects yX5_fullestKid.cls yX5_fullestKid yX5_fullestKid ∈ gw_t := gw_in (in_3 _ (List.mem_of_getElem? (i := 28) (by decide +kernel))) (by decide +kernel)
theorem mi_X5_fullestKid : mi_ok yX5_fullestKid 6 := ⟨wi_X5_fullestKid, wS_X5_fullestKid, TX5, 5, rfl⟩
theorem wi_X5_isChangedBy : Cond.instanceMethod yX5_isChangedBy ∈ gw_t := gw_in (in_2 _ (List.mem_of_getElem? (i := 144) (by decide +kernel))) (by decide +kernel)
theorem wS_X5_isChangedBy : Cond.selects yX5_isChangedBy.cls yX5_isChangedBy yX5_isChangedBy ∈ gw_t := gw_in (in_2 _ (List.mem_of_getElem? (i := 145) (by decide +kernel))) (by decide +kernel)
theorem mi_X5_isChangedBy : mi_ok yX5_isChangedBy 6 := ⟨wi_X5_isChangedBy, wS_X5_isChangedBy, TX5, 5, rfl⟩
theorem wi_X5_isLeaf : Cond.instanceMethod yX5_isLeaf ∈ gw_t := gw_in (in_2 _ (List.mem_of_getElem? (i := 149) (by decide +kernel))) (by decide +kernel)
theorem wS_X5_isLeaf : Cond.selects yX5_isLeaf.cls yX5_isLeaf yX5_isLeaf ∈ gw_t := gw_in (in_2 _ (List.mem_of_getElem? (i := 150) (by decide +kernel))) (by decide +kernel)
theorem mi_X5_isLeaf : mi_ok yX5_isLeaf 6 := ⟨wi_X5_isLeaf, wS_X5_isLeaf, TX5, 5, rfl⟩
theorem wi_X5_isTooBig : Cond.instanceMethod yX5_isTooBig ∈ gw_t := gw_in (in_3 _ (List.mem_of_getElem? (i := 51) (by decide +kernel))) (by decide +kernel)
theorem wS_X5_isTooBig : Cond.selects yX5_isTooBig.cls yX5_isTooBig yX5_isTooBig ∈ gw_t := gw_in (in_3 _ (List.mem_of_getElem? (i := 52) (by decide +kernel))) (by decide +kernel)
theorem mi_X5_isTooBig : mi_ok yX5_isTooBig 6 := ⟨wi_X5_isTooBig, wS_X5_isTooBig, TX5, 5, rfl⟩
theorem wi_X5_kidFor : Cond.instanceMethod yX5_kidFor ∈ gw_t := gw_in (in_3 _ (List.mem_of_getElem? (i := 207) (by decide +kernel))) (by decide +kernel)
theorem wS_X5_kidFor : Cond.selects yX5_kidFor.cls yX5_kidFor yX5_kidFor ∈ gw_t := gw_in (in_3 _ (List.mem_of_getElem? (i := 208) (by decide +kernel))) (by decide +kernel)
theorem mi_X5_kidFor : mi_ok yX5_kidFor 6 := ⟨wi_X5_kidFor, wS_X5_kidFor, TX5, 5, rfl⟩
theorem wi_X5_lastKeyOf : Cond.instanceMethod yX5_lastKeyOf ∈ gw_t := gw_in (in_3 _ (List.mem_of_getElem? (i := 13) (by decide +kernel))) (by decide +kernel)
theorem wS_X5_lastKeyOf : Cond.selects yX5_lastKeyOf.cls yX5_lastKeyOf yX5_lastKeyOf ∈ gw_t := gw_in (in_3 _ (List.mem_of_getElem? (i := 14) (by decide +kernel))) (by decide +kernel)
theorem mi_X5_lastKeyOf : mi_ok yX5_lastKeyOf 6 := ⟨wi_X5_lastKeyOf, wS_X5_lastKeyOf, TX5, 5, rfl⟩
theorem wi_X5_lettersFrom : Cond.instanceMethod yX5_lettersFrom ∈ gw_t := gw_in (in_3 _ (List.mem_of_getElem? (i := 32) (by decide +kernel))) (by decide +kernel)
theorem wS_X5_lettersFrom : Cond.selects yX5_lettersFrom.cls yX5_lettersFrom yX5_lettersFrom ∈ gw_t := gw_in (in_p _ (List.mem_of_getElem? (i := 11) (by decide +kernel))) (by decide +kernel)
theorem mi_X5_lettersFrom : mi_ok yX5_lettersFrom 6 := ⟨wi_X5_lettersFrom, wS_X5_lettersFrom, TX5, 5, rfl⟩
theorem wi_X5_moveLetters : Cond.instanceMethod yX5_moveLetters ∈ gw_t := gw_in (in_3 _ (List.mem_of_getElem? (i := 40) (by decide +kernel))) (by decide +kernel)
theorem wS_X5_moveLetters : Cond.selects yX5_moveLetters.cls yX5_moveLetters yX5_moveLetters ∈ gw_t := gw_in (in_3 _ (List.mem_of_getElem? (i := 41) (by decide +kernel))) (by decide +kernel)
theorem mi_X5_moveLetters : mi_ok yX5_moveLetters 6 := ⟨wi_X5_moveLetters, wS_X5_moveLetters, TX5, 5, rfl⟩
theorem wi_X5_opened : Cond.instanceMethod yX5_opened ∈ gw_t := gw_in (in_2 _ (List.mem_of_getElem? (i := 171) (by decide +kernel))) (by decide +kernel)
theorem wS_X5_opened : Cond.selects yX5_opened.cls yX5_opened yX5_opened ∈ gw_t := gw_in (in_2 _ (List.mem_of_getElem? (i := 172) (by decide +kernel))) (by decide +kernel)
theorem mi_X5_opened : mi_ok yX5_opened 6 := ⟨wi_X5_opened, wS_X5_opened, TX5, 5, rfl⟩
theorem wi_X5_partKid : Cond.instanceMethod yX5_partKid ∈ gw_t := gw_in (in_3 _ (List.mem_of_getElem? (i := 47) (by decide +kernel))) (by decide +kernel)
theorem wS_X5_partKid : Cond.selects yX5_partKid.cls yX5_partKid yX5_partKid ∈ gw_t := gw_in (in_3 _ (List.mem_of_getElem? (i := 48) (by decide +kernel))) (by decide +kernel)
theorem mi_X5_partKid : mi_ok yX5_partKid 6 := ⟨wi_X5_partKid, wS_X5_partKid, TX5, 5, rfl⟩
theorem wi_X5_partOf : Cond.instanceMethod yX5_partOf ∈ gw_t := gw_in (in_3 _ (List.mem_of_getElem? (i := 57) (by decide +kernel))) (by decide +kernel)
theorem wS_X5_partOf : Cond.selects yX5_partOf.cls yX5_partOf yX5_partOf ∈ gw_t := gw_in (in_p _ (List.mem_of_getElem? (i := 12) (by decide +kernel))) (by decide +kernel)
theorem mi_X5_partOf : mi_ok yX5_partOf 6 := ⟨wi_X5_partOf, wS_X5_partOf, TX5, 5, rfl⟩
theorem wi_X5_takeIn : Cond.instanceMethod yX5_takeIn ∈ gw_t := gw_in (in_2 _ (List.mem_of_getElem? (i := 189) (by decide +kernel))) (by decide +kernel)
theorem wS_X5_takeIn : Cond.selects yX5_takeIn.cls yX5_takeIn yX5_takeIn ∈ gw_t := gw_in (in_2 _ (List.mem_of_getElem? (i := 190) (by decide +kernel))) (by decide +kernel)
theorem mi_X5_takeIn : mi_ok yX5_takeIn 6 := ⟨wi_X5_takeIn, wS_X5_takeIn, TX5, 5, rfl⟩
theorem wi_X5_takeInParts : Cond.instanceMethod yX5_takeInParts ∈ gw_t := gw_in (in_3 _ (List.mem_of_getElem? (i := 7) (by decide +kernel))) (by decide +kernel)
theorem wS_X5_takeInParts : Cond.selects yX5_takeInParts.cls yX5_takeInParts yX5_takeInParts ∈ gw_t := gw_in (in_p _ (List.mem_of_getElem? (i := 10) (by decide +kernel))) (by decide +kernel)
theorem mi_X5_takeInParts : mi_ok yX5_takeInParts 6 := ⟨wi_X5_takeInParts, wS_X5_takeInParts, TX5, 5, rfl⟩
theorem wi_X5_width : Cond.instanceMethod yX5_width ∈ gw_t := gw_in (in_2 _ (List.mem_of_getElem? (i := 179) (by decide +kernel))) (by decide +kernel)
theorem wS_X5_width : Cond.selects yX5_width.cls yX5_width yX5_width ∈ gw_t := gw_in (in_2 _ (List.mem_of_getElem? (i := 180) (by decide +kernel))) (by decide +kernel)
theorem mi_X5_width : mi_ok yX5_width 6 := ⟨wi_X5_width, wS_X5_width, TX5, 5, rfl⟩
theorem wi_X7_addBytes : Cond.instanceMethod yX7_addBytes ∈ gw_t := gw_in (in_1 _ (List.mem_of_getElem? (i := 210) (by decide +kernel))) (by decide +kernel)
theorem wS_X7_addBytes : Cond.selects yX7_addBytes.cls yX7_addBytes yX7_addBytes ∈ gw_t := gw_in (in_1 _ (List.mem_of_getElem? (i := 211) (by decide +kernel))) (by decide +kernel)
theorem mi_X7_addBytes : mi_ok yX7_addBytes 8 := ⟨wi_X7_addBytes, wS_X7_addBytes, TX7, 2, rfl⟩
theorem wi_X7_become : Cond.instanceMethod yX7_become ∈ gw_t := gw_in (in_3 _ (List.mem_of_getElem? (i := 97) (by decide +kernel))) (by decide +kernel)
theorem wS_X7_become : Cond.selects yX7_become.cls yX7_become yX7_become ∈ gw_t := gw_in (in_3 _ (List.mem_of_getElem? (i := 98) (by decide +kernel))) (by decide +kernel)
theorem mi_X7_become : mi_ok yX7_become 8 := ⟨wi_X7_become, wS_X7_become, TX7, 2, rfl⟩
theorem wi_X7_part : Cond.instanceMethod yX7_part ∈ gw_t := gw_in (in_2 _ (List.mem_of_getElem? (i := 27) (by decide +kernel))) (by decide +kernel)
theorem wS_X7_part : Cond.selects yX7_part.cls yX7_part yX7_part ∈ gw_t := gw_in (in_2 _ (List.mem_of_getElem? (i := 28) (by decide +kernel))) (by decide +kernel)
theorem mi_X7_part : mi_ok yX7_part 8 := ⟨wi_X7_part, wS_X7_part, TX7, 2, rfl⟩
theorem wi_X8_lettersOnWay : Cond.instanceMethod yX8_lettersOnWay ∈ gw_t := gw_in (in_3 _ (List.mem_of_getElem? (i := 201) (by decide +kernel))) (by decide +kernel)
theorem wS_X8_lettersOnWay : Cond.selects yX8_lettersOnWay.cls yX8_lettersOnWay yX8_lettersOnWay ∈ gw_t := gw_in (in_3 _ (List.mem_of_getElem? (i := 202) (by decide +kernel))) (by decide +kernel)
theorem mi_X8_lettersOnWay : mi_ok yX8_lettersOnWay 9 := ⟨wi_X8_lettersOnWay, wS_X8_lettersOnWay, TX8, 1, rfl⟩
theorem wi_X8_levels : Cond.instanceMethod yX8_levels ∈ gw_t := gw_in (in_3 _ (List.mem_of_getElem? (i := 169) (by decide +kernel))) (by decide +kernel)
theorem wS_X8_levels : Cond.selects yX8_levels.cls yX8_levels yX8_levels ∈ gw_t := gw_in (in_3 _ (List.mem_of_getElem? (i := 170) (by decide +kernel))) (by decide +kernel)
theorem mi_X8_levels : mi_ok yX8_levels 9 := ⟨wi_X8_levels, wS_X8_levels, TX8, 1, rfl⟩
theorem wi_X8_partRoot : Cond.instanceMethod yX8_partRoot ∈ gw_t := gw_in (in_3 _ (List.mem_of_getElem? (i := 63) (by decide +kernel))) (by decide +kernel)
theorem wS_X8_partRoot : Cond.selects yX8_partRoot.cls yX8_partRoot yX8_partRoot ∈ gw_t := gw_in (in_p _ (List.mem_of_getElem? (i := 13) (by decide +kernel))) (by decide +kernel)
theorem mi_X8_partRoot : mi_ok yX8_partRoot 9 := ⟨wi_X8_partRoot, wS_X8_partRoot, TX8, 1, rfl⟩
theorem wi_X8_settleAll : Cond.instanceMethod yX8_settleAll ∈ gw_t := gw_in (in_3 _ (List.mem_of_getElem? (i := 146) (by decide +kernel))) (by decide +kernel)
theorem wS_X8_settleAll : Cond.selects yX8_settleAll.cls yX8_settleAll yX8_settleAll ∈ gw_t := gw_in (in_3 _ (List.mem_of_getElem? (i := 147) (by decide +kernel))) (by decide +kernel)
theorem mi_X8_settleAll : mi_ok yX8_settleAll 9 := ⟨wi_X8_settleAll, wS_X8_settleAll, TX8, 1, rfl⟩
theorem wi_X8_sinkRoot : Cond.instanceMethod yX8_sinkRoot ∈ gw_t := gw_in (in_3 _ (List.mem_of_getElem? (i := 136) (by decide +kernel))) (by decide +kernel)
theorem wS_X8_sinkRoot : Cond.selects yX8_sinkRoot.cls yX8_sinkRoot yX8_sinkRoot ∈ gw_t := gw_in (in_3 _ (List.mem_of_getElem? (i := 137) (by decide +kernel))) (by decide +kernel)
theorem mi_X8_sinkRoot : mi_ok yX8_sinkRoot 9 := ⟨wi_X8_sinkRoot, wS_X8_sinkRoot, TX8, 1, rfl⟩
theorem wi_X9_adopt : Cond.instanceMethod yX9_adopt ∈ gw_t := gw_in (in_4 _ (List.mem_of_getElem? (i := 126) (by decide +kernel))) (by decide +kernel)
theorem wS_X9_adopt : Cond.selects yX9_adopt.cls yX9_adopt yX9_adopt ∈ gw_t := gw_in (in_p _ (List.mem_of_getElem? (i := 23) (by decide +kernel))) (by decide +kernel)
theorem mi_X9_adopt : mi_ok yX9_adopt 10 := ⟨wi_X9_adopt, wS_X9_adopt, TX9, 10, rfl⟩
theorem wi_X9_append : Cond.instanceMethod yX9_append ∈ gw_t := gw_in (in_3 _ (List.mem_of_getElem? (i := 73) (by decide +kernel))) (by decide +kernel)
theorem wS_X9_append : Cond.selects yX9_append.cls yX9_append yX9_append ∈ gw_t := gw_in (in_3 _ (List.mem_of_getElem? (i := 74) (by decide +kernel))) (by decide +kernel)
theorem mi_X9_append : mi_ok yX9_append 10 := ⟨wi_X9_append, wS_X9_append, TX9, 10, rfl⟩
theorem wi_X9_bend : Cond.instanceMethod yX9_bend ∈ gw_t := gw_in (in_4 _ (List.mem_of_getElem? (i := 144) (by decide +kernel))) (by decide +kernel)
theorem wS_X9_bend : Cond.selects yX9_bend.cls yX9_bend yX9_bend ∈ gw_t := gw_in (in_4 _ (List.mem_of_getElem? (i := 145) (by decide +kernel))) (by decide +kernel)
theorem mi_X9_bend : mi_ok yX9_bend 10 := ⟨wi_X9_bend, wS_X9_bend, TX9, 10, rfl⟩
theorem wi_X9_border : Cond.instanceMethod yX9_border ∈ gw_t := gw_in (in_3 _ (List.mem_of_getElem? (i := 189) (by decide +kernel))) (by decide +kernel)
theorem wS_X9_border : Cond.selects yX9_border.cls yX9_border yX9_border ∈ gw_t := gw_in (in_3 _ (List.mem_of_getElem? (i := 190) (by decide +kernel))) (by decide +kernel)
theorem mi_X9_border : mi_ok yX9_border 10 := ⟨wi_X9_border, wS_X9_border, TX9, 10, rfl⟩
theorem wi_X9_byteAt : Cond.instanceMethod yX9_byteAt ∈ gw_t := gw_in (in_1 _ (List.mem_of_getElem? (i := 218) (by decide +kernel))) (by decide +kernel)
theorem wS_X9_byteAt : Cond.selects yX9_byteAt.cls yX9_byteAt yX9_byteAt ∈ gw_t := gw_in (in_1 _ (List.mem_of_getElem? (i := 219) (by decide +kernel))) (by decide +kernel)
theorem mi_X9_byteAt : mi_ok yX9_byteAt 10 := ⟨wi_X9_byteAt, wS_X9_byteAt, TX9, 10, rfl⟩
theorem wi_X9_count : Cond.instanceMethod yX9_count ∈ gw_t := gw_in (in_3 _ (List.mem_of_getElem? (i := 128) (by decide +kernel))) (by decide +kernel)
theorem wS_X9_count : Cond.selects yX9_count.cls yX9_count yX9_count ∈ gw_t := gw_in (in_3 _ (List.mem_of_getElem? (i := 129) (by decide +kernel))) (by decide +kernel)
theorem mi_X9_count : mi_ok yX9_count 10 := ⟨wi_X9_count, wS_X9_count, TX9, 10, rfl⟩
theorem wi_X9_crash : Cond.instanceMethod yX9_crash ∈ gw_t := gw_in (in_4 _ (List.mem_of_getElem? (i := 113) (by decide +kernel))) (by decide +kernel)
theorem wS_X9_crash : Cond.selects yX9_crash.cls yX9_crash yX9_crash ∈ gw_t := gw_in (in_4 _ (List.mem_of_getElem? (i := 114) (by decide +kernel))) (by decide +kernel)
theorem mi_X9_crash : mi_ok yX9_crash 10 := ⟨wi_X9_crash, wS_X9_crash, TX9, 10, rfl⟩
theorem wi_X9_cut : Cond.instanceMethod yX9_cut ∈ gw_t := gw_in (in_1 _ (List.mem_of_getElem? (i := 214) (by decide +kernel))) (by decide +kernel)
theorem wS_X9_cut : Cond.selects yX9_cut.cls yX9_cut yX9_cut ∈ gw_t := gw_in (in_1 _ (List.mem_of_getElem? (i := 215) (by decide +kernel))) (by decide +kernel)
theorem mi_X9_cut : mi_ok yX9_cut 10 := ⟨wi_X9_cut, wS_X9_cut, TX9, 10, rfl⟩
theorem wi_X9_disk : Cond.instanceMethod yX9_disk ∈ gw_t := gw_in (in_4 _ (List.mem_of_getElem? (i := 140) (by decide +kernel))) (by decide +kernel)
theorem wS_X9_disk : Cond.selects yX9_disk.cls yX9_disk yX9_disk ∈ gw_t := gw_in (in_4 _ (List.mem_of_getElem? (i := 141) (by decide +kernel))) (by decide +kernel)
theorem mi_X9_disk : mi_ok yX9_disk 10 := ⟨wi_X9_disk, wS_X9_disk, TX9, 10, rfl⟩
theorem wi_X9_drop : Cond.instanceMethod yX9_drop ∈ gw_t := gw_in (in_3 _ (List.mem_of_getElem? (i := 81) (by decide +kernel))) (by decide +kernel)
theorem wS_X9_drop : Cond.selects yX9_drop.cls yX9_drop yX9_drop ∈ gw_t := gw_in (in_3 _ (List.mem_of_getElem? (i := 82) (by decide +kernel))) (by decide +kernel)
theorem mi_X9_drop : mi_ok yX9_drop 10 := ⟨wi_X9_drop, wS_X9_drop, TX9, 10, rfl⟩
theorem wi_X9_fall : Cond.instanceMethod yX9_fall ∈ gw_t := gw_in (in_4 _ (List.mem_of_getElem? (i := 109) (by decide +kernel))) (by decide +kernel)
theorem wS_X9_fall : Cond.selects yX9_fall.cls yX9_fall yX9_fall ∈ gw_t := gw_in (in_4 _ (List.mem_of_getElem? (i := 110) (by decide +kernel))) (by decide +kernel)
theorem mi_X9_fall : mi_ok yX9_fall 10 := ⟨wi_X9_fall, wS_X9_fall, TX9, 10, rfl⟩
theorem wi_X9_feed : Cond.instanceMethod yX9_feed ∈ gw_t := gw_in (in_1 _ (List.mem_of_getElem? (i := 206) (by decide +kernel))) (by decide +kernel)
theorem wS_X9_feed : Cond.selects yX9_feed.cls yX9_feed yX9_feed ∈ gw_t := gw_in (in_1 _ (List.mem_of_getElem? (i := 207) (by decide +kernel))) (by decide +kernel)
theorem mi_X9_feed : mi_ok yX9_feed 10 := ⟨wi_X9_feed, wS_X9_feed, TX9, 10, rfl⟩
theorem wi_X9_findEntry : Cond.instanceMethod yX9_findEntry ∈ gw_t := gw_in (in_3 _ (List.mem_of_getElem? (i := 113) (by decide +kernel))) (by decide +kernel)
theorem wS_X9_findEntry : Cond.selects yX9_findEntry.cls yX9_findEntry yX9_findEntry ∈ gw_t := gw_in (in_p _ (List.mem_of_getElem? (i := 15) (by decide +kernel))) (by decide +kernel)
theorem mi_X9_findEntry : mi_ok yX9_findEntry 10 := ⟨wi_X9_findEntry, wS_X9_findEntry, TX9, 10, rfl⟩
theorem wi_X9_found : Cond.instanceMethod yX9_found ∈ gw_t := gw_in (in_3 _ (List.mem_of_getElem? (i := 124) (by decide +kernel))) (by decide +kernel)
theorem wS_X9_found : Cond.selects yX9_found.cls yX9_found yX9_found ∈ gw_t := gw_in (in_3 _ (List.mem_of_getElem? (i := 125) (by decide +kernel))) (by decide +kernel)
theorem mi_X9_found : mi_ok yX9_found 10 := ⟨wi_X9_found, wS_X9_found, TX9, 10, rfl⟩
theorem wi_X9_free : Cond.instanceMethod yX9_free ∈ gw_t := gw_in (in_4 _ (List.mem_of_getElem? (i := 105) (by decide +kernel))) (by decide +kernel)
theorem wS_X9_free : Cond.selects yX9_free.cls yX9_free yX9_free ∈ gw_t := gw_in (in_4 _ (List.mem_of_getElem? (i := 106) (by decide +kernel))) (by decide +kernel)
theorem mi_X9_free : mi_ok yX9_free 10 := ⟨wi_X9_free, wS_X9_free, TX9, 10, rfl⟩
theorem wi_X9_freePlaces : Cond.instanceMethod yX9_freePlaces ∈ gw_t := gw_in (in_3 _ (List.mem_of_getElem? (i := 220) (by decide +kernel))) (by decide +kernel)
theorem wS_X9_freePlaces : Cond.selects yX9_freePlaces.cls yX9_freePlaces yX9_freePlaces ∈ gw_t := gw_in (in_p _ (List.mem_of_getElem? (i := 16) (by decide +kernel))) (by decide +kernel)
theorem mi_X9_freePlaces : mi_ok yX9_freePlaces 10 := ⟨wi_X9_freePlaces, wS_X9_freePlaces, TX9, 10, rfl⟩
theorem wi_X9_get : Cond.instanceMethod yX9_get ∈ gw_t := gw_in (in_3 _ (List.mem_of_getElem? (i := 89) (by decide +kernel))) (by decide +kernel)
theorem wS_X9_get : Cond.selects yX9_get.cls yX9_get yX9_get ∈ gw_t := gw_in (in_3 _ (List.mem_of_getElem? (i := 90) (by decide +kernel))) (by decide +kernel)
theorem mi_X9_get : mi_ok yX9_get 10 := ⟨wi_X9_get, wS_X9_get, TX9, 10, rfl⟩
theorem wi_X9_goDown : Cond.instanceMethod yX9_goDown ∈ gw_t := gw_in (in_4 _ (List.mem_of_getElem? (i := 19) (by decide +kernel))) (by decide +kernel)
theorem wS_X9_goDown : Cond.selects yX9_goDown.cls yX9_goDown yX9_goDown ∈ gw_t := gw_in (in_p _ (List.mem_of_getElem? (i := 21) (by decide +kernel))) (by decide +kernel)
theorem mi_X9_goDown : mi_ok yX9_goDown 10 := ⟨wi_X9_goDown, wS_X9_goDown, TX9, 10, rfl⟩
theorem wi_X9_has : Cond.instanceMethod yX9_has ∈ gw_t := gw_in (in_3 _ (List.mem_of_getElem? (i := 103) (by decide +kernel))) (by decide +kernel)
theorem wS_X9_has : Cond.selects yX9_has.cls yX9_has yX9_has ∈ gw_t := gw_in (in_3 _ (List.mem_of_getElem? (i := 104) (by decide +kernel))) (by decide +kernel)
theorem mi_X9_has : mi_ok yX9_has 10 := ⟨wi_X9_has, wS_X9_has, TX9, 10, rfl⟩
theorem wi_X9_height : Cond.instanceMethod yX9_height ∈ gw_t := gw_in (in_3 _ (List.mem_of_getElem? (i := 165) (by decide +kernel))) (by decide +kernel)
theorem wS_X9_height : Cond.selects yX9_height.cls yX9_height yX9_height ∈ gw_t := gw_in (in_3 _ (List.mem_of_getElem? (i := 166) (by decide +kernel))) (by decide +kernel)
theorem mi_X9_height : mi_ok yX9_height 10 := ⟨wi_X9_height, wS_X9_height, TX9, 10, rfl⟩
theorem wi_X9_letter : Cond.instanceMethod yX9_letter ∈ gw_t := gw_in (in_3 _ (List.mem_of_getElem? (i := 193) (by decide +kernel))) (by decide +kernel)
theorem wS_X9_letter : Cond.selects yX9_letter.cls yX9_letter yX9_letter ∈ gw_t := gw_in (in_3 _ (List.mem_of_getElem? (i := 194) (by decide +kernel))) (by decide +kernel)
theorem mi_X9_letter : mi_ok yX9_letter 10 := ⟨wi_X9_letter, wS_X9_letter, TX9, 10, rfl⟩
theorem wi_X9_letters : Cond.instanceMethod yX9_letters ∈ gw_t := gw_in (in_3 _ (List.mem_of_getElem? (i := 174) (by decide +kernel))) (by decide +kernel)
theorem wS_X9_letters : Cond.selects yX9_letters.cls yX9_letters yX9_letters ∈ gw_t := gw_in (in_3 _ (List.mem_of_getElem? (i := 175) (by decide +kernel))) (by decide +kernel)
theorem mi_X9_letters : mi_ok yX9_letters 10 := ⟨wi_X9_letters, wS_X9_letters, TX9, 10, rfl⟩
theorem wi_X9_load : Cond.instanceMethod yX9_load ∈ gw_t := gw_in (in_3 _ (List.mem_of_getElem? (i := 94) (by decide +kernel))) (by decide +kernel)
theorem wS_X9_load : Cond.selects yX9_load.cls yX9_load yX9_load ∈ gw_t := gw_in (in_p _ (List.mem_of_getElem? (i := 14) (by decide +kernel))) (by decide +kernel)
theorem mi_X9_load : mi_ok yX9_load 10 := ⟨wi_X9_load, wS_X9_load, TX9, 10, rfl⟩
theorem wi_X9_look : Cond.instanceMethod yX9_look ∈ gw_t := gw_in (in_4 _ (List.mem_of_getElem? (i := 81) (by decide +kernel))) (by decide +kernel)
theorem wS_X9_look : Cond.selects yX9_look.cls yX9_look yX9_look ∈ gw_t := gw_in (in_4 _ (List.mem_of_getElem? (i := 82) (by decide +kernel))) (by decide +kernel)
theorem mi_X9_look : mi_ok yX9_look 10 := ⟨wi_X9_look, wS_X9_look, TX9, 10, rfl⟩
theorem wi_X9_met : Cond.instanceMethod yX9_met ∈ gw_t := gw_in (in_3 _ (List.mem_of_getElem? (i := 197) (by decide +kernel))) (by decide +kernel)
theorem wS_X9_met : Cond.selects yX9_met.cls yX9_met yX9_met ∈ gw_t := gw_in (in_3 _ (List.mem_of_getElem? (i := 198) (by decide +kernel))) (by decide +kernel)
theorem mi_X9_met : mi_ok yX9_met 10 := ⟨wi_X9_met, wS_X9_met, TX9, 10, rfl⟩
theorem wi_X9_next : Cond.instanceMethod yX9_next ∈ gw_t := gw_in (in_3 _ (List.mem_of_getElem? (i := 107) (by decide +kernel))) (by decide +kernel)
theorem wS_X9_next : Cond.selects yX9_next.cls yX9_next yX9_next ∈ gw_t := gw_in (in_3 _ (List.mem_of_getElem? (i := 108) (by decide +kernel))) (by decide +kernel)
theorem mi_X9_next : mi_ok yX9_next 10 := ⟨wi_X9_next, wS_X9_next, TX9, 10, rfl⟩
theorem wi_X9_number : Cond.instanceMethod yX9_number ∈ gw_t := gw_in (in_4 _ (List.mem_of_getElem? (i := 152) (by decide +kernel))) (by decide +kernel)
theorem wS_X9_number : Cond.selects yX9_number.cls yX9_number yX9_number ∈ gw_t := gw_in (in_4 _ (List.mem_of_getElem? (i := 153) (by decide +kernel))) (by decide +kernel)
theorem mi_X9_number : mi_ok yX9_number 10 := ⟨wi_X9_number, wS_X9_number, TX9, 10, rfl⟩
theorem wi_X9_page : Cond.instanceMethod yX9_page ∈ gw_t := gw_in (in_3 _ (List.mem_of_getElem? (i := 179) (by decide +kernel))) (by decide +kernel)
theorem wS_X9_page : Cond.selects yX9_page.cls yX9_page yX9_page ∈ gw_t := gw_in (in_3 _ (List.mem_of_getElem? (i := 180) (by decide +kernel))) (by decide +kernel)
theorem mi_X9_page : mi_ok yX9_page 10 := ⟨wi_X9_page, wS_X9_page, TX9, 10, rfl⟩
theorem wi_X9_pages : Cond.instanceMethod yX9_pages ∈ gw_t := gw_in (in_3 _ (List.mem_of_getElem? (i := 157) (by decide +kernel))) (by decide +kernel)
theorem wS_X9_pages : Cond.selects yX9_pages.cls yX9_pages yX9_pages ∈ gw_t := gw_in (in_3 _ (List.mem_of_getElem? (i := 158) (by decide +kernel))) (by decide +kernel)
theorem mi_X9_pages : mi_ok yX9_pages 10 := ⟨wi_X9_pages, wS_X9_pages, TX9, 10, rfl⟩
theorem wi_X9_picture : Cond.instanceMethod yX9_picture ∈ gw_t := gw_in (in_4 _ (List.mem_of_getElem? (i := 62) (by decide +kernel))) (by decide +kernel)
theorem wS_X9_picture : Cond.selects yX9_picture.cls yX9_picture yX9_picture ∈ gw_t := gw_in (in_4 _ (List.mem_of_getElem? (i := 63) (by decide +kernel))) (by decide +kernel)
theorem mi_X9_picture : mi_ok yX9_picture 10 := ⟨wi_X9_picture, wS_X9_picture, TX9, 10, rfl⟩
theorem wi_X9_pictureIndex : Cond.instanceMethod yX9_pictureIndex ∈ gw_t := gw_in (in_4 _ (List.mem_of_getElem? (i := 86) (by decide +kernel))) (by decide +kernel)
theorem wS_X9_pictureIndex : Cond.selects yX9_pictureIndex.cls yX9_pictureIndex yX9_pictureIndex ∈ gw_t := gw_in (in_p _ (List.mem_of_getElem? (i := 22) (by decide +kernel))) (by decide +kernel)
theorem mi_X9_pictureIndex : mi_ok yX9_pictureIndex 10 := ⟨wi_X9_pictureIndex, wS_X9_pictureIndex, TX9, 10, rfl⟩
theorem wi_X9_pictured : Cond.instanceMethod yX9_pictured ∈ gw_t := gw_in (in_4 _ (List.mem_of_getElem? (i := 101) (by decide +kernel))) (by decide +kernel)
theorem wS_X9_pictured : Cond.selects yX9_pictured.cls yX9_pictured yX9_pictured ∈ gw_t := gw_in (in_4 _ (List.mem_of_getElem? (i := 102) (by decide +kernel))) (by decide +kernel)
theorem mi_X9_pictured : mi_ok yX9_pictured 10 := ⟨wi_X9_pictured, wS_X9_pictured, TX9, 10, rfl⟩
theorem wi_X9_prior : Cond.instanceMethod yX9_prior ∈ gw_t := gw_in (in_3 _ (List.mem_of_getElem? (i := 119) (by decide +kernel))) (by decide +kernel)
theorem wS_X9_prior : Cond.selects yX9_prior.cls yX9_prior yX9_prior ∈ gw_t := gw_in (in_3 _ (List.mem_of_getElem? (i := 120) (by decide +kernel))) (by decide +kernel)
theorem mi_X9_prior : mi_ok yX9_prior 10 := ⟨wi_X9_prior, wS_X9_prior, TX9, 10, rfl⟩
theorem wi_X9_put : Cond.instanceMethod yX9_put ∈ gw_t := gw_in (in_1 _ (List.mem_of_getElem? (i := 222) (by decide +kernel))) (by decide +kernel)
theorem wS_X9_put : Cond.selects yX9_put.cls yX9_put yX9_put ∈ gw_t := gw_in (in_1 _ (List.mem_of_getElem? (i := 223) (by decide +kernel))) (by decide +kernel)
theorem mi_X9_put : mi_ok yX9_put 10 := ⟨wi_X9_put, wS_X9_put, TX9, 10, rfl⟩
theorem wi_X9_release : Cond.instanceMethod yX9_release ∈ gw_t := gw_in (in_4 _ (List.mem_of_getElem? (i := 96) (by decide +kernel))) (by decide +kernel)
theorem wS_X9_release : Cond.selects yX9_release.cls yX9_release yX9_release ∈ gw_t := gw_in (in_4 _ (List.mem_of_getElem? (i := 97) (by decide +kernel))) (by decide +kernel)
theorem mi_X9_release : mi_ok yX9_release 10 := ⟨wi_X9_release, wS_X9_release, TX9, 10, rfl⟩
theorem wi_X9_rise : Cond.instanceMethod yX9_rise ∈ gw_t := gw_in (in_4 _ (List.mem_of_getElem? (i := 117) (by decide +kernel))) (by decide +kernel)
theorem wS_X9_rise : Cond.selects yX9_rise.cls yX9_rise yX9_rise ∈ gw_t := gw_in (in_4 _ (List.mem_of_getElem? (i := 118) (by decide +kernel))) (by decide +kernel)
theorem mi_X9_rise : mi_ok yX9_rise 10 := ⟨wi_X9_rise, wS_X9_rise, TX9, 10, rfl⟩
theorem wi_X9_settle : Cond.instanceMethod yX9_settle ∈ gw_t := gw_in (in_3 _ (List.mem_of_getElem? (i := 142) (by decide +kernel))) (by decide +kernel)
theorem wS_X9_settle : Cond.selects yX9_settle.cls yX9_settle yX9_settle ∈ gw_t := gw_in (in_3 _ (List.mem_of_getElem? (i := 143) (by decide +kernel))) (by decide +kernel)
theorem mi_X9_settle : mi_ok yX9_settle 10 := ⟨wi_X9_settle, wS_X9_settle, TX9, 10, rfl⟩
theorem wi_X9_sink : Cond.instanceMethod yX9_sink ∈ gw_t := gw_in (in_3 _ (List.mem_of_getElem? (i := 132) (by decide +kernel))) (by decide +kernel)
theorem wS_X9_sink : Cond.selects yX9_sink.cls yX9_sink yX9_sink ∈ gw_t := gw_in (in_3 _ (List.mem_of_getElem? (i := 133) (by decide +kernel))) (by decide +kernel)
theorem mi_X9_sink : mi_ok yX9_sink 10 := ⟨wi_X9_sink, wS_X9_sink, TX9, 10, rfl⟩
theorem wi_X9_startAnew : Cond.instanceMethod yX9_startAnew ∈ gw_t := gw_in (in_1 _ (List.mem_of_getElem? (i := 131) (by decide +kernel))) (by decide +kernel)
theorem wS_X9_startAnew : Cond.selects yX9_startAnew.cls yX9_startAnew yX9_startAnew ∈ gw_t := gw_in (in_p _ (List.mem_of_getElem? (i := 0) (by decide +kernel))) (by decide +kernel)
theorem mi_X9_startAnew : mi_ok yX9_startAnew 10 := ⟨wi_X9_startAnew, wS_X9_startAnew, TX9, 10, rfl⟩
theorem wi_X9_swap : Cond.instanceMethod yX9_swap ∈ gw_t := gw_in (in_3 _ (List.mem_of_getElem? (i := 77) (by decide +kernel))) (by decide +kernel)
theorem wS_X9_swap : Cond.selects yX9_swap.cls yX9_swap yX9_swap ∈ gw_t := gw_in (in_3 _ (List.mem_of_getElem? (i := 78) (by decide +kernel))) (by decide +kernel)
theorem mi_X9_swap : mi_ok yX9_swap 10 := ⟨wi_X9_swap, wS_X9_swap, TX9, 10, rfl⟩
theorem wi_X9_sweep : Cond.instanceMethod yX9_sweep ∈ gw_t := gw_in (in_3 _ (List.mem_of_getElem? (i := 85) (by decide +kernel))) (by decide +kernel)
theorem wS_X9_sweep : Cond.selects yX9_sweep.cls yX9_sweep yX9_sweep ∈ gw_t := gw_in (in_3 _ (List.mem_of_getElem? (i := 86) (by decide +kernel))) (by decide +kernel)
theorem mi_X9_sweep : mi_ok yX9_sweep 10 := ⟨wi_X9_sweep, wS_X9_sweep, TX9, 10, rfl⟩
theorem wi_X9_sync : Cond.instanceMethod yX9_sync ∈ gw_t := gw_in (in_3 _ (List.mem_of_getElem? (i := 211) (by decide +kernel))) (by decide +kernel)
theorem wS_X9_sync : Cond.selects yX9_sync.cls yX9_sync yX9_sync ∈ gw_t := gw_in (in_3 _ (List.mem_of_getElem? (i := 212) (by decide +kernel))) (by decide +kernel)
theorem mi_X9_sync : mi_ok yX9_sync 10 := ⟨wi_X9_sync, wS_X9_sync, TX9, 10, rfl⟩
theorem wi_X9_write : Cond.instanceMethod yX9_write ∈ gw_t := gw_in (in_2 _ (List.mem_of_getElem? (i := 22) (by decide +kernel))) (by decide +kernel)
theorem wS_X9_write : Cond.selects yX9_write.cls yX9_write yX9_write ∈ gw_t := gw_in (in_p _ (List.mem_of_getElem? (i := 2) (by decide +kernel))) (by decide +kernel)
theorem mi_X9_write : mi_ok yX9_write 10 := ⟨wi_X9_write, wS_X9_write, TX9, 10, rfl⟩
theorem wi_X9_writeAll : Cond.instanceMethod yX9_writeAll ∈ gw_t := gw_in (in_4 _ (List.mem_of_getElem? (i := 2) (by decide +kernel))) (by decide +kernel)
theorem wS_X9_writeAll : Cond.selects yX9_writeAll.cls yX9_writeAll yX9_writeAll ∈ gw_t := gw_in (in_p _ (List.mem_of_getElem? (i := 18) (by decide +kernel))) (by decide +kernel)
theorem mi_X9_writeAll : mi_ok yX9_writeAll 10 := ⟨wi_X9_writeAll, wS_X9_writeAll, TX9, 10, rfl⟩
theorem wi_X9_writeRefusal : Cond.instanceMethod yX9_writeRefusal ∈ gw_t := gw_in (in_1 _ (List.mem_of_getElem? (i := 227) (by decide +kernel))) (by decide +kernel)
theorem wS_X9_writeRefusal : Cond.selects yX9_writeRefusal.cls yX9_writeRefusal yX9_writeRefusal ∈ gw_t := gw_in (in_p _ (List.mem_of_getElem? (i := 1) (by decide +kernel))) (by decide +kernel)
theorem mi_X9_writeRefusal : mi_ok yX9_writeRefusal 10 := ⟨wi_X9_writeRefusal, wS_X9_writeRefusal, TX9, 10, rfl⟩
theorem wi_X9_writes : Cond.instanceMethod yX9_writes ∈ gw_t := gw_in (in_4 _ (List.mem_of_getElem? (i := 148) (by decide +kernel))) (by decide +kernel)
theorem wS_X9_writes : Cond.selects yX9_writes.cls yX9_writes yX9_writes ∈ gw_t := gw_in (in_4 _ (List.mem_of_getElem? (i := 149) (by decide +kernel))) (by decide +kernel)
theorem mi_X9_writes : mi_ok yX9_writes 10 := ⟨wi_X9_writes, wS_X9_writes, TX9, 10, rfl⟩
theorem ms_J15_checkIndex_7cf53 : Cond.static yJ15_checkIndex_7cf53 ∈ gw_t := gw_in (in_2 _ (List.mem_of_getElem? (i := 6) (by decide +kernel))) (by decide +kernel)
theorem ms_J3_checkIndex_8e157 : Cond.static yJ3_checkIndex_8e157 ∈ gw_t := gw_in (in_2 _ (List.mem_of_getElem? (i := 9) (by decide +kernel))) (by decide +kernel)
theorem ms_J7_checkLength_df160 : Cond.static yJ7_checkLength_df160 ∈ gw_t := gw_in (in_2 _ (List.mem_of_getElem? (i := 38) (by decide +kernel))) (by decide +kernel)
theorem ms_J7_copyOfRangeByte_39247 : Cond.static yJ7_copyOfRangeByte_39247 ∈ gw_t := gw_in (in_2 _ (List.mem_of_getElem? (i := 35) (by decide +kernel))) (by decide +kernel)
theorem ms_J7_copyOfRange_39247 : Cond.static yJ7_copyOfRange_39247 ∈ gw_t := gw_in (in_2 _ (List.mem_of_getElem? (i := 32) (by decide +kernel))) (by decide +kernel)
theorem ms_J7_copyOf_1904c : Cond.static yJ7_copyOf_1904c ∈ gw_t := gw_in (in_2 _ (List.mem_of_getElem? (i := 114) (by decide +kernel))) (by decide +kernel)
theorem ms_J7_copyOf_6403c : Cond.static yJ7_copyOf_6403c ∈ gw_t := gw_in (in_2 _ (List.mem_of_getElem? (i := 133) (by decide +kernel))) (by decide +kernel)
theorem ms_J7_copyOf_9075b : Cond.static yJ7_copyOf_9075b ∈ gw_t := gw_in (in_2 _ (List.mem_of_getElem? (i := 216) (by decide +kernel))) (by decide +kernel)
theorem ms_J7_fill_031fb : Cond.static yJ7_fill_031fb ∈ gw_t := gw_in (in_3 _ (List.mem_of_getElem? (i := 227) (by decide +kernel))) (by decide +kernel)
theorem ms_J8_hugeLength_7cf53 : Cond.static yJ8_hugeLength_7cf53 ∈ gw_t := gw_in (in_2 _ (List.mem_of_getElem? (i := 111) (by decide +kernel))) (by decide +kernel)
theorem ms_J8_newLength_cabcc : Cond.static yJ8_newLength_cabcc ∈ gw_t := gw_in (in_2 _ (List.mem_of_getElem? (i := 104) (by decide +kernel))) (by decide +kernel)
theorem ms_J9_max_7cf53 : Cond.static yJ9_max_7cf53 ∈ gw_t := gw_in (in_2 _ (List.mem_of_getElem? (i := 107) (by decide +kernel))) (by decide +kernel)
theorem ms_J9_max_f86c9 : Cond.static yJ9_max_f86c9 ∈ gw_t := gw_in (in_3 _ (List.mem_of_getElem? (i := 10) (by decide +kernel))) (by decide +kernel)
theorem ms_J9_min_7cf53 : Cond.static yJ9_min_7cf53 ∈ gw_t := gw_in (in_2 _ (List.mem_of_getElem? (i := 41) (by decide +kernel))) (by decide +kernel)
theorem ms_J9_min_f86c9 : Cond.static yJ9_min_f86c9 ∈ gw_t := gw_in (in_3 _ (List.mem_of_getElem? (i := 18) (by decide +kernel))) (by decide +kernel)
theorem ms_X0_markPages : Cond.static yX0_markPages ∈ gw_t := gw_in (in_3 _ (List.mem_of_getElem? (i := 230) (by decide +kernel))) (by decide +kernel)
theorem ms_X0_writePages : Cond.static yX0_writePages ∈ gw_t := gw_in (in_4 _ (List.mem_of_getElem? (i := 5) (by decide +kernel))) (by decide +kernel)
theorem ms_X8_changedIn : Cond.static yX8_changedIn ∈ gw_t := gw_in (in_3 _ (List.mem_of_getElem? (i := 215) (by decide +kernel))) (by decide +kernel)
theorem ms_X8_gather : Cond.static yX8_gather ∈ gw_t := gw_in (in_4 _ (List.mem_of_getElem? (i := 129) (by decide +kernel))) (by decide +kernel)
theorem ms_X8_give : Cond.static yX8_give ∈ gw_t := gw_in (in_2 _ (List.mem_of_getElem? (i := 141) (by decide +kernel))) (by decide +kernel)
theorem ms_X8_lettersIn : Cond.static yX8_lettersIn ∈ gw_t := gw_in (in_3 _ (List.mem_of_getElem? (i := 151) (by decide +kernel))) (by decide +kernel)
theorem ms_X8_pageAt : Cond.static yX8_pageAt ∈ gw_t := gw_in (in_3 _ (List.mem_of_getElem? (i := 183) (by decide +kernel))) (by decide +kernel)
theorem ms_X8_pagesIn : Cond.static yX8_pagesIn ∈ gw_t := gw_in (in_3 _ (List.mem_of_getElem? (i := 161) (by decide +kernel))) (by decide +kernel)
theorem ms_X8_rowIn : Cond.static yX8_rowIn ∈ gw_t := gw_in (in_4 _ (List.mem_of_getElem? (i := 89) (by decide +kernel))) (by decide +kernel)
theorem ms_X8_settleBelow : Cond.static yX8_settleBelow ∈ gw_t := gw_in (in_3 _ (List.mem_of_getElem? (i := 154) (by decide +kernel))) (by decide +kernel)
theorem ms_X8_sinkPage : Cond.static yX8_sinkPage ∈ gw_t := gw_in (in_3 _ (List.mem_of_getElem? (i := 24) (by decide +kernel))) (by decide +kernel)
theorem ms_X9_copyPictures : Cond.static yX9_copyPictures ∈ gw_t := gw_in (in_4 _ (List.mem_of_getElem? (i := 54) (by decide +kernel))) (by decide +kernel)
theorem wc_L_10 : Cond.classLink RL 10 RX10 ∈ gw_t := gw_in (in_5 _ (List.mem_of_getElem? (i := 85) (by decide +kernel))) (by decide +kernel)
theorem wI_X10 : Cond.instantiable RX10 78 ∈ gw_t := gw_in (in_4 _ (List.mem_of_getElem? (i := 174) (by decide +kernel))) (by decide +kernel)
theorem nw_L_10 : nw_ok RL 10 11 78 nf_11 := ⟨RX10, TX10, cl_11, wc_L_10, wI_X10, wN_X10, by decide +kernel⟩
theorem wc_L_7 : Cond.classLink RL 7 RX9 ∈ gw_t := gw_in (in_1 _ (List.mem_of_getElem? (i := 21) (by decide +kernel))) (by decide +kernel)
theorem wI_X9 : Cond.instantiable RX9 10 ∈ gw_t := gw_in (in_1 _ (List.mem_of_getElem? (i := 22) (by decide +kernel))) (by decide +kernel)
theorem nw_L_7 : nw_ok RL 7 10 10 nf_10 := ⟨RX9, TX9, cl_10, wc_L_7, wI_X9, wN_X9, by decide +kernel⟩
theorem wc_X1_26 : Cond.classLink RX1 26 RX2 ∈ gw_t := gw_in (in_2 _ (List.mem_of_getElem? (i := 15) (by decide +kernel))) (by decide +kernel)
theorem wI_X2 : Cond.instantiable RX2 2 ∈ gw_t := gw_in (in_2 _ (List.mem_of_getElem? (i := 209) (by decide +kernel))) (by decide +kernel)
theorem nw_X1_26 : nw_ok RX1 26 3 2 nf_3 := ⟨RX2, TX2, cl_3, wc_X1_26, wI_X2, wN_X2, by decide +kernel⟩
theorem wc_X1_9 : Cond.classLink RX1 9 RJx4a65c ∈ gw_t := gw_in (in_1 _ (List.mem_of_getElem? (i := 94) (by decide +kernel))) (by decide +kernel)
theorem wI_Jx4a65c : Cond.instantiable RJx4a65c 3 ∈ gw_t := gw_in (in_1 _ (List.mem_of_getElem? (i := 95) (by decide +kernel))) (by decide +kernel)
theorem nw_X1_9 : nw_ok RX1 9 0 3 nf_0 := ⟨RJx4a65c, TJx4a65c, cl_0, wc_X1_9, wI_Jx4a65c, wN_Jx4a65c, by decide +kernel⟩
theorem wc_X3_7 : Cond.classLink RX3 7 RJx4a65c ∈ gw_t := gw_in (in_4 _ (List.mem_of_getElem? (i := 27) (by decide +kernel))) (by decide +kernel)
theorem nw_X3_7 : nw_ok RX3 7 0 3 nf_0 := ⟨RJx4a65c, TJx4a65c, cl_0, wc_X3_7, wI_Jx4a65c, wN_Jx4a65c, by decide +kernel⟩
theorem wc_X5_13 : Cond.classLink RX5 13 RX5 ∈ gw_t := gw_in (in_2 _ (List.mem_of_getElem? (i := 174) (by decide +kernel))) (by decide +kernel)
theorem wI_X5 : Cond.instantiable RX5 5 ∈ gw_t := gw_in (in_1 _ (List.mem_of_getElem? (i := 134) (by decide +kernel))) (by decide +kernel)
theorem nw_X5_13 : nw_ok RX5 13 6 5 nf_6 := ⟨RX5, TX5, cl_6, wc_X5_13, wI_X5, wN_X5, by decide +kernel⟩
theorem wc_X5_38 : Cond.classLink RX5 38 RX1 ∈ gw_t := gw_in (in_2 _ (List.mem_of_getElem? (i := 175) (by decide +kernel))) (by decide +kernel)
theorem wI_X1 : Cond.instantiable RX1 1 ∈ gw_t := gw_in (in_1 _ (List.mem_of_getElem? (i := 89) (by decide +kernel))) (by decide +kernel)
theorem nw_X5_38 : nw_ok RX5 38 2 1 nf_2 := ⟨RX1, TX1, cl_2, wc_X5_38, wI_X1, wN_X1, by decide +kernel⟩
theorem wc_X5_64 : Cond.classLink RX5 64 RX4 ∈ gw_t := gw_in (in_2 _ (List.mem_of_getElem? (i := 157) (by decide +kernel))) (by decide +kernel)
theorem wI_X4 : Cond.instantiable RX4 6 ∈ gw_t := gw_in (in_2 _ (List.mem_of_getElem? (i := 54) (by decide +kernel))) (by decide +kernel)
theorem nw_X5_64 : nw_ok RX5 64 5 6 nf_5 := ⟨RX4, TX4, cl_5, wc_X5_64, wI_X4, wN_X4, by decide +kernel⟩
theorem wc_X5_9 : Cond.classLink RX5 9 RJx4a65c ∈ gw_t := gw_in (in_1 _ (List.mem_of_getElem? (i := 140) (by decide +kernel))) (by decide +kernel)
theorem nw_X5_9 : nw_ok RX5 9 0 3 nf_0 := ⟨RJx4a65c, TJx4a65c, cl_0, wc_X5_9, wI_Jx4a65c, wN_Jx4a65c, by decide +kernel⟩
theorem wc_X8_16 : Cond.classLink RX8 16 RX5 ∈ gw_t := gw_in (in_3 _ (List.mem_of_getElem? (i := 35) (by decide +kernel))) (by decide +kernel)
theorem nw_X8_16 : nw_ok RX8 16 6 5 nf_6 := ⟨RX5, TX5, cl_6, wc_X8_16, wI_X5, wN_X5, by decide +kernel⟩
theorem wc_X8_22 : Cond.classLink RX8 22 RJx4a65c ∈ gw_t := gw_in (in_3 _ (List.mem_of_getElem? (i := 36) (by decide +kernel))) (by decide +kernel)
theorem nw_X8_22 : nw_ok RX8 22 0 3 nf_0 := ⟨RJx4a65c, TJx4a65c, cl_0, wc_X8_22, wI_Jx4a65c, wN_Jx4a65c, by decide +kernel⟩
theorem wc_X8_90 : Cond.classLink RX8 90 RX1 ∈ gw_t := gw_in (in_3 _ (List.mem_of_getElem? (i := 67) (by decide +kernel))) (by decide +kernel)
theorem nw_X8_90 : nw_ok RX8 90 2 1 nf_2 := ⟨RX1, TX1, cl_2, wc_X8_90, wI_X1, wN_X1, by decide +kernel⟩
theorem wc_X9_126 : Cond.classLink RX9 126 RX5 ∈ gw_t := gw_in (in_1 _ (List.mem_of_getElem? (i := 133) (by decide +kernel))) (by decide +kernel)
theorem nw_X9_126 : nw_ok RX9 126 6 5 nf_6 := ⟨RX5, TX5, cl_6, wc_X9_126, wI_X5, wN_X5, by decide +kernel⟩
theorem wc_X9_158 : Cond.classLink RX9 158 RX4 ∈ gw_t := gw_in (in_2 _ (List.mem_of_getElem? (i := 53) (by decide +kernel))) (by decide +kernel)
theorem nw_X9_158 : nw_ok RX9 158 5 6 nf_5 := ⟨RX4, TX4, cl_5, wc_X9_158, wI_X4, wN_X4, by decide +kernel⟩
theorem wc_X9_16 : Cond.classLink RX9 16 RX0 ∈ gw_t := gw_in (in_1 _ (List.mem_of_getElem? (i := 45) (by decide +kernel))) (by decide +kernel)
theorem wI_X0 : Cond.instantiable RX0 6 ∈ gw_t := gw_in (in_1 _ (List.mem_of_getElem? (i := 46) (by decide +kernel))) (by decide +kernel)
theorem nw_X9_16 : nw_ok RX9 16 1 6 nf_1 := ⟨RX0, TX0, cl_1, wc_X9_16, wI_X0, wN_X0, by decide +kernel⟩
theorem wc_X9_181 : Cond.classLink RX9 181 RX6 ∈ gw_t := gw_in (in_4 _ (List.mem_of_getElem? (i := 56) (by decide +kernel))) (by decide +kernel)
theorem wI_X6 : Cond.instantiable RX6 2 ∈ gw_t := gw_in (in_4 _ (List.mem_of_getElem? (i := 65) (by decide +kernel))) (by decide +kernel)
theorem nw_X9_181 : nw_ok RX9 181 7 2 nf_7 := ⟨RX6, TX6, cl_7, wc_X9_181, wI_X6, wN_X6, by decide +kernel⟩
theorem wc_X9_227 : Cond.classLink RX9 227 RX3 ∈ gw_t := gw_in (in_4 _ (List.mem_of_getElem? (i := 21) (by decide +kernel))) (by decide +kernel)
theorem wI_X3 : Cond.instantiable RX3 5 ∈ gw_t := gw_in (in_4 _ (List.mem_of_getElem? (i := 22) (by decide +kernel))) (by decide +kernel)
theorem nw_X9_227 : nw_ok RX9 227 4 5 nf_4 := ⟨RX3, TX3, cl_4, wc_X9_227, wI_X3, wN_X3, by decide +kernel⟩
theorem wc_X9_23 : Cond.classLink RX9 23 RX8 ∈ gw_t := gw_in (in_1 _ (List.mem_of_getElem? (i := 77) (by decide +kernel))) (by decide +kernel)
theorem wI_X8 : Cond.instantiable RX8 1 ∈ gw_t := gw_in (in_1 _ (List.mem_of_getElem? (i := 78) (by decide +kernel))) (by decide +kernel)
theorem nw_X9_23 : nw_ok RX9 23 9 1 nf_9 := ⟨RX8, TX8, cl_9, wc_X9_23, wI_X8, wN_X8, by decide +kernel⟩
theorem wc_X9_30 : Cond.classLink RX9 30 RX1 ∈ gw_t := gw_in (in_1 _ (List.mem_of_getElem? (i := 88) (by decide +kernel))) (by decide +kernel)
theorem nw_X9_30 : nw_ok RX9 30 2 1 nf_2 := ⟨RX1, TX1, cl_2, wc_X9_30, wI_X1, wN_X1, by decide +kernel⟩
theorem wc_X9_37 : Cond.classLink RX9 37 RJx4a65c ∈ gw_t := gw_in (in_1 _ (List.mem_of_getElem? (i := 127) (by decide +kernel))) (by decide +kernel)
theorem nw_X9_37 : nw_ok RX9 37 0 3 nf_0 := ⟨RJx4a65c, TJx4a65c, cl_0, wc_X9_37, wI_Jx4a65c, wN_Jx4a65c, by decide +kernel⟩
theorem wc_X9_7 : Cond.classLink RX9 7 RX7 ∈ gw_t := gw_in (in_1 _ (List.mem_of_getElem? (i := 29) (by decide +kernel))) (by decide +kernel)
theorem wI_X7 : Cond.instantiable RX7 2 ∈ gw_t := gw_in (in_1 _ (List.mem_of_getElem? (i := 30) (by decide +kernel))) (by decide +kernel)
theorem nw_X9_7 : nw_ok RX9 7 8 2 nf_8 := ⟨RX7, TX7, cl_8, wc_X9_7, wI_X7, wN_X7, by decide +kernel⟩
theorem wa_boolean : Cond.arrayClass (newarray.typeOf .boolean) ∈ gw_t := gw_in (in_6 _ (List.mem_of_getElem? (i := 94) (by decide +kernel))) (by decide +kernel)
theorem wa_byte : Cond.arrayClass (newarray.typeOf .byte) ∈ gw_t := gw_in (in_1 _ (List.mem_of_getElem? (i := 44) (by decide +kernel))) (by decide +kernel)
theorem wa_int : Cond.arrayClass (newarray.typeOf .int) ∈ gw_t := gw_in (in_1 _ (List.mem_of_getElem? (i := 76) (by decide +kernel))) (by decide +kernel)
theorem wa_long : Cond.arrayClass (newarray.typeOf .long) ∈ gw_t := gw_in (in_6 _ (List.mem_of_getElem? (i := 93) (by decide +kernel))) (by decide +kernel)
theorem wc_J7_110 : Cond.classLink RJ7 110 "[Ljava/lang/Object;" ∈ gw_t := gw_in (in_2 _ (List.mem_of_getElem? (i := 135) (by decide +kernel))) (by decide +kernel)
theorem wc_J7_2 : Cond.classLink RJ7 2 "java/lang/Object" ∈ gw_t := gw_in (in_2 _ (List.mem_of_getElem? (i := 137) (by decide +kernel))) (by decide +kernel)
theorem wc_Jx4a65c_7 : Cond.classLink RJx4a65c 7 "java/lang/Object" ∈ gw_t := gw_in (in_2 _ (List.mem_of_getElem? (i := 139) (by decide +kernel))) (by decide +kernel)
theorem wc_X0_64 : Cond.classLink RX0 64 "LetterTree$Picture" ∈ gw_t := gw_in (in_3 _ (List.mem_of_getElem? (i := 239) (by decide +kernel))) (by decide +kernel)
theorem wc_X0_68 : Cond.classLink RX0 68 "LetterTree$Page" ∈ gw_t := gw_in (in_3 _ (List.mem_of_getElem? (i := 234) (by decide +kernel))) (by decide +kernel)
theorem wc_X0_9 : Cond.classLink RX0 9 "LetterTree$Head" ∈ gw_t := gw_in (in_1 _ (List.mem_of_getElem? (i := 51) (by decide +kernel))) (by decide +kernel)
theorem wc_X5_70 : Cond.classLink RX5 70 "LetterTree$Entry" ∈ gw_t := gw_in (in_2 _ (List.mem_of_getElem? (i := 186) (by decide +kernel))) (by decide +kernel)
theorem wc_X8_110 : Cond.classLink RX8 110 "LetterTree$Letter" ∈ gw_t := gw_in (in_3 _ (List.mem_of_getElem? (i := 204) (by decide +kernel))) (by decide +kernel)
theorem wc_X8_157 : Cond.classLink RX8 157 "LetterTree$Entry" ∈ gw_t := gw_in (in_4 _ (List.mem_of_getElem? (i := 131) (by decide +kernel))) (by decide +kernel)
theorem wc_X9_147 : Cond.classLink RX9 147 "LetterTree$Entry" ∈ gw_t := gw_in (in_3 _ (List.mem_of_getElem? (i := 117) (by decide +kernel))) (by decide +kernel)
theorem wf_Jx4a65c_39 : Cond.fieldLink RJx4a65c 39 "java/util/ArrayList" "DEFAULTCAPACITY_EMPTY_ELEMENTDATA" "[Ljava/lang/Object;" ∈ gw_t := gw_in (in_1 _ (List.mem_of_getElem? (i := 106) (by decide +kernel))) (by decide +kernel)
theorem wf_X9_239 : Cond.fieldLink RX9 239 "LetterTree" "NO_BYTES" "[B" ∈ gw_t := gw_in (in_2 _ (List.mem_of_getElem? (i := 24) (by decide +kernel))) (by decide +kernel)
theorem wfn_X5_111 : Cond.fieldLinkNest RX5 111 "LetterTree" "NO_BYTES" "[B" "LetterTree" ∈ ah_ns := List.mem_filter.mpr ⟨in_3 _ (List.mem_of_getElem? (i := 20) (by decide +kernel)), rfl⟩
theorem wfn_X7_19 : Cond.fieldLinkNest RX7 19 "LetterTree" "NO_BYTES" "[B" "LetterTree" ∈ ah_ns := List.mem_filter.mpr ⟨in_2 _ (List.mem_of_getElem? (i := 30) (by decide +kernel)), rfl⟩
theorem wj_L_13 : Cond.constantLong RL 13 (4294967295) ∈ gw_t := gw_in (in_7 _ (List.mem_of_getElem? (i := 7) (by decide +kernel))) (by decide +kernel)
theorem wj_X10_105 : Cond.constantLong RX10 105 (9223372036854775807) ∈ gw_t := gw_in (in_5 _ (List.mem_of_getElem? (i := 60) (by decide +kernel))) (by decide +kernel)
theorem wj_X5_72 : Cond.constantLong RX5 72 (9223372036854775807) ∈ gw_t := gw_in (in_3 _ (List.mem_of_getElem? (i := 16) (by decide +kernel))) (by decide +kernel)
theorem wj_X8_88 : Cond.constantLong RX8 88 (-9223372036854775808) ∈ gw_t := gw_in (in_3 _ (List.mem_of_getElem? (i := 66) (by decide +kernel))) (by decide +kernel)
theorem wj_X9_286 : Cond.constantLong RX9 286 (-9223372036854775808) ∈ gw_t := gw_in (in_1 _ (List.mem_of_getElem? (i := 135) (by decide +kernel))) (by decide +kernel)
theorem wk_J8_200 : Cond.constant RJ8 200 (2147483639) ∈ gw_t := gw_in (in_2 _ (List.mem_of_getElem? (i := 109) (by decide +kernel))) (by decide +kernel)
theorem wk_X10_117 : Cond.constant RX10 117 (84000) ∈ gw_t := gw_in (in_5 _ (List.mem_of_getElem? (i := 90) (by decide +kernel))) (by decide +kernel)
theorem wk_X10_118 : Cond.constant RX10 118 (168000) ∈ gw_t := gw_in (in_5 _ (List.mem_of_getElem? (i := 91) (by decide +kernel))) (by decide +kernel)
theorem wk_X10_132 : Cond.constant RX10 132 (345600) ∈ gw_t := gw_in (in_5 _ (List.mem_of_getElem? (i := 92) (by decide +kernel))) (by decide +kernel)
theorem wk_X10_160 : Cond.constant RX10 160 (140000) ∈ gw_t := gw_in (in_5 _ (List.mem_of_getElem? (i := 93) (by decide +kernel))) (by decide +kernel)
theorem wk_X10_212 : Cond.constant RX10 212 (120000) ∈ gw_t := gw_in (in_5 _ (List.mem_of_getElem? (i := 94) (by decide +kernel))) (by decide +kernel)
theorem wk_X8_100 : Cond.constant RX8 100 (1000000) ∈ gw_t := gw_in (in_3 _ (List.mem_of_getElem? (i := 149) (by decide +kernel))) (by decide +kernel)
theorem wl_J15_105 : Cond.methodLink RJ15 105 yJ3_checkIndex_8e157 ∈ gw_t := gw_in (in_2 _ (List.mem_of_getElem? (i := 8) (by decide +kernel))) (by decide +kernel)
theorem wl_J7_150 : Cond.methodLink RJ7 150 arraycopyName ∈ gw_t := gw_in (in_2 _ (List.mem_of_getElem? (i := 43) (by decide +kernel))) (by decide +kernel)
theorem wl_J7_300 : Cond.methodLink RJ7 300 yJ7_copyOf_6403c ∈ gw_t := gw_in (in_2 _ (List.mem_of_getElem? (i := 132) (by decide +kernel))) (by decide +kernel)
theorem wl_J7_304 : Cond.methodLink RJ7 304 yJ9_min_7cf53 ∈ gw_t := gw_in (in_2 _ (List.mem_of_getElem? (i := 40) (by decide +kernel))) (by decide +kernel)
theorem wl_J7_339 : Cond.methodLink RJ7 339 yJ7_copyOfRangeByte_39247 ∈ gw_t := gw_in (in_2 _ (List.mem_of_getElem? (i := 34) (by decide +kernel))) (by decide +kernel)
theorem wl_J7_343 : Cond.methodLink RJ7 343 yJ7_checkLength_df160 ∈ gw_t := gw_in (in_2 _ (List.mem_of_getElem? (i := 37) (by decide +kernel))) (by decide +kernel)
theorem wl_J7_86 : Cond.methodLink RJ7 86 ⟨"java/lang/Object", "getClass", "()Ljava/lang/Class;"⟩ ∈ gw_t := gw_in (in_2 _ (List.mem_of_getElem? (i := 116) (by decide +kernel))) (by decide +kernel)
theorem wl_J8_194 : Cond.methodLink RJ8 194 yJ9_max_7cf53 ∈ gw_t := gw_in (in_2 _ (List.mem_of_getElem? (i := 106) (by decide +kernel))) (by decide +kernel)
theorem wl_J8_201 : Cond.methodLink RJ8 201 yJ8_hugeLength_7cf53 ∈ gw_t := gw_in (in_2 _ (List.mem_of_getElem? (i := 110) (by decide +kernel))) (by decide +kernel)
theorem wl_Jx4a65c_1 : Cond.methodLink RJx4a65c 1 yJxc12de_init_da8c8 ∈ gw_t := gw_in (in_1 _ (List.mem_of_getElem? (i := 99) (by decide +kernel))) (by decide +kernel)
theorem wl_Jx4a65c_112 : Cond.methodLink RJx4a65c 112 arraycopyName ∈ gw_t := gw_in (in_2 _ (List.mem_of_getElem? (i := 208) (by decide +kernel))) (by decide +kernel)
theorem wl_Jx4a65c_118 : Cond.methodLink RJx4a65c 118 yJ15_checkIndex_7cf53 ∈ gw_t := gw_in (in_2 _ (List.mem_of_getElem? (i := 5) (by decide +kernel))) (by decide +kernel)
theorem wl_Jx4a65c_123 : Cond.methodLink RJx4a65c 123 yJx4a65c_elementData_915e3 ∈ gw_t := gw_in (in_2 _ (List.mem_of_getElem? (i := 11) (by decide +kernel))) (by decide +kernel)
theorem wl_Jx4a65c_129 : Cond.methodLink RJx4a65c 129 yJx4a65c_grow_d5877 ∈ gw_t := gw_in (in_2 _ (List.mem_of_getElem? (i := 95) (by decide +kernel))) (by decide +kernel)
theorem wl_Jx4a65c_131 : Cond.methodLink RJx4a65c 131 yJx4a65c_add_72be8 ∈ gw_t := gw_in (in_2 _ (List.mem_of_getElem? (i := 91) (by decide +kernel))) (by decide +kernel)
theorem wl_Jx4a65c_135 : Cond.methodLink RJx4a65c 135 yJx4a65c_rangeCheckForAdd_d00df ∈ gw_t := gw_in (in_3 _ (List.mem_of_getElem? (i := 1) (by decide +kernel))) (by decide +kernel)
theorem wl_Jx4a65c_144 : Cond.methodLink RJx4a65c 144 yJx4a65c_fastRemove_b59b0 ∈ gw_t := gw_in (in_2 _ (List.mem_of_getElem? (i := 204) (by decide +kernel))) (by decide +kernel)
theorem wl_Jx4a65c_66 : Cond.methodLink RJx4a65c 66 yJ7_copyOf_1904c ∈ gw_t := gw_in (in_2 _ (List.mem_of_getElem? (i := 113) (by decide +kernel))) (by decide +kernel)
theorem wl_Jx4a65c_69 : Cond.methodLink RJx4a65c 69 yJx4a65c_grow_92f84 ∈ gw_t := gw_in (in_2 _ (List.mem_of_getElem? (i := 99) (by decide +kernel))) (by decide +kernel)
theorem wl_Jx4a65c_73 : Cond.methodLink RJx4a65c 73 yJ8_newLength_cabcc ∈ gw_t := gw_in (in_2 _ (List.mem_of_getElem? (i := 103) (by decide +kernel))) (by decide +kernel)
theorem wl_Jx4a65c_79 : Cond.methodLink RJx4a65c 79 yJ9_max_7cf53 ∈ gw_t := gw_in (in_2 _ (List.mem_of_getElem? (i := 138) (by decide +kernel))) (by decide +kernel)
theorem wl_Jxa1e45_1 : Cond.methodLink RJxa1e45 1 Lib.objectInit ∈ gw_t := gw_in (in_1 _ (List.mem_of_getElem? (i := 105) (by decide +kernel))) (by decide +kernel)
theorem wl_Jxc12de_1 : Cond.methodLink RJxc12de 1 yJxa1e45_init_da8c8 ∈ gw_t := gw_in (in_1 _ (List.mem_of_getElem? (i := 102) (by decide +kernel))) (by decide +kernel)
theorem wl_L_101 : Cond.methodLink RL 101 yX10_page_ ∈ gw_t := gw_in (in_6 _ (List.mem_of_getElem? (i := 123) (by decide +kernel))) (by decide +kernel)
theorem wl_L_102 : Cond.methodLink RL 102 yX9_border ∈ gw_t := gw_in (in_3 _ (List.mem_of_getElem? (i := 188) (by decide +kernel))) (by decide +kernel)
theorem wl_L_105 : Cond.methodLink RL 105 yX10_border ∈ gw_t := gw_in (in_6 _ (List.mem_of_getElem? (i := 131) (by decide +kernel))) (by decide +kernel)
theorem wl_L_106 : Cond.methodLink RL 106 yX9_letter ∈ gw_t := gw_in (in_3 _ (List.mem_of_getElem? (i := 192) (by decide +kernel))) (by decide +kernel)
theorem wl_L_110 : Cond.methodLink RL 110 yX10_letter_ ∈ gw_t := gw_in (in_6 _ (List.mem_of_getElem? (i := 135) (by decide +kernel))) (by decide +kernel)
theorem wl_L_111 : Cond.methodLink RL 111 yX9_met ∈ gw_t := gw_in (in_3 _ (List.mem_of_getElem? (i := 196) (by decide +kernel))) (by decide +kernel)
theorem wl_L_114 : Cond.methodLink RL 114 yX10_met ∈ gw_t := gw_in (in_6 _ (List.mem_of_getElem? (i := 139) (by decide +kernel))) (by decide +kernel)
theorem wl_L_115 : Cond.methodLink RL 115 yX9_sync ∈ gw_t := gw_in (in_3 _ (List.mem_of_getElem? (i := 210) (by decide +kernel))) (by decide +kernel)
theorem wl_L_118 : Cond.methodLink RL 118 yX10_sync ∈ gw_t := gw_in (in_6 _ (List.mem_of_getElem? (i := 143) (by decide +kernel))) (by decide +kernel)
theorem wl_L_119 : Cond.methodLink RL 119 yX9_picture ∈ gw_t := gw_in (in_4 _ (List.mem_of_getElem? (i := 61) (by decide +kernel))) (by decide +kernel)
theorem wl_L_12 : Cond.methodLink RL 12 yX10_init ∈ gw_t := gw_in (in_5 _ (List.mem_of_getElem? (i := 86) (by decide +kernel))) (by decide +kernel)
theorem wl_L_122 : Cond.methodLink RL 122 yX10_picture ∈ gw_t := gw_in (in_6 _ (List.mem_of_getElem? (i := 183) (by decide +kernel))) (by decide +kernel)
theorem wl_L_123 : Cond.methodLink RL 123 yX9_look ∈ gw_t := gw_in (in_4 _ (List.mem_of_getElem? (i := 80) (by decide +kernel))) (by decide +kernel)
theorem wl_L_127 : Cond.methodLink RL 127 yX10_look ∈ gw_t := gw_in (in_6 _ (List.mem_of_getElem? (i := 187) (by decide +kernel))) (by decide +kernel)
theorem wl_L_128 : Cond.methodLink RL 128 yX9_release ∈ gw_t := gw_in (in_4 _ (List.mem_of_getElem? (i := 95) (by decide +kernel))) (by decide +kernel)
theorem wl_L_131 : Cond.methodLink RL 131 yX10_release ∈ gw_t := gw_in (in_6 _ (List.mem_of_getElem? (i := 195) (by decide +kernel))) (by decide +kernel)
theorem wl_L_132 : Cond.methodLink RL 132 yX9_pictured ∈ gw_t := gw_in (in_4 _ (List.mem_of_getElem? (i := 100) (by decide +kernel))) (by decide +kernel)
theorem wl_L_135 : Cond.methodLink RL 135 yX10_pictured ∈ gw_t := gw_in (in_6 _ (List.mem_of_getElem? (i := 199) (by decide +kernel))) (by decide +kernel)
theorem wl_L_136 : Cond.methodLink RL 136 yX9_free ∈ gw_t := gw_in (in_4 _ (List.mem_of_getElem? (i := 104) (by decide +kernel))) (by decide +kernel)
theorem wl_L_139 : Cond.methodLink RL 139 yX10_free ∈ gw_t := gw_in (in_6 _ (List.mem_of_getElem? (i := 203) (by decide +kernel))) (by decide +kernel)
theorem wl_L_140 : Cond.methodLink RL 140 yX9_fall ∈ gw_t := gw_in (in_4 _ (List.mem_of_getElem? (i := 108) (by decide +kernel))) (by decide +kernel)
theorem wl_L_143 : Cond.methodLink RL 143 yX10_fall ∈ gw_t := gw_in (in_6 _ (List.mem_of_getElem? (i := 207) (by decide +kernel))) (by decide +kernel)
theorem wl_L_144 : Cond.methodLink RL 144 yX9_crash ∈ gw_t := gw_in (in_4 _ (List.mem_of_getElem? (i := 112) (by decide +kernel))) (by decide +kernel)
theorem wl_L_147 : Cond.methodLink RL 147 yX10_crash ∈ gw_t := gw_in (in_6 _ (List.mem_of_getElem? (i := 211) (by decide +kernel))) (by decide +kernel)
theorem wl_L_148 : Cond.methodLink RL 148 yX9_rise ∈ gw_t := gw_in (in_4 _ (List.mem_of_getElem? (i := 116) (by decide +kernel))) (by decide +kernel)
theorem wl_L_15 : Cond.methodLink RL 15 yX9_feed ∈ gw_t := gw_in (in_1 _ (List.mem_of_getElem? (i := 205) (by decide +kernel))) (by decide +kernel)
theorem wl_L_151 : Cond.methodLink RL 151 yX10_rise ∈ gw_t := gw_in (in_6 _ (List.mem_of_getElem? (i := 215) (by decide +kernel))) (by decide +kernel)
theorem wl_L_152 : Cond.methodLink RL 152 yX9_disk ∈ gw_t := gw_in (in_4 _ (List.mem_of_getElem? (i := 139) (by decide +kernel))) (by decide +kernel)
theorem wl_L_155 : Cond.methodLink RL 155 yX10_disk ∈ gw_t := gw_in (in_6 _ (List.mem_of_getElem? (i := 227) (by decide +kernel))) (by decide +kernel)
theorem wl_L_156 : Cond.methodLink RL 156 yX9_bend ∈ gw_t := gw_in (in_4 _ (List.mem_of_getElem? (i := 143) (by decide +kernel))) (by decide +kernel)
theorem wl_L_159 : Cond.methodLink RL 159 yX10_bend ∈ gw_t := gw_in (in_6 _ (List.mem_of_getElem? (i := 235) (by decide +kernel))) (by decide +kernel)
theorem wl_L_160 : Cond.methodLink RL 160 yX9_writes ∈ gw_t := gw_in (in_4 _ (List.mem_of_getElem? (i := 147) (by decide +kernel))) (by decide +kernel)
theorem wl_L_163 : Cond.methodLink RL 163 yX10_writes ∈ gw_t := gw_in (in_6 _ (List.mem_of_getElem? (i := 239) (by decide +kernel))) (by decide +kernel)
theorem wl_L_164 : Cond.methodLink RL 164 yX9_number ∈ gw_t := gw_in (in_4 _ (List.mem_of_getElem? (i := 151) (by decide +kernel))) (by decide +kernel)
theorem wl_L_167 : Cond.methodLink RL 167 yX10_number_ ∈ gw_t := gw_in (in_7 _ (List.mem_of_getElem? (i := 3) (by decide +kernel))) (by decide +kernel)
theorem wl_L_19 : Cond.methodLink RL 19 yX10_feed ∈ gw_t := gw_in (in_4 _ (List.mem_of_getElem? (i := 155) (by decide +kernel))) (by decide +kernel)
theorem wl_L_20 : Cond.methodLink RL 20 yX9_cut ∈ gw_t := gw_in (in_1 _ (List.mem_of_getElem? (i := 213) (by decide +kernel))) (by decide +kernel)
theorem wl_L_24 : Cond.methodLink RL 24 yX10_cut ∈ gw_t := gw_in (in_4 _ (List.mem_of_getElem? (i := 159) (by decide +kernel))) (by decide +kernel)
theorem wl_L_25 : Cond.methodLink RL 25 yX9_byteAt ∈ gw_t := gw_in (in_1 _ (List.mem_of_getElem? (i := 217) (by decide +kernel))) (by decide +kernel)
theorem wl_L_28 : Cond.methodLink RL 28 yX10_byteAt ∈ gw_t := gw_in (in_4 _ (List.mem_of_getElem? (i := 163) (by decide +kernel))) (by decide +kernel)
theorem wl_L_29 : Cond.methodLink RL 29 yX9_put ∈ gw_t := gw_in (in_1 _ (List.mem_of_getElem? (i := 221) (by decide +kernel))) (by decide +kernel)
theorem wl_L_33 : Cond.methodLink RL 33 yX10_put ∈ gw_t := gw_in (in_4 _ (List.mem_of_getElem? (i := 167) (by decide +kernel))) (by decide +kernel)
theorem wl_L_34 : Cond.methodLink RL 34 yX9_append ∈ gw_t := gw_in (in_3 _ (List.mem_of_getElem? (i := 72) (by decide +kernel))) (by decide +kernel)
theorem wl_L_37 : Cond.methodLink RL 37 yX10_append ∈ gw_t := gw_in (in_5 _ (List.mem_of_getElem? (i := 44) (by decide +kernel))) (by decide +kernel)
theorem wl_L_38 : Cond.methodLink RL 38 yX9_swap ∈ gw_t := gw_in (in_3 _ (List.mem_of_getElem? (i := 76) (by decide +kernel))) (by decide +kernel)
theorem wl_L_41 : Cond.methodLink RL 41 yX10_swap ∈ gw_t := gw_in (in_5 _ (List.mem_of_getElem? (i := 48) (by decide +kernel))) (by decide +kernel)
theorem wl_L_42 : Cond.methodLink RL 42 yX9_drop ∈ gw_t := gw_in (in_3 _ (List.mem_of_getElem? (i := 80) (by decide +kernel))) (by decide +kernel)
theorem wl_L_45 : Cond.methodLink RL 45 yX10_drop ∈ gw_t := gw_in (in_5 _ (List.mem_of_getElem? (i := 52) (by decide +kernel))) (by decide +kernel)
theorem wl_L_46 : Cond.methodLink RL 46 yX9_sweep ∈ gw_t := gw_in (in_3 _ (List.mem_of_getElem? (i := 84) (by decide +kernel))) (by decide +kernel)
theorem wl_L_50 : Cond.methodLink RL 50 yX10_sweep ∈ gw_t := gw_in (in_5 _ (List.mem_of_getElem? (i := 56) (by decide +kernel))) (by decide +kernel)
theorem wl_L_51 : Cond.methodLink RL 51 yX9_get ∈ gw_t := gw_in (in_3 _ (List.mem_of_getElem? (i := 88) (by decide +kernel))) (by decide +kernel)
theorem wl_L_54 : Cond.methodLink RL 54 yX10_get ∈ gw_t := gw_in (in_5 _ (List.mem_of_getElem? (i := 61) (by decide +kernel))) (by decide +kernel)
theorem wl_L_55 : Cond.methodLink RL 55 yX9_has ∈ gw_t := gw_in (in_3 _ (List.mem_of_getElem? (i := 102) (by decide +kernel))) (by decide +kernel)
theorem wl_L_58 : Cond.methodLink RL 58 yX10_has ∈ gw_t := gw_in (in_5 _ (List.mem_of_getElem? (i := 65) (by decide +kernel))) (by decide +kernel)
theorem wl_L_59 : Cond.methodLink RL 59 yX9_next ∈ gw_t := gw_in (in_3 _ (List.mem_of_getElem? (i := 106) (by decide +kernel))) (by decide +kernel)
theorem wl_L_62 : Cond.methodLink RL 62 yX10_next ∈ gw_t := gw_in (in_5 _ (List.mem_of_getElem? (i := 69) (by decide +kernel))) (by decide +kernel)
theorem wl_L_63 : Cond.methodLink RL 63 yX9_prior ∈ gw_t := gw_in (in_3 _ (List.mem_of_getElem? (i := 118) (by decide +kernel))) (by decide +kernel)
theorem wl_L_66 : Cond.methodLink RL 66 yX10_prior ∈ gw_t := gw_in (in_5 _ (List.mem_of_getElem? (i := 73) (by decide +kernel))) (by decide +kernel)
theorem wl_L_67 : Cond.methodLink RL 67 yX9_found ∈ gw_t := gw_in (in_3 _ (List.mem_of_getElem? (i := 123) (by decide +kernel))) (by decide +kernel)
theorem wl_L_71 : Cond.methodLink RL 71 yX10_found ∈ gw_t := gw_in (in_5 _ (List.mem_of_getElem? (i := 77) (by decide +kernel))) (by decide +kernel)
theorem wl_L_72 : Cond.methodLink RL 72 yX9_count ∈ gw_t := gw_in (in_3 _ (List.mem_of_getElem? (i := 127) (by decide +kernel))) (by decide +kernel)
theorem wl_L_76 : Cond.methodLink RL 76 yX10_count ∈ gw_t := gw_in (in_5 _ (List.mem_of_getElem? (i := 81) (by decide +kernel))) (by decide +kernel)
theorem wl_L_77 : Cond.methodLink RL 77 yX9_sink ∈ gw_t := gw_in (in_3 _ (List.mem_of_getElem? (i := 131) (by decide +kernel))) (by decide +kernel)
theorem wl_L_80 : Cond.methodLink RL 80 yX10_sink ∈ gw_t := gw_in (in_6 _ (List.mem_of_getElem? (i := 95) (by decide +kernel))) (by decide +kernel)
theorem wl_L_81 : Cond.methodLink RL 81 yX9_settle ∈ gw_t := gw_in (in_3 _ (List.mem_of_getElem? (i := 141) (by decide +kernel))) (by decide +kernel)
theorem wl_L_84 : Cond.methodLink RL 84 yX10_settle ∈ gw_t := gw_in (in_6 _ (List.mem_of_getElem? (i := 99) (by decide +kernel))) (by decide +kernel)
theorem wl_L_85 : Cond.methodLink RL 85 yX9_pages ∈ gw_t := gw_in (in_3 _ (List.mem_of_getElem? (i := 156) (by decide +kernel))) (by decide +kernel)
theorem wl_L_88 : Cond.methodLink RL 88 yX10_pages ∈ gw_t := gw_in (in_6 _ (List.mem_of_getElem? (i := 111) (by decide +kernel))) (by decide +kernel)
theorem wl_L_89 : Cond.methodLink RL 89 yX9_height ∈ gw_t := gw_in (in_3 _ (List.mem_of_getElem? (i := 164) (by decide +kernel))) (by decide +kernel)
theorem wl_L_9 : Cond.methodLink RL 9 yX9_init ∈ gw_t := gw_in (in_1 _ (List.mem_of_getElem? (i := 23) (by decide +kernel))) (by decide +kernel)
theorem wl_L_92 : Cond.methodLink RL 92 yX10_height ∈ gw_t := gw_in (in_6 _ (List.mem_of_getElem? (i := 115) (by decide +kernel))) (by decide +kernel)
theorem wl_L_93 : Cond.methodLink RL 93 yX9_letters ∈ gw_t := gw_in (in_3 _ (List.mem_of_getElem? (i := 173) (by decide +kernel))) (by decide +kernel)
theorem wl_L_96 : Cond.methodLink RL 96 yX10_letters ∈ gw_t := gw_in (in_6 _ (List.mem_of_getElem? (i := 119) (by decide +kernel))) (by decide +kernel)
theorem wl_L_97 : Cond.methodLink RL 97 yX9_page ∈ gw_t := gw_in (in_3 _ (List.mem_of_getElem? (i := 178) (by decide +kernel))) (by decide +kernel)
theorem wl_X0_25 : Cond.methodLink RX0 25 yJ7_fill_031fb ∈ gw_t := gw_in (in_3 _ (List.mem_of_getElem? (i := 226) (by decide +kernel))) (by decide +kernel)
theorem wl_X0_3 : Cond.methodLink RX0 3 Lib.objectInit ∈ gw_t := gw_in (in_1 _ (List.mem_of_getElem? (i := 50) (by decide +kernel))) (by decide +kernel)
theorem wl_X0_38 : Cond.methodLink RX0 38 yX0_markPages ∈ gw_t := gw_in (in_3 _ (List.mem_of_getElem? (i := 229) (by decide +kernel))) (by decide +kernel)
theorem wl_X0_42 : Cond.methodLink RX0 42 yX0_markPictures ∈ gw_t := gw_in (in_3 _ (List.mem_of_getElem? (i := 235) (by decide +kernel))) (by decide +kernel)
theorem wl_X0_54 : Cond.methodLink RX0 54 yJx4a65c_size_8abf5 ∈ gw_t := gw_in (in_3 _ (List.mem_of_getElem? (i := 232) (by decide +kernel))) (by decide +kernel)
theorem wl_X0_60 : Cond.methodLink RX0 60 yJx4a65c_get_915e3 ∈ gw_t := gw_in (in_3 _ (List.mem_of_getElem? (i := 233) (by decide +kernel))) (by decide +kernel)
theorem wl_X0_75 : Cond.methodLink RX0 75 yX0_writePages ∈ gw_t := gw_in (in_4 _ (List.mem_of_getElem? (i := 7) (by decide +kernel))) (by decide +kernel)
theorem wl_X0_79 : Cond.methodLink RX0 79 yX0_writePage ∈ gw_t := gw_in (in_4 _ (List.mem_of_getElem? (i := 8) (by decide +kernel))) (by decide +kernel)
theorem wl_X0_83 : Cond.methodLink RX0 83 yX5_isLeaf ∈ gw_t := gw_in (in_4 _ (List.mem_of_getElem? (i := 12) (by decide +kernel))) (by decide +kernel)
theorem wl_X0_87 : Cond.methodLink RX0 87 yX0_fallComes ∈ gw_t := gw_in (in_4 _ (List.mem_of_getElem? (i := 13) (by decide +kernel))) (by decide +kernel)
theorem wl_X0_99 : Cond.methodLink RX0 99 yJ9_max_7cf53 ∈ gw_t := gw_in (in_4 _ (List.mem_of_getElem? (i := 138) (by decide +kernel))) (by decide +kernel)
theorem wl_X1_11 : Cond.methodLink RX1 11 yJx4a65c_init_da8c8 ∈ gw_t := gw_in (in_1 _ (List.mem_of_getElem? (i := 96) (by decide +kernel))) (by decide +kernel)
theorem wl_X1_18 : Cond.methodLink RX1 18 yJx4a65c_size_8abf5 ∈ gw_t := gw_in (in_1 _ (List.mem_of_getElem? (i := 237) (by decide +kernel))) (by decide +kernel)
theorem wl_X1_22 : Cond.methodLink RX1 22 yJx4a65c_get_915e3 ∈ gw_t := gw_in (in_2 _ (List.mem_of_getElem? (i := 1) (by decide +kernel))) (by decide +kernel)
theorem wl_X1_3 : Cond.methodLink RX1 3 Lib.objectInit ∈ gw_t := gw_in (in_1 _ (List.mem_of_getElem? (i := 93) (by decide +kernel))) (by decide +kernel)
theorem wl_X1_32 : Cond.methodLink RX1 32 yX1_firstNotBelow ∈ gw_t := gw_in (in_1 _ (List.mem_of_getElem? (i := 233) (by decide +kernel))) (by decide +kernel)
theorem wl_X1_36 : Cond.methodLink RX1 36 yX1_hasAt ∈ gw_t := gw_in (in_2 _ (List.mem_of_getElem? (i := 16) (by decide +kernel))) (by decide +kernel)
theorem wl_X1_47 : Cond.methodLink RX1 47 yX4_meets ∈ gw_t := gw_in (in_2 _ (List.mem_of_getElem? (i := 162) (by decide +kernel))) (by decide +kernel)
theorem wl_X1_51 : Cond.methodLink RX1 51 yX4_changes ∈ gw_t := gw_in (in_2 _ (List.mem_of_getElem? (i := 166) (by decide +kernel))) (by decide +kernel)
theorem wl_X1_62 : Cond.methodLink RX1 62 yX1_removeFrom ∈ gw_t := gw_in (in_2 _ (List.mem_of_getElem? (i := 196) (by decide +kernel))) (by decide +kernel)
theorem wl_X1_66 : Cond.methodLink RX1 66 yX4_rowAfter ∈ gw_t := gw_in (in_2 _ (List.mem_of_getElem? (i := 210) (by decide +kernel))) (by decide +kernel)
theorem wl_X1_70 : Cond.methodLink RX1 70 yX2_init ∈ gw_t := gw_in (in_2 _ (List.mem_of_getElem? (i := 218) (by decide +kernel))) (by decide +kernel)
theorem wl_X1_73 : Cond.methodLink RX1 73 yJx4a65c_set_bcc79 ∈ gw_t := gw_in (in_2 _ (List.mem_of_getElem? (i := 233) (by decide +kernel))) (by decide +kernel)
theorem wl_X1_77 : Cond.methodLink RX1 77 yJx4a65c_add_7a177 ∈ gw_t := gw_in (in_2 _ (List.mem_of_getElem? (i := 237) (by decide +kernel))) (by decide +kernel)
theorem wl_X1_81 : Cond.methodLink RX1 81 yJx4a65c_remove_915e3 ∈ gw_t := gw_in (in_2 _ (List.mem_of_getElem? (i := 200) (by decide +kernel))) (by decide +kernel)
theorem wl_X10_101 : Cond.methodLink RX10 101 yX10_giveRoot ∈ gw_t := gw_in (in_4 _ (List.mem_of_getElem? (i := 212) (by decide +kernel))) (by decide +kernel)
theorem wl_X10_111 : Cond.methodLink RX10 111 Lib.objectInit ∈ gw_t := gw_in (in_5 _ (List.mem_of_getElem? (i := 89) (by decide +kernel))) (by decide +kernel)
theorem wl_X10_23 : Cond.methodLink RX10 23 yX10_move ∈ gw_t := gw_in (in_4 _ (List.mem_of_getElem? (i := 204) (by decide +kernel))) (by decide +kernel)
theorem wl_X10_270 : Cond.methodLink RX10 270 yX10_clearPages ∈ gw_t := gw_in (in_5 _ (List.mem_of_getElem? (i := 95) (by decide +kernel))) (by decide +kernel)
theorem wl_X10_273 : Cond.methodLink RX10 273 yX10_page ∈ gw_t := gw_in (in_5 _ (List.mem_of_getElem? (i := 32) (by decide +kernel))) (by decide +kernel)
theorem wl_X10_289 : Cond.methodLink RX10 289 yX10_chain ∈ gw_t := gw_in (in_5 _ (List.mem_of_getElem? (i := 0) (by decide +kernel))) (by decide +kernel)
theorem wl_X10_292 : Cond.methodLink RX10 292 yX10_below ∈ gw_t := gw_in (in_4 _ (List.mem_of_getElem? (i := 220) (by decide +kernel))) (by decide +kernel)
theorem wl_X10_296 : Cond.methodLink RX10 296 yX10_leave ∈ gw_t := gw_in (in_4 _ (List.mem_of_getElem? (i := 224) (by decide +kernel))) (by decide +kernel)
theorem wl_X10_299 : Cond.methodLink RX10 299 yX10_entry ∈ gw_t := gw_in (in_4 _ (List.mem_of_getElem? (i := 228) (by decide +kernel))) (by decide +kernel)
theorem wl_X10_303 : Cond.methodLink RX10 303 yX10_letter ∈ gw_t := gw_in (in_4 _ (List.mem_of_getElem? (i := 236) (by decide +kernel))) (by decide +kernel)
theorem wl_X10_307 : Cond.methodLink RX10 307 yX10_kidFor ∈ gw_t := gw_in (in_5 _ (List.mem_of_getElem? (i := 4) (by decide +kernel))) (by decide +kernel)
theorem wl_X10_310 : Cond.methodLink RX10 310 yX10_actOnLeaf ∈ gw_t := gw_in (in_4 _ (List.mem_of_getElem? (i := 216) (by decide +kernel))) (by decide +kernel)
theorem wl_X10_313 : Cond.methodLink RX10 313 yX10_comes ∈ gw_t := gw_in (in_4 _ (List.mem_of_getElem? (i := 232) (by decide +kernel))) (by decide +kernel)
theorem wl_X10_316 : Cond.methodLink RX10 316 yX10_settlePage ∈ gw_t := gw_in (in_5 _ (List.mem_of_getElem? (i := 8) (by decide +kernel))) (by decide +kernel)
theorem wl_X10_320 : Cond.methodLink RX10 320 yX10_sinks ∈ gw_t := gw_in (in_5 _ (List.mem_of_getElem? (i := 12) (by decide +kernel))) (by decide +kernel)
theorem wl_X10_324 : Cond.methodLink RX10 324 yX10_grow ∈ gw_t := gw_in (in_5 _ (List.mem_of_getElem? (i := 40) (by decide +kernel))) (by decide +kernel)
theorem wl_X10_330 : Cond.methodLink RX10 330 yX10_giveLetters ∈ gw_t := gw_in (in_5 _ (List.mem_of_getElem? (i := 16) (by decide +kernel))) (by decide +kernel)
theorem wl_X10_334 : Cond.methodLink RX10 334 yX10_partKid ∈ gw_t := gw_in (in_5 _ (List.mem_of_getElem? (i := 20) (by decide +kernel))) (by decide +kernel)
theorem wl_X10_340 : Cond.methodLink RX10 340 yX10_give ∈ gw_t := gw_in (in_5 _ (List.mem_of_getElem? (i := 36) (by decide +kernel))) (by decide +kernel)
theorem wl_X10_343 : Cond.methodLink RX10 343 yX10_isTooBig ∈ gw_t := gw_in (in_5 _ (List.mem_of_getElem? (i := 24) (by decide +kernel))) (by decide +kernel)
theorem wl_X10_346 : Cond.methodLink RX10 346 yX10_partOf ∈ gw_t := gw_in (in_5 _ (List.mem_of_getElem? (i := 28) (by decide +kernel))) (by decide +kernel)
theorem wl_X10_352 : Cond.methodLink RX10 352 yX10_visit ∈ gw_t := gw_in (in_6 _ (List.mem_of_getElem? (i := 107) (by decide +kernel))) (by decide +kernel)
theorem wl_X10_355 : Cond.methodLink RX10 355 yX10_number ∈ gw_t := gw_in (in_6 _ (List.mem_of_getElem? (i := 103) (by decide +kernel))) (by decide +kernel)
theorem wl_X10_357 : Cond.methodLink RX10 357 yX10_spreadChanges ∈ gw_t := gw_in (in_6 _ (List.mem_of_getElem? (i := 127) (by decide +kernel))) (by decide +kernel)
theorem wl_X10_360 : Cond.methodLink RX10 360 yX10_take ∈ gw_t := gw_in (in_6 _ (List.mem_of_getElem? (i := 155) (by decide +kernel))) (by decide +kernel)
theorem wl_X10_366 : Cond.methodLink RX10 366 yX10_mark ∈ gw_t := gw_in (in_6 _ (List.mem_of_getElem? (i := 151) (by decide +kernel))) (by decide +kernel)
theorem wl_X10_372 : Cond.methodLink RX10 372 yX10_laysAll ∈ gw_t := gw_in (in_6 _ (List.mem_of_getElem? (i := 167) (by decide +kernel))) (by decide +kernel)
theorem wl_X10_375 : Cond.methodLink RX10 375 yX10_falls ∈ gw_t := gw_in (in_6 _ (List.mem_of_getElem? (i := 171) (by decide +kernel))) (by decide +kernel)
theorem wl_X10_378 : Cond.methodLink RX10 378 yX10_leastFree ∈ gw_t := gw_in (in_6 _ (List.mem_of_getElem? (i := 175) (by decide +kernel))) (by decide +kernel)
theorem wl_X10_382 : Cond.methodLink RX10 382 yX10_lay ∈ gw_t := gw_in (in_6 _ (List.mem_of_getElem? (i := 179) (by decide +kernel))) (by decide +kernel)
theorem wl_X10_385 : Cond.methodLink RX10 385 yX10_changedPages ∈ gw_t := gw_in (in_6 _ (List.mem_of_getElem? (i := 159) (by decide +kernel))) (by decide +kernel)
theorem wl_X10_391 : Cond.methodLink RX10 391 yX10_freePlaces ∈ gw_t := gw_in (in_6 _ (List.mem_of_getElem? (i := 147) (by decide +kernel))) (by decide +kernel)
theorem wl_X10_394 : Cond.methodLink RX10 394 yX10_writeAll ∈ gw_t := gw_in (in_6 _ (List.mem_of_getElem? (i := 163) (by decide +kernel))) (by decide +kernel)
theorem wl_X10_397 : Cond.methodLink RX10 397 yX10_pictureAt ∈ gw_t := gw_in (in_6 _ (List.mem_of_getElem? (i := 191) (by decide +kernel))) (by decide +kernel)
theorem wl_X10_400 : Cond.methodLink RX10 400 yX10_load ∈ gw_t := gw_in (in_6 _ (List.mem_of_getElem? (i := 219) (by decide +kernel))) (by decide +kernel)
theorem wl_X10_403 : Cond.methodLink RX10 403 yX10_read ∈ gw_t := gw_in (in_6 _ (List.mem_of_getElem? (i := 223) (by decide +kernel))) (by decide +kernel)
theorem wl_X10_406 : Cond.methodLink RX10 406 yX10_pagesOf ∈ gw_t := gw_in (in_6 _ (List.mem_of_getElem? (i := 231) (by decide +kernel))) (by decide +kernel)
theorem wl_X10_52 : Cond.methodLink RX10 52 yX10_copy ∈ gw_t := gw_in (in_4 _ (List.mem_of_getElem? (i := 192) (by decide +kernel))) (by decide +kernel)
theorem wl_X10_56 : Cond.methodLink RX10 56 yX10_begins ∈ gw_t := gw_in (in_4 _ (List.mem_of_getElem? (i := 196) (by decide +kernel))) (by decide +kernel)
theorem wl_X10_72 : Cond.methodLink RX10 72 yX10_place ∈ gw_t := gw_in (in_4 _ (List.mem_of_getElem? (i := 171) (by decide +kernel))) (by decide +kernel)
theorem wl_X10_76 : Cond.methodLink RX10 76 yX10_isAt ∈ gw_t := gw_in (in_4 _ (List.mem_of_getElem? (i := 176) (by decide +kernel))) (by decide +kernel)
theorem wl_X10_80 : Cond.methodLink RX10 80 yX10_acts ∈ gw_t := gw_in (in_4 _ (List.mem_of_getElem? (i := 188) (by decide +kernel))) (by decide +kernel)
theorem wl_X10_83 : Cond.methodLink RX10 83 yX10_shut ∈ gw_t := gw_in (in_4 _ (List.mem_of_getElem? (i := 200) (by decide +kernel))) (by decide +kernel)
theorem wl_X10_86 : Cond.methodLink RX10 86 yX10_open ∈ gw_t := gw_in (in_4 _ (List.mem_of_getElem? (i := 208) (by decide +kernel))) (by decide +kernel)
theorem wl_X10_94 : Cond.methodLink RX10 94 yX10_write ∈ gw_t := gw_in (in_4 _ (List.mem_of_getElem? (i := 180) (by decide +kernel))) (by decide +kernel)
theorem wl_X10_98 : Cond.methodLink RX10 98 yX10_actsOnMap ∈ gw_t := gw_in (in_4 _ (List.mem_of_getElem? (i := 184) (by decide +kernel))) (by decide +kernel)
theorem wl_X2_1 : Cond.methodLink RX2 1 Lib.objectInit ∈ gw_t := gw_in (in_2 _ (List.mem_of_getElem? (i := 221) (by decide +kernel))) (by decide +kernel)
theorem wl_X3_1 : Cond.methodLink RX3 1 Lib.objectInit ∈ gw_t := gw_in (in_4 _ (List.mem_of_getElem? (i := 26) (by decide +kernel))) (by decide +kernel)
theorem wl_X3_9 : Cond.methodLink RX3 9 yJx4a65c_init_da8c8 ∈ gw_t := gw_in (in_4 _ (List.mem_of_getElem? (i := 28) (by decide +kernel))) (by decide +kernel)
theorem wl_X4_3 : Cond.methodLink RX4 3 Lib.objectInit ∈ gw_t := gw_in (in_2 _ (List.mem_of_getElem? (i := 58) (by decide +kernel))) (by decide +kernel)
theorem wl_X4_32 : Cond.methodLink RX4 32 yJ9_min_7cf53 ∈ gw_t := gw_in (in_2 _ (List.mem_of_getElem? (i := 214) (by decide +kernel))) (by decide +kernel)
theorem wl_X4_38 : Cond.methodLink RX4 38 yJ7_copyOf_9075b ∈ gw_t := gw_in (in_2 _ (List.mem_of_getElem? (i := 215) (by decide +kernel))) (by decide +kernel)
theorem wl_X5_101 : Cond.methodLink RX5 101 yX5_lastKeyOf ∈ gw_t := gw_in (in_3 _ (List.mem_of_getElem? (i := 12) (by decide +kernel))) (by decide +kernel)
theorem wl_X5_105 : Cond.methodLink RX5 105 yJ9_min_f86c9 ∈ gw_t := gw_in (in_3 _ (List.mem_of_getElem? (i := 17) (by decide +kernel))) (by decide +kernel)
theorem wl_X5_11 : Cond.methodLink RX5 11 yJx4a65c_init_da8c8 ∈ gw_t := gw_in (in_1 _ (List.mem_of_getElem? (i := 141) (by decide +kernel))) (by decide +kernel)
theorem wl_X5_115 : Cond.methodLink RX5 115 yX4_init ∈ gw_t := gw_in (in_3 _ (List.mem_of_getElem? (i := 21) (by decide +kernel))) (by decide +kernel)
theorem wl_X5_118 : Cond.methodLink RX5 118 yX5_lettersFrom ∈ gw_t := gw_in (in_3 _ (List.mem_of_getElem? (i := 30) (by decide +kernel))) (by decide +kernel)
theorem wl_X5_122 : Cond.methodLink RX5 122 yJx4a65c_clear_da8c8 ∈ gw_t := gw_in (in_3 _ (List.mem_of_getElem? (i := 43) (by decide +kernel))) (by decide +kernel)
theorem wl_X5_125 : Cond.methodLink RX5 125 yX5_isTooBig ∈ gw_t := gw_in (in_3 _ (List.mem_of_getElem? (i := 50) (by decide +kernel))) (by decide +kernel)
theorem wl_X5_128 : Cond.methodLink RX5 128 yJx4a65c_remove_915e3 ∈ gw_t := gw_in (in_3 _ (List.mem_of_getElem? (i := 54) (by decide +kernel))) (by decide +kernel)
theorem wl_X5_131 : Cond.methodLink RX5 131 yX5_partOf ∈ gw_t := gw_in (in_3 _ (List.mem_of_getElem? (i := 55) (by decide +kernel))) (by decide +kernel)
theorem wl_X5_135 : Cond.methodLink RX5 135 yJx4a65c_add_7a177 ∈ gw_t := gw_in (in_3 _ (List.mem_of_getElem? (i := 60) (by decide +kernel))) (by decide +kernel)
theorem wl_X5_139 : Cond.methodLink RX5 139 yX5_moveLetters ∈ gw_t := gw_in (in_3 _ (List.mem_of_getElem? (i := 59) (by decide +kernel))) (by decide +kernel)
theorem wl_X5_3 : Cond.methodLink RX5 3 Lib.objectInit ∈ gw_t := gw_in (in_1 _ (List.mem_of_getElem? (i := 139) (by decide +kernel))) (by decide +kernel)
theorem wl_X5_33 : Cond.methodLink RX5 33 yJx4a65c_isEmpty_aae02 ∈ gw_t := gw_in (in_2 _ (List.mem_of_getElem? (i := 152) (by decide +kernel))) (by decide +kernel)
theorem wl_X5_42 : Cond.methodLink RX5 42 yJx4a65c_size_8abf5 ∈ gw_t := gw_in (in_2 _ (List.mem_of_getElem? (i := 147) (by decide +kernel))) (by decide +kernel)
theorem wl_X5_46 : Cond.methodLink RX5 46 yX5_width ∈ gw_t := gw_in (in_2 _ (List.mem_of_getElem? (i := 178) (by decide +kernel))) (by decide +kernel)
theorem wl_X5_49 : Cond.methodLink RX5 49 yX5_isLeaf ∈ gw_t := gw_in (in_2 _ (List.mem_of_getElem? (i := 148) (by decide +kernel))) (by decide +kernel)
theorem wl_X5_53 : Cond.methodLink RX5 53 yX5_init ∈ gw_t := gw_in (in_2 _ (List.mem_of_getElem? (i := 177) (by decide +kernel))) (by decide +kernel)
theorem wl_X5_56 : Cond.methodLink RX5 56 yX5_copyInto ∈ gw_t := gw_in (in_2 _ (List.mem_of_getElem? (i := 182) (by decide +kernel))) (by decide +kernel)
theorem wl_X5_60 : Cond.methodLink RX5 60 yJx4a65c_get_915e3 ∈ gw_t := gw_in (in_2 _ (List.mem_of_getElem? (i := 156) (by decide +kernel))) (by decide +kernel)
theorem wl_X5_66 : Cond.methodLink RX5 66 yJx4a65c_add_9ea2d ∈ gw_t := gw_in (in_2 _ (List.mem_of_getElem? (i := 187) (by decide +kernel))) (by decide +kernel)
theorem wl_X5_74 : Cond.methodLink RX5 74 yX1_isChangedBy ∈ gw_t := gw_in (in_2 _ (List.mem_of_getElem? (i := 158) (by decide +kernel))) (by decide +kernel)
theorem wl_X5_78 : Cond.methodLink RX5 78 yX1_act ∈ gw_t := gw_in (in_2 _ (List.mem_of_getElem? (i := 192) (by decide +kernel))) (by decide +kernel)
theorem wl_X5_85 : Cond.methodLink RX5 85 yX5_takeInParts ∈ gw_t := gw_in (in_3 _ (List.mem_of_getElem? (i := 5) (by decide +kernel))) (by decide +kernel)
theorem wl_X5_92 : Cond.methodLink RX5 92 yJ9_max_f86c9 ∈ gw_t := gw_in (in_3 _ (List.mem_of_getElem? (i := 9) (by decide +kernel))) (by decide +kernel)
theorem wl_X6_1 : Cond.methodLink RX6 1 Lib.objectInit ∈ gw_t := gw_in (in_4 _ (List.mem_of_getElem? (i := 69) (by decide +kernel))) (by decide +kernel)
theorem wl_X7_22 : Cond.methodLink RX7 22 yJ7_copyOfRange_39247 ∈ gw_t := gw_in (in_2 _ (List.mem_of_getElem? (i := 31) (by decide +kernel))) (by decide +kernel)
theorem wl_X7_28 : Cond.methodLink RX7 28 yJ9_min_7cf53 ∈ gw_t := gw_in (in_3 _ (List.mem_of_getElem? (i := 100) (by decide +kernel))) (by decide +kernel)
theorem wl_X7_3 : Cond.methodLink RX7 3 Lib.objectInit ∈ gw_t := gw_in (in_1 _ (List.mem_of_getElem? (i := 34) (by decide +kernel))) (by decide +kernel)
theorem wl_X7_34 : Cond.methodLink RX7 34 arraycopyName ∈ gw_t := gw_in (in_3 _ (List.mem_of_getElem? (i := 101) (by decide +kernel))) (by decide +kernel)
theorem wl_X8_101 : Cond.methodLink RX8 101 yX8_lettersIn ∈ gw_t := gw_in (in_3 _ (List.mem_of_getElem? (i := 150) (by decide +kernel))) (by decide +kernel)
theorem wl_X8_104 : Cond.methodLink RX8 104 yX8_settleBelow ∈ gw_t := gw_in (in_3 _ (List.mem_of_getElem? (i := 153) (by decide +kernel))) (by decide +kernel)
theorem wl_X8_107 : Cond.methodLink RX8 107 yX5_isLeaf ∈ gw_t := gw_in (in_3 _ (List.mem_of_getElem? (i := 172) (by decide +kernel))) (by decide +kernel)
theorem wl_X8_112 : Cond.methodLink RX8 112 yX4_meets ∈ gw_t := gw_in (in_3 _ (List.mem_of_getElem? (i := 205) (by decide +kernel))) (by decide +kernel)
theorem wl_X8_116 : Cond.methodLink RX8 116 yX5_kidFor ∈ gw_t := gw_in (in_3 _ (List.mem_of_getElem? (i := 206) (by decide +kernel))) (by decide +kernel)
theorem wl_X8_120 : Cond.methodLink RX8 120 yX8_pagesIn ∈ gw_t := gw_in (in_3 _ (List.mem_of_getElem? (i := 163) (by decide +kernel))) (by decide +kernel)
theorem wl_X8_127 : Cond.methodLink RX8 127 yX8_changedIn ∈ gw_t := gw_in (in_3 _ (List.mem_of_getElem? (i := 217) (by decide +kernel))) (by decide +kernel)
theorem wl_X8_130 : Cond.methodLink RX8 130 yX8_pageAt ∈ gw_t := gw_in (in_3 _ (List.mem_of_getElem? (i := 185) (by decide +kernel))) (by decide +kernel)
theorem wl_X8_138 : Cond.methodLink RX8 138 yX1_rowOf ∈ gw_t := gw_in (in_4 _ (List.mem_of_getElem? (i := 91) (by decide +kernel))) (by decide +kernel)
theorem wl_X8_142 : Cond.methodLink RX8 142 yX8_rowIn ∈ gw_t := gw_in (in_4 _ (List.mem_of_getElem? (i := 92) (by decide +kernel))) (by decide +kernel)
theorem wl_X8_146 : Cond.methodLink RX8 146 yX4_changes ∈ gw_t := gw_in (in_4 _ (List.mem_of_getElem? (i := 93) (by decide +kernel))) (by decide +kernel)
theorem wl_X8_150 : Cond.methodLink RX8 150 yX4_rowAfter ∈ gw_t := gw_in (in_4 _ (List.mem_of_getElem? (i := 94) (by decide +kernel))) (by decide +kernel)
theorem wl_X8_159 : Cond.methodLink RX8 159 yX8_gather ∈ gw_t := gw_in (in_4 _ (List.mem_of_getElem? (i := 132) (by decide +kernel))) (by decide +kernel)
theorem wl_X8_163 : Cond.methodLink RX8 163 yX1_act ∈ gw_t := gw_in (in_4 _ (List.mem_of_getElem? (i := 133) (by decide +kernel))) (by decide +kernel)
theorem wl_X8_21 : Cond.methodLink RX8 21 yJx4a65c_isEmpty_aae02 ∈ gw_t := gw_in (in_3 _ (List.mem_of_getElem? (i := 139) (by decide +kernel))) (by decide +kernel)
theorem wl_X8_27 : Cond.methodLink RX8 27 yX5_opened ∈ gw_t := gw_in (in_2 _ (List.mem_of_getElem? (i := 170) (by decide +kernel))) (by decide +kernel)
theorem wl_X8_3 : Cond.methodLink RX8 3 Lib.objectInit ∈ gw_t := gw_in (in_1 _ (List.mem_of_getElem? (i := 82) (by decide +kernel))) (by decide +kernel)
theorem wl_X8_31 : Cond.methodLink RX8 31 yX8_sinkPage ∈ gw_t := gw_in (in_3 _ (List.mem_of_getElem? (i := 23) (by decide +kernel))) (by decide +kernel)
theorem wl_X8_35 : Cond.methodLink RX8 35 yX8_partRoot ∈ gw_t := gw_in (in_3 _ (List.mem_of_getElem? (i := 140) (by decide +kernel))) (by decide +kernel)
theorem wl_X8_38 : Cond.methodLink RX8 38 yX5_isChangedBy ∈ gw_t := gw_in (in_2 _ (List.mem_of_getElem? (i := 143) (by decide +kernel))) (by decide +kernel)
theorem wl_X8_42 : Cond.methodLink RX8 42 yX5_takeIn ∈ gw_t := gw_in (in_2 _ (List.mem_of_getElem? (i := 188) (by decide +kernel))) (by decide +kernel)
theorem wl_X8_46 : Cond.methodLink RX8 46 yJx4a65c_size_8abf5 ∈ gw_t := gw_in (in_3 _ (List.mem_of_getElem? (i := 22) (by decide +kernel))) (by decide +kernel)
theorem wl_X8_50 : Cond.methodLink RX8 50 yX5_fullestKid ∈ gw_t := gw_in (in_3 _ (List.mem_of_getElem? (i := 26) (by decide +kernel))) (by decide +kernel)
theorem wl_X8_56 : Cond.methodLink RX8 56 yJx4a65c_get_915e3 ∈ gw_t := gw_in (in_3 _ (List.mem_of_getElem? (i := 34) (by decide +kernel))) (by decide +kernel)
theorem wl_X8_60 : Cond.methodLink RX8 60 yJx4a65c_init_da8c8 ∈ gw_t := gw_in (in_3 _ (List.mem_of_getElem? (i := 37) (by decide +kernel))) (by decide +kernel)
theorem wl_X8_65 : Cond.methodLink RX8 65 yX5_lastKeyOf ∈ gw_t := gw_in (in_3 _ (List.mem_of_getElem? (i := 38) (by decide +kernel))) (by decide +kernel)
theorem wl_X8_69 : Cond.methodLink RX8 69 yX5_moveLetters ∈ gw_t := gw_in (in_3 _ (List.mem_of_getElem? (i := 39) (by decide +kernel))) (by decide +kernel)
theorem wl_X8_73 : Cond.methodLink RX8 73 yX8_give ∈ gw_t := gw_in (in_3 _ (List.mem_of_getElem? (i := 44) (by decide +kernel))) (by decide +kernel)
theorem wl_X8_77 : Cond.methodLink RX8 77 yJx4a65c_set_bcc79 ∈ gw_t := gw_in (in_3 _ (List.mem_of_getElem? (i := 45) (by decide +kernel))) (by decide +kernel)
theorem wl_X8_81 : Cond.methodLink RX8 81 yX5_partKid ∈ gw_t := gw_in (in_3 _ (List.mem_of_getElem? (i := 46) (by decide +kernel))) (by decide +kernel)
theorem wl_X8_85 : Cond.methodLink RX8 85 yX5_isTooBig ∈ gw_t := gw_in (in_3 _ (List.mem_of_getElem? (i := 65) (by decide +kernel))) (by decide +kernel)
theorem wl_X8_93 : Cond.methodLink RX8 93 yX5_init ∈ gw_t := gw_in (in_3 _ (List.mem_of_getElem? (i := 69) (by decide +kernel))) (by decide +kernel)
theorem wl_X8_96 : Cond.methodLink RX8 96 yJx4a65c_add_9ea2d ∈ gw_t := gw_in (in_3 _ (List.mem_of_getElem? (i := 70) (by decide +kernel))) (by decide +kernel)
theorem wl_X9_1 : Cond.methodLink RX9 1 Lib.objectInit ∈ gw_t := gw_in (in_1 _ (List.mem_of_getElem? (i := 26) (by decide +kernel))) (by decide +kernel)
theorem wl_X9_101 : Cond.methodLink RX9 101 yX8_sinkRoot ∈ gw_t := gw_in (in_3 _ (List.mem_of_getElem? (i := 135) (by decide +kernel))) (by decide +kernel)
theorem wl_X9_104 : Cond.methodLink RX9 104 yX8_settleAll ∈ gw_t := gw_in (in_3 _ (List.mem_of_getElem? (i := 145) (by decide +kernel))) (by decide +kernel)
theorem wl_X9_115 : Cond.methodLink RX9 115 yX8_levels ∈ gw_t := gw_in (in_3 _ (List.mem_of_getElem? (i := 168) (by decide +kernel))) (by decide +kernel)
theorem wl_X9_125 : Cond.methodLink RX9 125 yX5_isLeaf ∈ gw_t := gw_in (in_3 _ (List.mem_of_getElem? (i := 186) (by decide +kernel))) (by decide +kernel)
theorem wl_X9_131 : Cond.methodLink RX9 131 yX5_width ∈ gw_t := gw_in (in_3 _ (List.mem_of_getElem? (i := 187) (by decide +kernel))) (by decide +kernel)
theorem wl_X9_143 : Cond.methodLink RX9 143 yJx4a65c_get_915e3 ∈ gw_t := gw_in (in_3 _ (List.mem_of_getElem? (i := 116) (by decide +kernel))) (by decide +kernel)
theorem wl_X9_166 : Cond.methodLink RX9 166 yX8_lettersOnWay ∈ gw_t := gw_in (in_3 _ (List.mem_of_getElem? (i := 200) (by decide +kernel))) (by decide +kernel)
theorem wl_X9_172 : Cond.methodLink RX9 172 yX9_freePlaces ∈ gw_t := gw_in (in_3 _ (List.mem_of_getElem? (i := 218) (by decide +kernel))) (by decide +kernel)
theorem wl_X9_175 : Cond.methodLink RX9 175 yX9_writeAll ∈ gw_t := gw_in (in_4 _ (List.mem_of_getElem? (i := 0) (by decide +kernel))) (by decide +kernel)
theorem wl_X9_183 : Cond.methodLink RX9 183 yX6_init ∈ gw_t := gw_in (in_4 _ (List.mem_of_getElem? (i := 66) (by decide +kernel))) (by decide +kernel)
theorem wl_X9_186 : Cond.methodLink RX9 186 yJx4a65c_add_9ea2d ∈ gw_t := gw_in (in_2 _ (List.mem_of_getElem? (i := 87) (by decide +kernel))) (by decide +kernel)
theorem wl_X9_190 : Cond.methodLink RX9 190 yX9_pictureIndex ∈ gw_t := gw_in (in_4 _ (List.mem_of_getElem? (i := 84) (by decide +kernel))) (by decide +kernel)
theorem wl_X9_198 : Cond.methodLink RX9 198 yJx4a65c_remove_915e3 ∈ gw_t := gw_in (in_4 _ (List.mem_of_getElem? (i := 99) (by decide +kernel))) (by decide +kernel)
theorem wl_X9_205 : Cond.methodLink RX9 205 yX9_goDown ∈ gw_t := gw_in (in_4 _ (List.mem_of_getElem? (i := 17) (by decide +kernel))) (by decide +kernel)
theorem wl_X9_208 : Cond.methodLink RX9 208 yX0_latestHead ∈ gw_t := gw_in (in_4 _ (List.mem_of_getElem? (i := 120) (by decide +kernel))) (by decide +kernel)
theorem wl_X9_212 : Cond.methodLink RX9 212 yX9_adopt ∈ gw_t := gw_in (in_4 _ (List.mem_of_getElem? (i := 124) (by decide +kernel))) (by decide +kernel)
theorem wl_X9_216 : Cond.methodLink RX9 216 yX0_greatestPicture ∈ gw_t := gw_in (in_4 _ (List.mem_of_getElem? (i := 134) (by decide +kernel))) (by decide +kernel)
theorem wl_X9_242 : Cond.methodLink RX9 242 yX7_part ∈ gw_t := gw_in (in_2 _ (List.mem_of_getElem? (i := 26) (by decide +kernel))) (by decide +kernel)
theorem wl_X9_246 : Cond.methodLink RX9 246 yX4_init ∈ gw_t := gw_in (in_2 _ (List.mem_of_getElem? (i := 55) (by decide +kernel))) (by decide +kernel)
theorem wl_X9_256 : Cond.methodLink RX9 256 yX1_act ∈ gw_t := gw_in (in_3 _ (List.mem_of_getElem? (i := 71) (by decide +kernel))) (by decide +kernel)
theorem wl_X9_260 : Cond.methodLink RX9 260 yX7_become ∈ gw_t := gw_in (in_3 _ (List.mem_of_getElem? (i := 96) (by decide +kernel))) (by decide +kernel)
theorem wl_X9_264 : Cond.methodLink RX9 264 yX0_markTaken ∈ gw_t := gw_in (in_3 _ (List.mem_of_getElem? (i := 222) (by decide +kernel))) (by decide +kernel)
theorem wl_X9_275 : Cond.methodLink RX9 275 yX3_init ∈ gw_t := gw_in (in_4 _ (List.mem_of_getElem? (i := 23) (by decide +kernel))) (by decide +kernel)
theorem wl_X9_278 : Cond.methodLink RX9 278 yX9_copyPictures ∈ gw_t := gw_in (in_4 _ (List.mem_of_getElem? (i := 53) (by decide +kernel))) (by decide +kernel)
theorem wl_X9_282 : Cond.methodLink RX9 282 yX0_writeHead ∈ gw_t := gw_in (in_4 _ (List.mem_of_getElem? (i := 57) (by decide +kernel))) (by decide +kernel)
theorem wl_X9_288 : Cond.methodLink RX9 288 yX5_init ∈ gw_t := gw_in (in_1 _ (List.mem_of_getElem? (i := 136) (by decide +kernel))) (by decide +kernel)
theorem wl_X9_291 : Cond.methodLink RX9 291 yJx4a65c_clear_da8c8 ∈ gw_t := gw_in (in_1 _ (List.mem_of_getElem? (i := 170) (by decide +kernel))) (by decide +kernel)
theorem wl_X9_39 : Cond.methodLink RX9 39 yJx4a65c_init_da8c8 ∈ gw_t := gw_in (in_1 _ (List.mem_of_getElem? (i := 128) (by decide +kernel))) (by decide +kernel)
theorem wl_X9_44 : Cond.methodLink RX9 44 yX9_startAnew ∈ gw_t := gw_in (in_1 _ (List.mem_of_getElem? (i := 129) (by decide +kernel))) (by decide +kernel)
theorem wl_X9_51 : Cond.methodLink RX9 51 yX7_addBytes ∈ gw_t := gw_in (in_1 _ (List.mem_of_getElem? (i := 209) (by decide +kernel))) (by decide +kernel)
theorem wl_X9_59 : Cond.methodLink RX9 59 yX9_writeRefusal ∈ gw_t := gw_in (in_1 _ (List.mem_of_getElem? (i := 225) (by decide +kernel))) (by decide +kernel)
theorem wl_X9_63 : Cond.methodLink RX9 63 yX1_rowOf ∈ gw_t := gw_in (in_1 _ (List.mem_of_getElem? (i := 229) (by decide +kernel))) (by decide +kernel)
theorem wl_X9_67 : Cond.methodLink RX9 67 yX9_write ∈ gw_t := gw_in (in_2 _ (List.mem_of_getElem? (i := 20) (by decide +kernel))) (by decide +kernel)
theorem wl_X9_75 : Cond.methodLink RX9 75 yX9_load ∈ gw_t := gw_in (in_3 _ (List.mem_of_getElem? (i := 92) (by decide +kernel))) (by decide +kernel)
theorem wl_X9_79 : Cond.methodLink RX9 79 yX1_firstNotBelow ∈ gw_t := gw_in (in_3 _ (List.mem_of_getElem? (i := 110) (by decide +kernel))) (by decide +kernel)
theorem wl_X9_83 : Cond.methodLink RX9 83 yX9_findEntry ∈ gw_t := gw_in (in_3 _ (List.mem_of_getElem? (i := 111) (by decide +kernel))) (by decide +kernel)
theorem wl_X9_87 : Cond.methodLink RX9 87 yX1_hasAt ∈ gw_t := gw_in (in_3 _ (List.mem_of_getElem? (i := 122) (by decide +kernel))) (by decide +kernel)
theorem wl_X9_98 : Cond.methodLink RX9 98 yJx4a65c_size_8abf5 ∈ gw_t := gw_in (in_3 _ (List.mem_of_getElem? (i := 115) (by decide +kernel))) (by decide +kernel)
theorem wln_X5_52 : Cond.methodLinkNest RX5 52 yX1_init "LetterTree" ∈ ah_ns := List.mem_filter.mpr ⟨in_2 _ (List.mem_of_getElem? (i := 176) (by decide +kernel)), rfl⟩
theorem wln_X8_92 : Cond.methodLinkNest RX8 92 yX1_init "LetterTree" ∈ ah_ns := List.mem_filter.mpr ⟨in_3 _ (List.mem_of_getElem? (i := 68) (by decide +kernel)), rfl⟩
theorem wln_X9_111 : Cond.methodLinkNest RX9 111 yX8_pagesIn "LetterTree" ∈ ah_ns := List.mem_filter.mpr ⟨in_3 _ (List.mem_of_getElem? (i := 160) (by decide +kernel)), rfl⟩
theorem wln_X9_118 : Cond.methodLinkNest RX9 118 yX8_lettersIn "LetterTree" ∈ ah_ns := List.mem_filter.mpr ⟨in_3 _ (List.mem_of_getElem? (i := 177) (by decide +kernel)), rfl⟩
theorem wln_X9_121 : Cond.methodLinkNest RX9 121 yX8_pageAt "LetterTree" ∈ ah_ns := List.mem_filter.mpr ⟨in_3 _ (List.mem_of_getElem? (i := 182) (by decide +kernel)), rfl⟩
theorem wln_X9_169 : Cond.methodLinkNest RX9 169 yX8_changedIn "LetterTree" ∈ ah_ns := List.mem_filter.mpr ⟨in_3 _ (List.mem_of_getElem? (i := 214) (by decide +kernel)), rfl⟩
theorem wln_X9_18 : Cond.methodLinkNest RX9 18 yX0_init "LetterTree" ∈ ah_ns := List.mem_filter.mpr ⟨in_1 _ (List.mem_of_getElem? (i := 47) (by decide +kernel)), rfl⟩
theorem wln_X9_194 : Cond.methodLinkNest RX9 194 yX8_rowIn "LetterTree" ∈ ah_ns := List.mem_filter.mpr ⟨in_4 _ (List.mem_of_getElem? (i := 88) (by decide +kernel)), rfl⟩
theorem wln_X9_249 : Cond.methodLinkNest RX9 249 yX8_give "LetterTree" ∈ ah_ns := List.mem_filter.mpr ⟨in_2 _ (List.mem_of_getElem? (i := 140) (by decide +kernel)), rfl⟩
theorem wln_X9_25 : Cond.methodLinkNest RX9 25 yX8_init "LetterTree" ∈ ah_ns := List.mem_filter.mpr ⟨in_1 _ (List.mem_of_getElem? (i := 79) (by decide +kernel)), rfl⟩
theorem wln_X9_253 : Cond.methodLinkNest RX9 253 yX8_partRoot "LetterTree" ∈ ah_ns := List.mem_filter.mpr ⟨in_3 _ (List.mem_of_getElem? (i := 61) (by decide +kernel)), rfl⟩
theorem wln_X9_271 : Cond.methodLinkNest RX9 271 yX0_writePages "LetterTree" ∈ ah_ns := List.mem_filter.mpr ⟨in_4 _ (List.mem_of_getElem? (i := 4) (by decide +kernel)), rfl⟩
theorem wln_X9_294 : Cond.methodLinkNest RX9 294 yX8_gather "LetterTree" ∈ ah_ns := List.mem_filter.mpr ⟨in_4 _ (List.mem_of_getElem? (i := 128) (by decide +kernel)), rfl⟩
theorem wln_X9_32 : Cond.methodLinkNest RX9 32 yX1_init "LetterTree" ∈ ah_ns := List.mem_filter.mpr ⟨in_1 _ (List.mem_of_getElem? (i := 90) (by decide +kernel)), rfl⟩
theorem wln_X9_9 : Cond.methodLinkNest RX9 9 yX7_init "LetterTree" ∈ ah_ns := List.mem_filter.mpr ⟨in_1 _ (List.mem_of_getElem? (i := 31) (by decide +kernel)), rfl⟩
